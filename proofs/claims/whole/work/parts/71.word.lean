/-! texts: the words of the program -/
def wl (i : Nat) : Nat := (STB.getD i []).length
def wc (i : Nat) (j : Nat) : Int := ((STB.getD i []).getD j 0).toInt
def wN (i : Nat) : Int := wtF (wc i) (wl i)
theorem STB_ok : (List.range 12).all (fun i => (List.range (wl i)).all (fun j => decide ((((STB.getD i []).getD j 0 &&& iI 255).toUInt32 % 65536).toInt32 = iI (wc i j)) && decide (narrow .char (.int (iI (wc i j))) = .int (iI (wc i j))) && decide (97 ≤ wc i j ∧ wc i j ≤ 122)) && decide (Int32.ofNat (wl i) = iI (wl i)) && decide (Int32.ofNat (wl i) >>> ((0 : Int32) &&& 31) = iI (wl i)) && decide (wl i ≤ 6 ∧ wN i ≤ 100000000000)) = true := by decide +kernel
theorem wd_ok {i : Nat} (hi : i < 12) : Int32.ofNat (wl i) = iI (wl i) ∧ Int32.ofNat (wl i) >>> ((0 : Int32) &&& 31) = iI (wl i) ∧ wl i ≤ 6 ∧ wN i ≤ 100000000000 := by
  have h := List.all_eq_true.mp STB_ok i (List.mem_range.mpr hi)
  simp only [Bool.and_eq_true, decide_eq_true_eq] at h
  exact ⟨h.1.1.2, h.1.2, h.2.1, h.2.2⟩
theorem wd_c {i j : Nat} (hi : i < 12) (hj : j < wl i) : (((STB.getD i []).getD j 0 &&& iI 255).toUInt32 % 65536).toInt32 = iI (wc i j) ∧ zb .char (iI (wc i j)) ∧ 97 ≤ wc i j ∧ wc i j ≤ 122 := by
  have h := List.all_eq_true.mp STB_ok i (List.mem_range.mpr hi)
  simp only [Bool.and_eq_true, decide_eq_true_eq] at h
  have h2 := List.all_eq_true.mp h.1.1.1 j (List.mem_range.mpr hj)
  simp only [Bool.and_eq_true, decide_eq_true_eq] at h2
  exact ⟨h2.1.1, h2.1.2, h2.2.1, h2.2.2⟩
section
variable {X : pXX} {d i : Nat} {x m : Nat → Int → Int} {K : Option Value → List pME → Prop} {mem : List pME} {KV : Value → Prop} {KI : Int32 → Prop}
theorem MEM_no {a : Nat} (h : 60 ≤ a) : (MEM x m)[a]? = none := List.getElem?_eq_none (by rw [MEM_len]; exact h)
theorem gS0 (h : i < 12) : gf (MEM x m) (1000 + i) 100 0 KV = KV (.ref (2000 + i)) := by
  unfold gf
  rw [MEM_no (by omega)]
  have e : 1000 + i + 1000 = 2000 + i := by omega
  show ((100 = 100 ∧ 1000 ≤ 1000 + i ∧ 1000 + i < 1012) ∧ KV (.ref (1000 + i + 1000))) = _
  rw [e]
  exact propext ⟨fun q => q.2, fun q => ⟨⟨rfl, by omega, by omega⟩, q⟩⟩
theorem gS1 (h : i < 12) : gf (MEM x m) (1000 + i) 100 1 KV = KV (.int 0) := by
  unfold gf
  rw [MEM_no (by omega)]
  show ((100 = 100 ∧ 1000 ≤ 1000 + i ∧ 1000 + i < 1012) ∧ KV (.int 0)) = _
  exact propext ⟨fun q => q.2, fun q => ⟨⟨rfl, by omega, by omega⟩, q⟩⟩
theorem lnS (h : i < 12) : ln X (MEM x m) (2000 + i) KI = KI (Int32.ofNat (wl i)) := by
  unfold ln
  rw [MEM_no (by omega)]
  have e : 2000 + i - 2000 = i := by omega
  show (if 2000 + i = 999 then KI (Int32.ofNat X.1) else (2000 ≤ 2000 + i ∧ 2000 + i < 2012) ∧ KI (Int32.ofNat (STB.getD (2000 + i - 2000) []).length)) = _
  rw [if_neg (by omega), e]
  exact propext ⟨fun q => q.2, fun q => ⟨⟨by omega, by omega⟩, q⟩⟩
theorem rbS {j : Nat} (h : i < 12) (hj : j < wl i) : rb (MEM x m) (2000 + i) (iI j) KI = KI ((STB.getD i []).getD j 0) := by
  have h6 := (wd_ok h).2.2.1
  unfold rb
  rw [MEM_no (by omega)]
  have e : 2000 + i - 2000 = i := by omega
  have ec : (iI j).toNatClampNeg = j := by rw [iI_clamp (by omega) (by omega)]; rfl
  have en : ¬ iI j < 0 := by rw [iI_lt0 (by omega) (by omega)]; omega
  show ((2000 ≤ 2000 + i ∧ 2000 + i < 2012) ∧ ¬ (iI j < 0 ∨ (STB.getD (2000 + i - 2000) []).length ≤ (iI j).toNatClampNeg) ∧ KI ((STB.getD (2000 + i - 2000) []).getD (iI j).toNatClampNeg 0)) = _
  rw [e, ec]
  have hl : ¬ (STB.getD i []).length ≤ j := by show ¬ wl i ≤ j; omega
  exact propext ⟨fun q => q.2.2, fun q => ⟨⟨by omega, by omega⟩, fun z => z.elim en hl, q⟩⟩
theorem prS (h : i < 12) : prcv (MEM x m) 8 (1000 + i) = True := eq_true (by
  unfold prcv
  rw [MEM_no (by omega)]
  exact ⟨rfl, by omega, by omega⟩)
theorem r104_5n {L : List (Option Value)} {y0 y1 : Int32} {Q : Option Value → List pME → Prop} : pR X d 104 0 Q (5, L, .null :: .int y1 :: .int y0 :: [], mem, 0) = Cw X d 105 [.int y0, .int y1, .null] mem (fun r mem => pR X d 104 0 Q (8, L, r.toList ++ [], mem, 0)) := q_stat (ix := 1059) (kd := 1) (y2 := 105) (as := [.null, .int y1, .int y0]) (by decide +kernel) (by decide +kernel) (by decide) rfl rfl rfl (Nat.le_of_ble_eq_true rfl) (by decide)
theorem n105n {i0 i1 : Int32} : Cw X (d + 1) 105 [.int i0, .int i1, .null] mem K = pR X d 105 0 K (0, [some (.int i0), some (.int i1), some .null], [], mem, 0) := q_ent (by decide) (Nat.le_of_ble_eq_true rfl) rfl rfl
theorem n105r {i0 i1 : Int32} {b : Nat} : Cw X (d + 1) 105 [.int i0, .int i1, .ref b] mem K = pR X d 105 0 K (0, [some (.int i0), some (.int i1), some (.ref b)], [], mem, 0) := q_ent (by decide) (Nat.le_of_ble_eq_true rfl) rfl rfl
theorem zb_b0 : zb .byte (0 : Int32) = True := eq_true (by unfold zb; decide +kernel)
theorem one_n0 : ¬ (1 : Int32) = 0 := by decide
theorem c_chk {j n : Int} (hX : X.2.2 = .null ∨ ∃ b, X.2.2 = .ref b) (h1 : 0 ≤ j) (h2 : j < n) (h3 : n < 2147483648) : Cw X (d + 2) 104 [.int (iI j), .int (iI n)] mem K = K none mem := by
  rcases hX with e | ⟨b, e⟩
  · simp (disch := omega) only [r104_0, r104_1, r104_2, r104_8, r104_9, n104, r104_5n, n105n, r105_0, r105_1, r105_4, r105_5, r105_6, r105_10, r105_11, r105_16, r105_17, br_y, br_n, ↓blt_y, ↓blt_n, ↓ble_y, ↓ble_n, ↓beq_y, ↓beq_n, ↓bne_y, ↓bne_n, ↓blt0_y, ↓blt0_n, ↓ble0_y, ↓ble0_n, ↓bge0_y, ↓bge0_n, ↓bgt0_y, ↓bgt0_n, ↓beq0_y, ↓beq0_n, ↓bne0_y, ↓bne0_n, ↓bt_y, ↓bt_n, ↓bu_y, ↓bu_n, ↓sw_n, ↓sw_y, ↓sd_n, ↓sd_y, ↓bl_y, ↓bl_n, ↓bg_y, ↓bg_n, ↓blle_y, ↓blle_n, zb_0, zb_1, zb_tf, ↓nzp, if_pos, if_neg, iI_add, iI_sub, iI_mul, iI_neg, iI_lt, iI_le, iI_eq, iI_lt0, iI_le0, iI_ge0, iI_gt0, iI_eq0, iI_div, iI_rem, iI_toInt, iI_l, lI_i, md_eq, mu_self, mu_mu, mu_ne, true_or, or_true, or_false, false_or, true_and, and_true, true_implies, false_implies, implies_true, forall_const, not_true_eq_false, not_false_eq_true, Option.toList_some, Option.toList_none, List.cons_append, List.nil_append, cl1, ite_true, ite_false, if_true, if_false, e]
  · simp (disch := omega) only [r104_0, r104_1, r104_2, r104_5, r104_8, r104_9, n104, n105r, r105_0, r105_1, r105_4, r105_5, r105_6, r105_10, r105_11, r105_16, r105_17, br_y, br_n, ↓blt_y, ↓blt_n, ↓ble_y, ↓ble_n, ↓beq_y, ↓beq_n, ↓bne_y, ↓bne_n, ↓blt0_y, ↓blt0_n, ↓ble0_y, ↓ble0_n, ↓bge0_y, ↓bge0_n, ↓bgt0_y, ↓bgt0_n, ↓beq0_y, ↓beq0_n, ↓bne0_y, ↓bne0_n, ↓bt_y, ↓bt_n, ↓bu_y, ↓bu_n, ↓sw_n, ↓sw_y, ↓sd_n, ↓sd_y, ↓bl_y, ↓bl_n, ↓bg_y, ↓bg_n, ↓blle_y, ↓blle_n, zb_0, zb_1, zb_tf, ↓nzp, if_pos, if_neg, iI_add, iI_sub, iI_mul, iI_neg, iI_lt, iI_le, iI_eq, iI_lt0, iI_le0, iI_ge0, iI_gt0, iI_eq0, iI_div, iI_rem, iI_toInt, iI_l, lI_i, md_eq, mu_self, mu_mu, mu_ne, true_or, or_true, or_false, false_or, true_and, and_true, true_implies, false_implies, implies_true, forall_const, not_true_eq_false, not_false_eq_true, Option.toList_some, Option.toList_none, List.cons_append, List.nil_append, cl1, ite_true, ite_false, if_true, if_false, e]
theorem c_coder (h : i < 12) : Cw X (d + 1) 100 [.ref (1000 + i)] (MEM x m) K = K (some (.int 0)) (MEM x m) := by
  have o1 := one_n0
  simp (disch := first | assumption | omega) only [r100_0, r100_3, r100_6, r100_7, r100_10, r100_13, r100_14, n100, br_n, mu_self, mu_mu, mu_ne, true_or, or_true, or_false, false_or, true_and, and_true, true_implies, false_implies, implies_true, forall_const, not_true_eq_false, not_false_eq_true, Option.toList_some, Option.toList_none, List.cons_append, List.nil_append, cl1, ite_true, ite_false, if_true, if_false, gS1, zb_b0]
theorem c_latin (h : i < 12) : Cw X (d + 1) 102 [.ref (1000 + i)] (MEM x m) K = K (some (.int (iI 1))) (MEM x m) := by
  have o1 := one_n0
  have o2 : ¬ ¬ (0 : Int32) = 0 := by decide
  simp (disch := first | assumption | omega) only [r102_0, r102_3, r102_6, r102_7, r102_10, r102_13, r102_14, r102_17, r102_18, n102, br_n, mu_self, mu_mu, mu_ne, true_or, or_true, or_false, false_or, true_and, and_true, true_implies, false_implies, implies_true, forall_const, not_true_eq_false, not_false_eq_true, Option.toList_some, Option.toList_none, List.cons_append, List.nil_append, cl1, ite_true, ite_false, if_true, if_false, gS1, zb_1]
theorem c_len (h : i < 12) : Cw X (d + 2) 99 [.ref (1000 + i)] (MEM x m) K = K (some (.int (iI (wl i)))) (MEM x m) := by
  have e := (wd_ok h).2.1
  simp (disch := first | assumption | omega) only [r99_0, r99_1, r99_4, r99_5, r99_6, r99_9, r99_10, n99, mu_self, mu_mu, mu_ne, true_or, or_true, or_false, false_or, true_and, and_true, true_implies, false_implies, implies_true, forall_const, not_true_eq_false, not_false_eq_true, Option.toList_some, Option.toList_none, List.cons_append, List.nil_append, cl1, ite_true, ite_false, if_true, if_false, gS0, lnS, prS, c_coder, e]
theorem c_chr {j : Nat} (hX : X.2.2 = .null ∨ ∃ b, X.2.2 = .ref b) (h : i < 12) (hj : j < wl i) : Cw X (d + 4) 101 [.ref (1000 + i), .int (iI j)] (MEM x m) K = K (some (.int (iI (wc i j)))) (MEM x m) := by
  have e := (wd_ok h).1
  have h6 := (wd_ok h).2.2.1
  have q := wd_c h hj
  have qz : zb .char (iI (wc i j)) = True := eq_true q.2.1
  have o1 : ¬ iI 1 = 0 := by decide +kernel
  have hk : ∀ K' : Option Value → List pME → Prop, Cw X (d + 2) 104 [.int (iI (j : Int)), .int (iI (wl i : Int))] (MEM x m) K' = K' none (MEM x m) := fun K' => c_chk hX (by omega) (by omega) (by omega)
  have h103 : ∀ K' : Option Value → List pME → Prop, Cw X (d + 3) 103 [.ref (2000 + i), .int (iI (j : Int))] (MEM x m) K' = K' (some (.int (iI (wc i j)))) (MEM x m) := fun K' => by
    simp (disch := first | assumption | omega) only [r103_0, r103_1, r103_2, r103_3, r103_6, r103_7, r103_8, r103_9, r103_12, r103_13, r103_14, n103, mu_self, mu_mu, mu_ne, true_or, or_true, or_false, false_or, true_and, and_true, true_implies, false_implies, implies_true, forall_const, not_true_eq_false, not_false_eq_true, Option.toList_some, Option.toList_none, List.cons_append, List.nil_append, cl1, ite_true, ite_false, if_true, if_false, lnS, e, hk, rbS, q.1, qz]
  simp (disch := first | assumption | omega) only [r101_0, r101_1, r101_4, r101_7, r101_8, r101_11, r101_12, r101_15, r101_16, r101_17, r101_20, n101, br_n, mu_self, mu_mu, mu_ne, true_or, or_true, or_false, false_or, true_and, and_true, true_implies, false_implies, implies_true, forall_const, not_true_eq_false, not_false_eq_true, Option.toList_some, Option.toList_none, List.cons_append, List.nil_append, cl1, ite_true, ite_false, if_true, if_false, gS0, prS, c_latin, h103, qz]
/-- the class knows a word by its letters, as the reference does by its number -/
theorem c_isWord (hX : X.2.2 = .null ∨ ∃ b, X.2.2 = .ref b) (hi : i < 12) (ht : 0 ≤ x 7 3) (ht2 : x 7 3 ≤ 4) (h0 : 0 ≤ x 7 4) (h1 : x 7 4 ≤ x 7 2) (h2 : x 7 2 ≤ x 7 1) (hL : x 7 1 ≤ 120) (hw : x 7 3 = 1 → ∀ j, x 7 4 ≤ j → j < x 7 2 → 97 ≤ x 6 j ∧ x 6 j ≤ 122) : Cw X (d + 5) 98 [.ref 37, .ref (1000 + i)] (MEM x m) K = K (some (.int (iI (if x 7 3 = 1 ∧ wvF (x 6) (x 7 4) (x 7 2 - x 7 4).toNat = wN i then 1 else 0)))) (MEM x m) := by
  have h6 := (wd_ok hi).2.2.1
  by_cases c1 : x 7 3 = 1
  · have hl := hw c1
    have hq := wv_eq (c := x 6) (s := x 7 4) (w := wc i) (wl i) (x 7 2 - x 7 4).toNat (fun j hj => hl (x 7 4 + j) (by omega) (by omega)) (fun j hj => (wd_c hi hj).2.2) (wd_ok hi).2.2.2
    by_cases c2 : x 7 2 - x 7 4 = wl i
    · have lc : ∀ n : Nat, n ≤ wl i → (∀ j : Nat, j < n → x 6 (x 7 4 + j) = wc i j) → Cw X (d + 5) 98 [.ref 37, .ref (1000 + i)] (MEM x m) K = pR X (d + 4) 98 0 K (28, [some (.ref 37), some (.ref (1000 + i)), some (.int (iI n))], [], MEM x m, 0) := by
        intro n hn hm
        have hlp := lp_up (f := fun k => pR X (d + 4) 98 0 K (28, [some (.ref 37), some (.ref (1000 + i)), some (.int (iI (k : Nat)))], [], MEM x m, 0)) (n := n) (fun k hk => by
          have e := hm k hk
          have q := (wd_c hi (show k < wl i by omega)).2.2
          have hch : ∀ K' : Option Value → List pME → Prop, Cw X (d + 4) 101 [.ref (1000 + i), .int (iI (k : Int))] (MEM x m) K' = K' (some (.int (iI (wc i k)))) (MEM x m) := fun K' => c_chr hX hi (by omega)
          rw [r98_28]
          simp (disch := first | omega | assumption | (simp (disch := omega) only [mu_self, mu_ne, iu_self, iu_ne]; done) | (simp (disch := omega) only [mu_self, mu_ne, iu_self, iu_ne]; omega) | (simp (disch := omega) only [mu_self, mu_ne, iu_self, iu_ne]; assumption)) only [r98_0, r98_1, r98_4, r98_5, r98_8, r98_9, r98_12, r98_13, r98_16, r98_17, r98_20, r98_21, r98_24, r98_25, r98_26, r98_27, r98_29, r98_30, r98_33, r98_36, r98_37, r98_40, r98_41, r98_44, r98_45, r98_46, r98_47, r98_48, r98_49, r98_52, r98_55, r98_56, r98_57, r98_60, r98_63, r98_64, g49_0, g49_1, g49_2, g49_3, g49_4, g49_5, g49_6, g49_7, g49_8, g49_9, g49_10, g49_11, g49_12, g49_13, g49_14, g49_15, g49_16, g49_17, p49_4_0, p49_4_1, p49_7, p49_8, p49_9, p49_10, p49_11, p49_12, p49_13, ri50, wi50, ri51, wi51, ri52, wi52, ri53, wi53, ri54, wi54, ri56, wi56, ri57, wi57, ri58, wi58, ri59, wi59, ri38, wi38, ri40, wi40, ri42, wi42, ri44, wi44, ri46, wi46, ri48, wi48, rb55, wb55, g0_0, g0_1, g0_2, g0_3, g0_4, g0_5, g0_6, p0_3_0, p0_3_1, g37_0, g37_1, p37_1, g37_2, p37_2, g37_3, p37_3, g37_4, p37_4, g37_5, p37_5, g41_0, p41_0, g41_1, p41_1, g41_2, g43_0, p43_0, g43_1, p43_1, g43_2, g45_0, p45_0, g45_1, p45_1, g45_2, g47_0, p47_0, g47_1, p47_1, g47_2, g1_0, g1_1, g1_2, g1_3, g1_4, g1_5, g1_6, g1_7, g13_0, g13_1, g13_2, g13_3, g13_4, g13_5, g13_6, g13_7, g25_0, g25_1, g25_2, g25_3, g25_4, g25_5, g25_6, g25_7, rc0, rc49, rc37, rc1, rc13, rc25, rc41, rc43, rc45, rc47, br_y, br_n, ↓blt_y, ↓blt_n, ↓ble_y, ↓ble_n, ↓beq_y, ↓beq_n, ↓bne_y, ↓bne_n, ↓blt0_y, ↓blt0_n, ↓ble0_y, ↓ble0_n, ↓bge0_y, ↓bge0_n, ↓bgt0_y, ↓bgt0_n, ↓beq0_y, ↓beq0_n, ↓bne0_y, ↓bne0_n, ↓bt_y, ↓bt_n, ↓bu_y, ↓bu_n, ↓sw_n, ↓sw_y, ↓sd_n, ↓sd_y, ↓bl_y, ↓bl_n, ↓bg_y, ↓bg_n, ↓blle_y, ↓blle_n, zb_0, zb_1, zb_tf, ↓nzp, if_pos, if_neg, iI_add, iI_sub, iI_mul, iI_neg, iI_lt, iI_le, iI_eq, iI_lt0, iI_le0, iI_ge0, iI_gt0, iI_eq0, iI_div, iI_rem, iI_toInt, iI_l, lI_i, md_eq, mu_self, mu_mu, mu_ne, true_or, or_true, or_false, false_or, true_and, and_true, true_implies, false_implies, implies_true, forall_const, not_true_eq_false, not_false_eq_true, Option.toList_some, Option.toList_none, List.cons_append, List.nil_append, cl1, ite_true, ite_false, if_true, if_false, prS, c_len, hch, e] <;> rfl)
        rw [← hlp, z_0]
        simp (disch := first | omega | assumption | (simp (disch := omega) only [mu_self, mu_ne, iu_self, iu_ne]; done) | (simp (disch := omega) only [mu_self, mu_ne, iu_self, iu_ne]; omega) | (simp (disch := omega) only [mu_self, mu_ne, iu_self, iu_ne]; assumption)) only [r98_0, r98_1, r98_4, r98_5, r98_8, r98_9, r98_12, r98_13, r98_16, r98_17, r98_20, r98_21, r98_24, r98_25, r98_26, r98_27, r98_29, r98_30, r98_33, r98_36, r98_37, r98_40, r98_41, r98_44, r98_45, r98_46, r98_47, r98_48, r98_49, r98_52, r98_55, r98_56, r98_57, r98_60, r98_63, r98_64, n98, g49_0, g49_1, g49_2, g49_3, g49_4, g49_5, g49_6, g49_7, g49_8, g49_9, g49_10, g49_11, g49_12, g49_13, g49_14, g49_15, g49_16, g49_17, p49_4_0, p49_4_1, p49_7, p49_8, p49_9, p49_10, p49_11, p49_12, p49_13, ri50, wi50, ri51, wi51, ri52, wi52, ri53, wi53, ri54, wi54, ri56, wi56, ri57, wi57, ri58, wi58, ri59, wi59, ri38, wi38, ri40, wi40, ri42, wi42, ri44, wi44, ri46, wi46, ri48, wi48, rb55, wb55, g0_0, g0_1, g0_2, g0_3, g0_4, g0_5, g0_6, p0_3_0, p0_3_1, g37_0, g37_1, p37_1, g37_2, p37_2, g37_3, p37_3, g37_4, p37_4, g37_5, p37_5, g41_0, p41_0, g41_1, p41_1, g41_2, g43_0, p43_0, g43_1, p43_1, g43_2, g45_0, p45_0, g45_1, p45_1, g45_2, g47_0, p47_0, g47_1, p47_1, g47_2, g1_0, g1_1, g1_2, g1_3, g1_4, g1_5, g1_6, g1_7, g13_0, g13_1, g13_2, g13_3, g13_4, g13_5, g13_6, g13_7, g25_0, g25_1, g25_2, g25_3, g25_4, g25_5, g25_6, g25_7, rc0, rc49, rc37, rc1, rc13, rc25, rc41, rc43, rc45, rc47, br_y, br_n, ↓blt_y, ↓blt_n, ↓ble_y, ↓ble_n, ↓beq_y, ↓beq_n, ↓bne_y, ↓bne_n, ↓blt0_y, ↓blt0_n, ↓ble0_y, ↓ble0_n, ↓bge0_y, ↓bge0_n, ↓bgt0_y, ↓bgt0_n, ↓beq0_y, ↓beq0_n, ↓bne0_y, ↓bne0_n, ↓bt_y, ↓bt_n, ↓bu_y, ↓bu_n, ↓sw_n, ↓sw_y, ↓sd_n, ↓sd_y, ↓bl_y, ↓bl_n, ↓bg_y, ↓bg_n, ↓blle_y, ↓blle_n, zb_0, zb_1, zb_tf, ↓nzp, if_pos, if_neg, iI_add, iI_sub, iI_mul, iI_neg, iI_lt, iI_le, iI_eq, iI_lt0, iI_le0, iI_ge0, iI_gt0, iI_eq0, iI_div, iI_rem, iI_toInt, iI_l, lI_i, md_eq, mu_self, mu_mu, mu_ne, true_or, or_true, or_false, false_or, true_and, and_true, true_implies, false_implies, implies_true, forall_const, not_true_eq_false, not_false_eq_true, Option.toList_some, Option.toList_none, List.cons_append, List.nil_append, cl1, ite_true, ite_false, if_true, if_false, prS, c_len]
      rcases srch (fun j => j < wl i ∧ ¬ x 6 (x 7 4 + (j : Int)) = wc i j) 6 with ⟨n, n1, n2, n3⟩ | n3
      · have hne : ¬ wvF (x 6) (x 7 4) (x 7 2 - x 7 4).toNat = wN i := fun z => n2.2 ((hq.mp z).2 n n2.1)
        have q := hl (x 7 4 + n) (by omega) (by omega)
        have q2 := (wd_c hi n2.1).2.2
        have hch : ∀ K' : Option Value → List pME → Prop, Cw X (d + 4) 101 [.ref (1000 + i), .int (iI (n : Int))] (MEM x m) K' = K' (some (.int (iI (wc i n)))) (MEM x m) := fun K' => c_chr hX hi n2.1
        have n22 := n2.2
        rw [if_neg (fun z => hne z.2), lc n (by omega) (fun j hj => Classical.byContradiction fun z => n3 j hj ⟨by omega, z⟩), r98_28]
        simp (disch := first | omega | assumption | (simp (disch := omega) only [mu_self, mu_ne, iu_self, iu_ne]; done) | (simp (disch := omega) only [mu_self, mu_ne, iu_self, iu_ne]; omega) | (simp (disch := omega) only [mu_self, mu_ne, iu_self, iu_ne]; assumption)) only [r98_0, r98_1, r98_4, r98_5, r98_8, r98_9, r98_12, r98_13, r98_16, r98_17, r98_20, r98_21, r98_24, r98_25, r98_26, r98_27, r98_29, r98_30, r98_33, r98_36, r98_37, r98_40, r98_41, r98_44, r98_45, r98_46, r98_47, r98_48, r98_49, r98_52, r98_55, r98_56, r98_57, r98_60, r98_63, r98_64, g49_0, g49_1, g49_2, g49_3, g49_4, g49_5, g49_6, g49_7, g49_8, g49_9, g49_10, g49_11, g49_12, g49_13, g49_14, g49_15, g49_16, g49_17, p49_4_0, p49_4_1, p49_7, p49_8, p49_9, p49_10, p49_11, p49_12, p49_13, ri50, wi50, ri51, wi51, ri52, wi52, ri53, wi53, ri54, wi54, ri56, wi56, ri57, wi57, ri58, wi58, ri59, wi59, ri38, wi38, ri40, wi40, ri42, wi42, ri44, wi44, ri46, wi46, ri48, wi48, rb55, wb55, g0_0, g0_1, g0_2, g0_3, g0_4, g0_5, g0_6, p0_3_0, p0_3_1, g37_0, g37_1, p37_1, g37_2, p37_2, g37_3, p37_3, g37_4, p37_4, g37_5, p37_5, g41_0, p41_0, g41_1, p41_1, g41_2, g43_0, p43_0, g43_1, p43_1, g43_2, g45_0, p45_0, g45_1, p45_1, g45_2, g47_0, p47_0, g47_1, p47_1, g47_2, g1_0, g1_1, g1_2, g1_3, g1_4, g1_5, g1_6, g1_7, g13_0, g13_1, g13_2, g13_3, g13_4, g13_5, g13_6, g13_7, g25_0, g25_1, g25_2, g25_3, g25_4, g25_5, g25_6, g25_7, rc0, rc49, rc37, rc1, rc13, rc25, rc41, rc43, rc45, rc47, br_y, br_n, ↓blt_y, ↓blt_n, ↓ble_y, ↓ble_n, ↓beq_y, ↓beq_n, ↓bne_y, ↓bne_n, ↓blt0_y, ↓blt0_n, ↓ble0_y, ↓ble0_n, ↓bge0_y, ↓bge0_n, ↓bgt0_y, ↓bgt0_n, ↓beq0_y, ↓beq0_n, ↓bne0_y, ↓bne0_n, ↓bt_y, ↓bt_n, ↓bu_y, ↓bu_n, ↓sw_n, ↓sw_y, ↓sd_n, ↓sd_y, ↓bl_y, ↓bl_n, ↓bg_y, ↓bg_n, ↓blle_y, ↓blle_n, zb_0, zb_1, zb_tf, ↓nzp, if_pos, if_neg, iI_add, iI_sub, iI_mul, iI_neg, iI_lt, iI_le, iI_eq, iI_lt0, iI_le0, iI_ge0, iI_gt0, iI_eq0, iI_div, iI_rem, iI_toInt, iI_l, lI_i, md_eq, mu_self, mu_mu, mu_ne, true_or, or_true, or_false, false_or, true_and, and_true, true_implies, false_implies, implies_true, forall_const, not_true_eq_false, not_false_eq_true, Option.toList_some, Option.toList_none, List.cons_append, List.nil_append, cl1, ite_true, ite_false, if_true, if_false, prS, c_len, hch]
      · have hall : ∀ j : Nat, j < wl i → x 6 (x 7 4 + j) = wc i j := fun j hj => Classical.byContradiction fun z => n3 j (by omega) ⟨hj, z⟩
        have heq : wvF (x 6) (x 7 4) (x 7 2 - x 7 4).toNat = wN i := hq.mpr ⟨by omega, hall⟩
        rw [if_pos ⟨c1, heq⟩, lc (wl i) (Nat.le_refl _) hall, r98_28]
        simp (disch := first | omega | assumption | (simp (disch := omega) only [mu_self, mu_ne, iu_self, iu_ne]; done) | (simp (disch := omega) only [mu_self, mu_ne, iu_self, iu_ne]; omega) | (simp (disch := omega) only [mu_self, mu_ne, iu_self, iu_ne]; assumption)) only [r98_0, r98_1, r98_4, r98_5, r98_8, r98_9, r98_12, r98_13, r98_16, r98_17, r98_20, r98_21, r98_24, r98_25, r98_26, r98_27, r98_29, r98_30, r98_33, r98_36, r98_37, r98_40, r98_41, r98_44, r98_45, r98_46, r98_47, r98_48, r98_49, r98_52, r98_55, r98_56, r98_57, r98_60, r98_63, r98_64, g49_0, g49_1, g49_2, g49_3, g49_4, g49_5, g49_6, g49_7, g49_8, g49_9, g49_10, g49_11, g49_12, g49_13, g49_14, g49_15, g49_16, g49_17, p49_4_0, p49_4_1, p49_7, p49_8, p49_9, p49_10, p49_11, p49_12, p49_13, ri50, wi50, ri51, wi51, ri52, wi52, ri53, wi53, ri54, wi54, ri56, wi56, ri57, wi57, ri58, wi58, ri59, wi59, ri38, wi38, ri40, wi40, ri42, wi42, ri44, wi44, ri46, wi46, ri48, wi48, rb55, wb55, g0_0, g0_1, g0_2, g0_3, g0_4, g0_5, g0_6, p0_3_0, p0_3_1, g37_0, g37_1, p37_1, g37_2, p37_2, g37_3, p37_3, g37_4, p37_4, g37_5, p37_5, g41_0, p41_0, g41_1, p41_1, g41_2, g43_0, p43_0, g43_1, p43_1, g43_2, g45_0, p45_0, g45_1, p45_1, g45_2, g47_0, p47_0, g47_1, p47_1, g47_2, g1_0, g1_1, g1_2, g1_3, g1_4, g1_5, g1_6, g1_7, g13_0, g13_1, g13_2, g13_3, g13_4, g13_5, g13_6, g13_7, g25_0, g25_1, g25_2, g25_3, g25_4, g25_5, g25_6, g25_7, rc0, rc49, rc37, rc1, rc13, rc25, rc41, rc43, rc45, rc47, br_y, br_n, ↓blt_y, ↓blt_n, ↓ble_y, ↓ble_n, ↓beq_y, ↓beq_n, ↓bne_y, ↓bne_n, ↓blt0_y, ↓blt0_n, ↓ble0_y, ↓ble0_n, ↓bge0_y, ↓bge0_n, ↓bgt0_y, ↓bgt0_n, ↓beq0_y, ↓beq0_n, ↓bne0_y, ↓bne0_n, ↓bt_y, ↓bt_n, ↓bu_y, ↓bu_n, ↓sw_n, ↓sw_y, ↓sd_n, ↓sd_y, ↓bl_y, ↓bl_n, ↓bg_y, ↓bg_n, ↓blle_y, ↓blle_n, zb_0, zb_1, zb_tf, ↓nzp, if_pos, if_neg, iI_add, iI_sub, iI_mul, iI_neg, iI_lt, iI_le, iI_eq, iI_lt0, iI_le0, iI_ge0, iI_gt0, iI_eq0, iI_div, iI_rem, iI_toInt, iI_l, lI_i, md_eq, mu_self, mu_mu, mu_ne, true_or, or_true, or_false, false_or, true_and, and_true, true_implies, false_implies, implies_true, forall_const, not_true_eq_false, not_false_eq_true, Option.toList_some, Option.toList_none, List.cons_append, List.nil_append, cl1, ite_true, ite_false, if_true, if_false, prS, c_len]
    · have hne : ¬ wvF (x 6) (x 7 4) (x 7 2 - x 7 4).toNat = wN i := fun z => c2 (by have := (hq.mp z).1; omega)
      rw [if_neg (fun z => hne z.2)]
      simp (disch := first | omega | assumption | (simp (disch := omega) only [mu_self, mu_ne, iu_self, iu_ne]; done) | (simp (disch := omega) only [mu_self, mu_ne, iu_self, iu_ne]; omega) | (simp (disch := omega) only [mu_self, mu_ne, iu_self, iu_ne]; assumption)) only [r98_0, r98_1, r98_4, r98_5, r98_8, r98_9, r98_12, r98_13, r98_16, r98_17, r98_20, r98_21, r98_24, r98_25, r98_26, r98_27, r98_29, r98_30, r98_33, r98_36, r98_37, r98_40, r98_41, r98_44, r98_45, r98_46, r98_47, r98_48, r98_49, r98_52, r98_55, r98_56, r98_57, r98_60, r98_63, r98_64, n98, g49_0, g49_1, g49_2, g49_3, g49_4, g49_5, g49_6, g49_7, g49_8, g49_9, g49_10, g49_11, g49_12, g49_13, g49_14, g49_15, g49_16, g49_17, p49_4_0, p49_4_1, p49_7, p49_8, p49_9, p49_10, p49_11, p49_12, p49_13, ri50, wi50, ri51, wi51, ri52, wi52, ri53, wi53, ri54, wi54, ri56, wi56, ri57, wi57, ri58, wi58, ri59, wi59, ri38, wi38, ri40, wi40, ri42, wi42, ri44, wi44, ri46, wi46, ri48, wi48, rb55, wb55, g0_0, g0_1, g0_2, g0_3, g0_4, g0_5, g0_6, p0_3_0, p0_3_1, g37_0, g37_1, p37_1, g37_2, p37_2, g37_3, p37_3, g37_4, p37_4, g37_5, p37_5, g41_0, p41_0, g41_1, p41_1, g41_2, g43_0, p43_0, g43_1, p43_1, g43_2, g45_0, p45_0, g45_1, p45_1, g45_2, g47_0, p47_0, g47_1, p47_1, g47_2, g1_0, g1_1, g1_2, g1_3, g1_4, g1_5, g1_6, g1_7, g13_0, g13_1, g13_2, g13_3, g13_4, g13_5, g13_6, g13_7, g25_0, g25_1, g25_2, g25_3, g25_4, g25_5, g25_6, g25_7, rc0, rc49, rc37, rc1, rc13, rc25, rc41, rc43, rc45, rc47, br_y, br_n, ↓blt_y, ↓blt_n, ↓ble_y, ↓ble_n, ↓beq_y, ↓beq_n, ↓bne_y, ↓bne_n, ↓blt0_y, ↓blt0_n, ↓ble0_y, ↓ble0_n, ↓bge0_y, ↓bge0_n, ↓bgt0_y, ↓bgt0_n, ↓beq0_y, ↓beq0_n, ↓bne0_y, ↓bne0_n, ↓bt_y, ↓bt_n, ↓bu_y, ↓bu_n, ↓sw_n, ↓sw_y, ↓sd_n, ↓sd_y, ↓bl_y, ↓bl_n, ↓bg_y, ↓bg_n, ↓blle_y, ↓blle_n, zb_0, zb_1, zb_tf, ↓nzp, if_pos, if_neg, iI_add, iI_sub, iI_mul, iI_neg, iI_lt, iI_le, iI_eq, iI_lt0, iI_le0, iI_ge0, iI_gt0, iI_eq0, iI_div, iI_rem, iI_toInt, iI_l, lI_i, md_eq, mu_self, mu_mu, mu_ne, true_or, or_true, or_false, false_or, true_and, and_true, true_implies, false_implies, implies_true, forall_const, not_true_eq_false, not_false_eq_true, Option.toList_some, Option.toList_none, List.cons_append, List.nil_append, cl1, ite_true, ite_false, if_true, if_false, prS, c_len]
  · rw [if_neg (fun z => c1 z.1)]
    simp (disch := first | omega | assumption | (simp (disch := omega) only [mu_self, mu_ne, iu_self, iu_ne]; done) | (simp (disch := omega) only [mu_self, mu_ne, iu_self, iu_ne]; omega) | (simp (disch := omega) only [mu_self, mu_ne, iu_self, iu_ne]; assumption)) only [r98_0, r98_1, r98_4, r98_5, r98_8, r98_9, r98_12, r98_13, r98_16, r98_17, r98_20, r98_21, r98_24, r98_25, r98_26, r98_27, r98_29, r98_30, r98_33, r98_36, r98_37, r98_40, r98_41, r98_44, r98_45, r98_46, r98_47, r98_48, r98_49, r98_52, r98_55, r98_56, r98_57, r98_60, r98_63, r98_64, n98, g49_0, g49_1, g49_2, g49_3, g49_4, g49_5, g49_6, g49_7, g49_8, g49_9, g49_10, g49_11, g49_12, g49_13, g49_14, g49_15, g49_16, g49_17, p49_4_0, p49_4_1, p49_7, p49_8, p49_9, p49_10, p49_11, p49_12, p49_13, ri50, wi50, ri51, wi51, ri52, wi52, ri53, wi53, ri54, wi54, ri56, wi56, ri57, wi57, ri58, wi58, ri59, wi59, ri38, wi38, ri40, wi40, ri42, wi42, ri44, wi44, ri46, wi46, ri48, wi48, rb55, wb55, g0_0, g0_1, g0_2, g0_3, g0_4, g0_5, g0_6, p0_3_0, p0_3_1, g37_0, g37_1, p37_1, g37_2, p37_2, g37_3, p37_3, g37_4, p37_4, g37_5, p37_5, g41_0, p41_0, g41_1, p41_1, g41_2, g43_0, p43_0, g43_1, p43_1, g43_2, g45_0, p45_0, g45_1, p45_1, g45_2, g47_0, p47_0, g47_1, p47_1, g47_2, g1_0, g1_1, g1_2, g1_3, g1_4, g1_5, g1_6, g1_7, g13_0, g13_1, g13_2, g13_3, g13_4, g13_5, g13_6, g13_7, g25_0, g25_1, g25_2, g25_3, g25_4, g25_5, g25_6, g25_7, rc0, rc49, rc37, rc1, rc13, rc25, rc41, rc43, rc45, rc47, br_y, br_n, ↓blt_y, ↓blt_n, ↓ble_y, ↓ble_n, ↓beq_y, ↓beq_n, ↓bne_y, ↓bne_n, ↓blt0_y, ↓blt0_n, ↓ble0_y, ↓ble0_n, ↓bge0_y, ↓bge0_n, ↓bgt0_y, ↓bgt0_n, ↓beq0_y, ↓beq0_n, ↓bne0_y, ↓bne0_n, ↓bt_y, ↓bt_n, ↓bu_y, ↓bu_n, ↓sw_n, ↓sw_y, ↓sd_n, ↓sd_y, ↓bl_y, ↓bl_n, ↓bg_y, ↓bg_n, ↓blle_y, ↓blle_n, zb_0, zb_1, zb_tf, ↓nzp, if_pos, if_neg, iI_add, iI_sub, iI_mul, iI_neg, iI_lt, iI_le, iI_eq, iI_lt0, iI_le0, iI_ge0, iI_gt0, iI_eq0, iI_div, iI_rem, iI_toInt, iI_l, lI_i, md_eq, mu_self, mu_mu, mu_ne, true_or, or_true, or_false, false_or, true_and, and_true, true_implies, false_implies, implies_true, forall_const, not_true_eq_false, not_false_eq_true, Option.toList_some, Option.toList_none, List.cons_append, List.nil_append, cl1, ite_true, ite_false, if_true, if_false, prS, c_len]
end
theorem wN_v : wN 0 = 11716 ∧ wN 1 = 355568 ∧ wN 2 = 160605414 ∧ wN 3 = 2896470 ∧ wN 4 = 7099884 ∧ wN 5 = 5730863 ∧ wN 6 = 54562550 ∧ wN 7 = 94424607 ∧ wN 8 = 232608281 ∧ wN 9 = 10354323 ∧ wN 10 = 383153 ∧ wN 11 = 312166 := by decide +kernel
/-! the text as both have it -/
def TX (x m : Nat → Int → Int) : Prop := (x 7 1 = m 6 1 ∧ 0 ≤ m 6 1 ∧ m 6 1 ≤ 120) ∧ ∀ i, 0 ≤ i → i < m 6 1 → x 6 i = m 5 i % 256 ∧ -128 ≤ m 5 i ∧ m 5 i < 128
def TK (x m : Nat → Int → Int) : Prop := (x 7 3 = m 6 4 ∧ x 7 4 = m 6 5 ∧ 0 ≤ x 7 4 ∧ x 7 4 ≤ x 7 2 ∧ x 7 2 ≤ x 7 1 ∧ 0 ≤ x 7 3 ∧ x 7 3 ≤ 4 ∧ 0 ≤ m 6 6 ∧ m 6 6 ≤ 3000000000000000000) ∧ (¬ x 7 3 = 4 → m 6 3 = x 7 2) ∧ (x 7 3 = 1 → x 7 4 < x 7 2 ∧ m 6 6 = wvF (x 6) (x 7 4) (x 7 2 - x 7 4).toNat ∧ ∀ j, x 7 4 ≤ j → j < x 7 2 → 97 ≤ x 6 j ∧ x 6 j ≤ 122) ∧ (x 7 3 = 2 → x 7 5 = min (m 6 6) 10000 ∧ m 6 6 ≤ 100000) ∧ (x 7 3 = 3 → x 7 2 = x 7 4 + 1)
theorem TK_mk {x m : Nat → Int → Int} {c : Int → Int} {t s p w q L : Int} (a1 : x 7 1 = L) (a2 : x 7 2 = p) (a3 : x 7 3 = t) (a4 : x 7 4 = s) (a6 : x 6 = c) (b3 : m 6 3 = q) (b4 : m 6 4 = t) (b5 : m 6 5 = s) (b6 : m 6 6 = w) (hr : 0 ≤ s ∧ s ≤ p ∧ p ≤ L ∧ 0 ≤ t ∧ t ≤ 4 ∧ 0 ≤ w ∧ w ≤ 3000000000000000000) (h4 : ¬ t = 4 → q = p) (h1 : t = 1 → s < p ∧ w = wvF c s (p - s).toNat ∧ ∀ j, s ≤ j → j < p → 97 ≤ c j ∧ c j ≤ 122) (h2 : t = 2 → x 7 5 = min w 10000 ∧ w ≤ 100000) (h3 : t = 3 → p = s + 1) : TK x m := by
  unfold TK
  rw [a1, a2, a3, a4, a6, b3, b4, b5, b6]
  exact ⟨⟨rfl, rfl, hr⟩, h4, h1, h2, h3⟩
/-- the next token, on both sides -/
theorem s_tok {X : pXX} {x m : Nat → Int → Int} (hT : TX x m) (h : m 6 3 = x 7 2) (h0 : 0 ≤ x 7 2) (h1 : x 7 2 ≤ x 7 1) : ∃ f g : Int → Int, (∀ (d : Nat) (mm : Nat → Int → Int) (K : Option Value → List pME → Prop), Cw X (d + 3) 94 [.ref 37] (MEM x mm) K = K none (MEM (mu x 7 f) mm)) ∧ (∀ (d : Nat) (xx : Nat → Int → Int) (K : Option Value → List pME → Prop), Cw X (d + 3) 203 [.ref 49] (MEM xx m) K = K none (MEM xx (mu m 6 g))) ∧ TK (mu x 7 f) (mu m 6 g) ∧ (f 0 = x 7 0 ∧ f 1 = x 7 1 ∧ g 0 = m 6 0 ∧ g 1 = m 6 1 ∧ g 2 = m 6 2 ∧ g 7 = m 6 7) ∧ x 7 2 ≤ f 4 := by
  obtain ⟨⟨t1, t2, t3⟩, tb⟩ := hT
  have hbx : ∀ j, 0 ≤ j → j < x 7 1 → 0 ≤ x 6 j ∧ x 6 j ≤ 255 := fun j j1 j2 => by have q := tb j j1 (by omega); omega
  have hbm : ∀ j, 0 ≤ j → j < m 6 1 → -128 ≤ m 5 j ∧ m 5 j < 128 := fun j j1 j2 => (tb j j1 j2).2
  obtain ⟨e, e1, e2, e3, e4⟩ := run_ex (fun j => x 6 j = 32) h1
  have s1 := fun (d : Nat) (mm : Nat → Int → Int) (K : Option Value → List pME → Prop) => k_skip (X := X) (d := d) (x := x) (m := mm) (K := K) h0 e1 e2 (by omega) e3 e4 hbx
  have s2 := fun (d : Nat) (xx : Nat → Int → Int) (K : Option Value → List pME → Prop) => j_skip (X := X) (d := d) (x := xx) (m := m) (K := K) (e := e) (by omega) (by omega) (by omega) (by omega) (fun j j1 j2 => by have q := tb j (by omega) (by omega); have q2 := e3 j (by omega) j2; omega) (by
    rcases e4 with z | z
    · exact Or.inl (by omega)
    · by_cases c : e = m 6 1
      · exact Or.inl c
      · have q := tb e (by omega) (by omega)
        exact Or.inr (by omega)) hbm
  have F7 : mu x 7 (iu (x 7) 2 e) 7 = iu (x 7) 2 e := mu_self _ _ _
  have F6 : mu x 7 (iu (x 7) 2 e) 6 = x 6 := mu_ne (by decide)
  have F2 : iu (x 7) 2 e 2 = e := iu_self _ _ _
  have F1 : iu (x 7) 2 e 1 = x 7 1 := iu_ne (by decide)
  have G6 : mu m 6 (iu (m 6) 3 e) 6 = iu (m 6) 3 e := mu_self _ _ _
  have G5 : mu m 6 (iu (m 6) 3 e) 5 = m 5 := mu_ne (by decide)
  have G3 : iu (m 6) 3 e 3 = e := iu_self _ _ _
  have G1 : iu (m 6) 3 e 1 = m 6 1 := iu_ne (by decide)
  by_cases c1 : e = x 7 1
  · have a1 := fun (d : Nat) (mm : Nat → Int → Int) (K : Option Value → List pME → Prop) => k_end (X := X) (d := d) (x := mu x 7 (iu (x 7) 2 e)) (m := mm) (K := K) (by rw [F7, F1]; omega) (by rw [F7, F1]; omega) (by rw [F7, F1, F2]; exact c1)
    have a2 := fun (d : Nat) (xx : Nat → Int → Int) (K : Option Value → List pME → Prop) => j_end (X := X) (d := d) (x := xx) (m := mu m 6 (iu (m 6) 3 e)) (K := K) (by rw [G6, G1]; omega) (by rw [G6, G1]; omega) (by rw [G6, G1, G3]; omega)
    simp only [F7, F2, mu_mu] at a1
    simp only [G6, G3, mu_mu] at a2
    refine ⟨_, _, fun d mm K => ((n94.trans (s1 (d + 1) mm K)).trans (a1 (d + 1) mm K)), fun d xx K => ((s2 (d + 1) xx K).trans (a2 (d + 1) xx K)), ?_, ?_, ?_⟩
    · exact TK_mk (c := x 6) (t := 0) (s := e) (p := e) (w := 0) (q := e) (L := x 7 1) (by simp (disch := omega) only [mu_self, mu_ne, iu_self, iu_ne]) (by simp (disch := omega) only [mu_self, mu_ne, iu_self, iu_ne]) (by simp (disch := omega) only [mu_self, mu_ne, iu_self, iu_ne]) (by simp (disch := omega) only [mu_self, mu_ne, iu_self, iu_ne]) (by simp (disch := omega) only [mu_self, mu_ne, iu_self, iu_ne]) (by simp (disch := omega) only [mu_self, mu_ne, iu_self, iu_ne]) (by simp (disch := omega) only [mu_self, mu_ne, iu_self, iu_ne]) (by simp (disch := omega) only [mu_self, mu_ne, iu_self, iu_ne]) (by simp (disch := omega) only [mu_self, mu_ne, iu_self, iu_ne]) (by omega) (fun z => by first | rfl | exact absurd rfl z | omega) (fun z => absurd z (by omega)) (fun z => absurd z (by omega)) (fun z => absurd z (by omega))
    · refine ⟨?_, ?_, ?_, ?_, ?_, ?_⟩ <;> simp (disch := omega) only [iu_self, iu_ne]
    · simp (disch := omega) only [iu_self, iu_ne]
      exact e1
  · have he : e < x 7 1 := by omega
    have qe := tb e (by omega) (by omega)
    by_cases c2 : 97 ≤ x 6 e ∧ x 6 e ≤ 122
    · obtain ⟨w, w1, w2, w3, w4⟩ := run_ex (fun j => 97 ≤ x 6 j ∧ x 6 j ≤ 122) e2
      have w5 : e < w := by
        by_cases z : w = e
        · rcases w4 with y | y
          · omega
          · rw [z] at y; exact absurd c2 y
        · omega
      have a1 := fun (d : Nat) (mm : Nat → Int → Int) (K : Option Value → List pME → Prop) => k_word (X := X) (d := d) (x := mu x 7 (iu (x 7) 2 e)) (m := mm) (K := K) (e := w) (by rw [F7, F2]; omega) (by rw [F7, F2]; omega) (by rw [F7, F1]; omega) (by rw [F7, F1]; omega) (by rw [F7, F2, F6]; exact w3) (by rw [F7, F1, F6]; exact w4) (by rw [F7, F1, F6]; exact hbx)
      have a2 := fun (d : Nat) (xx : Nat → Int → Int) (K : Option Value → List pME → Prop) => j_word (X := X) (d := d) (x := xx) (m := mu m 6 (iu (m 6) 3 e)) (K := K) (e := w) (by rw [G6, G3]; omega) (by rw [G6, G3]; omega) (by rw [G6, G1]; omega) (by rw [G6, G1]; omega) (by rw [G6, G3, G5]; exact fun j j1 j2 => by have q := tb j (by omega) (by omega); have q2 := w3 j j1 j2; omega) (by
        rw [G6, G1, G5]
        by_cases z : w = m 6 1
        · exact Or.inl z
        · have q := tb w (by omega) (by omega)
          rcases w4 with y | y
          · omega
          · exact Or.inr (by omega)) (by rw [G6, G1, G5]; exact hbm)
      simp only [F7, F2, mu_mu] at a1
      simp only [G6, G3, G5, mu_mu] at a2
      have hv : wvF (m 5) e (w - e).toNat = wvF (x 6) e (w - e).toNat := wv_cong _ (fun j hj => by have q := tb (e + j) (by omega) (by omega); have q2 := w3 (e + j) (by omega) (by omega); omega)
      have ho := wv_ok (c := x 6) (s := e) (w - e).toNat (fun j hj => w3 (e + j) (by omega) (by omega))
      refine ⟨_, _, fun d mm K => ((n94.trans (s1 (d + 1) mm K)).trans (a1 (d + 1) mm K)), fun d xx K => ((s2 (d + 1) xx K).trans (a2 (d + 1) xx K)), ?_, ?_, ?_⟩
      · exact TK_mk (c := x 6) (t := 1) (s := e) (p := w) (w := wvF (m 5) e (w - e).toNat) (q := w) (L := x 7 1) (by simp (disch := omega) only [mu_self, mu_ne, iu_self, iu_ne]) (by simp (disch := omega) only [mu_self, mu_ne, iu_self, iu_ne]) (by simp (disch := omega) only [mu_self, mu_ne, iu_self, iu_ne]) (by simp (disch := omega) only [mu_self, mu_ne, iu_self, iu_ne]) (by simp (disch := omega) only [mu_self, mu_ne, iu_self, iu_ne]) (by simp (disch := omega) only [mu_self, mu_ne, iu_self, iu_ne]) (by simp (disch := omega) only [mu_self, mu_ne, iu_self, iu_ne]) (by simp (disch := omega) only [mu_self, mu_ne, iu_self, iu_ne]) (by simp (disch := omega) only [mu_self, mu_ne, iu_self, iu_ne]) (by omega) (fun z => by first | rfl | exact absurd rfl z | omega) (fun _ => ⟨w5, hv, w3⟩) (fun z => absurd z (by omega)) (fun z => absurd z (by omega))
      · refine ⟨?_, ?_, ?_, ?_, ?_, ?_⟩ <;> simp (disch := omega) only [iu_self, iu_ne]
      · simp (disch := omega) only [iu_self, iu_ne]
        exact e1
    · by_cases c3 : 48 ≤ x 6 e ∧ x 6 e ≤ 57
      · obtain ⟨w, w1, w2, w3, w4⟩ := run_ex (fun j => 48 ≤ x 6 j ∧ x 6 j ≤ 57) e2
        have w5 : e < w := by
          by_cases z : w = e
          · rcases w4 with y | y
            · omega
            · rw [z] at y; exact absurd c3 y
          · omega
        have a1 := fun (d : Nat) (mm : Nat → Int → Int) (K : Option Value → List pME → Prop) => k_num (X := X) (d := d) (x := mu x 7 (iu (x 7) 2 e)) (m := mm) (K := K) (e := w) (by rw [F7, F2]; omega) (by rw [F7, F2]; omega) (by rw [F7, F1]; omega) (by rw [F7, F1]; omega) (by rw [F7, F2, F6]; exact w3) (by rw [F7, F1, F6]; exact w4) (by rw [F7, F1, F6]; exact hbx)
        have a2 := fun (d : Nat) (xx : Nat → Int → Int) (K : Option Value → List pME → Prop) => j_num (X := X) (d := d) (x := xx) (m := mu m 6 (iu (m 6) 3 e)) (K := K) (e := w) (by rw [G6, G3]; omega) (by rw [G6, G3]; omega) (by rw [G6, G1]; omega) (by rw [G6, G1]; omega) (by rw [G6, G3, G5]; exact fun j j1 j2 => by have q := tb j (by omega) (by omega); have q2 := w3 j j1 j2; omega) (by
          rw [G6, G1, G5]
          by_cases z : w = m 6 1
          · exact Or.inl z
          · have q := tb w (by omega) (by omega)
            rcases w4 with y | y
            · omega
            · exact Or.inr (by omega)) (by rw [G6, G1, G5]; exact hbm)
        simp only [F7, F2, F6, mu_mu] at a1
        simp only [G6, G3, G5, mu_mu] at a2
        have hv : nvF (m 5) e (w - e).toNat = nvF (x 6) e (w - e).toNat := nv_cong _ (fun j hj => by have q := tb (e + j) (by omega) (by omega); have q2 := w3 (e + j) (by omega) (by omega); omega)
        have ho := nv_ok (c := x 6) (s := e) (w - e).toNat (fun j hj => w3 (e + j) (by omega) (by omega))
        refine ⟨_, _, fun d mm K => ((n94.trans (s1 (d + 1) mm K)).trans (a1 d mm K)), fun d xx K => ((s2 (d + 1) xx K).trans (a2 (d + 1) xx K)), ?_, ?_, ?_⟩
        · exact TK_mk (c := x 6) (t := 2) (s := e) (p := w) (w := nvF (m 5) e (w - e).toNat) (q := w) (L := x 7 1) (by simp (disch := omega) only [mu_self, mu_ne, iu_self, iu_ne]) (by simp (disch := omega) only [mu_self, mu_ne, iu_self, iu_ne]) (by simp (disch := omega) only [mu_self, mu_ne, iu_self, iu_ne]) (by simp (disch := omega) only [mu_self, mu_ne, iu_self, iu_ne]) (by simp (disch := omega) only [mu_self, mu_ne, iu_self, iu_ne]) (by simp (disch := omega) only [mu_self, mu_ne, iu_self, iu_ne]) (by simp (disch := omega) only [mu_self, mu_ne, iu_self, iu_ne]) (by simp (disch := omega) only [mu_self, mu_ne, iu_self, iu_ne]) (by simp (disch := omega) only [mu_self, mu_ne, iu_self, iu_ne]) (by omega) (fun z => by first | rfl | exact absurd rfl z | omega) (fun z => absurd z (by omega)) (fun _ => ⟨by simp (disch := omega) only [mu_self, mu_ne, iu_self, iu_ne, hv], by omega⟩) (fun z => absurd z (by omega))
        · refine ⟨?_, ?_, ?_, ?_, ?_, ?_⟩ <;> simp (disch := omega) only [iu_self, iu_ne]
        · simp (disch := omega) only [iu_self, iu_ne]
          exact e1
      · by_cases c4 : x 6 e = 59
        · have a1 := fun (d : Nat) (mm : Nat → Int → Int) (K : Option Value → List pME → Prop) => k_sign (X := X) (d := d) (x := mu x 7 (iu (x 7) 2 e)) (m := mm) (K := K) (c := 3) (by rw [F7, F2]; omega) (by rw [F7, F2, F1]; omega) (by rw [F7, F1]; omega) (by rw [F7, F2, F6]; omega) (by rw [F7, F2, F6]; exact c2) (by rw [F7, F2, F6]; exact c3) (by rw [F7, F2, F6, if_pos c4])
          have a2 := fun (d : Nat) (xx : Nat → Int → Int) (K : Option Value → List pME → Prop) => j_sign (X := X) (d := d) (x := xx) (m := mu m 6 (iu (m 6) 3 e)) (K := K) (by rw [G6, G3]; omega) (by rw [G6, G3, G1]; omega) (by rw [G6, G1]; omega) (by rw [G6, G3, G5]; omega)
          simp only [F7, F2, mu_mu] at a1
          simp only [G6, G3, mu_mu] at a2
          refine ⟨_, _, fun d mm K => ((n94.trans (s1 (d + 1) mm K)).trans (a1 (d + 1) mm K)), fun d xx K => ((s2 (d + 1) xx K).trans (a2 (d + 1) xx K)), ?_, ?_, ?_⟩
          · exact TK_mk (c := x 6) (t := 3) (s := e) (p := e + 1) (w := 0) (q := e + 1) (L := x 7 1) (by simp (disch := omega) only [mu_self, mu_ne, iu_self, iu_ne]) (by simp (disch := omega) only [mu_self, mu_ne, iu_self, iu_ne]) (by simp (disch := omega) only [mu_self, mu_ne, iu_self, iu_ne]) (by simp (disch := omega) only [mu_self, mu_ne, iu_self, iu_ne]) (by simp (disch := omega) only [mu_self, mu_ne, iu_self, iu_ne]) (by simp (disch := omega) only [mu_self, mu_ne, iu_self, iu_ne]) (by simp (disch := omega) only [mu_self, mu_ne, iu_self, iu_ne]) (by simp (disch := omega) only [mu_self, mu_ne, iu_self, iu_ne]) (by simp (disch := omega) only [mu_self, mu_ne, iu_self, iu_ne]) (by omega) (fun z => by first | rfl | exact absurd rfl z | omega) (fun z => absurd z (by omega)) (fun z => absurd z (by omega)) (fun _ => rfl)
          · refine ⟨?_, ?_, ?_, ?_, ?_, ?_⟩ <;> simp (disch := omega) only [iu_self, iu_ne]
          · simp (disch := omega) only [iu_self, iu_ne]
            exact e1
        · have a1 := fun (d : Nat) (mm : Nat → Int → Int) (K : Option Value → List pME → Prop) => k_sign (X := X) (d := d) (x := mu x 7 (iu (x 7) 2 e)) (m := mm) (K := K) (c := 4) (by rw [F7, F2]; omega) (by rw [F7, F2, F1]; omega) (by rw [F7, F1]; omega) (by rw [F7, F2, F6]; omega) (by rw [F7, F2, F6]; exact c2) (by rw [F7, F2, F6]; exact c3) (by rw [F7, F2, F6, if_neg c4])
          have a2 := fun (d : Nat) (xx : Nat → Int → Int) (K : Option Value → List pME → Prop) => j_odd (X := X) (d := d) (x := xx) (m := mu m 6 (iu (m 6) 3 e)) (K := K) (by rw [G6, G3]; omega) (by rw [G6, G3, G1]; omega) (by rw [G6, G1]; omega) (by rw [G6, G3, G5]; omega) (by rw [G6, G3, G5]; omega) (by rw [G6, G3, G5]; omega) (by rw [G6, G3, G5]; omega)
          simp only [F7, F2, mu_mu] at a1
          simp only [G6, G3, mu_mu] at a2
          refine ⟨_, _, fun d mm K => ((n94.trans (s1 (d + 1) mm K)).trans (a1 (d + 1) mm K)), fun d xx K => ((s2 (d + 1) xx K).trans (a2 (d + 1) xx K)), ?_, ?_, ?_⟩
          · exact TK_mk (c := x 6) (t := 4) (s := e) (p := e + 1) (w := 0) (q := e) (L := x 7 1) (by simp (disch := omega) only [mu_self, mu_ne, iu_self, iu_ne]) (by simp (disch := omega) only [mu_self, mu_ne, iu_self, iu_ne]) (by simp (disch := omega) only [mu_self, mu_ne, iu_self, iu_ne]) (by simp (disch := omega) only [mu_self, mu_ne, iu_self, iu_ne]) (by simp (disch := omega) only [mu_self, mu_ne, iu_self, iu_ne]) (by simp (disch := omega) only [mu_self, mu_ne, iu_self, iu_ne]) (by simp (disch := omega) only [mu_self, mu_ne, iu_self, iu_ne]) (by simp (disch := omega) only [mu_self, mu_ne, iu_self, iu_ne]) (by simp (disch := omega) only [mu_self, mu_ne, iu_self, iu_ne]) (by omega) (fun z => by first | rfl | exact absurd rfl z | omega) (fun z => absurd z (by omega)) (fun z => absurd z (by omega)) (fun z => absurd z (by omega))
          · refine ⟨?_, ?_, ?_, ?_, ?_, ?_⟩ <;> simp (disch := omega) only [iu_self, iu_ne]
          · simp (disch := omega) only [iu_self, iu_ne]
            exact e1

/-! the beginning: the class -/
section
variable {X : pXX} {d u : Nat} {K : Option Value → List pME → Prop} {M R l : List pME} {a i k : Nat} {KM : List pME → Prop} {KV : Value → Prop} {fs : List Value} {v : Value} {e : pME}
theorem pW {b : Nat} (hk : k < fs.length) (hn : narrow (cY 4 k) (.ref b) = .ref b) (hf : fits (cY 4 k) (.ref b) = true) : pf 0 (.inl (4, fs) :: R) 0 4 k (.ref b) KM = KM (.inl (4, fs.set k (.ref b)) :: R) := pf_ofi rfl hk hn hf fin_0 rfl
theorem pW3 (hk : 3 < fs.length) : pf 0 (.inl (4, fs) :: R) 0 4 3 (.int (iI 0)) KM = KM (.inl (4, fs.set 3 (.int (iI 0))) :: R) := pf_ofi rfl hk (by decide +kernel) (by decide +kernel) fin_0 rfl
theorem g_t1 (hR : R.length + 1 = a) (ha : a + 12 ≤ 900) (hu : u + 12 ≤ 48) (hf : 0 < fs.length) : pR X (d + 3) 0 48 K (4, [some (.ref 0), none], [], .inl (4, fs) :: R, u) = pR X (d + 3) 0 48 K (15, [some (.ref 0), none], [], .inl (4, fs.set 0 (.ref a)) :: (R ++ tn a D0 Z0), u + 12) := by
  have hM : ((.inl (4, fs) :: R : List pME)).length = a := hR
  rw [r0_4, r0_5 (by omega) (by rw [hM]; omega), hM, r0_8, r0_9 (by omega), c_town0 hM ha]
  simp only [Option.toList_none, List.nil_append]
  rw [r0_12]
  exact pW hf rfl rfl
theorem g_t2 (hR : R.length + 1 = a) (ha : a + 12 ≤ 900) (hu : u + 12 ≤ 48) (hf : 1 < fs.length) : pR X (d + 3) 0 48 K (15, [some (.ref 0), none], [], .inl (4, fs) :: R, u) = pR X (d + 3) 0 48 K (26, [some (.ref 0), none], [], .inl (4, fs.set 1 (.ref a)) :: (R ++ tn a D0 Z0), u + 12) := by
  have hM : ((.inl (4, fs) :: R : List pME)).length = a := hR
  rw [r0_15, r0_16 (by omega) (by rw [hM]; omega), hM, r0_19, r0_20 (by omega), c_town0 hM ha]
  simp only [Option.toList_none, List.nil_append]
  rw [r0_23]
  exact pW hf rfl rfl
theorem g_t3 (hR : R.length + 1 = a) (ha : a + 12 ≤ 900) (hu : u + 12 ≤ 48) (hf : 3 < fs.length) : pR X (d + 3) 0 48 K (26, [some (.ref 0), none], [], .inl (4, fs) :: R, u) = pR X (d + 3) 0 48 K (42, [some (.ref 0), none], [], .inl (4, (fs.set 2 (.ref a)).set 3 (.int (iI 0))) :: (R ++ tn a D0 Z0), u + 12) := by
  have hM : ((.inl (4, fs) :: R : List pME)).length = a := hR
  rw [r0_26, r0_27 (by omega) (by rw [hM]; omega), hM, r0_30, r0_31 (by omega), c_town0 hM ha]
  simp only [Option.toList_none, List.nil_append]
  rw [r0_34]
  refine (pW (by omega) rfl rfl).trans ?_
  rw [r0_37, r0_38, r0_39]
  exact pW3 (by rw [List.length_set]; exact hf)
def TA : pME := .inl (2, [.ref 38, .int (iI 0), .int (iI 0), .int (iI 0), .int (iI 0), .int (iI 0)])
def BY : pME := .inr (.inl (0, 120, row 120 (fun _ => 0)))
def FI : pME := .inr (.inl (0, 7, row 7 (fun _ => 0)))
def SA (k : Nat) : pME := .inr (.inr (3, 4, fun i => if i < k then some (41 + 2 * i) else none))
def SO (k : Nat) : pME := .inl (1, [.int (iI 0), .int (iI 0), .ref (42 + 2 * k)])
def N4 : pME := .inr (.inl (0, 40, row 40 (fun _ => 0)))
def sl : Nat → List pME
  | 0 => []
  | k + 1 => sl k ++ [SO k, N4]
theorem sl_len : ∀ k, (sl k).length = 2 * k
  | 0 => rfl
  | k + 1 => by
    show (sl k ++ [SO k, N4]).length = _
    rw [List.length_append, sl_len k]
    show 2 * k + 2 = _
    omega
def WW : pME := .inl (4, [.ref 1, .ref 13, .ref 25, .int (iI 0), .ref 37, .ref 39, .ref 40])
theorem g_tape (hR : R.length + 1 = 37) : pR X (d + 3) 0 48 K (42, [some (.ref 0), none], [], .inl (4, [.ref 1, .ref 13, .ref 25, .int (iI 0), .null, .null, .null]) :: R, 36) = pR X (d + 3) 0 48 K (71, [some (.ref 0), some (.int (iI 0))], [], (WW :: R) ++ (TA :: BY :: SA 0 :: FI :: sl 0), 40) := by
  have hM : ((.inl (4, [.ref 1, .ref 13, .ref 25, .int (iI 0), .null, .null, .null]) :: R : List pME)).length = 37 := hR
  rw [r0_42, r0_43 (by omega) (by rw [hM]; omega), hM, r0_46, r0_47 (by omega), c_tape0 hM (by omega)]
  simp only [Option.toList_none, List.nil_append]
  rw [r0_50]
  refine (pW (fs := [.ref 1, .ref 13, .ref 25, .int (iI 0), .null, .null, .null]) (by decide) rfl rfl).trans ?_
  have h1 : (.inl (4, [.ref 1, .ref 13, .ref 25, .int (iI 0), .ref 37, .null, .null]) :: (R ++ [TA, BY]) : List pME).length = 39 := by
    rw [List.length_cons, List.length_append]
    show R.length + 2 + 1 = 39
    omega
  show pR X (d + 3) 0 48 K (53, [some (.ref 0), none], [], .inl (4, [.ref 1, .ref 13, .ref 25, .int (iI 0), .ref 37, .null, .null]) :: (R ++ [TA, BY]), 38) = _
  rw [r0_53, r0_54, r0_55 (by omega) (by rw [h1]; omega), h1, r0_58]
  refine (pW (fs := [.ref 1, .ref 13, .ref 25, .int (iI 0), .ref 37, .null, .null]) (by decide) rfl rfl).trans ?_
  have h2 : (.inl (4, [.ref 1, .ref 13, .ref 25, .int (iI 0), .ref 37, .ref 39, .null]) :: ((R ++ [TA, BY]) ++ [.inr (.inr (3, 4, fun _ => none))]) : List pME).length = 40 := by
    rw [List.length_cons, List.length_append, List.length_append]
    show R.length + 2 + 1 + 1 = 40
    omega
  show pR X (d + 3) 0 48 K (61, [some (.ref 0), none], [], .inl (4, [.ref 1, .ref 13, .ref 25, .int (iI 0), .ref 37, .ref 39, .null]) :: ((R ++ [TA, BY]) ++ [.inr (.inr (3, 4, fun _ => none))]), 39) = _
  rw [r0_61, r0_62, r0_64 (by omega) (by rw [h2]; omega), h2, r0_66]
  refine (pW (fs := [.ref 1, .ref 13, .ref 25, .int (iI 0), .ref 37, .ref 39, .null]) (by decide) rfl rfl).trans ?_
  show pR X (d + 3) 0 48 K (69, [some (.ref 0), none], [], WW :: (((R ++ [TA, BY]) ++ [.inr (.inr (3, 4, fun _ => none))]) ++ [FI]), 40) = _
  have e0 : (.inr (.inr (3, 4, fun _ => none)) : pME) = SA 0 := by
    unfold SA
    rw [show (fun i => if i < 0 then some (41 + 2 * i) else none) = fun _ => none from funext fun i => if_neg (by omega)]
  rw [r0_69, r0_70, e0, List.append_assoc, List.append_assoc]
  rfl
theorem SA_up {k : Nat} : va_up (fun i => if i < k then some (41 + 2 * i) else none) k (some (41 + 2 * k)) = fun i => if i < k + 1 then some (41 + 2 * i) else none := by
  funext i
  unfold va_up
  by_cases e : i = k
  · rw [if_pos e, if_pos (by omega), e]
  · rw [if_neg e]
    show (if i < k then some (41 + 2 * i) else none) = _
    by_cases f : i < k
    · rw [if_pos f, if_pos (by omega)]
    · rw [if_neg f, if_neg (by omega)]
theorem g_sheets (hM : M.length = 37) (hg0 : ∀ (l : List pME) (KV : Value → Prop), gf (M ++ l) 0 4 5 KV = KV (.ref 39)) : pR X (d + 3) 0 48 K (71, [some (.ref 0), some (.int (iI 0))], [], M ++ (TA :: BY :: SA 0 :: FI :: sl 0), 40) = K none (M ++ (TA :: BY :: SA 4 :: FI :: sl 4)) := by
  have hl := lp_up (f := fun k => pR X (d + 3) 0 48 K (71, [some (.ref 0), some (.int (iI k))], [], M ++ (TA :: BY :: SA k :: FI :: sl k), 40 + 2 * k)) (n := 4) (fun k hk => by
    have hl : (M ++ (TA :: BY :: SA k :: FI :: sl k)).length = 41 + 2 * k := by
      rw [List.length_append, hM]
      show 37 + ((sl k).length + 4) = _
      rw [sl_len]; omega
    have hg : ∀ KV : Value → Prop, gf (M ++ (TA :: BY :: SA k :: FI :: sl k)) 0 4 5 KV = KV (.ref 39) := fun KV => hg0 _ KV
    have hr : (M ++ (TA :: BY :: SA k :: FI :: sl k)) ++ [.inl (1, [.int (iI 0), .int (iI 0), .ref (41 + 2 * k + 1)]), .inr (.inl (0, 40, row 40 (fun _ => 0)))] = M ++ (TA :: BY :: SA k :: FI :: sl (k + 1)) := by
      rw [List.append_assoc, show 41 + 2 * k + 1 = 42 + 2 * k by omega]
      rfl
    have hwa : ∀ KM : List pME → Prop, wa (M ++ (TA :: BY :: SA k :: FI :: sl (k + 1))) 39 (iI k) (41 + 2 * k) KM = KM (M ++ (TA :: BY :: SA (k + 1) :: FI :: sl (k + 1))) := fun KM => by
      refine wa_of (k := 3) (n := 4) (f := fun i => if i < k then some (41 + 2 * i) else none) (fs := [.int (iI 0), .int (iI 0), .ref (42 + 2 * k)]) (ap_at (a := 37) (i := 2) hM) (Or.inr rfl) (by decide) (by omega) (by omega) ?_ ?_
      · rw [show 41 + 2 * k = 37 + (2 * k + 4) by omega, ap_at hM]
        show (sl k ++ [SO k, N4])[2 * k]? = some (SO k)
        exact ap_at0 (sl_len k)
      · rw [show (39 : Nat) = 37 + 2 from rfl, ap_set hM, Int.toNat_natCast, SA_up]
        rfl
    rw [r0_71]
    simp (disch := first | omega | (rw [hl]; omega)) only [r0_0, r0_1, r0_4, r0_8, r0_9, r0_12, r0_15, r0_19, r0_20, r0_23, r0_26, r0_30, r0_31, r0_34, r0_37, r0_38, r0_39, r0_42, r0_46, r0_47, r0_50, r0_53, r0_54, r0_58, r0_61, r0_62, r0_66, r0_69, r0_70, r0_72, r0_73, r0_76, r0_77, r0_80, r0_84, r0_85, r0_88, r0_89, r0_92, r0_95, r0_81, hg, hl, br_y, br_n, ↓blt_y, ↓blt_n, ↓ble_y, ↓ble_n, ↓beq_y, ↓beq_n, ↓bne_y, ↓bne_n, ↓blt0_y, ↓blt0_n, ↓ble0_y, ↓ble0_n, ↓bge0_y, ↓bge0_n, ↓bgt0_y, ↓bgt0_n, ↓beq0_y, ↓beq0_n, ↓bne0_y, ↓bne0_n, ↓bt_y, ↓bt_n, ↓bu_y, ↓bu_n, ↓sw_n, ↓sw_y, ↓sd_n, ↓sd_y, ↓bl_y, ↓bl_n, ↓bg_y, ↓bg_n, ↓blle_y, ↓blle_n, zb_0, zb_1, zb_tf, ↓nzp, if_pos, if_neg, iI_add, iI_sub, iI_mul, iI_neg, iI_lt, iI_le, iI_eq, iI_lt0, iI_le0, iI_ge0, iI_gt0, iI_eq0, iI_div, iI_rem, iI_toInt, iI_l, lI_i, md_eq, mu_self, mu_mu, mu_ne, true_or, or_true, or_false, false_or, true_and, and_true, true_implies, false_implies, implies_true, forall_const, not_true_eq_false, not_false_eq_true, Option.toList_some, Option.toList_none, List.cons_append, List.nil_append, cl1, ite_true, ite_false, if_true, if_false]
    rw [c_sheet0 hl (by omega)]
    simp (disch := first | omega) only [r0_0, r0_1, r0_4, r0_8, r0_9, r0_12, r0_15, r0_19, r0_20, r0_23, r0_26, r0_30, r0_31, r0_34, r0_37, r0_38, r0_39, r0_42, r0_46, r0_47, r0_50, r0_53, r0_54, r0_58, r0_61, r0_62, r0_66, r0_69, r0_70, r0_72, r0_73, r0_76, r0_77, r0_80, r0_84, r0_85, r0_88, r0_89, r0_92, r0_95, hr, hwa, br_y, br_n, ↓blt_y, ↓blt_n, ↓ble_y, ↓ble_n, ↓beq_y, ↓beq_n, ↓bne_y, ↓bne_n, ↓blt0_y, ↓blt0_n, ↓ble0_y, ↓ble0_n, ↓bge0_y, ↓bge0_n, ↓bgt0_y, ↓bgt0_n, ↓beq0_y, ↓beq0_n, ↓bne0_y, ↓bne0_n, ↓bt_y, ↓bt_n, ↓bu_y, ↓bu_n, ↓sw_n, ↓sw_y, ↓sd_n, ↓sd_y, ↓bl_y, ↓bl_n, ↓bg_y, ↓bg_n, ↓blle_y, ↓blle_n, zb_0, zb_1, zb_tf, ↓nzp, if_pos, if_neg, iI_add, iI_sub, iI_mul, iI_neg, iI_lt, iI_le, iI_eq, iI_lt0, iI_le0, iI_ge0, iI_gt0, iI_eq0, iI_div, iI_rem, iI_toInt, iI_l, lI_i, md_eq, mu_self, mu_mu, mu_ne, true_or, or_true, or_false, false_or, true_and, and_true, true_implies, false_implies, implies_true, forall_const, not_true_eq_false, not_false_eq_true, Option.toList_some, Option.toList_none, List.cons_append, List.nil_append, cl1, ite_true, ite_false, if_true, if_false] <;> rfl)
  rw [show (40 + 2 * 0 : Nat) = 40 from rfl, show (40 + 2 * 4 : Nat) = 48 from rfl] at hl
  simp only [z_0] at hl
  rw [hl, r0_71]
  simp (disch := omega) only [r0_0, r0_1, r0_4, r0_8, r0_9, r0_12, r0_15, r0_19, r0_20, r0_23, r0_26, r0_30, r0_31, r0_34, r0_37, r0_38, r0_39, r0_42, r0_46, r0_47, r0_50, r0_53, r0_54, r0_58, r0_61, r0_62, r0_66, r0_69, r0_70, r0_72, r0_73, r0_76, r0_77, r0_80, r0_84, r0_85, r0_88, r0_89, r0_92, r0_95, br_y, br_n, ↓blt_y, ↓blt_n, ↓ble_y, ↓ble_n, ↓beq_y, ↓beq_n, ↓bne_y, ↓bne_n, ↓blt0_y, ↓blt0_n, ↓ble0_y, ↓ble0_n, ↓bge0_y, ↓bge0_n, ↓bgt0_y, ↓bgt0_n, ↓beq0_y, ↓beq0_n, ↓bne0_y, ↓bne0_n, ↓bt_y, ↓bt_n, ↓bu_y, ↓bu_n, ↓sw_n, ↓sw_y, ↓sd_n, ↓sd_y, ↓bl_y, ↓bl_n, ↓bg_y, ↓bg_n, ↓blle_y, ↓blle_n, zb_0, zb_1, zb_tf, ↓nzp, if_pos, if_neg, iI_add, iI_sub, iI_mul, iI_neg, iI_lt, iI_le, iI_eq, iI_lt0, iI_le0, iI_ge0, iI_gt0, iI_eq0, iI_div, iI_rem, iI_toInt, iI_l, lI_i, md_eq, mu_self, mu_mu, mu_ne, true_or, or_true, or_false, false_or, true_and, and_true, true_implies, false_implies, implies_true, forall_const, not_true_eq_false, not_false_eq_true, Option.toList_some, Option.toList_none, List.cons_append, List.nil_append, cl1, ite_true, ite_false, if_true, if_false]
theorem c_class0 : Cw X (d + 4) 0 [.ref 0] [W0] K = K none ((WW :: (tn 1 D0 Z0 ++ (tn 13 D0 Z0 ++ tn 25 D0 Z0))) ++ (TA :: BY :: SA 4 :: FI :: sl 4)) := by
  rw [n0, r0_0, r0_1 (by omega)]
  unfold W0
  rw [g_t1 (R := []) (a := 1) rfl (by omega) (by omega) (by decide)]
  refine (g_t2 (R := tn 1 D0 Z0) (a := 13) (fs := [.ref 1, .null, .null, .int 0, .null, .null, .null]) rfl (by omega) (by omega) (by decide)).trans ?_
  refine (g_t3 (R := tn 1 D0 Z0 ++ tn 13 D0 Z0) (a := 25) (fs := [.ref 1, .ref 13, .null, .int 0, .null, .null, .null]) rfl (by omega) (by omega) (by decide)).trans ?_
  rw [List.append_assoc]
  exact (g_tape (R := tn 1 D0 Z0 ++ (tn 13 D0 Z0 ++ tn 25 D0 Z0)) rfl).trans (g_sheets (M := WW :: (tn 1 D0 Z0 ++ (tn 13 D0 Z0 ++ tn 25 D0 Z0))) rfl (fun l KV => gf_of rfl rfl))
end
def x0 : Nat → Int → Int := fun k => if k = 0 ∨ k = 2 ∨ k = 4 then D0 else Z0
def m0 : Nat → Int → Int := fun k => if k = 0 then D0 else Z0
theorem li0 : (0 : Int64) = lI 0 := by decide +kernel
theorem c_begin0 {X : pXX} {d : Nat} {K : Option Value → List pME → Prop} : Cw X (d + 2) 133 [.ref 49] (((WW :: (tn 1 D0 Z0 ++ (tn 13 D0 Z0 ++ tn 25 D0 Z0))) ++ (TA :: BY :: SA 4 :: FI :: sl 4)) ++ [M0]) K = K none (MEM x0 m0) := by
  rw [c_model0 (a := 49) rfl (by omega), iI_0, li0]
  rfl
theorem D0_Iv : Iv D0 := by
  have h : ∀ j : Int, D0 j = if j = 2 then 1 else if j = 3 then 19 else if 5 ≤ j ∧ j < 11 then 100 else 0 := fun j => rfl
  unfold Iv
  refine ⟨by decide, by decide, by decide, by decide, by decide, fun i i1 i2 => ?_, fun p p1 p2 => ?_, fun i i1 i2 => ?_⟩
  · rw [h, if_neg (by omega), if_neg (by omega), if_pos (by omega)]
    unfold isPay
    decide
  · exact absurd p2 (by show ¬ p < 0; omega)
  · rw [h, if_neg (by omega), if_neg (by omega), if_neg (by omega)]
    exact ⟨by decide, by decide⟩
theorem Rel_0 : Rel x0 m0 := by
  unfold Rel
  refine ⟨rfl, D0_Iv, rfl, ⟨rfl, Or.inl rfl⟩, fun h => absurd h (by decide), ⟨rfl, by decide, by decide⟩, fun i i1 i2 => absurd i2 (by show ¬ i < 0; omega), rfl, fun s s1 s2 => ?_⟩
  unfold shR
  exact ⟨rfl, rfl, Or.inl rfl, ⟨by show (0 : Int) ≤ 0; omega, by show (0 : Int) ≤ 40; omega⟩, fun _ => rfl, fun k k1 k2 => absurd k2 (by show ¬ k < 0; omega)⟩

/-! the beginning: what the constructors make -/
section
variable {X : pXX} {d y lim : Nat} {Q : Option Value → List pME → Prop} {pc u : Nat} {L : List (Option Value)} {st : List Value} {mem : List pME}
theorem q_new {ix ci : Nat} (hd : decode (yB y) pc = .ok (.new ix, 3)) (hc : pntt (yO y) ix = some ci) (hu : u + 1 ≤ lim) (hm : mem.length + 1 ≤ 900) : pR X d y lim Q (pc, L, st, mem, u) = pR X d y lim Q (pc + 3, L, .ref mem.length :: st, mem ++ [.inl (ci, (List.range (cN ci)).map (fun j => pdfl (cY ci j)))], u + 1) := by
  refine (q_wp (s := (pc, L, st, mem, u)) hd).trans ?_
  simp only [pstp, hc, h_new, if_pos (And.intro hu hm)]; rfl
theorem z_row {n : Nat} : (fun _ => (0 : Int32)) = row n (fun _ => 0) := by
  funext k
  unfold row
  split
  · exact iI_0
  · rfl
theorem q_nai {n : Nat} (hd : decode (yB y) pc = .ok (.newarray .int, 2)) (h2 : n ≤ 200) (hu : u + 1 ≤ lim) (hm : mem.length + 1 ≤ 900) : pR X d y lim Q (pc, L, .int (iI n) :: st, mem, u) = pR X d y lim Q (pc + 2, L, .ref mem.length :: st, mem ++ [.inr (.inl (0, n, row n (fun _ => 0)))], u + 1) := by
  have ec : (iI (n : Int)).toNatClampNeg = n := by rw [iI_clamp (by omega) (by omega)]; exact Int.toNat_natCast n
  have en : ¬ iI (n : Int) < 0 := by rw [iI_lt0 (by omega) (by omega)]; omega
  refine (q_wp (s := (pc, L, .int (iI n) :: st, mem, u)) hd).trans ?_
  simp only [pstp, h_newa]
  rw [if_pos ⟨hu, hm, en, by rw [ec]; exact h2⟩, ec, z_row (n := n)]
  rfl
theorem q_nab {n : Nat} (hd : decode (yB y) pc = .ok (.newarray .byte, 2)) (h2 : n ≤ 200) (hu : u + 1 ≤ lim) (hm : mem.length + 1 ≤ 900) : pR X d y lim Q (pc, L, .int (iI n) :: st, mem, u) = pR X d y lim Q (pc + 2, L, .ref mem.length :: st, mem ++ [.inr (.inl (1, n, row n (fun _ => 0)))], u + 1) := by
  have ec : (iI (n : Int)).toNatClampNeg = n := by rw [iI_clamp (by omega) (by omega)]; exact Int.toNat_natCast n
  have en : ¬ iI (n : Int) < 0 := by rw [iI_lt0 (by omega) (by omega)]; omega
  refine (q_wp (s := (pc, L, .int (iI n) :: st, mem, u)) hd).trans ?_
  simp only [pstp, h_newa]
  rw [if_pos ⟨hu, hm, en, by rw [ec]; exact h2⟩, ec, z_row (n := n)]
  rfl
theorem q_naq0 {ix n : Nat} (hd : decode (yB y) pc = .ok (.anewarray ix, 3)) (hc : pntt (yO y) ix = some 0) (h2 : n ≤ 200) (hu : u + 1 ≤ lim) (hm : mem.length + 1 ≤ 900) : pR X d y lim Q (pc, L, .int (iI n) :: st, mem, u) = pR X d y lim Q (pc + 3, L, .ref mem.length :: st, mem ++ [.inr (.inr (2, n, fun _ => none))], u + 1) := by
  have ec : (iI (n : Int)).toNatClampNeg = n := by rw [iI_clamp (by omega) (by omega)]; exact Int.toNat_natCast n
  have en : ¬ iI (n : Int) < 0 := by rw [iI_lt0 (by omega) (by omega)]; omega
  refine (q_wp (s := (pc, L, .int (iI n) :: st, mem, u)) hd).trans ?_
  simp only [pstp, hc, h_newq]
  rw [if_pos ⟨hu, hm, en, by rw [ec]; exact h2⟩, ec]
  rfl
theorem q_naq1 {ix n : Nat} (hd : decode (yB y) pc = .ok (.anewarray ix, 3)) (hc : pntt (yO y) ix = some 1) (h2 : n ≤ 200) (hu : u + 1 ≤ lim) (hm : mem.length + 1 ≤ 900) : pR X d y lim Q (pc, L, .int (iI n) :: st, mem, u) = pR X d y lim Q (pc + 3, L, .ref mem.length :: st, mem ++ [.inr (.inr (3, n, fun _ => none))], u + 1) := by
  have ec : (iI (n : Int)).toNatClampNeg = n := by rw [iI_clamp (by omega) (by omega)]; exact Int.toNat_natCast n
  have en : ¬ iI (n : Int) < 0 := by rw [iI_lt0 (by omega) (by omega)]; omega
  refine (q_wp (s := (pc, L, .int (iI n) :: st, mem, u)) hd).trans ?_
  simp only [pstp, hc, h_newq]
  rw [if_pos ⟨hu, hm, en, by rw [ec]; exact h2⟩, ec]
  rfl
def T0 : pME := .inl (3, [.int 0, .int 0, .int 0, .int 0, .int 0, .null, .null, .null])
def P0 : pME := .inl (0, [.int 0, .int 0, .int 0, .int 0, .int 0, .int 0])
def E0 : pME := .inl (2, [.null, .int 0, .int 0, .int 0, .int 0, .int 0])
def S0 : pME := .inl (1, [.int 0, .int 0, .null])
def W0 : pME := .inl (4, [.null, .null, .null, .int 0, .null, .null, .null])
def M0 : pME := .inl (5, [.null, .null, .null, .null, .int 0, .null, .null, .int 0, .int 0, .int 0, .int 0, .int 0, .long 0, .int 0, .null, .null, .null, .null])
theorem r0_5 (hu : u + 1 ≤ lim) (hm : mem.length + 1 ≤ 900) : pR X d 0 lim Q (5, L, st, mem, u) = pR X d 0 lim Q (8, L, .ref mem.length :: st, mem ++ [T0], u + 1) := q_new r0_5_d (by decide +kernel) hu hm
theorem r0_16 (hu : u + 1 ≤ lim) (hm : mem.length + 1 ≤ 900) : pR X d 0 lim Q (16, L, st, mem, u) = pR X d 0 lim Q (19, L, .ref mem.length :: st, mem ++ [T0], u + 1) := q_new r0_16_d (by decide +kernel) hu hm
theorem r0_27 (hu : u + 1 ≤ lim) (hm : mem.length + 1 ≤ 900) : pR X d 0 lim Q (27, L, st, mem, u) = pR X d 0 lim Q (30, L, .ref mem.length :: st, mem ++ [T0], u + 1) := q_new r0_27_d (by decide +kernel) hu hm
theorem r0_43 (hu : u + 1 ≤ lim) (hm : mem.length + 1 ≤ 900) : pR X d 0 lim Q (43, L, st, mem, u) = pR X d 0 lim Q (46, L, .ref mem.length :: st, mem ++ [E0], u + 1) := q_new r0_43_d (by decide +kernel) hu hm
theorem r0_55 (hu : u + 1 ≤ lim) (hm : mem.length + 1 ≤ 900) : pR X d 0 lim Q (55, L, .int (iI 4) :: st, mem, u) = pR X d 0 lim Q (58, L, .ref mem.length :: st, mem ++ [.inr (.inr (3, 4, fun _ => none))], u + 1) := q_naq1 (n := 4) r0_55_d (by decide +kernel) (by decide) hu hm
theorem r0_64 (hu : u + 1 ≤ lim) (hm : mem.length + 1 ≤ 900) : pR X d 0 lim Q (64, L, .int (iI 7) :: st, mem, u) = pR X d 0 lim Q (66, L, .ref mem.length :: st, mem ++ [.inr (.inl (0, 7, row 7 (fun _ => 0)))], u + 1) := q_nai (n := 7) r0_64_d (by decide) hu hm
theorem r0_81 (hu : u + 1 ≤ lim) (hm : mem.length + 1 ≤ 900) : pR X d 0 lim Q (81, L, st, mem, u) = pR X d 0 lim Q (84, L, .ref mem.length :: st, mem ++ [S0], u + 1) := q_new r0_81_d (by decide +kernel) hu hm
theorem r1_33 (hu : u + 1 ≤ lim) (hm : mem.length + 1 ≤ 900) : pR X d 1 lim Q (33, L, .int (iI 8) :: st, mem, u) = pR X d 1 lim Q (36, L, .ref mem.length :: st, mem ++ [.inr (.inr (2, 8, fun _ => none))], u + 1) := q_naq0 (n := 8) r1_33_d (by decide +kernel) (by decide) hu hm
theorem r1_42 (hu : u + 1 ≤ lim) (hm : mem.length + 1 ≤ 900) : pR X d 1 lim Q (42, L, .int (iI 6) :: st, mem, u) = pR X d 1 lim Q (44, L, .ref mem.length :: st, mem ++ [.inr (.inl (0, 6, row 6 (fun _ => 0)))], u + 1) := q_nai (n := 6) r1_42_d (by decide) hu hm
theorem r1_50 (hu : u + 1 ≤ lim) (hm : mem.length + 1 ≤ 900) : pR X d 1 lim Q (50, L, .int (iI 10) :: st, mem, u) = pR X d 1 lim Q (52, L, .ref mem.length :: st, mem ++ [.inr (.inl (0, 10, row 10 (fun _ => 0)))], u + 1) := q_nai (n := 10) r1_50_d (by decide) hu hm
theorem r1_68 (hu : u + 1 ≤ lim) (hm : mem.length + 1 ≤ 900) : pR X d 1 lim Q (68, L, st, mem, u) = pR X d 1 lim Q (71, L, .ref mem.length :: st, mem ++ [P0], u + 1) := q_new r1_68_d (by decide +kernel) hu hm
theorem r3_7 (hu : u + 1 ≤ lim) (hm : mem.length + 1 ≤ 900) : pR X d 3 lim Q (7, L, .int (iI 120) :: st, mem, u) = pR X d 3 lim Q (9, L, .ref mem.length :: st, mem ++ [.inr (.inl (0, 120, row 120 (fun _ => 0)))], u + 1) := q_nai (n := 120) r3_7_d (by decide) hu hm
theorem r4_17 (hu : u + 1 ≤ lim) (hm : mem.length + 1 ≤ 900) : pR X d 4 lim Q (17, L, .int (iI 40) :: st, mem, u) = pR X d 4 lim Q (19, L, .ref mem.length :: st, mem ++ [.inr (.inl (0, 40, row 40 (fun _ => 0)))], u + 1) := q_nai (n := 40) r4_17_d (by decide) hu hm
theorem r133_7 (hu : u + 1 ≤ lim) (hm : mem.length + 1 ≤ 900) : pR X d 133 lim Q (7, L, .int (iI 69) :: st, mem, u) = pR X d 133 lim Q (9, L, .ref mem.length :: st, mem ++ [.inr (.inl (0, 69, row 69 (fun _ => 0)))], u + 1) := q_nai (n := 69) r133_7_d (by decide) hu hm
theorem r133_15 (hu : u + 1 ≤ lim) (hm : mem.length + 1 ≤ 900) : pR X d 133 lim Q (15, L, .int (iI 69) :: st, mem, u) = pR X d 133 lim Q (17, L, .ref mem.length :: st, mem ++ [.inr (.inl (0, 69, row 69 (fun _ => 0)))], u + 1) := q_nai (n := 69) r133_15_d (by decide) hu hm
theorem r133_23 (hu : u + 1 ≤ lim) (hm : mem.length + 1 ≤ 900) : pR X d 133 lim Q (23, L, .int (iI 69) :: st, mem, u) = pR X d 133 lim Q (25, L, .ref mem.length :: st, mem ++ [.inr (.inl (0, 69, row 69 (fun _ => 0)))], u + 1) := q_nai (n := 69) r133_23_d (by decide) hu hm
theorem r133_31 (hu : u + 1 ≤ lim) (hm : mem.length + 1 ≤ 900) : pR X d 133 lim Q (31, L, .int (iI 69) :: st, mem, u) = pR X d 133 lim Q (33, L, .ref mem.length :: st, mem ++ [.inr (.inl (0, 69, row 69 (fun _ => 0)))], u + 1) := q_nai (n := 69) r133_31_d (by decide) hu hm
theorem r133_39 (hu : u + 1 ≤ lim) (hm : mem.length + 1 ≤ 900) : pR X d 133 lim Q (39, L, .int (iI 7) :: st, mem, u) = pR X d 133 lim Q (41, L, .ref mem.length :: st, mem ++ [.inr (.inl (0, 7, row 7 (fun _ => 0)))], u + 1) := q_nai (n := 7) r133_39_d (by decide) hu hm
theorem r133_47 (hu : u + 1 ≤ lim) (hm : mem.length + 1 ≤ 900) : pR X d 133 lim Q (47, L, .int (iI 120) :: st, mem, u) = pR X d 133 lim Q (49, L, .ref mem.length :: st, mem ++ [.inr (.inl (1, 120, row 120 (fun _ => 0)))], u + 1) := q_nab (n := 120) r133_47_d (by decide) hu hm
theorem r133_54 (hu : u + 1 ≤ lim) (hm : mem.length + 1 ≤ 900) : pR X d 133 lim Q (54, L, .int (iI 4) :: st, mem, u) = pR X d 133 lim Q (56, L, .ref mem.length :: st, mem ++ [.inr (.inl (0, 4, row 4 (fun _ => 0)))], u + 1) := q_nai (n := 4) r133_54_d (by decide) hu hm
theorem r133_61 (hu : u + 1 ≤ lim) (hm : mem.length + 1 ≤ 900) : pR X d 133 lim Q (61, L, .int (iI 4) :: st, mem, u) = pR X d 133 lim Q (63, L, .ref mem.length :: st, mem ++ [.inr (.inl (0, 4, row 4 (fun _ => 0)))], u + 1) := q_nai (n := 4) r133_61_d (by decide) hu hm
theorem r133_70 (hu : u + 1 ≤ lim) (hm : mem.length + 1 ≤ 900) : pR X d 133 lim Q (70, L, .int (iI 160) :: st, mem, u) = pR X d 133 lim Q (72, L, .ref mem.length :: st, mem ++ [.inr (.inl (0, 160, row 160 (fun _ => 0)))], u + 1) := q_nai (n := 160) r133_70_d (by decide) hu hm
theorem r133_78 (hu : u + 1 ≤ lim) (hm : mem.length + 1 ≤ 900) : pR X d 133 lim Q (78, L, .int (iI 40) :: st, mem, u) = pR X d 133 lim Q (80, L, .ref mem.length :: st, mem ++ [.inr (.inl (0, 40, row 40 (fun _ => 0)))], u + 1) := q_nai (n := 40) r133_78_d (by decide) hu hm
theorem r229_0 (hu : u + 1 ≤ lim) (hm : mem.length + 1 ≤ 900) : pR X d 229 lim Q (0, L, st, mem, u) = pR X d 229 lim Q (3, L, .ref mem.length :: st, mem ++ [W0], u + 1) := q_new r229_0_d (by decide +kernel) hu hm
theorem r229_8 (hu : u + 1 ≤ lim) (hm : mem.length + 1 ≤ 900) : pR X d 229 lim Q (8, L, st, mem, u) = pR X d 229 lim Q (11, L, .ref mem.length :: st, mem ++ [M0], u + 1) := q_new r229_8_d (by decide +kernel) hu hm
end
section
variable {M l mem mem' : List pME} {a i b n k : Nat} {v : pME}
theorem ap_at (h : M.length = a) : (M ++ l)[a + i]? = l[i]? := by
  rw [← h, List.getElem?_append_right (Nat.le_add_right _ _), Nat.add_sub_cancel_left]
theorem ap_at0 (h : M.length = a) : (M ++ l)[a]? = l[0]? := ap_at (i := 0) h
theorem ap_set (h : M.length = a) : (M ++ l).set (a + i) v = M ++ l.set i v := by
  rw [← h, List.set_append_right _ _ (Nat.le_add_right _ _), Nat.add_sub_cancel_left]
theorem ap_set0 (h : M.length = a) : (M ++ l).set a v = M ++ l.set 0 v := ap_set (i := 0) h
theorem pf_ofi {y ci : Nat} {fs : List Value} {v : Value} {KM : List pME → Prop} (h : mem[a]? = some (.inl (ci, fs))) (hk : k < fs.length) (hn : narrow (cY ci k) v = v) (hf : fits (cY ci k) v = true) (hfin : (mi y).2.1 = "<init>" ∧ yO y = ci) (hm : mem.set a (.inl (ci, fs.set k v)) = mem') : pf y mem a ci k v KM = KM mem' := by
  unfold pf; rw [h, ← hm]
  exact propext ⟨fun q => q.2, fun q => ⟨⟨rfl, hk, hn, hf, Or.inr hfin⟩, q⟩⟩
theorem wa_of {f : Nat → Option Nat} {j : Int} {fs : List Value} {KM : List pME → Prop} (h : mem[a]? = some (.inr (.inr (k, n, f)))) (hk : k = 2 ∨ k = 3) (h3 : n < 2147483648) (h1 : 0 ≤ j) (h2 : j < n) (hv : mem[b]? = some (.inl (rkC k, fs))) (hm : mem.set a (.inr (.inr (k, n, va_up f j.toNat (some b)))) = mem') : wa mem a (iI j) b KM = KM mem' := by
  unfold wa; rw [h, ← hm]
  have ec : (iI j).toNatClampNeg = j.toNat := iI_clamp h1 (by omega)
  have en : ¬ iI j < 0 := by rw [iI_lt0 (by omega) (by omega)]; omega
  show (¬ ((iI j < 0 ∨ n ≤ (iI j).toNatClampNeg) ∨ ¬ (k = 2 ∨ k = 3)) ∧ ∃ ci fs, mem[b]? = some (.inl (ci, fs)) ∧ ci = rkC k ∧ KM (mem.set a (.inr (.inr (k, n, va_up f (iI j).toNatClampNeg (some b)))))) = _
  rw [ec]
  exact propext ⟨fun ⟨_, _, _, _, _, q⟩ => q, fun q => ⟨fun z => z.elim (fun y => y.elim en (fun y2 => absurd y2 (by omega))) (fun y => y hk), rkC k, fs, hv, rfl, q⟩⟩
end
theorem fin_0 : (mi 0).2.1 = "<init>" ∧ yO 0 = 4 := by decide +kernel
theorem fin_1 : (mi 1).2.1 = "<init>" ∧ yO 1 = 3 := by decide +kernel
theorem fin_3 : (mi 3).2.1 = "<init>" ∧ yO 3 = 2 := by decide +kernel
theorem fin_4 : (mi 4).2.1 = "<init>" ∧ yO 4 = 1 := by decide +kernel
theorem fin_133 : (mi 133).2.1 = "<init>" ∧ yO 133 = 5 := by decide +kernel
/-- the numbers at the beginning -/
def D0 : Int → Int := fun j => if j = 2 then 1 else if j = 3 then 19 else if 5 ≤ j ∧ j < 11 then 100 else 0
def Z0 : Int → Int := fun _ => 0
section
variable {X : pXX} {d : Nat} {K : Option Value → List pME → Prop} {M l : List pME} {a i k : Nat} {KM : List pME → Prop} {KV : Value → Prop} {fs : List Value} {v : Value}
theorem pI1_0 {z : Int} (hM : M.length = a) (hk : 0 < fs.length) : pf 1 (M ++ (.inl (3, fs) :: l)) a 3 0 (.int (iI z)) KM = KM (M ++ (.inl (3, fs.set 0 (.int (iI z))) :: l)) := pf_ofi (ap_at0 hM) hk rfl rfl fin_1 (ap_set0 hM)
theorem pI1_1 {z : Int} (hM : M.length = a) (hk : 1 < fs.length) : pf 1 (M ++ (.inl (3, fs) :: l)) a 3 1 (.int (iI z)) KM = KM (M ++ (.inl (3, fs.set 1 (.int (iI z))) :: l)) := pf_ofi (ap_at0 hM) hk rfl rfl fin_1 (ap_set0 hM)
theorem pI1_2 {z : Int} (hM : M.length = a) (hk : 2 < fs.length) : pf 1 (M ++ (.inl (3, fs) :: l)) a 3 2 (.int (iI z)) KM = KM (M ++ (.inl (3, fs.set 2 (.int (iI z))) :: l)) := pf_ofi (ap_at0 hM) hk rfl rfl fin_1 (ap_set0 hM)
theorem pI1_3 {z : Int} (hM : M.length = a) (hk : 3 < fs.length) : pf 1 (M ++ (.inl (3, fs) :: l)) a 3 3 (.int (iI z)) KM = KM (M ++ (.inl (3, fs.set 3 (.int (iI z))) :: l)) := pf_ofi (ap_at0 hM) hk rfl rfl fin_1 (ap_set0 hM)
theorem pI1_4 {z : Int} (hM : M.length = a) (hk : 4 < fs.length) : pf 1 (M ++ (.inl (3, fs) :: l)) a 3 4 (.int (iI z)) KM = KM (M ++ (.inl (3, fs.set 4 (.int (iI z))) :: l)) := pf_ofi (ap_at0 hM) hk rfl rfl fin_1 (ap_set0 hM)
theorem pI1_5 {b : Nat} (hM : M.length = a) (hk : 5 < fs.length) : pf 1 (M ++ (.inl (3, fs) :: l)) a 3 5 (.ref b) KM = KM (M ++ (.inl (3, fs.set 5 (.ref b)) :: l)) := pf_ofi (ap_at0 hM) hk rfl rfl fin_1 (ap_set0 hM)
theorem pI1_6 {b : Nat} (hM : M.length = a) (hk : 6 < fs.length) : pf 1 (M ++ (.inl (3, fs) :: l)) a 3 6 (.ref b) KM = KM (M ++ (.inl (3, fs.set 6 (.ref b)) :: l)) := pf_ofi (ap_at0 hM) hk rfl rfl fin_1 (ap_set0 hM)
theorem pI1_7 {b : Nat} (hM : M.length = a) (hk : 7 < fs.length) : pf 1 (M ++ (.inl (3, fs) :: l)) a 3 7 (.ref b) KM = KM (M ++ (.inl (3, fs.set 7 (.ref b)) :: l)) := pf_ofi (ap_at0 hM) hk rfl rfl fin_1 (ap_set0 hM)
theorem pI3_0 {b : Nat} (hM : M.length = a) (hk : 0 < fs.length) : pf 3 (M ++ (.inl (2, fs) :: l)) a 2 0 (.ref b) KM = KM (M ++ (.inl (2, fs.set 0 (.ref b)) :: l)) := pf_ofi (ap_at0 hM) hk rfl rfl fin_3 (ap_set0 hM)
theorem pI3_1 {z : Int} (hM : M.length = a) (hk : 1 < fs.length) : pf 3 (M ++ (.inl (2, fs) :: l)) a 2 1 (.int (iI z)) KM = KM (M ++ (.inl (2, fs.set 1 (.int (iI z))) :: l)) := pf_ofi (ap_at0 hM) hk rfl rfl fin_3 (ap_set0 hM)
theorem pI3_2 {z : Int} (hM : M.length = a) (hk : 2 < fs.length) : pf 3 (M ++ (.inl (2, fs) :: l)) a 2 2 (.int (iI z)) KM = KM (M ++ (.inl (2, fs.set 2 (.int (iI z))) :: l)) := pf_ofi (ap_at0 hM) hk rfl rfl fin_3 (ap_set0 hM)
theorem pI3_3 {z : Int} (hM : M.length = a) (hk : 3 < fs.length) : pf 3 (M ++ (.inl (2, fs) :: l)) a 2 3 (.int (iI z)) KM = KM (M ++ (.inl (2, fs.set 3 (.int (iI z))) :: l)) := pf_ofi (ap_at0 hM) hk rfl rfl fin_3 (ap_set0 hM)
theorem pI3_4 {z : Int} (hM : M.length = a) (hk : 4 < fs.length) : pf 3 (M ++ (.inl (2, fs) :: l)) a 2 4 (.int (iI z)) KM = KM (M ++ (.inl (2, fs.set 4 (.int (iI z))) :: l)) := pf_ofi (ap_at0 hM) hk rfl rfl fin_3 (ap_set0 hM)
theorem pI3_5 {z : Int} (hM : M.length = a) (hk : 5 < fs.length) : pf 3 (M ++ (.inl (2, fs) :: l)) a 2 5 (.int (iI z)) KM = KM (M ++ (.inl (2, fs.set 5 (.int (iI z))) :: l)) := pf_ofi (ap_at0 hM) hk rfl rfl fin_3 (ap_set0 hM)
theorem pI4_0 {z : Int} (hM : M.length = a) (hk : 0 < fs.length) : pf 4 (M ++ (.inl (1, fs) :: l)) a 1 0 (.int (iI z)) KM = KM (M ++ (.inl (1, fs.set 0 (.int (iI z))) :: l)) := pf_ofi (ap_at0 hM) hk rfl rfl fin_4 (ap_set0 hM)
theorem pI4_1 {z : Int} (hM : M.length = a) (hk : 1 < fs.length) : pf 4 (M ++ (.inl (1, fs) :: l)) a 1 1 (.int (iI z)) KM = KM (M ++ (.inl (1, fs.set 1 (.int (iI z))) :: l)) := pf_ofi (ap_at0 hM) hk rfl rfl fin_4 (ap_set0 hM)
theorem pI4_2 {b : Nat} (hM : M.length = a) (hk : 2 < fs.length) : pf 4 (M ++ (.inl (1, fs) :: l)) a 1 2 (.ref b) KM = KM (M ++ (.inl (1, fs.set 2 (.ref b)) :: l)) := pf_ofi (ap_at0 hM) hk rfl rfl fin_4 (ap_set0 hM)
theorem pI133_0 {b : Nat} (hM : M.length = a) (hk : 0 < fs.length) : pf 133 (M ++ (.inl (5, fs) :: l)) a 5 0 (.ref b) KM = KM (M ++ (.inl (5, fs.set 0 (.ref b)) :: l)) := pf_ofi (ap_at0 hM) hk rfl rfl fin_133 (ap_set0 hM)
theorem pI133_1 {b : Nat} (hM : M.length = a) (hk : 1 < fs.length) : pf 133 (M ++ (.inl (5, fs) :: l)) a 5 1 (.ref b) KM = KM (M ++ (.inl (5, fs.set 1 (.ref b)) :: l)) := pf_ofi (ap_at0 hM) hk rfl rfl fin_133 (ap_set0 hM)
theorem pI133_2 {b : Nat} (hM : M.length = a) (hk : 2 < fs.length) : pf 133 (M ++ (.inl (5, fs) :: l)) a 5 2 (.ref b) KM = KM (M ++ (.inl (5, fs.set 2 (.ref b)) :: l)) := pf_ofi (ap_at0 hM) hk rfl rfl fin_133 (ap_set0 hM)
theorem pI133_3 {b : Nat} (hM : M.length = a) (hk : 3 < fs.length) : pf 133 (M ++ (.inl (5, fs) :: l)) a 5 3 (.ref b) KM = KM (M ++ (.inl (5, fs.set 3 (.ref b)) :: l)) := pf_ofi (ap_at0 hM) hk rfl rfl fin_133 (ap_set0 hM)
theorem pI133_5 {b : Nat} (hM : M.length = a) (hk : 5 < fs.length) : pf 133 (M ++ (.inl (5, fs) :: l)) a 5 5 (.ref b) KM = KM (M ++ (.inl (5, fs.set 5 (.ref b)) :: l)) := pf_ofi (ap_at0 hM) hk rfl rfl fin_133 (ap_set0 hM)
theorem pI133_6 {b : Nat} (hM : M.length = a) (hk : 6 < fs.length) : pf 133 (M ++ (.inl (5, fs) :: l)) a 5 6 (.ref b) KM = KM (M ++ (.inl (5, fs.set 6 (.ref b)) :: l)) := pf_ofi (ap_at0 hM) hk rfl rfl fin_133 (ap_set0 hM)
theorem pI133_7 {z : Int} (hM : M.length = a) (hk : 7 < fs.length) : pf 133 (M ++ (.inl (5, fs) :: l)) a 5 7 (.int (iI z)) KM = KM (M ++ (.inl (5, fs.set 7 (.int (iI z))) :: l)) := pf_ofi (ap_at0 hM) hk rfl rfl fin_133 (ap_set0 hM)
theorem pI133_8 {z : Int} (hM : M.length = a) (hk : 8 < fs.length) : pf 133 (M ++ (.inl (5, fs) :: l)) a 5 8 (.int (iI z)) KM = KM (M ++ (.inl (5, fs.set 8 (.int (iI z))) :: l)) := pf_ofi (ap_at0 hM) hk rfl rfl fin_133 (ap_set0 hM)
theorem pI133_9 {z : Int} (hM : M.length = a) (hk : 9 < fs.length) : pf 133 (M ++ (.inl (5, fs) :: l)) a 5 9 (.int (iI z)) KM = KM (M ++ (.inl (5, fs.set 9 (.int (iI z))) :: l)) := pf_ofi (ap_at0 hM) hk rfl rfl fin_133 (ap_set0 hM)
theorem pI133_10 {z : Int} (hM : M.length = a) (hk : 10 < fs.length) : pf 133 (M ++ (.inl (5, fs) :: l)) a 5 10 (.int (iI z)) KM = KM (M ++ (.inl (5, fs.set 10 (.int (iI z))) :: l)) := pf_ofi (ap_at0 hM) hk rfl rfl fin_133 (ap_set0 hM)
theorem pI133_11 {z : Int} (hM : M.length = a) (hk : 11 < fs.length) : pf 133 (M ++ (.inl (5, fs) :: l)) a 5 11 (.int (iI z)) KM = KM (M ++ (.inl (5, fs.set 11 (.int (iI z))) :: l)) := pf_ofi (ap_at0 hM) hk rfl rfl fin_133 (ap_set0 hM)
theorem pI133_14 {b : Nat} (hM : M.length = a) (hk : 14 < fs.length) : pf 133 (M ++ (.inl (5, fs) :: l)) a 5 14 (.ref b) KM = KM (M ++ (.inl (5, fs.set 14 (.ref b)) :: l)) := pf_ofi (ap_at0 hM) hk rfl rfl fin_133 (ap_set0 hM)
theorem pI133_15 {b : Nat} (hM : M.length = a) (hk : 15 < fs.length) : pf 133 (M ++ (.inl (5, fs) :: l)) a 5 15 (.ref b) KM = KM (M ++ (.inl (5, fs.set 15 (.ref b)) :: l)) := pf_ofi (ap_at0 hM) hk rfl rfl fin_133 (ap_set0 hM)
theorem pI133_16 {b : Nat} (hM : M.length = a) (hk : 16 < fs.length) : pf 133 (M ++ (.inl (5, fs) :: l)) a 5 16 (.ref b) KM = KM (M ++ (.inl (5, fs.set 16 (.ref b)) :: l)) := pf_ofi (ap_at0 hM) hk rfl rfl fin_133 (ap_set0 hM)
theorem pI133_17 {b : Nat} (hM : M.length = a) (hk : 17 < fs.length) : pf 133 (M ++ (.inl (5, fs) :: l)) a 5 17 (.ref b) KM = KM (M ++ (.inl (5, fs.set 17 (.ref b)) :: l)) := pf_ofi (ap_at0 hM) hk rfl rfl fin_133 (ap_set0 hM)
theorem c_pers0 {mem : List pME} {b : Nat} : Cw X (d + 2) 2 [.ref b] mem K = K none mem := by
  simp (disch := omega) only [n2, r2_0, r2_1, r2_4]
def TT (a : Nat) : pME := .inl (3, [.int (iI 19), .int (iI 0), .int (iI 0), .int (iI 1), .int (iI 0), .ref (a + 1), .ref (a + 2), .ref (a + 3)])
def PA (a k : Nat) : pME := .inr (.inr (2, 8, fun i => if i < k then some (a + 4 + i) else none))
def R6 (k : Nat) : pME := .inr (.inl (0, 6, row 6 (fun j => if j < k then 100 else 0)))
def R10 (k : Nat) : pME := .inr (.inl (0, 10, row 10 (fun j => if j < k then -1 else 0)))
theorem t_1 (hM : M.length = a) (ha : a + 12 ≤ 900) : Cw X (d + 3) 1 [.ref a] (M ++ [T0]) K = pR X (d + 2) 1 11 K (57, [some (.ref a), some (.int (iI 0))], [], M ++ [TT a, .inr (.inr (2, 8, fun _ => none)), .inr (.inl (0, 6, row 6 (fun _ => 0))), .inr (.inl (0, 10, row 10 (fun _ => 0)))], 3) := by
  unfold T0 TT
  simp (disch := first | omega | decide | (simp only [List.length_append, List.length_cons, List.length_nil]; omega)) only [n1, r1_0, r1_1, r1_4, r1_5, r1_7, r1_10, r1_11, r1_12, r1_15, r1_16, r1_17, r1_20, r1_21, r1_22, r1_25, r1_26, r1_27, r1_30, r1_31, r1_36, r1_39, r1_40, r1_44, r1_47, r1_48, r1_52, r1_55, r1_56, r1_58, r1_60, r1_63, r1_64, r1_67, r1_71, r1_72, r1_75, r1_76, r1_79, r1_82, r1_83, r1_85, r1_87, r1_90, r1_91, r1_94, r1_95, r1_97, r1_98, r1_101, r1_104, r1_105, r1_107, r1_109, r1_112, r1_113, r1_116, r1_117, r1_118, r1_119, r1_122, r1_125, r1_33, r1_42, r1_50, pI1_0 hM, pI1_1 hM, pI1_2 hM, pI1_3 hM, pI1_4 hM, pI1_5 hM, pI1_6 hM, pI1_7 hM, List.append_assoc, List.cons_append, List.nil_append, List.length_append, List.length_cons, List.length_nil, hM, Nat.reduceAdd, Nat.zero_add, List.set_cons_zero, List.set_cons_succ, cl1]
end

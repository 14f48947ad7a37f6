/-! the class's towns in the memory -/
theorem eight {p : Int} (h1 : 0 ≤ p) (h2 : p < 8) : p = 0 ∨ p = 1 ∨ p = 2 ∨ p = 3 ∨ p = 4 ∨ p = 5 ∨ p = 6 ∨ p = 7 := by omega
theorem pe_live {d g : Int → Int} {p : Int} (h : p < d 0) : pe d g p = PO (d (11 + p)) (d (19 + p)) (d (27 + p)) (d (35 + p)) (d (43 + p)) (d (51 + p)) := by
  unfold pe pv PO; simp only [if_pos h]
theorem pe_dead {d g : Int → Int} {p : Int} (h : ¬ p < d 0) : pe d g p = PO (g (0 + p)) (g (8 + p)) (g (16 + p)) (g (24 + p)) (g (32 + p)) (g (40 + p)) := by
  unfold pe pv PO; simp only [if_neg h]
/-- a town told anew -/
theorem tn_ext {t : Nat} {d g d' g' : Int → Int} (h0 : d' 0 = d 0) (h1 : d' 1 = d 1) (h2 : d' 2 = d 2) (h3 : d' 3 = d 3) (h4 : d' 4 = d 4) (hl : ∀ k, 0 ≤ k → k < 6 → d' (5 + k) = d (5 + k)) (hs : ∀ k, 0 ≤ k → k < 10 → d' (59 + k) = d (59 + k)) (hp : ∀ j, 0 ≤ j → j < 8 → pe d' g' j = pe d g j) : tn t d' g' = tn t d g := by
  have r1 : row 6 (fun k => d' (5 + k)) = row 6 (fun k => d (5 + k)) := row_cong fun k k1 k2 => hl k k1 k2
  have r2 : row 10 (fun k => d' (59 + k) - 1) = row 10 (fun k => d (59 + k) - 1) := row_cong fun k k1 k2 => by rw [hs k k1 k2]
  unfold tn
  rw [r1, r2, h0, h1, h2, h3, h4]
  simp (disch := omega) only [hp]
theorem tn_setp {t : Nat} {d g d' g' : Int → Int} {p : Int} {E : pME} (p1 : 0 ≤ p) (p2 : p < 8) (hE : E = pe d' g' p) (h0 : d' 0 = d 0) (h1 : d' 1 = d 1) (h2 : d' 2 = d 2) (h3 : d' 3 = d 3) (h4 : d' 4 = d 4) (hl : ∀ k, 0 ≤ k → k < 6 → d' (5 + k) = d (5 + k)) (hs : ∀ k, 0 ≤ k → k < 10 → d' (59 + k) = d (59 + k)) (hp : ∀ j, 0 ≤ j → j < 8 → j ≠ p → pe d' g' j = pe d g j) : (tn t d g).set (4 + p.toNat) E = tn t d' g' := by
  have r1 : row 6 (fun k => d' (5 + k)) = row 6 (fun k => d (5 + k)) := row_cong fun k k1 k2 => hl k k1 k2
  have r2 : row 10 (fun k => d' (59 + k) - 1) = row 10 (fun k => d (59 + k) - 1) := row_cong fun k k1 k2 => by rw [hs k k1 k2]
  unfold tn
  rw [r1, r2, h0, h1, h2, h3, h4, hE]
  rcases eight p1 p2 with rfl | rfl | rfl | rfl | rfl | rfl | rfl | rfl <;> simp (disch := omega) only [hp] <;> rfl
/-- both say the same of everybody -/
def Bal (d g : Int → Int) : Prop := ∀ p w, 0 ≤ p → p < 8 → 0 ≤ w → w < 6 → d (11 + 8 * w + p) = g (8 * w + p)
theorem Bal_pe {d g : Int → Int} {p : Int} (h : Bal d g) (p1 : 0 ≤ p) (p2 : p < 8) : pe d g p = PO (d (11 + p)) (d (19 + p)) (d (27 + p)) (d (35 + p)) (d (43 + p)) (d (51 + p)) := by
  by_cases c : p < d 0
  · exact pe_live c
  · rw [pe_dead c]
    have q0 := h p 0 p1 p2 (by omega) (by omega)
    have q1 := h p 1 p1 p2 (by omega) (by omega)
    have q2 := h p 2 p1 p2 (by omega) (by omega)
    have q3 := h p 3 p1 p2 (by omega) (by omega)
    have q4 := h p 4 p1 p2 (by omega) (by omega)
    have q5 := h p 5 p1 p2 (by omega) (by omega)
    simp only [Int.reduceMul, Int.reduceAdd] at q0 q1 q2 q3 q4 q5
    rw [q0, q1, q2, q3, q4, q5]
/-- everybody, the live and the others -/
def mgd (d g : Int → Int) : Int → Int := fun j => if 11 ≤ j ∧ j < 59 ∧ ¬ (j - 11) % 8 < d 0 then g (j - 11) else d j
def mgg (d g : Int → Int) : Int → Int := fun j => if 0 ≤ j ∧ j < 48 ∧ j % 8 < d 0 then d (11 + j) else g j
theorem mg_Bal {d g : Int → Int} : Bal (mgd d g) (mgg d g) := by
  intro p w p1 p2 w1 w2
  unfold mgd mgg
  have e : (11 + 8 * w + p - 11) % 8 = p := by omega
  have e2 : (8 * w + p) % 8 = p := by omega
  by_cases c : p < d 0
  · rw [if_neg (by omega), if_pos (by omega)]; congr 1; omega
  · rw [if_pos (by omega), if_neg (by omega)]; congr 1; omega
theorem mg_live {d g : Int → Int} {j : Int} (h : ¬ (11 ≤ j ∧ j < 59 ∧ ¬ (j - 11) % 8 < d 0)) : mgd d g j = d j := if_neg h
theorem mg_tn {t : Nat} {d g : Int → Int} : tn t (mgd d g) (mgg d g) = tn t d g := by
  have h0 : mgd d g 0 = d 0 := mg_live (by omega)
  refine tn_ext h0 (mg_live (by omega)) (mg_live (by omega)) (mg_live (by omega)) (mg_live (by omega)) (fun k k1 k2 => mg_live (by omega)) (fun k k1 k2 => mg_live (by omega)) (fun p p1 p2 => ?_)
  by_cases c : p < d 0
  · rw [pe_live c, pe_live (by rw [h0]; exact c)]
    rw [mg_live (by omega), mg_live (by omega), mg_live (by omega), mg_live (by omega), mg_live (by omega), mg_live (by omega)]
  · rw [pe_dead c, pe_dead (by rw [h0]; exact c)]
    have q : ∀ w, 0 ≤ w → w < 6 → mgg d g (8 * w + p) = g (8 * w + p) := fun w w1 w2 => if_neg (by omega)
    have q0 := q 0 (by omega) (by omega)
    have q1 := q 1 (by omega) (by omega)
    have q2 := q 2 (by omega) (by omega)
    have q3 := q 3 (by omega) (by omega)
    have q4 := q 4 (by omega) (by omega)
    have q5 := q 5 (by omega) (by omega)
    simp only [Int.reduceMul] at q0 q1 q2 q3 q4 q5
    rw [q0, q1, q2, q3, q4, q5]
theorem ra_of {mem : List pME} {a n : Nat} {f : Nat → Option Nat} {j : Int} {b : Nat} {KN : Nat → Prop} {k : Nat} (h : mem[a]? = some (.inr (.inr (k, n, f)))) (hk : k = 2 ∨ k = 3) (h3 : n < 2147483648) (h1 : 0 ≤ j) (h2 : j < n) (hf : f j.toNat = some b) : ra mem a (iI j) KN = KN b := by
  unfold ra; rw [h]
  have e : (iI j).toNatClampNeg = j.toNat := iI_clamp h1 (by omega)
  have e0 : ¬ iI j < 0 := by rw [iI_lt0 (by omega) (by omega)]; omega
  show (¬ ((iI j < 0 ∨ n ≤ (iI j).toNatClampNeg) ∨ ¬ (k = 2 ∨ k = 3)) ∧ ∃ b, f (iI j).toNatClampNeg = some b ∧ KN b) = _
  rw [e, hf]
  exact propext ⟨fun ⟨_, z, hz, q⟩ => by cases hz; exact q, fun q => ⟨fun z => by rcases z with (z | z) | z; exact e0 z; omega; exact z hk, b, rfl, q⟩⟩
theorem cpy_of {mem mem' : List pME} {a b n0 n1 : Nat} {f g g' : Int → Int} {sp dp n : Int} {K : List pME → Prop} (ha : mem[a]? = some (.inr (.inl (0, n0, row n0 f)))) (hb : mem[b]? = some (.inr (.inl (0, n1, row n1 g)))) (h1 : 0 ≤ sp) (h2 : 0 ≤ dp) (h3 : 0 ≤ n) (h4 : sp + n ≤ n0) (h5 : dp + n ≤ n1) (h6 : n0 < 2147483648) (h7 : n1 < 2147483648) (hg : ∀ k, 0 ≤ k → k < n1 → g' k = if dp ≤ k ∧ k < dp + n then f (sp + (k - dp)) else g k) (hm : mem.set b (.inr (.inl (0, n1, row n1 g'))) = mem') : cpy mem a b (iI sp) (iI dp) (iI n) K = K mem' := by
  unfold cpy; rw [ha, hb]
  have e1 : (iI sp).toNatClampNeg = sp.toNat := iI_clamp h1 (by omega)
  have e2 : (iI dp).toNatClampNeg = dp.toNat := iI_clamp h2 (by omega)
  have e3 : (iI n).toNatClampNeg = n.toNat := iI_clamp h3 (by omega)
  have f1 : ¬ iI sp < 0 := by rw [iI_lt0 (by omega) (by omega)]; omega
  have f2 : ¬ iI dp < 0 := by rw [iI_lt0 (by omega) (by omega)]; omega
  have f3 : ¬ iI n < 0 := by rw [iI_lt0 (by omega) (by omega)]; omega
  show ((¬ iI sp < 0 ∧ ¬ iI dp < 0 ∧ ¬ iI n < 0 ∧ (iI sp).toNatClampNeg + (iI n).toNatClampNeg ≤ n0 ∧ (iI dp).toNatClampNeg + (iI n).toNatClampNeg ≤ n1) ∧ K (mem.set b (.inr (.inl (0, n1, va_cpy (row n0 f) (row n1 g) (iI sp).toNatClampNeg (iI dp).toNatClampNeg (iI n).toNatClampNeg))))) = _
  rw [e1, e2, e3, ← hm]
  have er : va_cpy (row n0 f) (row n1 g) sp.toNat dp.toNat n.toNat = row n1 g' := by
    funext k
    unfold va_cpy row
    by_cases c : k < n1
    · have hgk := hg k (by omega) (by omega)
      simp only [if_pos c, hgk]
      by_cases c2 : dp.toNat ≤ k ∧ k < dp.toNat + n.toNat
      · rw [if_pos c2, if_pos (by omega), if_pos (by omega)]
        congr 2; omega
      · rw [if_neg c2, if_neg (by omega)]
    · simp only [if_neg c]
      rw [if_neg (by omega)]
  rw [er]
  exact propext ⟨fun q => q.2, fun q => ⟨⟨f1, f2, f3, by omega, by omega⟩, q⟩⟩
section
variable {X : pXX} {d : Nat} {x m : Nat → Int → Int} {K : Option Value → List pME → Prop} {KV : Value → Prop} {KI : Int32 → Prop} {KM : List pME → Prop} {KN : Nat → Prop} {j p v : Int} {y : Nat} {d' g' : Int → Int} {v0 v1 v2 v3 v4 v5 : Int}
theorem MEM_len : (MEM x m).length = 60 := rfl

theorem T1_pe (h1 : 0 ≤ p) (h2 : p < 8) : (MEM x m)[5 + p.toNat]? = some (pe (x 0) (x 1) p) := by
  rcases eight h1 h2 with rfl | rfl | rfl | rfl | rfl | rfl | rfl | rfl <;> rfl
theorem T1_PM (h1 : 0 ≤ p) (h2 : p < x 0 0) (h8 : x 0 0 ≤ 8) : PM (MEM x m) (5 + p.toNat) (x 0 (11 + p)) (x 0 (19 + p)) (x 0 (27 + p)) (x 0 (35 + p)) (x 0 (43 + p)) (x 0 (51 + p)) = MEM x m := by
  unfold PM
  have e := T1_pe (x := x) (m := m) h1 (by omega)
  rw [pe_live h2] at e
  apply List.ext_getElem?
  intro i
  by_cases q : i = 5 + p.toNat
  · subst q; rw [List.getElem?_set_self (by rw [MEM_len]; omega), e]
  · rw [List.getElem?_set_ne (Ne.symm q)]
theorem T1_tn {E : pME} (h1 : 0 ≤ p) (h2 : p < 8) (h : (tn 1 (x 0) (x 1)).set (4 + p.toNat) E = tn 1 d' g') : (MEM x m).set (5 + p.toNat) E = MEM (mu (mu x 0 d') 1 g') m := by
  have e : MEM (mu (mu x 0 d') 1 g') m = (MEM x m).take 1 ++ (tn 1 d' g' ++ (MEM x m).drop 13) := rfl
  rw [e, ← h]
  rcases eight h1 h2 with rfl | rfl | rfl | rfl | rfl | rfl | rfl | rfl <;> rfl
theorem T1_sc {E : pME} (h : (tn 1 (x 0) (x 1)).set 0 E = tn 1 d' g') : (MEM x m).set 1 E = MEM (mu (mu x 0 d') 1 g') m := by
  have e : MEM (mu (mu x 0 d') 1 g') m = (MEM x m).take 1 ++ (tn 1 d' g' ++ (MEM x m).drop 13) := rfl
  rw [e, ← h]; rfl
theorem T1_eq (h : tn 1 d' g' = tn 1 (x 0) (x 1)) : MEM (mu (mu x 0 d') 1 g') m = MEM x m := by
  have e : MEM (mu (mu x 0 d') 1 g') m = (MEM x m).take 1 ++ (tn 1 d' g' ++ (MEM x m).drop 13) := rfl
  rw [e, h]; rfl
theorem mu_i0 : mu (mu x 0 d') 1 (x 1) = mu x 0 d' := by
  funext k; unfold mu; by_cases h : k = 0 <;> by_cases h2 : k = 1 <;> simp [h, h2]
theorem T1_live (h1 : 0 ≤ p) (h2 : p < x 0 0) (h8 : x 0 0 ≤ 8) (hd : ∀ j, j ≠ 11 + p → j ≠ 19 + p → j ≠ 27 + p → j ≠ 35 + p → j ≠ 43 + p → j ≠ 51 + p → d' j = x 0 j) (e0 : d' (11 + p) = v0) (e1 : d' (19 + p) = v1) (e2 : d' (27 + p) = v2) (e3 : d' (35 + p) = v3) (e4 : d' (43 + p) = v4) (e5 : d' (51 + p) = v5) : PM (MEM x m) (5 + p.toNat) v0 v1 v2 v3 v4 v5 = MEM (mu x 0 d') m := by
  subst e0 e1 e2 e3 e4 e5
  unfold PM
  have hh : ∀ j, j < 11 ∨ 59 ≤ j → d' j = x 0 j := fun j hj => hd j (by omega) (by omega) (by omega) (by omega) (by omega) (by omega)
  have h0 : d' 0 = x 0 0 := hh 0 (by omega)
  rw [← mu_i0]
  refine T1_tn h1 (by omega) (tn_setp h1 (by omega) (pe_live (by rw [h0]; exact h2)).symm h0 (hh 1 (by omega)) (hh 2 (by omega)) (hh 3 (by omega)) (hh 4 (by omega)) (fun k k1 k2 => hh _ (by omega)) (fun k k1 k2 => hh _ (by omega)) (fun j j1 j2 j3 => ?_))
  by_cases c : j < x 0 0
  · rw [pe_live c, pe_live (by rw [h0]; exact c)]
    rw [hd (11 + j) (by omega) (by omega) (by omega) (by omega) (by omega) (by omega), hd (19 + j) (by omega) (by omega) (by omega) (by omega) (by omega) (by omega), hd (27 + j) (by omega) (by omega) (by omega) (by omega) (by omega) (by omega), hd (35 + j) (by omega) (by omega) (by omega) (by omega) (by omega) (by omega), hd (43 + j) (by omega) (by omega) (by omega) (by omega) (by omega) (by omega), hd (51 + j) (by omega) (by omega) (by omega) (by omega) (by omega) (by omega)]
  · rw [pe_dead c, pe_dead (by rw [h0]; exact c)]
theorem T1_both (h1 : 0 ≤ p) (h2 : p < 8) (hd : ∀ j, j ≠ 11 + p → j ≠ 19 + p → j ≠ 27 + p → j ≠ 35 + p → j ≠ 43 + p → j ≠ 51 + p → d' j = x 0 j) (e0 : d' (11 + p) = v0) (e1 : d' (19 + p) = v1) (e2 : d' (27 + p) = v2) (e3 : d' (35 + p) = v3) (e4 : d' (43 + p) = v4) (e5 : d' (51 + p) = v5) (hg : ∀ j, j ≠ 0 + p → j ≠ 8 + p → j ≠ 16 + p → j ≠ 24 + p → j ≠ 32 + p → j ≠ 40 + p → g' j = x 1 j) (f0 : g' (0 + p) = v0) (f1 : g' (8 + p) = v1) (f2 : g' (16 + p) = v2) (f3 : g' (24 + p) = v3) (f4 : g' (32 + p) = v4) (f5 : g' (40 + p) = v5) : PM (MEM x m) (5 + p.toNat) v0 v1 v2 v3 v4 v5 = MEM (mu (mu x 0 d') 1 g') m := by
  unfold PM
  have hh : ∀ j, j < 11 ∨ 59 ≤ j → d' j = x 0 j := fun j hj => hd j (by omega) (by omega) (by omega) (by omega) (by omega) (by omega)
  have h0 : d' 0 = x 0 0 := hh 0 (by omega)
  refine T1_tn h1 h2 (tn_setp h1 (by omega) ?_ h0 (hh 1 (by omega)) (hh 2 (by omega)) (hh 3 (by omega)) (hh 4 (by omega)) (fun k k1 k2 => hh _ (by omega)) (fun k k1 k2 => hh _ (by omega)) (fun j j1 j2 j3 => ?_))
  · by_cases c : p < d' 0
    · rw [pe_live c, e0, e1, e2, e3, e4, e5]
    · rw [pe_dead c, f0, f1, f2, f3, f4, f5]
  by_cases c : j < x 0 0
  · rw [pe_live c, pe_live (by rw [h0]; exact c)]
    rw [hd (11 + j) (by omega) (by omega) (by omega) (by omega) (by omega) (by omega), hd (19 + j) (by omega) (by omega) (by omega) (by omega) (by omega) (by omega), hd (27 + j) (by omega) (by omega) (by omega) (by omega) (by omega) (by omega), hd (35 + j) (by omega) (by omega) (by omega) (by omega) (by omega) (by omega), hd (43 + j) (by omega) (by omega) (by omega) (by omega) (by omega) (by omega), hd (51 + j) (by omega) (by omega) (by omega) (by omega) (by omega) (by omega)]
  · rw [pe_dead c, pe_dead (by rw [h0]; exact c)]
    rw [hg (0 + j) (by omega) (by omega) (by omega) (by omega) (by omega) (by omega), hg (8 + j) (by omega) (by omega) (by omega) (by omega) (by omega) (by omega), hg (16 + j) (by omega) (by omega) (by omega) (by omega) (by omega) (by omega), hg (24 + j) (by omega) (by omega) (by omega) (by omega) (by omega) (by omega), hg (32 + j) (by omega) (by omega) (by omega) (by omega) (by omega) (by omega), hg (40 + j) (by omega) (by omega) (by omega) (by omega) (by omega) (by omega)]
theorem p1_0 : pf y (MEM x m) 1 3 0 (.int (iI v)) KM = KM (MEM (mu x 0 (iu (x 0) 3 v)) m) := by
  refine pf_of rfl (Nat.le_of_ble_eq_true rfl) rfl rfl rfl ?_
  rw [← mu_i0]
  have z : ∀ j, j ≠ 3 → iu (x 0) 3 v j = x 0 j := fun j hj => iu_ne hj
  refine T1_sc ?_
  refine (show _ = (tn 1 (iu (x 0) 3 v) (x 1)) from ?_)
  unfold tn
  have r1 : row 6 (fun k => iu (x 0) 3 v (5 + k)) = row 6 (fun k => x 0 (5 + k)) := row_cong fun k k1 k2 => z _ (by omega)
  have r2 : row 10 (fun k => iu (x 0) 3 v (59 + k) - 1) = row 10 (fun k => x 0 (59 + k) - 1) := row_cong fun k k1 k2 => by rw [z _ (by omega)]
  rw [r1, r2]
  rfl
theorem p1_1 : pf y (MEM x m) 1 3 1 (.int (iI v)) KM = KM (MEM (mu x 0 (iu (x 0) 4 v)) m) := by
  refine pf_of rfl (Nat.le_of_ble_eq_true rfl) rfl rfl rfl ?_
  rw [← mu_i0]
  have z : ∀ j, j ≠ 4 → iu (x 0) 4 v j = x 0 j := fun j hj => iu_ne hj
  refine T1_sc ?_
  refine (show _ = (tn 1 (iu (x 0) 4 v) (x 1)) from ?_)
  unfold tn
  have r1 : row 6 (fun k => iu (x 0) 4 v (5 + k)) = row 6 (fun k => x 0 (5 + k)) := row_cong fun k k1 k2 => z _ (by omega)
  have r2 : row 10 (fun k => iu (x 0) 4 v (59 + k) - 1) = row 10 (fun k => x 0 (59 + k) - 1) := row_cong fun k k1 k2 => by rw [z _ (by omega)]
  rw [r1, r2]
  rfl
theorem p1_2 : pf y (MEM x m) 1 3 2 (.int (iI v)) KM = KM (MEM (mu x 0 (iu (x 0) 1 v)) m) := by
  refine pf_of rfl (Nat.le_of_ble_eq_true rfl) rfl rfl rfl ?_
  rw [← mu_i0]
  have z : ∀ j, j ≠ 1 → iu (x 0) 1 v j = x 0 j := fun j hj => iu_ne hj
  refine T1_sc ?_
  refine (show _ = (tn 1 (iu (x 0) 1 v) (x 1)) from ?_)
  unfold tn
  have r1 : row 6 (fun k => iu (x 0) 1 v (5 + k)) = row 6 (fun k => x 0 (5 + k)) := row_cong fun k k1 k2 => z _ (by omega)
  have r2 : row 10 (fun k => iu (x 0) 1 v (59 + k) - 1) = row 10 (fun k => x 0 (59 + k) - 1) := row_cong fun k k1 k2 => by rw [z _ (by omega)]
  rw [r1, r2]
  rfl
theorem p1_3 : pf y (MEM x m) 1 3 3 (.int (iI v)) KM = KM (MEM (mu x 0 (iu (x 0) 2 v)) m) := by
  refine pf_of rfl (Nat.le_of_ble_eq_true rfl) rfl rfl rfl ?_
  rw [← mu_i0]
  have z : ∀ j, j ≠ 2 → iu (x 0) 2 v j = x 0 j := fun j hj => iu_ne hj
  refine T1_sc ?_
  refine (show _ = (tn 1 (iu (x 0) 2 v) (x 1)) from ?_)
  unfold tn
  have r1 : row 6 (fun k => iu (x 0) 2 v (5 + k)) = row 6 (fun k => x 0 (5 + k)) := row_cong fun k k1 k2 => z _ (by omega)
  have r2 : row 10 (fun k => iu (x 0) 2 v (59 + k) - 1) = row 10 (fun k => x 0 (59 + k) - 1) := row_cong fun k k1 k2 => by rw [z _ (by omega)]
  rw [r1, r2]
  rfl
theorem T1_people (hB : Bal (x 0) (x 1)) : pf y (MEM x m) 1 3 4 (.int (iI v)) KM = KM (MEM (mu x 0 (iu (x 0) 0 v)) m) := by
  refine pf_of rfl (Nat.le_of_ble_eq_true rfl) rfl rfl rfl ?_
  rw [← mu_i0]
  have z : ∀ j, j ≠ 0 → iu (x 0) 0 v j = x 0 j := fun j hj => iu_ne hj
  have hB2 : Bal (iu (x 0) 0 v) (x 1) := fun p w p1 p2 w1 w2 => by rw [z _ (by omega)]; exact hB p w p1 p2 w1 w2
  have hp : ∀ p, 0 ≤ p → p < 8 → pe (iu (x 0) 0 v) (x 1) p = pe (x 0) (x 1) p := fun p p1 p2 => by
    rw [Bal_pe hB p1 p2, Bal_pe hB2 p1 p2, z (11 + p) (by omega), z (19 + p) (by omega), z (27 + p) (by omega), z (35 + p) (by omega), z (43 + p) (by omega), z (51 + p) (by omega)]
  refine T1_sc ?_
  refine (show _ = (tn 1 (iu (x 0) 0 v) (x 1)) from ?_)
  unfold tn
  have r1 : row 6 (fun k => iu (x 0) 0 v (5 + k)) = row 6 (fun k => x 0 (5 + k)) := row_cong fun k k1 k2 => z _ (by omega)
  have r2 : row 10 (fun k => iu (x 0) 0 v (59 + k) - 1) = row 10 (fun k => x 0 (59 + k) - 1) := row_cong fun k k1 k2 => by rw [z _ (by omega)]
  rw [r1, r2]
  simp (disch := omega) only [hp]
  rfl
theorem ri3 (h1 : 0 ≤ j) (h2 : j < 6) : ri X (MEM x m) 3 (iI j) KI = KI (iI (x 0 (5 + j))) := ri_of (n := 6) (f := fun k => x 0 (5 + k)) rfl (by decide) h1 h2
theorem ri4 (h1 : 0 ≤ j) (h2 : j < 10) : ri X (MEM x m) 4 (iI j) KI = KI (iI (x 0 (59 + j) - 1)) := ri_of (n := 10) (f := fun k => x 0 (59 + k) - 1) rfl (by decide) h1 h2
theorem wi3 (h1 : 0 ≤ j) (h2 : j < 6) : wi (MEM x m) 3 (iI j) (iI v) KM = KM (MEM (mu x 0 (iu (x 0) (5 + j) (v))) m) := by
  refine wi_of (n := 6) (f := fun k => x 0 (5 + k)) rfl (by decide) ?_ h1 h2
  have z : ∀ i, i ≠ 5 + j → iu (x 0) (5 + j) (v) i = x 0 i := fun i hi => iu_ne hi
  have r : row 6 (iu (fun k => x 0 (5 + k)) j v) = row 6 (fun k => iu (x 0) (5 + j) (v) (5 + k)) := row_cong fun k k1 k2 => by
    by_cases c : k = j
    · subst c; simp only [iu_self]
    · rw [iu_ne c, z _ (by omega)]
  rw [r, ← mu_i0]
  have hp : ∀ p, 0 ≤ p → p < 8 → pe (iu (x 0) (5 + j) (v)) (x 1) p = pe (x 0) (x 1) p := fun p p1 p2 => by
    by_cases c : p < x 0 0
    · rw [pe_live c, pe_live (by rw [z _ (by omega)]; exact c), z (11 + p) (by omega), z (19 + p) (by omega), z (27 + p) (by omega), z (35 + p) (by omega), z (43 + p) (by omega), z (51 + p) (by omega)]
    · rw [pe_dead c, pe_dead (by rw [z _ (by omega)]; exact c)]
  have r1 : row 10 (fun k => iu (x 0) (5 + j) (v) (59 + k) - 1) = row 10 (fun k => x 0 (59 + k) - 1) := row_cong fun k k1 k2 => by rw [z _ (by omega)]
  have e : MEM (mu (mu x 0 (iu (x 0) (5 + j) (v))) 1 (x 1)) m = (MEM x m).take 1 ++ (tn 1 (iu (x 0) (5 + j) (v)) (x 1) ++ (MEM x m).drop 13) := rfl
  rw [e]
  unfold tn
  rw [r1]
  simp (disch := omega) only [hp, z]
  rfl
theorem wi4 (h1 : 0 ≤ j) (h2 : j < 10) : wi (MEM x m) 4 (iI j) (iI v) KM = KM (MEM (mu x 0 (iu (x 0) (59 + j) (v + 1))) m) := by
  refine wi_of (n := 10) (f := fun k => x 0 (59 + k) - 1) rfl (by decide) ?_ h1 h2
  have z : ∀ i, i ≠ 59 + j → iu (x 0) (59 + j) (v + 1) i = x 0 i := fun i hi => iu_ne hi
  have r : row 10 (iu (fun k => x 0 (59 + k) - 1) j v) = row 10 (fun k => iu (x 0) (59 + j) (v + 1) (59 + k) - 1) := row_cong fun k k1 k2 => by
    by_cases c : k = j
    · subst c; simp only [iu_self]; omega
    · rw [iu_ne c, z _ (by omega)]
  rw [r, ← mu_i0]
  have hp : ∀ p, 0 ≤ p → p < 8 → pe (iu (x 0) (59 + j) (v + 1)) (x 1) p = pe (x 0) (x 1) p := fun p p1 p2 => by
    by_cases c : p < x 0 0
    · rw [pe_live c, pe_live (by rw [z _ (by omega)]; exact c), z (11 + p) (by omega), z (19 + p) (by omega), z (27 + p) (by omega), z (35 + p) (by omega), z (43 + p) (by omega), z (51 + p) (by omega)]
    · rw [pe_dead c, pe_dead (by rw [z _ (by omega)]; exact c)]
  have r1 : row 6 (fun k => iu (x 0) (59 + j) (v + 1) (5 + k)) = row 6 (fun k => x 0 (5 + k)) := row_cong fun k k1 k2 => by rw [z _ (by omega)]
  have e : MEM (mu (mu x 0 (iu (x 0) (59 + j) (v + 1))) 1 (x 1)) m = (MEM x m).take 1 ++ (tn 1 (iu (x 0) (59 + j) (v + 1)) (x 1) ++ (MEM x m).drop 13) := rfl
  rw [e]
  unfold tn
  rw [r1]
  simp (disch := omega) only [hp, z]
  rfl
theorem ra2 (h1 : 0 ≤ p) (h2 : p < 8) : ra (MEM x m) 2 (iI p) KN = KN (5 + p.toNat) := ra_of (n := 8) (k := 2) rfl (Or.inl rfl) (by decide) h1 h2 (if_pos (by omega))
theorem rcp1 (h1 : 0 ≤ p) (h2 : p < 8) : prcv (MEM x m) 0 (5 + p.toNat) = True := eq_true (by unfold prcv; rw [T1_pe h1 h2]; exact ⟨rfl, by decide⟩)
theorem gp1_0 (h1 : 0 ≤ p) (h2 : p < x 0 0) (h8 : x 0 0 ≤ 8) : gf (MEM x m) (5 + p.toNat) 0 0 KV = KV (.int (iI (x 0 (11 + p)))) := gf_of ((T1_pe h1 (by omega)).trans (congrArg some (pe_live h2))) rfl
theorem pp1_0 (h1 : 0 ≤ p) (h2 : p < x 0 0) (h8 : x 0 0 ≤ 8) : pf y (MEM x m) (5 + p.toNat) 0 0 (.int (iI v)) KM = KM (MEM (mu x 0 (iu (x 0) (11 + p) v)) m) := by
  refine (congrArg (fun z => pf y z (5 + p.toNat) 0 0 (.int (iI v)) KM) (T1_PM (x := x) (m := m) h1 h2 h8)).symm.trans ((pP0 (by rw [MEM_len]; omega)).trans (congrArg KM (T1_live h1 h2 h8 (fun j _ _ _ _ _ _ => iu_ne (by omega)) (iu_self _ _ _) (iu_ne (by omega)) (iu_ne (by omega)) (iu_ne (by omega)) (iu_ne (by omega)) (iu_ne (by omega)))))
theorem gp1_1 (h1 : 0 ≤ p) (h2 : p < x 0 0) (h8 : x 0 0 ≤ 8) : gf (MEM x m) (5 + p.toNat) 0 1 KV = KV (.int (iI (x 0 (19 + p)))) := gf_of ((T1_pe h1 (by omega)).trans (congrArg some (pe_live h2))) rfl
theorem pp1_1 (h1 : 0 ≤ p) (h2 : p < x 0 0) (h8 : x 0 0 ≤ 8) : pf y (MEM x m) (5 + p.toNat) 0 1 (.int (iI v)) KM = KM (MEM (mu x 0 (iu (x 0) (19 + p) v)) m) := by
  refine (congrArg (fun z => pf y z (5 + p.toNat) 0 1 (.int (iI v)) KM) (T1_PM (x := x) (m := m) h1 h2 h8)).symm.trans ((pP1 (by rw [MEM_len]; omega)).trans (congrArg KM (T1_live h1 h2 h8 (fun j _ _ _ _ _ _ => iu_ne (by omega)) (iu_ne (by omega)) (iu_self _ _ _) (iu_ne (by omega)) (iu_ne (by omega)) (iu_ne (by omega)) (iu_ne (by omega)))))
theorem gp1_2 (h1 : 0 ≤ p) (h2 : p < x 0 0) (h8 : x 0 0 ≤ 8) : gf (MEM x m) (5 + p.toNat) 0 2 KV = KV (.int (iI (x 0 (27 + p)))) := gf_of ((T1_pe h1 (by omega)).trans (congrArg some (pe_live h2))) rfl
theorem pp1_2 (h1 : 0 ≤ p) (h2 : p < x 0 0) (h8 : x 0 0 ≤ 8) : pf y (MEM x m) (5 + p.toNat) 0 2 (.int (iI v)) KM = KM (MEM (mu x 0 (iu (x 0) (27 + p) v)) m) := by
  refine (congrArg (fun z => pf y z (5 + p.toNat) 0 2 (.int (iI v)) KM) (T1_PM (x := x) (m := m) h1 h2 h8)).symm.trans ((pP2 (by rw [MEM_len]; omega)).trans (congrArg KM (T1_live h1 h2 h8 (fun j _ _ _ _ _ _ => iu_ne (by omega)) (iu_ne (by omega)) (iu_ne (by omega)) (iu_self _ _ _) (iu_ne (by omega)) (iu_ne (by omega)) (iu_ne (by omega)))))
theorem gp1_3 (h1 : 0 ≤ p) (h2 : p < x 0 0) (h8 : x 0 0 ≤ 8) : gf (MEM x m) (5 + p.toNat) 0 3 KV = KV (.int (iI (x 0 (35 + p)))) := gf_of ((T1_pe h1 (by omega)).trans (congrArg some (pe_live h2))) rfl
theorem pp1_3 (h1 : 0 ≤ p) (h2 : p < x 0 0) (h8 : x 0 0 ≤ 8) : pf y (MEM x m) (5 + p.toNat) 0 3 (.int (iI v)) KM = KM (MEM (mu x 0 (iu (x 0) (35 + p) v)) m) := by
  refine (congrArg (fun z => pf y z (5 + p.toNat) 0 3 (.int (iI v)) KM) (T1_PM (x := x) (m := m) h1 h2 h8)).symm.trans ((pP3 (by rw [MEM_len]; omega)).trans (congrArg KM (T1_live h1 h2 h8 (fun j _ _ _ _ _ _ => iu_ne (by omega)) (iu_ne (by omega)) (iu_ne (by omega)) (iu_ne (by omega)) (iu_self _ _ _) (iu_ne (by omega)) (iu_ne (by omega)))))
theorem gp1_4 (h1 : 0 ≤ p) (h2 : p < x 0 0) (h8 : x 0 0 ≤ 8) : gf (MEM x m) (5 + p.toNat) 0 4 KV = KV (.int (iI (x 0 (43 + p)))) := gf_of ((T1_pe h1 (by omega)).trans (congrArg some (pe_live h2))) rfl
theorem pp1_4 (h1 : 0 ≤ p) (h2 : p < x 0 0) (h8 : x 0 0 ≤ 8) : pf y (MEM x m) (5 + p.toNat) 0 4 (.int (iI v)) KM = KM (MEM (mu x 0 (iu (x 0) (43 + p) v)) m) := by
  refine (congrArg (fun z => pf y z (5 + p.toNat) 0 4 (.int (iI v)) KM) (T1_PM (x := x) (m := m) h1 h2 h8)).symm.trans ((pP4 (by rw [MEM_len]; omega)).trans (congrArg KM (T1_live h1 h2 h8 (fun j _ _ _ _ _ _ => iu_ne (by omega)) (iu_ne (by omega)) (iu_ne (by omega)) (iu_ne (by omega)) (iu_ne (by omega)) (iu_self _ _ _) (iu_ne (by omega)))))
theorem gp1_5 (h1 : 0 ≤ p) (h2 : p < x 0 0) (h8 : x 0 0 ≤ 8) : gf (MEM x m) (5 + p.toNat) 0 5 KV = KV (.int (iI (x 0 (51 + p)))) := gf_of ((T1_pe h1 (by omega)).trans (congrArg some (pe_live h2))) rfl
theorem pp1_5 (h1 : 0 ≤ p) (h2 : p < x 0 0) (h8 : x 0 0 ≤ 8) : pf y (MEM x m) (5 + p.toNat) 0 5 (.int (iI v)) KM = KM (MEM (mu x 0 (iu (x 0) (51 + p) v)) m) := by
  refine (congrArg (fun z => pf y z (5 + p.toNat) 0 5 (.int (iI v)) KM) (T1_PM (x := x) (m := m) h1 h2 h8)).symm.trans ((pP5 (by rw [MEM_len]; omega)).trans (congrArg KM (T1_live h1 h2 h8 (fun j _ _ _ _ _ _ => iu_ne (by omega)) (iu_ne (by omega)) (iu_ne (by omega)) (iu_ne (by omega)) (iu_ne (by omega)) (iu_ne (by omega)) (iu_self _ _ _))))
theorem T13_pe (h1 : 0 ≤ p) (h2 : p < 8) : (MEM x m)[17 + p.toNat]? = some (pe (x 2) (x 3) p) := by
  rcases eight h1 h2 with rfl | rfl | rfl | rfl | rfl | rfl | rfl | rfl <;> rfl
theorem T13_PM (h1 : 0 ≤ p) (h2 : p < x 2 0) (h8 : x 2 0 ≤ 8) : PM (MEM x m) (17 + p.toNat) (x 2 (11 + p)) (x 2 (19 + p)) (x 2 (27 + p)) (x 2 (35 + p)) (x 2 (43 + p)) (x 2 (51 + p)) = MEM x m := by
  unfold PM
  have e := T13_pe (x := x) (m := m) h1 (by omega)
  rw [pe_live h2] at e
  apply List.ext_getElem?
  intro i
  by_cases q : i = 17 + p.toNat
  · subst q; rw [List.getElem?_set_self (by rw [MEM_len]; omega), e]
  · rw [List.getElem?_set_ne (Ne.symm q)]
theorem T13_tn {E : pME} (h1 : 0 ≤ p) (h2 : p < 8) (h : (tn 13 (x 2) (x 3)).set (4 + p.toNat) E = tn 13 d' g') : (MEM x m).set (17 + p.toNat) E = MEM (mu (mu x 2 d') 3 g') m := by
  have e : MEM (mu (mu x 2 d') 3 g') m = (MEM x m).take 13 ++ (tn 13 d' g' ++ (MEM x m).drop 25) := rfl
  rw [e, ← h]
  rcases eight h1 h2 with rfl | rfl | rfl | rfl | rfl | rfl | rfl | rfl <;> rfl
theorem T13_sc {E : pME} (h : (tn 13 (x 2) (x 3)).set 0 E = tn 13 d' g') : (MEM x m).set 13 E = MEM (mu (mu x 2 d') 3 g') m := by
  have e : MEM (mu (mu x 2 d') 3 g') m = (MEM x m).take 13 ++ (tn 13 d' g' ++ (MEM x m).drop 25) := rfl
  rw [e, ← h]; rfl
theorem T13_eq (h : tn 13 d' g' = tn 13 (x 2) (x 3)) : MEM (mu (mu x 2 d') 3 g') m = MEM x m := by
  have e : MEM (mu (mu x 2 d') 3 g') m = (MEM x m).take 13 ++ (tn 13 d' g' ++ (MEM x m).drop 25) := rfl
  rw [e, h]; rfl
theorem mu_i1 : mu (mu x 2 d') 3 (x 3) = mu x 2 d' := by
  funext k; unfold mu; by_cases h : k = 2 <;> by_cases h2 : k = 3 <;> simp [h, h2]
theorem T13_live (h1 : 0 ≤ p) (h2 : p < x 2 0) (h8 : x 2 0 ≤ 8) (hd : ∀ j, j ≠ 11 + p → j ≠ 19 + p → j ≠ 27 + p → j ≠ 35 + p → j ≠ 43 + p → j ≠ 51 + p → d' j = x 2 j) (e0 : d' (11 + p) = v0) (e1 : d' (19 + p) = v1) (e2 : d' (27 + p) = v2) (e3 : d' (35 + p) = v3) (e4 : d' (43 + p) = v4) (e5 : d' (51 + p) = v5) : PM (MEM x m) (17 + p.toNat) v0 v1 v2 v3 v4 v5 = MEM (mu x 2 d') m := by
  subst e0 e1 e2 e3 e4 e5
  unfold PM
  have hh : ∀ j, j < 11 ∨ 59 ≤ j → d' j = x 2 j := fun j hj => hd j (by omega) (by omega) (by omega) (by omega) (by omega) (by omega)
  have h0 : d' 0 = x 2 0 := hh 0 (by omega)
  rw [← mu_i1]
  refine T13_tn h1 (by omega) (tn_setp h1 (by omega) (pe_live (by rw [h0]; exact h2)).symm h0 (hh 1 (by omega)) (hh 2 (by omega)) (hh 3 (by omega)) (hh 4 (by omega)) (fun k k1 k2 => hh _ (by omega)) (fun k k1 k2 => hh _ (by omega)) (fun j j1 j2 j3 => ?_))
  by_cases c : j < x 2 0
  · rw [pe_live c, pe_live (by rw [h0]; exact c)]
    rw [hd (11 + j) (by omega) (by omega) (by omega) (by omega) (by omega) (by omega), hd (19 + j) (by omega) (by omega) (by omega) (by omega) (by omega) (by omega), hd (27 + j) (by omega) (by omega) (by omega) (by omega) (by omega) (by omega), hd (35 + j) (by omega) (by omega) (by omega) (by omega) (by omega) (by omega), hd (43 + j) (by omega) (by omega) (by omega) (by omega) (by omega) (by omega), hd (51 + j) (by omega) (by omega) (by omega) (by omega) (by omega) (by omega)]
  · rw [pe_dead c, pe_dead (by rw [h0]; exact c)]
theorem T13_both (h1 : 0 ≤ p) (h2 : p < 8) (hd : ∀ j, j ≠ 11 + p → j ≠ 19 + p → j ≠ 27 + p → j ≠ 35 + p → j ≠ 43 + p → j ≠ 51 + p → d' j = x 2 j) (e0 : d' (11 + p) = v0) (e1 : d' (19 + p) = v1) (e2 : d' (27 + p) = v2) (e3 : d' (35 + p) = v3) (e4 : d' (43 + p) = v4) (e5 : d' (51 + p) = v5) (hg : ∀ j, j ≠ 0 + p → j ≠ 8 + p → j ≠ 16 + p → j ≠ 24 + p → j ≠ 32 + p → j ≠ 40 + p → g' j = x 3 j) (f0 : g' (0 + p) = v0) (f1 : g' (8 + p) = v1) (f2 : g' (16 + p) = v2) (f3 : g' (24 + p) = v3) (f4 : g' (32 + p) = v4) (f5 : g' (40 + p) = v5) : PM (MEM x m) (17 + p.toNat) v0 v1 v2 v3 v4 v5 = MEM (mu (mu x 2 d') 3 g') m := by
  unfold PM
  have hh : ∀ j, j < 11 ∨ 59 ≤ j → d' j = x 2 j := fun j hj => hd j (by omega) (by omega) (by omega) (by omega) (by omega) (by omega)
  have h0 : d' 0 = x 2 0 := hh 0 (by omega)
  refine T13_tn h1 h2 (tn_setp h1 (by omega) ?_ h0 (hh 1 (by omega)) (hh 2 (by omega)) (hh 3 (by omega)) (hh 4 (by omega)) (fun k k1 k2 => hh _ (by omega)) (fun k k1 k2 => hh _ (by omega)) (fun j j1 j2 j3 => ?_))
  · by_cases c : p < d' 0
    · rw [pe_live c, e0, e1, e2, e3, e4, e5]
    · rw [pe_dead c, f0, f1, f2, f3, f4, f5]
  by_cases c : j < x 2 0
  · rw [pe_live c, pe_live (by rw [h0]; exact c)]
    rw [hd (11 + j) (by omega) (by omega) (by omega) (by omega) (by omega) (by omega), hd (19 + j) (by omega) (by omega) (by omega) (by omega) (by omega) (by omega), hd (27 + j) (by omega) (by omega) (by omega) (by omega) (by omega) (by omega), hd (35 + j) (by omega) (by omega) (by omega) (by omega) (by omega) (by omega), hd (43 + j) (by omega) (by omega) (by omega) (by omega) (by omega) (by omega), hd (51 + j) (by omega) (by omega) (by omega) (by omega) (by omega) (by omega)]
  · rw [pe_dead c, pe_dead (by rw [h0]; exact c)]
    rw [hg (0 + j) (by omega) (by omega) (by omega) (by omega) (by omega) (by omega), hg (8 + j) (by omega) (by omega) (by omega) (by omega) (by omega) (by omega), hg (16 + j) (by omega) (by omega) (by omega) (by omega) (by omega) (by omega), hg (24 + j) (by omega) (by omega) (by omega) (by omega) (by omega) (by omega), hg (32 + j) (by omega) (by omega) (by omega) (by omega) (by omega) (by omega), hg (40 + j) (by omega) (by omega) (by omega) (by omega) (by omega) (by omega)]
theorem p13_0 : pf y (MEM x m) 13 3 0 (.int (iI v)) KM = KM (MEM (mu x 2 (iu (x 2) 3 v)) m) := by
  refine pf_of rfl (Nat.le_of_ble_eq_true rfl) rfl rfl rfl ?_
  rw [← mu_i1]
  have z : ∀ j, j ≠ 3 → iu (x 2) 3 v j = x 2 j := fun j hj => iu_ne hj
  refine T13_sc ?_
  refine (show _ = (tn 13 (iu (x 2) 3 v) (x 3)) from ?_)
  unfold tn
  have r1 : row 6 (fun k => iu (x 2) 3 v (5 + k)) = row 6 (fun k => x 2 (5 + k)) := row_cong fun k k1 k2 => z _ (by omega)
  have r2 : row 10 (fun k => iu (x 2) 3 v (59 + k) - 1) = row 10 (fun k => x 2 (59 + k) - 1) := row_cong fun k k1 k2 => by rw [z _ (by omega)]
  rw [r1, r2]
  rfl
theorem p13_1 : pf y (MEM x m) 13 3 1 (.int (iI v)) KM = KM (MEM (mu x 2 (iu (x 2) 4 v)) m) := by
  refine pf_of rfl (Nat.le_of_ble_eq_true rfl) rfl rfl rfl ?_
  rw [← mu_i1]
  have z : ∀ j, j ≠ 4 → iu (x 2) 4 v j = x 2 j := fun j hj => iu_ne hj
  refine T13_sc ?_
  refine (show _ = (tn 13 (iu (x 2) 4 v) (x 3)) from ?_)
  unfold tn
  have r1 : row 6 (fun k => iu (x 2) 4 v (5 + k)) = row 6 (fun k => x 2 (5 + k)) := row_cong fun k k1 k2 => z _ (by omega)
  have r2 : row 10 (fun k => iu (x 2) 4 v (59 + k) - 1) = row 10 (fun k => x 2 (59 + k) - 1) := row_cong fun k k1 k2 => by rw [z _ (by omega)]
  rw [r1, r2]
  rfl
theorem p13_2 : pf y (MEM x m) 13 3 2 (.int (iI v)) KM = KM (MEM (mu x 2 (iu (x 2) 1 v)) m) := by
  refine pf_of rfl (Nat.le_of_ble_eq_true rfl) rfl rfl rfl ?_
  rw [← mu_i1]
  have z : ∀ j, j ≠ 1 → iu (x 2) 1 v j = x 2 j := fun j hj => iu_ne hj
  refine T13_sc ?_
  refine (show _ = (tn 13 (iu (x 2) 1 v) (x 3)) from ?_)
  unfold tn
  have r1 : row 6 (fun k => iu (x 2) 1 v (5 + k)) = row 6 (fun k => x 2 (5 + k)) := row_cong fun k k1 k2 => z _ (by omega)
  have r2 : row 10 (fun k => iu (x 2) 1 v (59 + k) - 1) = row 10 (fun k => x 2 (59 + k) - 1) := row_cong fun k k1 k2 => by rw [z _ (by omega)]
  rw [r1, r2]
  rfl
theorem p13_3 : pf y (MEM x m) 13 3 3 (.int (iI v)) KM = KM (MEM (mu x 2 (iu (x 2) 2 v)) m) := by
  refine pf_of rfl (Nat.le_of_ble_eq_true rfl) rfl rfl rfl ?_
  rw [← mu_i1]
  have z : ∀ j, j ≠ 2 → iu (x 2) 2 v j = x 2 j := fun j hj => iu_ne hj
  refine T13_sc ?_
  refine (show _ = (tn 13 (iu (x 2) 2 v) (x 3)) from ?_)
  unfold tn
  have r1 : row 6 (fun k => iu (x 2) 2 v (5 + k)) = row 6 (fun k => x 2 (5 + k)) := row_cong fun k k1 k2 => z _ (by omega)
  have r2 : row 10 (fun k => iu (x 2) 2 v (59 + k) - 1) = row 10 (fun k => x 2 (59 + k) - 1) := row_cong fun k k1 k2 => by rw [z _ (by omega)]
  rw [r1, r2]
  rfl
theorem T13_people (hB : Bal (x 2) (x 3)) : pf y (MEM x m) 13 3 4 (.int (iI v)) KM = KM (MEM (mu x 2 (iu (x 2) 0 v)) m) := by
  refine pf_of rfl (Nat.le_of_ble_eq_true rfl) rfl rfl rfl ?_
  rw [← mu_i1]
  have z : ∀ j, j ≠ 0 → iu (x 2) 0 v j = x 2 j := fun j hj => iu_ne hj
  have hB2 : Bal (iu (x 2) 0 v) (x 3) := fun p w p1 p2 w1 w2 => by rw [z _ (by omega)]; exact hB p w p1 p2 w1 w2
  have hp : ∀ p, 0 ≤ p → p < 8 → pe (iu (x 2) 0 v) (x 3) p = pe (x 2) (x 3) p := fun p p1 p2 => by
    rw [Bal_pe hB p1 p2, Bal_pe hB2 p1 p2, z (11 + p) (by omega), z (19 + p) (by omega), z (27 + p) (by omega), z (35 + p) (by omega), z (43 + p) (by omega), z (51 + p) (by omega)]
  refine T13_sc ?_
  refine (show _ = (tn 13 (iu (x 2) 0 v) (x 3)) from ?_)
  unfold tn
  have r1 : row 6 (fun k => iu (x 2) 0 v (5 + k)) = row 6 (fun k => x 2 (5 + k)) := row_cong fun k k1 k2 => z _ (by omega)
  have r2 : row 10 (fun k => iu (x 2) 0 v (59 + k) - 1) = row 10 (fun k => x 2 (59 + k) - 1) := row_cong fun k k1 k2 => by rw [z _ (by omega)]
  rw [r1, r2]
  simp (disch := omega) only [hp]
  rfl
theorem ri15 (h1 : 0 ≤ j) (h2 : j < 6) : ri X (MEM x m) 15 (iI j) KI = KI (iI (x 2 (5 + j))) := ri_of (n := 6) (f := fun k => x 2 (5 + k)) rfl (by decide) h1 h2
theorem ri16 (h1 : 0 ≤ j) (h2 : j < 10) : ri X (MEM x m) 16 (iI j) KI = KI (iI (x 2 (59 + j) - 1)) := ri_of (n := 10) (f := fun k => x 2 (59 + k) - 1) rfl (by decide) h1 h2
theorem wi15 (h1 : 0 ≤ j) (h2 : j < 6) : wi (MEM x m) 15 (iI j) (iI v) KM = KM (MEM (mu x 2 (iu (x 2) (5 + j) (v))) m) := by
  refine wi_of (n := 6) (f := fun k => x 2 (5 + k)) rfl (by decide) ?_ h1 h2
  have z : ∀ i, i ≠ 5 + j → iu (x 2) (5 + j) (v) i = x 2 i := fun i hi => iu_ne hi
  have r : row 6 (iu (fun k => x 2 (5 + k)) j v) = row 6 (fun k => iu (x 2) (5 + j) (v) (5 + k)) := row_cong fun k k1 k2 => by
    by_cases c : k = j
    · subst c; simp only [iu_self]
    · rw [iu_ne c, z _ (by omega)]
  rw [r, ← mu_i1]
  have hp : ∀ p, 0 ≤ p → p < 8 → pe (iu (x 2) (5 + j) (v)) (x 3) p = pe (x 2) (x 3) p := fun p p1 p2 => by
    by_cases c : p < x 2 0
    · rw [pe_live c, pe_live (by rw [z _ (by omega)]; exact c), z (11 + p) (by omega), z (19 + p) (by omega), z (27 + p) (by omega), z (35 + p) (by omega), z (43 + p) (by omega), z (51 + p) (by omega)]
    · rw [pe_dead c, pe_dead (by rw [z _ (by omega)]; exact c)]
  have r1 : row 10 (fun k => iu (x 2) (5 + j) (v) (59 + k) - 1) = row 10 (fun k => x 2 (59 + k) - 1) := row_cong fun k k1 k2 => by rw [z _ (by omega)]
  have e : MEM (mu (mu x 2 (iu (x 2) (5 + j) (v))) 3 (x 3)) m = (MEM x m).take 13 ++ (tn 13 (iu (x 2) (5 + j) (v)) (x 3) ++ (MEM x m).drop 25) := rfl
  rw [e]
  unfold tn
  rw [r1]
  simp (disch := omega) only [hp, z]
  rfl
theorem wi16 (h1 : 0 ≤ j) (h2 : j < 10) : wi (MEM x m) 16 (iI j) (iI v) KM = KM (MEM (mu x 2 (iu (x 2) (59 + j) (v + 1))) m) := by
  refine wi_of (n := 10) (f := fun k => x 2 (59 + k) - 1) rfl (by decide) ?_ h1 h2
  have z : ∀ i, i ≠ 59 + j → iu (x 2) (59 + j) (v + 1) i = x 2 i := fun i hi => iu_ne hi
  have r : row 10 (iu (fun k => x 2 (59 + k) - 1) j v) = row 10 (fun k => iu (x 2) (59 + j) (v + 1) (59 + k) - 1) := row_cong fun k k1 k2 => by
    by_cases c : k = j
    · subst c; simp only [iu_self]; omega
    · rw [iu_ne c, z _ (by omega)]
  rw [r, ← mu_i1]
  have hp : ∀ p, 0 ≤ p → p < 8 → pe (iu (x 2) (59 + j) (v + 1)) (x 3) p = pe (x 2) (x 3) p := fun p p1 p2 => by
    by_cases c : p < x 2 0
    · rw [pe_live c, pe_live (by rw [z _ (by omega)]; exact c), z (11 + p) (by omega), z (19 + p) (by omega), z (27 + p) (by omega), z (35 + p) (by omega), z (43 + p) (by omega), z (51 + p) (by omega)]
    · rw [pe_dead c, pe_dead (by rw [z _ (by omega)]; exact c)]
  have r1 : row 6 (fun k => iu (x 2) (59 + j) (v + 1) (5 + k)) = row 6 (fun k => x 2 (5 + k)) := row_cong fun k k1 k2 => by rw [z _ (by omega)]
  have e : MEM (mu (mu x 2 (iu (x 2) (59 + j) (v + 1))) 3 (x 3)) m = (MEM x m).take 13 ++ (tn 13 (iu (x 2) (59 + j) (v + 1)) (x 3) ++ (MEM x m).drop 25) := rfl
  rw [e]
  unfold tn
  rw [r1]
  simp (disch := omega) only [hp, z]
  rfl
theorem ra14 (h1 : 0 ≤ p) (h2 : p < 8) : ra (MEM x m) 14 (iI p) KN = KN (17 + p.toNat) := ra_of (n := 8) (k := 2) rfl (Or.inl rfl) (by decide) h1 h2 (if_pos (by omega))
theorem rcp13 (h1 : 0 ≤ p) (h2 : p < 8) : prcv (MEM x m) 0 (17 + p.toNat) = True := eq_true (by unfold prcv; rw [T13_pe h1 h2]; exact ⟨rfl, by decide⟩)
theorem gp13_0 (h1 : 0 ≤ p) (h2 : p < x 2 0) (h8 : x 2 0 ≤ 8) : gf (MEM x m) (17 + p.toNat) 0 0 KV = KV (.int (iI (x 2 (11 + p)))) := gf_of ((T13_pe h1 (by omega)).trans (congrArg some (pe_live h2))) rfl
theorem pp13_0 (h1 : 0 ≤ p) (h2 : p < x 2 0) (h8 : x 2 0 ≤ 8) : pf y (MEM x m) (17 + p.toNat) 0 0 (.int (iI v)) KM = KM (MEM (mu x 2 (iu (x 2) (11 + p) v)) m) := by
  refine (congrArg (fun z => pf y z (17 + p.toNat) 0 0 (.int (iI v)) KM) (T13_PM (x := x) (m := m) h1 h2 h8)).symm.trans ((pP0 (by rw [MEM_len]; omega)).trans (congrArg KM (T13_live h1 h2 h8 (fun j _ _ _ _ _ _ => iu_ne (by omega)) (iu_self _ _ _) (iu_ne (by omega)) (iu_ne (by omega)) (iu_ne (by omega)) (iu_ne (by omega)) (iu_ne (by omega)))))
theorem gp13_1 (h1 : 0 ≤ p) (h2 : p < x 2 0) (h8 : x 2 0 ≤ 8) : gf (MEM x m) (17 + p.toNat) 0 1 KV = KV (.int (iI (x 2 (19 + p)))) := gf_of ((T13_pe h1 (by omega)).trans (congrArg some (pe_live h2))) rfl
theorem pp13_1 (h1 : 0 ≤ p) (h2 : p < x 2 0) (h8 : x 2 0 ≤ 8) : pf y (MEM x m) (17 + p.toNat) 0 1 (.int (iI v)) KM = KM (MEM (mu x 2 (iu (x 2) (19 + p) v)) m) := by
  refine (congrArg (fun z => pf y z (17 + p.toNat) 0 1 (.int (iI v)) KM) (T13_PM (x := x) (m := m) h1 h2 h8)).symm.trans ((pP1 (by rw [MEM_len]; omega)).trans (congrArg KM (T13_live h1 h2 h8 (fun j _ _ _ _ _ _ => iu_ne (by omega)) (iu_ne (by omega)) (iu_self _ _ _) (iu_ne (by omega)) (iu_ne (by omega)) (iu_ne (by omega)) (iu_ne (by omega)))))
theorem gp13_2 (h1 : 0 ≤ p) (h2 : p < x 2 0) (h8 : x 2 0 ≤ 8) : gf (MEM x m) (17 + p.toNat) 0 2 KV = KV (.int (iI (x 2 (27 + p)))) := gf_of ((T13_pe h1 (by omega)).trans (congrArg some (pe_live h2))) rfl
theorem pp13_2 (h1 : 0 ≤ p) (h2 : p < x 2 0) (h8 : x 2 0 ≤ 8) : pf y (MEM x m) (17 + p.toNat) 0 2 (.int (iI v)) KM = KM (MEM (mu x 2 (iu (x 2) (27 + p) v)) m) := by
  refine (congrArg (fun z => pf y z (17 + p.toNat) 0 2 (.int (iI v)) KM) (T13_PM (x := x) (m := m) h1 h2 h8)).symm.trans ((pP2 (by rw [MEM_len]; omega)).trans (congrArg KM (T13_live h1 h2 h8 (fun j _ _ _ _ _ _ => iu_ne (by omega)) (iu_ne (by omega)) (iu_ne (by omega)) (iu_self _ _ _) (iu_ne (by omega)) (iu_ne (by omega)) (iu_ne (by omega)))))
theorem gp13_3 (h1 : 0 ≤ p) (h2 : p < x 2 0) (h8 : x 2 0 ≤ 8) : gf (MEM x m) (17 + p.toNat) 0 3 KV = KV (.int (iI (x 2 (35 + p)))) := gf_of ((T13_pe h1 (by omega)).trans (congrArg some (pe_live h2))) rfl
theorem pp13_3 (h1 : 0 ≤ p) (h2 : p < x 2 0) (h8 : x 2 0 ≤ 8) : pf y (MEM x m) (17 + p.toNat) 0 3 (.int (iI v)) KM = KM (MEM (mu x 2 (iu (x 2) (35 + p) v)) m) := by
  refine (congrArg (fun z => pf y z (17 + p.toNat) 0 3 (.int (iI v)) KM) (T13_PM (x := x) (m := m) h1 h2 h8)).symm.trans ((pP3 (by rw [MEM_len]; omega)).trans (congrArg KM (T13_live h1 h2 h8 (fun j _ _ _ _ _ _ => iu_ne (by omega)) (iu_ne (by omega)) (iu_ne (by omega)) (iu_ne (by omega)) (iu_self _ _ _) (iu_ne (by omega)) (iu_ne (by omega)))))
theorem gp13_4 (h1 : 0 ≤ p) (h2 : p < x 2 0) (h8 : x 2 0 ≤ 8) : gf (MEM x m) (17 + p.toNat) 0 4 KV = KV (.int (iI (x 2 (43 + p)))) := gf_of ((T13_pe h1 (by omega)).trans (congrArg some (pe_live h2))) rfl
theorem pp13_4 (h1 : 0 ≤ p) (h2 : p < x 2 0) (h8 : x 2 0 ≤ 8) : pf y (MEM x m) (17 + p.toNat) 0 4 (.int (iI v)) KM = KM (MEM (mu x 2 (iu (x 2) (43 + p) v)) m) := by
  refine (congrArg (fun z => pf y z (17 + p.toNat) 0 4 (.int (iI v)) KM) (T13_PM (x := x) (m := m) h1 h2 h8)).symm.trans ((pP4 (by rw [MEM_len]; omega)).trans (congrArg KM (T13_live h1 h2 h8 (fun j _ _ _ _ _ _ => iu_ne (by omega)) (iu_ne (by omega)) (iu_ne (by omega)) (iu_ne (by omega)) (iu_ne (by omega)) (iu_self _ _ _) (iu_ne (by omega)))))
theorem gp13_5 (h1 : 0 ≤ p) (h2 : p < x 2 0) (h8 : x 2 0 ≤ 8) : gf (MEM x m) (17 + p.toNat) 0 5 KV = KV (.int (iI (x 2 (51 + p)))) := gf_of ((T13_pe h1 (by omega)).trans (congrArg some (pe_live h2))) rfl
theorem pp13_5 (h1 : 0 ≤ p) (h2 : p < x 2 0) (h8 : x 2 0 ≤ 8) : pf y (MEM x m) (17 + p.toNat) 0 5 (.int (iI v)) KM = KM (MEM (mu x 2 (iu (x 2) (51 + p) v)) m) := by
  refine (congrArg (fun z => pf y z (17 + p.toNat) 0 5 (.int (iI v)) KM) (T13_PM (x := x) (m := m) h1 h2 h8)).symm.trans ((pP5 (by rw [MEM_len]; omega)).trans (congrArg KM (T13_live h1 h2 h8 (fun j _ _ _ _ _ _ => iu_ne (by omega)) (iu_ne (by omega)) (iu_ne (by omega)) (iu_ne (by omega)) (iu_ne (by omega)) (iu_ne (by omega)) (iu_self _ _ _))))
theorem T25_pe (h1 : 0 ≤ p) (h2 : p < 8) : (MEM x m)[29 + p.toNat]? = some (pe (x 4) (x 5) p) := by
  rcases eight h1 h2 with rfl | rfl | rfl | rfl | rfl | rfl | rfl | rfl <;> rfl
theorem T25_PM (h1 : 0 ≤ p) (h2 : p < x 4 0) (h8 : x 4 0 ≤ 8) : PM (MEM x m) (29 + p.toNat) (x 4 (11 + p)) (x 4 (19 + p)) (x 4 (27 + p)) (x 4 (35 + p)) (x 4 (43 + p)) (x 4 (51 + p)) = MEM x m := by
  unfold PM
  have e := T25_pe (x := x) (m := m) h1 (by omega)
  rw [pe_live h2] at e
  apply List.ext_getElem?
  intro i
  by_cases q : i = 29 + p.toNat
  · subst q; rw [List.getElem?_set_self (by rw [MEM_len]; omega), e]
  · rw [List.getElem?_set_ne (Ne.symm q)]
theorem T25_tn {E : pME} (h1 : 0 ≤ p) (h2 : p < 8) (h : (tn 25 (x 4) (x 5)).set (4 + p.toNat) E = tn 25 d' g') : (MEM x m).set (29 + p.toNat) E = MEM (mu (mu x 4 d') 5 g') m := by
  have e : MEM (mu (mu x 4 d') 5 g') m = (MEM x m).take 25 ++ (tn 25 d' g' ++ (MEM x m).drop 37) := rfl
  rw [e, ← h]
  rcases eight h1 h2 with rfl | rfl | rfl | rfl | rfl | rfl | rfl | rfl <;> rfl
theorem T25_sc {E : pME} (h : (tn 25 (x 4) (x 5)).set 0 E = tn 25 d' g') : (MEM x m).set 25 E = MEM (mu (mu x 4 d') 5 g') m := by
  have e : MEM (mu (mu x 4 d') 5 g') m = (MEM x m).take 25 ++ (tn 25 d' g' ++ (MEM x m).drop 37) := rfl
  rw [e, ← h]; rfl
theorem T25_eq (h : tn 25 d' g' = tn 25 (x 4) (x 5)) : MEM (mu (mu x 4 d') 5 g') m = MEM x m := by
  have e : MEM (mu (mu x 4 d') 5 g') m = (MEM x m).take 25 ++ (tn 25 d' g' ++ (MEM x m).drop 37) := rfl
  rw [e, h]; rfl
theorem mu_i2 : mu (mu x 4 d') 5 (x 5) = mu x 4 d' := by
  funext k; unfold mu; by_cases h : k = 4 <;> by_cases h2 : k = 5 <;> simp [h, h2]
theorem T25_live (h1 : 0 ≤ p) (h2 : p < x 4 0) (h8 : x 4 0 ≤ 8) (hd : ∀ j, j ≠ 11 + p → j ≠ 19 + p → j ≠ 27 + p → j ≠ 35 + p → j ≠ 43 + p → j ≠ 51 + p → d' j = x 4 j) (e0 : d' (11 + p) = v0) (e1 : d' (19 + p) = v1) (e2 : d' (27 + p) = v2) (e3 : d' (35 + p) = v3) (e4 : d' (43 + p) = v4) (e5 : d' (51 + p) = v5) : PM (MEM x m) (29 + p.toNat) v0 v1 v2 v3 v4 v5 = MEM (mu x 4 d') m := by
  subst e0 e1 e2 e3 e4 e5
  unfold PM
  have hh : ∀ j, j < 11 ∨ 59 ≤ j → d' j = x 4 j := fun j hj => hd j (by omega) (by omega) (by omega) (by omega) (by omega) (by omega)
  have h0 : d' 0 = x 4 0 := hh 0 (by omega)
  rw [← mu_i2]
  refine T25_tn h1 (by omega) (tn_setp h1 (by omega) (pe_live (by rw [h0]; exact h2)).symm h0 (hh 1 (by omega)) (hh 2 (by omega)) (hh 3 (by omega)) (hh 4 (by omega)) (fun k k1 k2 => hh _ (by omega)) (fun k k1 k2 => hh _ (by omega)) (fun j j1 j2 j3 => ?_))
  by_cases c : j < x 4 0
  · rw [pe_live c, pe_live (by rw [h0]; exact c)]
    rw [hd (11 + j) (by omega) (by omega) (by omega) (by omega) (by omega) (by omega), hd (19 + j) (by omega) (by omega) (by omega) (by omega) (by omega) (by omega), hd (27 + j) (by omega) (by omega) (by omega) (by omega) (by omega) (by omega), hd (35 + j) (by omega) (by omega) (by omega) (by omega) (by omega) (by omega), hd (43 + j) (by omega) (by omega) (by omega) (by omega) (by omega) (by omega), hd (51 + j) (by omega) (by omega) (by omega) (by omega) (by omega) (by omega)]
  · rw [pe_dead c, pe_dead (by rw [h0]; exact c)]
theorem T25_both (h1 : 0 ≤ p) (h2 : p < 8) (hd : ∀ j, j ≠ 11 + p → j ≠ 19 + p → j ≠ 27 + p → j ≠ 35 + p → j ≠ 43 + p → j ≠ 51 + p → d' j = x 4 j) (e0 : d' (11 + p) = v0) (e1 : d' (19 + p) = v1) (e2 : d' (27 + p) = v2) (e3 : d' (35 + p) = v3) (e4 : d' (43 + p) = v4) (e5 : d' (51 + p) = v5) (hg : ∀ j, j ≠ 0 + p → j ≠ 8 + p → j ≠ 16 + p → j ≠ 24 + p → j ≠ 32 + p → j ≠ 40 + p → g' j = x 5 j) (f0 : g' (0 + p) = v0) (f1 : g' (8 + p) = v1) (f2 : g' (16 + p) = v2) (f3 : g' (24 + p) = v3) (f4 : g' (32 + p) = v4) (f5 : g' (40 + p) = v5) : PM (MEM x m) (29 + p.toNat) v0 v1 v2 v3 v4 v5 = MEM (mu (mu x 4 d') 5 g') m := by
  unfold PM
  have hh : ∀ j, j < 11 ∨ 59 ≤ j → d' j = x 4 j := fun j hj => hd j (by omega) (by omega) (by omega) (by omega) (by omega) (by omega)
  have h0 : d' 0 = x 4 0 := hh 0 (by omega)
  refine T25_tn h1 h2 (tn_setp h1 (by omega) ?_ h0 (hh 1 (by omega)) (hh 2 (by omega)) (hh 3 (by omega)) (hh 4 (by omega)) (fun k k1 k2 => hh _ (by omega)) (fun k k1 k2 => hh _ (by omega)) (fun j j1 j2 j3 => ?_))
  · by_cases c : p < d' 0
    · rw [pe_live c, e0, e1, e2, e3, e4, e5]
    · rw [pe_dead c, f0, f1, f2, f3, f4, f5]
  by_cases c : j < x 4 0
  · rw [pe_live c, pe_live (by rw [h0]; exact c)]
    rw [hd (11 + j) (by omega) (by omega) (by omega) (by omega) (by omega) (by omega), hd (19 + j) (by omega) (by omega) (by omega) (by omega) (by omega) (by omega), hd (27 + j) (by omega) (by omega) (by omega) (by omega) (by omega) (by omega), hd (35 + j) (by omega) (by omega) (by omega) (by omega) (by omega) (by omega), hd (43 + j) (by omega) (by omega) (by omega) (by omega) (by omega) (by omega), hd (51 + j) (by omega) (by omega) (by omega) (by omega) (by omega) (by omega)]
  · rw [pe_dead c, pe_dead (by rw [h0]; exact c)]
    rw [hg (0 + j) (by omega) (by omega) (by omega) (by omega) (by omega) (by omega), hg (8 + j) (by omega) (by omega) (by omega) (by omega) (by omega) (by omega), hg (16 + j) (by omega) (by omega) (by omega) (by omega) (by omega) (by omega), hg (24 + j) (by omega) (by omega) (by omega) (by omega) (by omega) (by omega), hg (32 + j) (by omega) (by omega) (by omega) (by omega) (by omega) (by omega), hg (40 + j) (by omega) (by omega) (by omega) (by omega) (by omega) (by omega)]
theorem p25_0 : pf y (MEM x m) 25 3 0 (.int (iI v)) KM = KM (MEM (mu x 4 (iu (x 4) 3 v)) m) := by
  refine pf_of rfl (Nat.le_of_ble_eq_true rfl) rfl rfl rfl ?_
  rw [← mu_i2]
  have z : ∀ j, j ≠ 3 → iu (x 4) 3 v j = x 4 j := fun j hj => iu_ne hj
  refine T25_sc ?_
  refine (show _ = (tn 25 (iu (x 4) 3 v) (x 5)) from ?_)
  unfold tn
  have r1 : row 6 (fun k => iu (x 4) 3 v (5 + k)) = row 6 (fun k => x 4 (5 + k)) := row_cong fun k k1 k2 => z _ (by omega)
  have r2 : row 10 (fun k => iu (x 4) 3 v (59 + k) - 1) = row 10 (fun k => x 4 (59 + k) - 1) := row_cong fun k k1 k2 => by rw [z _ (by omega)]
  rw [r1, r2]
  rfl
theorem p25_1 : pf y (MEM x m) 25 3 1 (.int (iI v)) KM = KM (MEM (mu x 4 (iu (x 4) 4 v)) m) := by
  refine pf_of rfl (Nat.le_of_ble_eq_true rfl) rfl rfl rfl ?_
  rw [← mu_i2]
  have z : ∀ j, j ≠ 4 → iu (x 4) 4 v j = x 4 j := fun j hj => iu_ne hj
  refine T25_sc ?_
  refine (show _ = (tn 25 (iu (x 4) 4 v) (x 5)) from ?_)
  unfold tn
  have r1 : row 6 (fun k => iu (x 4) 4 v (5 + k)) = row 6 (fun k => x 4 (5 + k)) := row_cong fun k k1 k2 => z _ (by omega)
  have r2 : row 10 (fun k => iu (x 4) 4 v (59 + k) - 1) = row 10 (fun k => x 4 (59 + k) - 1) := row_cong fun k k1 k2 => by rw [z _ (by omega)]
  rw [r1, r2]
  rfl
theorem p25_2 : pf y (MEM x m) 25 3 2 (.int (iI v)) KM = KM (MEM (mu x 4 (iu (x 4) 1 v)) m) := by
  refine pf_of rfl (Nat.le_of_ble_eq_true rfl) rfl rfl rfl ?_
  rw [← mu_i2]
  have z : ∀ j, j ≠ 1 → iu (x 4) 1 v j = x 4 j := fun j hj => iu_ne hj
  refine T25_sc ?_
  refine (show _ = (tn 25 (iu (x 4) 1 v) (x 5)) from ?_)
  unfold tn
  have r1 : row 6 (fun k => iu (x 4) 1 v (5 + k)) = row 6 (fun k => x 4 (5 + k)) := row_cong fun k k1 k2 => z _ (by omega)
  have r2 : row 10 (fun k => iu (x 4) 1 v (59 + k) - 1) = row 10 (fun k => x 4 (59 + k) - 1) := row_cong fun k k1 k2 => by rw [z _ (by omega)]
  rw [r1, r2]
  rfl
theorem p25_3 : pf y (MEM x m) 25 3 3 (.int (iI v)) KM = KM (MEM (mu x 4 (iu (x 4) 2 v)) m) := by
  refine pf_of rfl (Nat.le_of_ble_eq_true rfl) rfl rfl rfl ?_
  rw [← mu_i2]
  have z : ∀ j, j ≠ 2 → iu (x 4) 2 v j = x 4 j := fun j hj => iu_ne hj
  refine T25_sc ?_
  refine (show _ = (tn 25 (iu (x 4) 2 v) (x 5)) from ?_)
  unfold tn
  have r1 : row 6 (fun k => iu (x 4) 2 v (5 + k)) = row 6 (fun k => x 4 (5 + k)) := row_cong fun k k1 k2 => z _ (by omega)
  have r2 : row 10 (fun k => iu (x 4) 2 v (59 + k) - 1) = row 10 (fun k => x 4 (59 + k) - 1) := row_cong fun k k1 k2 => by rw [z _ (by omega)]
  rw [r1, r2]
  rfl
theorem T25_people (hB : Bal (x 4) (x 5)) : pf y (MEM x m) 25 3 4 (.int (iI v)) KM = KM (MEM (mu x 4 (iu (x 4) 0 v)) m) := by
  refine pf_of rfl (Nat.le_of_ble_eq_true rfl) rfl rfl rfl ?_
  rw [← mu_i2]
  have z : ∀ j, j ≠ 0 → iu (x 4) 0 v j = x 4 j := fun j hj => iu_ne hj
  have hB2 : Bal (iu (x 4) 0 v) (x 5) := fun p w p1 p2 w1 w2 => by rw [z _ (by omega)]; exact hB p w p1 p2 w1 w2
  have hp : ∀ p, 0 ≤ p → p < 8 → pe (iu (x 4) 0 v) (x 5) p = pe (x 4) (x 5) p := fun p p1 p2 => by
    rw [Bal_pe hB p1 p2, Bal_pe hB2 p1 p2, z (11 + p) (by omega), z (19 + p) (by omega), z (27 + p) (by omega), z (35 + p) (by omega), z (43 + p) (by omega), z (51 + p) (by omega)]
  refine T25_sc ?_
  refine (show _ = (tn 25 (iu (x 4) 0 v) (x 5)) from ?_)
  unfold tn
  have r1 : row 6 (fun k => iu (x 4) 0 v (5 + k)) = row 6 (fun k => x 4 (5 + k)) := row_cong fun k k1 k2 => z _ (by omega)
  have r2 : row 10 (fun k => iu (x 4) 0 v (59 + k) - 1) = row 10 (fun k => x 4 (59 + k) - 1) := row_cong fun k k1 k2 => by rw [z _ (by omega)]
  rw [r1, r2]
  simp (disch := omega) only [hp]
  rfl
theorem ri27 (h1 : 0 ≤ j) (h2 : j < 6) : ri X (MEM x m) 27 (iI j) KI = KI (iI (x 4 (5 + j))) := ri_of (n := 6) (f := fun k => x 4 (5 + k)) rfl (by decide) h1 h2
theorem ri28 (h1 : 0 ≤ j) (h2 : j < 10) : ri X (MEM x m) 28 (iI j) KI = KI (iI (x 4 (59 + j) - 1)) := ri_of (n := 10) (f := fun k => x 4 (59 + k) - 1) rfl (by decide) h1 h2
theorem wi27 (h1 : 0 ≤ j) (h2 : j < 6) : wi (MEM x m) 27 (iI j) (iI v) KM = KM (MEM (mu x 4 (iu (x 4) (5 + j) (v))) m) := by
  refine wi_of (n := 6) (f := fun k => x 4 (5 + k)) rfl (by decide) ?_ h1 h2
  have z : ∀ i, i ≠ 5 + j → iu (x 4) (5 + j) (v) i = x 4 i := fun i hi => iu_ne hi
  have r : row 6 (iu (fun k => x 4 (5 + k)) j v) = row 6 (fun k => iu (x 4) (5 + j) (v) (5 + k)) := row_cong fun k k1 k2 => by
    by_cases c : k = j
    · subst c; simp only [iu_self]
    · rw [iu_ne c, z _ (by omega)]
  rw [r, ← mu_i2]
  have hp : ∀ p, 0 ≤ p → p < 8 → pe (iu (x 4) (5 + j) (v)) (x 5) p = pe (x 4) (x 5) p := fun p p1 p2 => by
    by_cases c : p < x 4 0
    · rw [pe_live c, pe_live (by rw [z _ (by omega)]; exact c), z (11 + p) (by omega), z (19 + p) (by omega), z (27 + p) (by omega), z (35 + p) (by omega), z (43 + p) (by omega), z (51 + p) (by omega)]
    · rw [pe_dead c, pe_dead (by rw [z _ (by omega)]; exact c)]
  have r1 : row 10 (fun k => iu (x 4) (5 + j) (v) (59 + k) - 1) = row 10 (fun k => x 4 (59 + k) - 1) := row_cong fun k k1 k2 => by rw [z _ (by omega)]
  have e : MEM (mu (mu x 4 (iu (x 4) (5 + j) (v))) 5 (x 5)) m = (MEM x m).take 25 ++ (tn 25 (iu (x 4) (5 + j) (v)) (x 5) ++ (MEM x m).drop 37) := rfl
  rw [e]
  unfold tn
  rw [r1]
  simp (disch := omega) only [hp, z]
  rfl
theorem wi28 (h1 : 0 ≤ j) (h2 : j < 10) : wi (MEM x m) 28 (iI j) (iI v) KM = KM (MEM (mu x 4 (iu (x 4) (59 + j) (v + 1))) m) := by
  refine wi_of (n := 10) (f := fun k => x 4 (59 + k) - 1) rfl (by decide) ?_ h1 h2
  have z : ∀ i, i ≠ 59 + j → iu (x 4) (59 + j) (v + 1) i = x 4 i := fun i hi => iu_ne hi
  have r : row 10 (iu (fun k => x 4 (59 + k) - 1) j v) = row 10 (fun k => iu (x 4) (59 + j) (v + 1) (59 + k) - 1) := row_cong fun k k1 k2 => by
    by_cases c : k = j
    · subst c; simp only [iu_self]; omega
    · rw [iu_ne c, z _ (by omega)]
  rw [r, ← mu_i2]
  have hp : ∀ p, 0 ≤ p → p < 8 → pe (iu (x 4) (59 + j) (v + 1)) (x 5) p = pe (x 4) (x 5) p := fun p p1 p2 => by
    by_cases c : p < x 4 0
    · rw [pe_live c, pe_live (by rw [z _ (by omega)]; exact c), z (11 + p) (by omega), z (19 + p) (by omega), z (27 + p) (by omega), z (35 + p) (by omega), z (43 + p) (by omega), z (51 + p) (by omega)]
    · rw [pe_dead c, pe_dead (by rw [z _ (by omega)]; exact c)]
  have r1 : row 6 (fun k => iu (x 4) (59 + j) (v + 1) (5 + k)) = row 6 (fun k => x 4 (5 + k)) := row_cong fun k k1 k2 => by rw [z _ (by omega)]
  have e : MEM (mu (mu x 4 (iu (x 4) (59 + j) (v + 1))) 5 (x 5)) m = (MEM x m).take 25 ++ (tn 25 (iu (x 4) (59 + j) (v + 1)) (x 5) ++ (MEM x m).drop 37) := rfl
  rw [e]
  unfold tn
  rw [r1]
  simp (disch := omega) only [hp, z]
  rfl
theorem ra26 (h1 : 0 ≤ p) (h2 : p < 8) : ra (MEM x m) 26 (iI p) KN = KN (29 + p.toNat) := ra_of (n := 8) (k := 2) rfl (Or.inl rfl) (by decide) h1 h2 (if_pos (by omega))
theorem rcp25 (h1 : 0 ≤ p) (h2 : p < 8) : prcv (MEM x m) 0 (29 + p.toNat) = True := eq_true (by unfold prcv; rw [T25_pe h1 h2]; exact ⟨rfl, by decide⟩)
theorem gp25_0 (h1 : 0 ≤ p) (h2 : p < x 4 0) (h8 : x 4 0 ≤ 8) : gf (MEM x m) (29 + p.toNat) 0 0 KV = KV (.int (iI (x 4 (11 + p)))) := gf_of ((T25_pe h1 (by omega)).trans (congrArg some (pe_live h2))) rfl
theorem pp25_0 (h1 : 0 ≤ p) (h2 : p < x 4 0) (h8 : x 4 0 ≤ 8) : pf y (MEM x m) (29 + p.toNat) 0 0 (.int (iI v)) KM = KM (MEM (mu x 4 (iu (x 4) (11 + p) v)) m) := by
  refine (congrArg (fun z => pf y z (29 + p.toNat) 0 0 (.int (iI v)) KM) (T25_PM (x := x) (m := m) h1 h2 h8)).symm.trans ((pP0 (by rw [MEM_len]; omega)).trans (congrArg KM (T25_live h1 h2 h8 (fun j _ _ _ _ _ _ => iu_ne (by omega)) (iu_self _ _ _) (iu_ne (by omega)) (iu_ne (by omega)) (iu_ne (by omega)) (iu_ne (by omega)) (iu_ne (by omega)))))
theorem gp25_1 (h1 : 0 ≤ p) (h2 : p < x 4 0) (h8 : x 4 0 ≤ 8) : gf (MEM x m) (29 + p.toNat) 0 1 KV = KV (.int (iI (x 4 (19 + p)))) := gf_of ((T25_pe h1 (by omega)).trans (congrArg some (pe_live h2))) rfl
theorem pp25_1 (h1 : 0 ≤ p) (h2 : p < x 4 0) (h8 : x 4 0 ≤ 8) : pf y (MEM x m) (29 + p.toNat) 0 1 (.int (iI v)) KM = KM (MEM (mu x 4 (iu (x 4) (19 + p) v)) m) := by
  refine (congrArg (fun z => pf y z (29 + p.toNat) 0 1 (.int (iI v)) KM) (T25_PM (x := x) (m := m) h1 h2 h8)).symm.trans ((pP1 (by rw [MEM_len]; omega)).trans (congrArg KM (T25_live h1 h2 h8 (fun j _ _ _ _ _ _ => iu_ne (by omega)) (iu_ne (by omega)) (iu_self _ _ _) (iu_ne (by omega)) (iu_ne (by omega)) (iu_ne (by omega)) (iu_ne (by omega)))))
theorem gp25_2 (h1 : 0 ≤ p) (h2 : p < x 4 0) (h8 : x 4 0 ≤ 8) : gf (MEM x m) (29 + p.toNat) 0 2 KV = KV (.int (iI (x 4 (27 + p)))) := gf_of ((T25_pe h1 (by omega)).trans (congrArg some (pe_live h2))) rfl
theorem pp25_2 (h1 : 0 ≤ p) (h2 : p < x 4 0) (h8 : x 4 0 ≤ 8) : pf y (MEM x m) (29 + p.toNat) 0 2 (.int (iI v)) KM = KM (MEM (mu x 4 (iu (x 4) (27 + p) v)) m) := by
  refine (congrArg (fun z => pf y z (29 + p.toNat) 0 2 (.int (iI v)) KM) (T25_PM (x := x) (m := m) h1 h2 h8)).symm.trans ((pP2 (by rw [MEM_len]; omega)).trans (congrArg KM (T25_live h1 h2 h8 (fun j _ _ _ _ _ _ => iu_ne (by omega)) (iu_ne (by omega)) (iu_ne (by omega)) (iu_self _ _ _) (iu_ne (by omega)) (iu_ne (by omega)) (iu_ne (by omega)))))
theorem gp25_3 (h1 : 0 ≤ p) (h2 : p < x 4 0) (h8 : x 4 0 ≤ 8) : gf (MEM x m) (29 + p.toNat) 0 3 KV = KV (.int (iI (x 4 (35 + p)))) := gf_of ((T25_pe h1 (by omega)).trans (congrArg some (pe_live h2))) rfl
theorem pp25_3 (h1 : 0 ≤ p) (h2 : p < x 4 0) (h8 : x 4 0 ≤ 8) : pf y (MEM x m) (29 + p.toNat) 0 3 (.int (iI v)) KM = KM (MEM (mu x 4 (iu (x 4) (35 + p) v)) m) := by
  refine (congrArg (fun z => pf y z (29 + p.toNat) 0 3 (.int (iI v)) KM) (T25_PM (x := x) (m := m) h1 h2 h8)).symm.trans ((pP3 (by rw [MEM_len]; omega)).trans (congrArg KM (T25_live h1 h2 h8 (fun j _ _ _ _ _ _ => iu_ne (by omega)) (iu_ne (by omega)) (iu_ne (by omega)) (iu_ne (by omega)) (iu_self _ _ _) (iu_ne (by omega)) (iu_ne (by omega)))))
theorem gp25_4 (h1 : 0 ≤ p) (h2 : p < x 4 0) (h8 : x 4 0 ≤ 8) : gf (MEM x m) (29 + p.toNat) 0 4 KV = KV (.int (iI (x 4 (43 + p)))) := gf_of ((T25_pe h1 (by omega)).trans (congrArg some (pe_live h2))) rfl
theorem pp25_4 (h1 : 0 ≤ p) (h2 : p < x 4 0) (h8 : x 4 0 ≤ 8) : pf y (MEM x m) (29 + p.toNat) 0 4 (.int (iI v)) KM = KM (MEM (mu x 4 (iu (x 4) (43 + p) v)) m) := by
  refine (congrArg (fun z => pf y z (29 + p.toNat) 0 4 (.int (iI v)) KM) (T25_PM (x := x) (m := m) h1 h2 h8)).symm.trans ((pP4 (by rw [MEM_len]; omega)).trans (congrArg KM (T25_live h1 h2 h8 (fun j _ _ _ _ _ _ => iu_ne (by omega)) (iu_ne (by omega)) (iu_ne (by omega)) (iu_ne (by omega)) (iu_ne (by omega)) (iu_self _ _ _) (iu_ne (by omega)))))
theorem gp25_5 (h1 : 0 ≤ p) (h2 : p < x 4 0) (h8 : x 4 0 ≤ 8) : gf (MEM x m) (29 + p.toNat) 0 5 KV = KV (.int (iI (x 4 (51 + p)))) := gf_of ((T25_pe h1 (by omega)).trans (congrArg some (pe_live h2))) rfl
theorem pp25_5 (h1 : 0 ≤ p) (h2 : p < x 4 0) (h8 : x 4 0 ≤ 8) : pf y (MEM x m) (29 + p.toNat) 0 5 (.int (iI v)) KM = KM (MEM (mu x 4 (iu (x 4) (51 + p) v)) m) := by
  refine (congrArg (fun z => pf y z (29 + p.toNat) 0 5 (.int (iI v)) KM) (T25_PM (x := x) (m := m) h1 h2 h8)).symm.trans ((pP5 (by rw [MEM_len]; omega)).trans (congrArg KM (T25_live h1 h2 h8 (fun j _ _ _ _ _ _ => iu_ne (by omega)) (iu_ne (by omega)) (iu_ne (by omega)) (iu_ne (by omega)) (iu_ne (by omega)) (iu_ne (by omega)) (iu_self _ _ _))))
end

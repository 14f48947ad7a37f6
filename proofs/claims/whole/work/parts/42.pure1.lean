/-! a day, as a function on the numbers -/
theorem iu_at {f : Int → Int} {k v j : Int} : iu f k v j = if j = k then v else f j := rfl
/-- within what is told -/
def Pb (d : Int → Int) (p : Int) : Prop := (0 ≤ d (11 + p) ∧ d (11 + p) ≤ 6) ∧ (0 ≤ d (19 + p) ∧ d (19 + p) ≤ 999) ∧ (0 ≤ d (27 + p) ∧ d (27 + p) ≤ 999) ∧ (0 ≤ d (35 + p) ∧ d (35 + p) ≤ 9999) ∧ (0 ≤ d (43 + p) ∧ d (43 + p) ≤ 99) ∧ (0 ≤ d (51 + p) ∧ d (51 + p) ≤ 9999)
def Iv (d : Int → Int) : Prop := (0 ≤ d 0 ∧ d 0 ≤ 8) ∧ (0 ≤ d 1 ∧ d 1 ≤ 99999) ∧ (-2147483648 ≤ d 2 ∧ d 2 < 2147483648) ∧ (2 ≤ d 3 ∧ d 3 ≤ 30) ∧ (0 ≤ d 4 ∧ d 4 ≤ 9999) ∧ (∀ i, 0 ≤ i → i < 6 → isPay (d (5 + i))) ∧ (∀ p, 0 ≤ p → p < d 0 → Pb d p) ∧ (∀ i, 0 ≤ i → i < 10 → 0 ≤ d (59 + i) ∧ d (59 + i) ≤ d 0)
theorem Iv_P {d d' : Int → Int} {p : Int} (h : Iv d) (h1 : 0 ≤ p) (h2 : p < d 0) (he : ∀ j, j ≠ 19 + p → j ≠ 27 + p → j ≠ 35 + p → j ≠ 43 + p → j ≠ 51 + p → j ≠ 4 → d' j = d j) (hf : 0 ≤ d' 4 ∧ d' 4 ≤ 9999) (b1 : 0 ≤ d' (19 + p) ∧ d' (19 + p) ≤ 999) (b2 : 0 ≤ d' (27 + p) ∧ d' (27 + p) ≤ 999) (b3 : 0 ≤ d' (35 + p) ∧ d' (35 + p) ≤ 9999) (b4 : 0 ≤ d' (43 + p) ∧ d' (43 + p) ≤ 99) (b5 : 0 ≤ d' (51 + p) ∧ d' (51 + p) ≤ 9999) : Iv d' ∧ d' 0 = d 0 ∧ d' 1 = d 1 ∧ d' 3 = d 3 := by
  obtain ⟨q0, q1, q2, q3, q4, q5, q6, q7⟩ := h
  have e0 : d' 0 = d 0 := he 0 (by omega) (by omega) (by omega) (by omega) (by omega) (by omega)
  have e1 : d' 1 = d 1 := he 1 (by omega) (by omega) (by omega) (by omega) (by omega) (by omega)
  have e2 : d' 2 = d 2 := he 2 (by omega) (by omega) (by omega) (by omega) (by omega) (by omega)
  have e3 : d' 3 = d 3 := he 3 (by omega) (by omega) (by omega) (by omega) (by omega) (by omega)
  refine ⟨⟨by rw [e0]; exact q0, by rw [e1]; exact q1, by rw [e2]; exact q2, by rw [e3]; exact q3, hf, fun i i1 i2 => ?_, fun r r1 r2 => ?_, fun i i1 i2 => ?_⟩, e0, e1, e3⟩
  · rw [he (5 + i) (by omega) (by omega) (by omega) (by omega) (by omega) (by omega)]; exact q5 i i1 i2
  · rw [e0] at r2
    obtain ⟨g0, g1, g2, g3, g4, g5⟩ := q6 r r1 r2
    by_cases e : r = p
    · subst e
      exact ⟨by rw [he (11 + r) (by omega) (by omega) (by omega) (by omega) (by omega) (by omega)]; exact g0, b1, b2, b3, b4, b5⟩
    · refine ⟨?_, ?_, ?_, ?_, ?_, ?_⟩
      · rw [he (11 + r) (by omega) (by omega) (by omega) (by omega) (by omega) (by omega)]; exact g0
      · rw [he (19 + r) (by omega) (by omega) (by omega) (by omega) (by omega) (by omega)]; exact g1
      · rw [he (27 + r) (by omega) (by omega) (by omega) (by omega) (by omega) (by omega)]; exact g2
      · rw [he (35 + r) (by omega) (by omega) (by omega) (by omega) (by omega) (by omega)]; exact g3
      · rw [he (43 + r) (by omega) (by omega) (by omega) (by omega) (by omega) (by omega)]; exact g4
      · rw [he (51 + r) (by omega) (by omega) (by omega) (by omega) (by omega) (by omega)]; exact g5
  · rw [he (59 + i) (by omega) (by omega) (by omega) (by omega) (by omega) (by omega), e0]; exact q7 i i1 i2
/-- slow ones are changed as long as it isn't enough -/
def chg (r cost : Int) : Nat → Int → Int → Int × Int
  | 0, s, l => (s, l)
  | n + 1, s, l => if s < cost ∧ 0 < l then chg r cost n (s + r) (l - 1) else (s, l)
theorem chg_ok (r cost : Int) (hr : 2 ≤ r ∧ r ≤ 30) (hc : 0 ≤ cost ∧ cost ≤ 400) : ∀ (n : Nat) (s l : Int), 0 ≤ s → s ≤ 999 → 0 ≤ l → l ≤ 999 → l ≤ n → 0 ≤ (chg r cost n s l).1 ∧ (chg r cost n s l).1 ≤ 999 ∧ 0 ≤ (chg r cost n s l).2 ∧ (chg r cost n s l).2 ≤ l ∧ ¬ ((chg r cost n s l).1 < cost ∧ 0 < (chg r cost n s l).2)
  | 0, s, l, h1, h2, h3, h4, h5 => by simp only [chg]; omega
  | n + 1, s, l, h1, h2, h3, h4, h5 => by
    unfold chg
    by_cases c : s < cost ∧ 0 < l
    · rw [if_pos c]
      have ih := chg_ok r cost hr hc n (s + r) (l - 1) (by omega) (by omega) (by omega) (by omega) (by omega)
      omega
    · rw [if_neg c]; exact ⟨h1, h2, h3, Int.le_refl _, c⟩
theorem givF_ok {k w r pr : Int} (h3 : 0 ≤ pr) (h4 : pr ≤ 99) (hr : 2 ≤ r) (hr2 : r ≤ 30) : 0 ≤ givF k w r pr ∧ givF k w r pr ≤ 400 := by
  unfold givF
  repeat' split
  all_goals omega
theorem tkF_ok {k pr : Int} (h3 : 0 ≤ pr) (h4 : pr ≤ 99) : 0 ≤ tkF k pr ∧ tkF k pr ≤ 400 := by
  unfold tkF
  repeat' split
  all_goals omega
theorem eaF_ok {k day sl : Int} (h3 : 0 ≤ sl) (h4 : sl ≤ 999) : 0 ≤ eaF k day sl ∧ eaF k day sl ≤ 200 := by
  unfold eaF
  repeat' split
  all_goals omega
/-- what a pays of the price, and what it can't -/
def coF (d : Int → Int) (a pr : Int) : Int := givF (d (11 + a)) (d (43 + a)) (d 3) pr
def slF (d : Int → Int) (a pr : Int) : Int × Int := chg (d 3) (coF d a pr) (d (27 + a)).toNat (d (19 + a)) (d (27 + a))
def unF (d : Int → Int) (a pr : Int) : Int := max (coF d a pr - (slF d a pr).1) 0
def paF (d : Int → Int) (a b pr : Int) : Int → Int :=
  iu (iu (iu (iu (iu (iu d (27 + a) (slF d a pr).2) (19 + a) (max ((slF d a pr).1 - coF d a pr) 0)) (35 + a) (min (d (35 + a) + unF d a pr) 9999)) (51 + a) (min (d (51 + a) + 1) 9999)) (43 + b) (min (d (43 + b) + 1) 99)) (19 + b) (min (d (19 + b) + max (tkF (d (11 + b)) pr - unF d a pr) 0) 999)
theorem paF_Iv {d : Int → Int} {a b pr : Int} (h : Iv d) (ha : 0 ≤ a) (ha2 : a < d 0) (hb : 0 ≤ b) (hb2 : b < d 0) (hab : a ≠ b) (h3 : 0 ≤ pr) (h4 : pr ≤ 99) : Iv (paF d a b pr) ∧ paF d a b pr 0 = d 0 ∧ paF d a b pr 1 = d 1 ∧ paF d a b pr 3 = d 3 := by
  have hA := h.2.2.2.2.2.2.1 a ha ha2
  have hB := h.2.2.2.2.2.2.1 b hb hb2
  have h0 := h.1
  have h3' := h.2.2.2.1
  have h4' := h.2.2.2.2.1
  unfold Pb at hA hB
  have hg := givF_ok (k := d (11 + a)) (w := d (43 + a)) h3 h4 h3'.1 h3'.2
  have ht := tkF_ok (k := d (11 + b)) h3 h4
  have hc := chg_ok (d 3) (coF d a pr) h3' hg (d (27 + a)).toNat (d (19 + a)) (d (27 + a)) (by omega) (by omega) (by omega) (by omega) (by omega)
  have hc' : 0 ≤ (slF d a pr).1 ∧ (slF d a pr).1 ≤ 999 ∧ 0 ≤ (slF d a pr).2 ∧ (slF d a pr).2 ≤ d (27 + a) ∧ ¬ ((slF d a pr).1 < coF d a pr ∧ 0 < (slF d a pr).2) := hc
  have hg' : 0 ≤ coF d a pr ∧ coF d a pr ≤ 400 := hg
  have hu : unF d a pr = max (coF d a pr - (slF d a pr).1) 0 := rfl
  let d1 := iu (iu (iu (iu d (27 + a) (slF d a pr).2) (19 + a) (max ((slF d a pr).1 - coF d a pr) 0)) (35 + a) (min (d (35 + a) + unF d a pr) 9999)) (51 + a) (min (d (51 + a) + 1) 9999)
  have s1 : Iv d1 ∧ d1 0 = d 0 ∧ d1 1 = d 1 ∧ d1 3 = d 3 := by
    refine Iv_P h ha ha2 (fun j j1 j2 j3 j4 j5 j6 => ?_) ?_ ?_ ?_ ?_ ?_ ?_
    all_goals simp (disch := omega) only [d1, iu_at, if_pos, if_neg]
    all_goals omega
  obtain ⟨i1, e0, e1, e3⟩ := s1
  have hB1 : d1 (43 + b) = d (43 + b) ∧ d1 (19 + b) = d (19 + b) := by
    constructor <;> simp (disch := omega) only [d1, iu_at, if_pos, if_neg]
  have hBb := i1.2.2.2.2.2.2.1 b hb (by omega)
  unfold Pb at hBb
  have h44 := i1.2.2.2.2.1
  let d2 := iu (iu d1 (43 + b) (min (d (43 + b) + 1) 99)) (19 + b) (min (d (19 + b) + max (tkF (d (11 + b)) pr - unF d a pr) 0) 999)
  have s2 : Iv d2 ∧ d2 0 = d1 0 ∧ d2 1 = d1 1 ∧ d2 3 = d1 3 := by
    refine Iv_P (p := b) i1 hb (by omega) (fun j j1 j2 j3 j4 j5 j6 => ?_) ?_ ?_ ?_ ?_ ?_ ?_
    all_goals simp (disch := omega) only [d2, iu_at, if_pos, if_neg]
    all_goals omega
  obtain ⟨i2, f0, f1, f3⟩ := s2
  exact ⟨i2, f0.trans e0, f1.trans e1, f3.trans e3⟩
/-- one earns, and pays of its debt -/
def smF (d : Int → Int) (p : Int) : Int := min (d (19 + p) + eaF (d (11 + p)) (d 1) (d (27 + p))) 999
def erF (d : Int → Int) (p : Int) : Int → Int := iu (iu (iu d 4 (min (d 4 + (if d (11 + p) = 6 then 5 else 0)) 9999)) (19 + p) (smF d p - min (d (35 + p)) (smF d p))) (35 + p) (d (35 + p) - min (d (35 + p)) (smF d p))
theorem erF_Iv {d : Int → Int} {p : Int} (h : Iv d) (ha : 0 ≤ p) (ha2 : p < d 0) : Iv (erF d p) ∧ erF d p 0 = d 0 ∧ erF d p 1 = d 1 ∧ erF d p 3 = d 3 := by
  have hA := h.2.2.2.2.2.2.1 p ha ha2
  have h0 := h.1
  have h4' := h.2.2.2.2.1
  unfold Pb at hA
  have he := eaF_ok (k := d (11 + p)) (day := d 1) (sl := d (27 + p)) (by omega) (by omega)
  have hs : smF d p = min (d (19 + p) + eaF (d (11 + p)) (d 1) (d (27 + p))) 999 := rfl
  refine Iv_P h ha ha2 (fun j j1 j2 j3 j4 j5 j6 => ?_) ?_ ?_ ?_ ?_ ?_ ?_
  all_goals simp (disch := omega) only [erF, iu_at, if_pos, if_neg]
  · by_cases c : d (11 + p) = 6
    · rw [if_pos c]; omega
    · rw [if_neg c]; omega
  all_goals omega
/-- one goes to the bank -/
def byF (d : Int → Int) (p : Int) : Int := min (d (19 + p) / d 3) (999 - d (27 + p))
noncomputable def bkF (d : Int → Int) (p : Int) : Int → Int := @ite _ (chF (d (11 + p)) (d (19 + p))) (Classical.propDecidable _) (iu (iu (iu d (19 + p) (d (19 + p) - byF d p * d 3)) (27 + p) (d (27 + p) + byF d p)) (43 + p) (if 0 < byF d p then max (d (43 + p) - 2) 0 else d (43 + p))) d
theorem by_ok {d : Int → Int} {p : Int} (h : Iv d) (ha : 0 ≤ p) (ha2 : p < d 0) : 0 ≤ byF d p ∧ byF d p ≤ 999 - d (27 + p) ∧ 0 ≤ byF d p * d 3 ∧ byF d p * d 3 ≤ d (19 + p) := by
  have hA := h.2.2.2.2.2.2.1 p ha ha2
  have h3' := h.2.2.2.1
  unfold Pb at hA
  have q1 : 0 ≤ d (19 + p) / d 3 := Int.ediv_nonneg (by omega) (by omega)
  have q2 : d (19 + p) / d 3 * d 3 ≤ d (19 + p) := Int.ediv_mul_le _ (by omega)
  have q3 : byF d p ≤ d (19 + p) / d 3 := Int.min_le_left _ _
  have q4 : byF d p ≤ 999 - d (27 + p) := Int.min_le_right _ _
  have q5 : 0 ≤ byF d p := by unfold byF; omega
  exact ⟨q5, q4, Int.mul_nonneg q5 (by omega), Int.le_trans (Int.mul_le_mul_of_nonneg_right q3 (by omega)) q2⟩
theorem bkF_Iv {d : Int → Int} {p : Int} (h : Iv d) (ha : 0 ≤ p) (ha2 : p < d 0) : Iv (bkF d p) ∧ bkF d p 0 = d 0 ∧ bkF d p 1 = d 1 ∧ bkF d p 3 = d 3 := by
  by_cases c : chF (d (11 + p)) (d (19 + p))
  · have e : bkF d p = iu (iu (iu d (19 + p) (d (19 + p) - byF d p * d 3)) (27 + p) (d (27 + p) + byF d p)) (43 + p) (if 0 < byF d p then max (d (43 + p) - 2) 0 else d (43 + p)) := if_pos c
    have hA := h.2.2.2.2.2.2.1 p ha ha2
    have h0 := h.1
    have h4' := h.2.2.2.2.1
    unfold Pb at hA
    have hb := by_ok h ha ha2
    rw [e]
    refine Iv_P h ha ha2 (fun j j1 j2 j3 j4 j5 j6 => ?_) ?_ ?_ ?_ ?_ ?_ ?_
    all_goals simp (disch := omega) only [iu_at, if_pos, if_neg]
    all_goals first | omega | (split <;> omega)
  · have e : bkF d p = d := if_neg c
    rw [e]; exact ⟨h, rfl, rfl, rfl⟩
def lpE (d : Int → Int) : Nat → Int → Int
  | 0 => d
  | n + 1 => erF (lpE d n) n
noncomputable def lpB (d : Int → Int) : Nat → Int → Int
  | 0 => d
  | n + 1 => bkF (lpB d n) n
theorem lpE_Iv {d : Int → Int} (h : Iv d) : ∀ n : Nat, (n : Int) ≤ d 0 → Iv (lpE d n) ∧ lpE d n 0 = d 0 ∧ lpE d n 1 = d 1 ∧ lpE d n 3 = d 3
  | 0, _ => ⟨h, rfl, rfl, rfl⟩
  | n + 1, hn => by
    obtain ⟨i, e0, e1, e3⟩ := lpE_Iv h n (by omega)
    obtain ⟨j, f0, f1, f3⟩ := erF_Iv (p := n) i (by omega) (by omega)
    exact ⟨j, f0.trans e0, f1.trans e1, f3.trans e3⟩
theorem lpB_Iv {d : Int → Int} (h : Iv d) : ∀ n : Nat, (n : Int) ≤ d 0 → Iv (lpB d n) ∧ lpB d n 0 = d 0 ∧ lpB d n 1 = d 1 ∧ lpB d n 3 = d 3
  | 0, _ => ⟨h, rfl, rfl, rfl⟩
  | n + 1, hn => by
    obtain ⟨i, e0, e1, e3⟩ := lpB_Iv h n (by omega)
    obtain ⟨j, f0, f1, f3⟩ := bkF_Iv (p := n) i (by omega) (by omega)
    exact ⟨j, f0.trans e0, f1.trans e1, f3.trans e3⟩
/-- does a strike (a set) hold a back? -/
def skF (st a : Int) : Prop := ¬ ((iI st >>> (iI a &&& 31)) &&& iI 1 = 0)
/-- the payment of the day -/
def pyF (d : Int → Int) : Int := d (5 + d 1 % 6)
noncomputable def dpF (st : Int) (d : Int → Int) : Int → Int := @ite _ (0 < pyF d % 100 ∧ pyF d / 1000 ≠ pyF d / 100 % 10 ∧ pyF d / 1000 < d 0 ∧ pyF d / 100 % 10 < d 0 ∧ ¬ skF st (pyF d / 1000)) (Classical.propDecidable _) (paF d (pyF d / 1000) (pyF d / 100 % 10) (pyF d % 100)) d
noncomputable def dyF (st : Int) (d : Int → Int) : Int → Int := iu (lpB (lpE (dpF st d) (d 0).toNat) (d 0).toNat) 1 (min (d 1 + 1) 99999)
theorem pyF_ok {d : Int → Int} (h : Iv d) : isPay (pyF d) := by
  have := h.2.1
  exact h.2.2.2.2.2.1 (d 1 % 6) (by omega) (by omega)
theorem dpF_Iv {d : Int → Int} {st : Int} (h : Iv d) : Iv (dpF st d) ∧ dpF st d 0 = d 0 ∧ dpF st d 1 = d 1 ∧ dpF st d 3 = d 3 := by
  have hp := pyF_ok h
  unfold isPay at hp
  by_cases c : 0 < pyF d % 100 ∧ pyF d / 1000 ≠ pyF d / 100 % 10 ∧ pyF d / 1000 < d 0 ∧ pyF d / 100 % 10 < d 0 ∧ ¬ skF st (pyF d / 1000)
  · have e : dpF st d = paF d (pyF d / 1000) (pyF d / 100 % 10) (pyF d % 100) := if_pos c
    rw [e]
    exact paF_Iv h (by omega) c.2.2.1 (by omega) c.2.2.2.1 c.2.1 (by omega) (by omega)
  · have e : dpF st d = d := if_neg c
    rw [e]; exact ⟨h, rfl, rfl, rfl⟩
theorem Iv_day {d : Int → Int} {v : Int} (h : Iv d) (h1 : 0 ≤ v) (h2 : v ≤ 99999) : Iv (iu d 1 v) := by
  obtain ⟨q0, q1, q2, q3, q4, q5, q6, q7⟩ := h
  refine ⟨?_, ?_, ?_, ?_, ?_, fun i i1 i2 => ?_, fun r r1 r2 => ?_, fun i i1 i2 => ?_⟩
  · simp (disch := omega) only [iu_at, if_pos, if_neg]; exact q0
  · simp (disch := omega) only [iu_at, if_pos, if_neg]; omega
  · simp (disch := omega) only [iu_at, if_pos, if_neg]; exact q2
  · simp (disch := omega) only [iu_at, if_pos, if_neg]; exact q3
  · simp (disch := omega) only [iu_at, if_pos, if_neg]; exact q4
  · simp (disch := omega) only [iu_at, if_pos, if_neg]; exact q5 i i1 i2
  · simp (disch := omega) only [iu_at, if_pos, if_neg] at r2
    have := q6 r r1 r2
    unfold Pb at this ⊢
    simp (disch := omega) only [iu_at, if_pos, if_neg]; exact this
  · simp (disch := omega) only [iu_at, if_pos, if_neg]; exact q7 i i1 i2
theorem dyF_Iv {d : Int → Int} {st : Int} (h : Iv d) : Iv (dyF st d) := by
  obtain ⟨a1, a2, a3, a4⟩ := dpF_Iv (st := st) h
  have h0 := h.1
  obtain ⟨b1, b2, b3, b4⟩ := lpE_Iv a1 (d 0).toNat (by omega)
  obtain ⟨c1, c2, c3, c4⟩ := lpB_Iv b1 (d 0).toNat (by omega)
  have := h.2.1
  exact Iv_day c1 (by omega) (by omega)
noncomputable def dsF (st : Int) (d : Int → Int) : Nat → Int → Int
  | 0 => d
  | n + 1 => dyF st (dsF st d n)
theorem dsF_Iv {d : Int → Int} {st : Int} (h : Iv d) : ∀ n, Iv (dsF st d n)
  | 0 => h
  | n + 1 => dyF_Iv (dsF_Iv h n)

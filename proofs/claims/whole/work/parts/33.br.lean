/-! branches that are decided by what is known -/
section
variable {P R : Prop} {a b c k lo hi : Int}
theorem br_y {c P R : Prop} (h : c) : ((c → P) ∧ (¬ c → R)) = P := propext ⟨fun q => q.1 h, fun q => ⟨fun _ => q, fun n => absurd h n⟩⟩
theorem br_n {c P R : Prop} (h : ¬ c) : ((c → P) ∧ (¬ c → R)) = R := propext ⟨fun q => q.2 h, fun q => ⟨fun n => absurd n h, fun _ => q⟩⟩
theorem blt_y (h : a < b) (h1 : -2147483648 ≤ a) (h2 : a < 2147483648) (h3 : -2147483648 ≤ b) (h4 : b < 2147483648) : ((iI a < iI b → P) ∧ (¬ (iI a < iI b) → R)) = P := br_y (by rw [iI_lt h1 h2 h3 h4]; exact h)
theorem blt_n (h : ¬ (a < b)) (h1 : -2147483648 ≤ a) (h2 : a < 2147483648) (h3 : -2147483648 ≤ b) (h4 : b < 2147483648) : ((iI a < iI b → P) ∧ (¬ (iI a < iI b) → R)) = R := br_n (by rw [iI_lt h1 h2 h3 h4]; exact h)
theorem ble_y (h : a ≤ b) (h1 : -2147483648 ≤ a) (h2 : a < 2147483648) (h3 : -2147483648 ≤ b) (h4 : b < 2147483648) : ((iI a ≤ iI b → P) ∧ (¬ (iI a ≤ iI b) → R)) = P := br_y (by rw [iI_le h1 h2 h3 h4]; exact h)
theorem ble_n (h : ¬ (a ≤ b)) (h1 : -2147483648 ≤ a) (h2 : a < 2147483648) (h3 : -2147483648 ≤ b) (h4 : b < 2147483648) : ((iI a ≤ iI b → P) ∧ (¬ (iI a ≤ iI b) → R)) = R := br_n (by rw [iI_le h1 h2 h3 h4]; exact h)
theorem beq_y (h : a = b) (h1 : -2147483648 ≤ a) (h2 : a < 2147483648) (h3 : -2147483648 ≤ b) (h4 : b < 2147483648) : ((iI a = iI b → P) ∧ (¬ (iI a = iI b) → R)) = P := br_y (by rw [iI_eq h1 h2 h3 h4]; exact h)
theorem beq_n (h : ¬ (a = b)) (h1 : -2147483648 ≤ a) (h2 : a < 2147483648) (h3 : -2147483648 ≤ b) (h4 : b < 2147483648) : ((iI a = iI b → P) ∧ (¬ (iI a = iI b) → R)) = R := br_n (by rw [iI_eq h1 h2 h3 h4]; exact h)
theorem bne_y (h : ¬ a = b) (h1 : -2147483648 ≤ a) (h2 : a < 2147483648) (h3 : -2147483648 ≤ b) (h4 : b < 2147483648) : ((¬ iI a = iI b → P) ∧ (¬ (¬ iI a = iI b) → R)) = P := br_y (by rw [iI_eq h1 h2 h3 h4]; exact h)
theorem bne_n (h : ¬ (¬ a = b)) (h1 : -2147483648 ≤ a) (h2 : a < 2147483648) (h3 : -2147483648 ≤ b) (h4 : b < 2147483648) : ((¬ iI a = iI b → P) ∧ (¬ (¬ iI a = iI b) → R)) = R := br_n (by rw [iI_eq h1 h2 h3 h4]; exact h)
theorem blt0_y (h : a < 0) (h1 : -2147483648 ≤ a) (h2 : a < 2147483648) : ((iI a < 0 → P) ∧ (¬ (iI a < 0) → R)) = P := br_y (by rw [iI_lt0 h1 h2]; exact h)
theorem blt0_n (h : ¬ (a < 0)) (h1 : -2147483648 ≤ a) (h2 : a < 2147483648) : ((iI a < 0 → P) ∧ (¬ (iI a < 0) → R)) = R := br_n (by rw [iI_lt0 h1 h2]; exact h)
theorem ble0_y (h : a ≤ 0) (h1 : -2147483648 ≤ a) (h2 : a < 2147483648) : ((iI a ≤ 0 → P) ∧ (¬ (iI a ≤ 0) → R)) = P := br_y (by rw [iI_le0 h1 h2]; exact h)
theorem ble0_n (h : ¬ (a ≤ 0)) (h1 : -2147483648 ≤ a) (h2 : a < 2147483648) : ((iI a ≤ 0 → P) ∧ (¬ (iI a ≤ 0) → R)) = R := br_n (by rw [iI_le0 h1 h2]; exact h)
theorem bge0_y (h : 0 ≤ a) (h1 : -2147483648 ≤ a) (h2 : a < 2147483648) : ((0 ≤ iI a → P) ∧ (¬ (0 ≤ iI a) → R)) = P := br_y (by rw [iI_ge0 h1 h2]; exact h)
theorem bge0_n (h : ¬ (0 ≤ a)) (h1 : -2147483648 ≤ a) (h2 : a < 2147483648) : ((0 ≤ iI a → P) ∧ (¬ (0 ≤ iI a) → R)) = R := br_n (by rw [iI_ge0 h1 h2]; exact h)
theorem bgt0_y (h : 0 < a) (h1 : -2147483648 ≤ a) (h2 : a < 2147483648) : ((0 < iI a → P) ∧ (¬ (0 < iI a) → R)) = P := br_y (by rw [iI_gt0 h1 h2]; exact h)
theorem bgt0_n (h : ¬ (0 < a)) (h1 : -2147483648 ≤ a) (h2 : a < 2147483648) : ((0 < iI a → P) ∧ (¬ (0 < iI a) → R)) = R := br_n (by rw [iI_gt0 h1 h2]; exact h)
theorem beq0_y (h : a = 0) (h1 : -2147483648 ≤ a) (h2 : a < 2147483648) : ((iI a = 0 → P) ∧ (¬ (iI a = 0) → R)) = P := br_y (by rw [iI_eq0 h1 h2]; exact h)
theorem beq0_n (h : ¬ (a = 0)) (h1 : -2147483648 ≤ a) (h2 : a < 2147483648) : ((iI a = 0 → P) ∧ (¬ (iI a = 0) → R)) = R := br_n (by rw [iI_eq0 h1 h2]; exact h)
theorem bne0_y (h : ¬ a = 0) (h1 : -2147483648 ≤ a) (h2 : a < 2147483648) : ((¬ iI a = 0 → P) ∧ (¬ (¬ iI a = 0) → R)) = P := br_y (by rw [iI_eq0 h1 h2]; exact h)
theorem bne0_n (h : ¬ (¬ a = 0)) (h1 : -2147483648 ≤ a) (h2 : a < 2147483648) : ((¬ iI a = 0 → P) ∧ (¬ (¬ iI a = 0) → R)) = R := br_n (by rw [iI_eq0 h1 h2]; exact h)
theorem bt_y {c : Prop} [Decidable c] (h : ¬ c) : ((iI (if c then 1 else 0) = 0 → P) ∧ (¬ (iI (if c then 1 else 0) = 0) → R)) = P := br_y (by rw [if_neg h]; decide +kernel)
theorem bt_n {c : Prop} [Decidable c] (h : c) : ((iI (if c then 1 else 0) = 0 → P) ∧ (¬ (iI (if c then 1 else 0) = 0) → R)) = R := br_n (by rw [if_pos h]; decide +kernel)
theorem bu_y {c : Prop} [Decidable c] (h : c) : ((¬ iI (if c then 1 else 0) = 0 → P) ∧ (¬ (¬ iI (if c then 1 else 0) = 0) → R)) = P := br_y (by rw [if_pos h]; decide +kernel)
theorem bu_n {c : Prop} [Decidable c] (h : ¬ c) : ((¬ iI (if c then 1 else 0) = 0 → P) ∧ (¬ (¬ iI (if c then 1 else 0) = 0) → R)) = R := br_n (by rw [if_neg h]; decide +kernel)
theorem sw_y (h : k = c) (h1 : -2147483648 ≤ k) (h2 : k < 2147483648) : (((iI k).toInt = c → P) ∧ R) = (P ∧ R) := by rw [iI_toInt h1 h2]; exact propext ⟨fun q => ⟨q.1 h, q.2⟩, fun q => ⟨fun _ => q.1, q.2⟩⟩
theorem sw_n (h : ¬ k = c) (h1 : -2147483648 ≤ k) (h2 : k < 2147483648) : (((iI k).toInt = c → P) ∧ R) = R := by rw [iI_toInt h1 h2]; exact propext ⟨fun q => q.2, fun q => ⟨fun e => absurd e h, q⟩⟩
theorem sd_y (h : k < lo ∨ hi < k) (h1 : -2147483648 ≤ k) (h2 : k < 2147483648) : ((((iI k).toInt < lo ∨ hi < (iI k).toInt) → P) ∧ R) = (P ∧ R) := by rw [iI_toInt h1 h2]; exact propext ⟨fun q => ⟨q.1 h, q.2⟩, fun q => ⟨fun _ => q.1, q.2⟩⟩
theorem sd_n (h : ¬ (k < lo ∨ hi < k)) (h1 : -2147483648 ≤ k) (h2 : k < 2147483648) : ((((iI k).toInt < lo ∨ hi < (iI k).toInt) → P) ∧ R) = R := by rw [iI_toInt h1 h2]; exact propext ⟨fun q => q.2, fun q => ⟨fun e => absurd e h, q⟩⟩
theorem lg_lt (v w : Int64) : (lg_cmp v w < 0) = (v < w) := by
  unfold lg_cmp
  have e := Int64.lt_iff_toInt_lt (x := v) (y := w)
  have e2 := Int64.lt_iff_toInt_lt (x := w) (y := v)
  have e3 := Int64.toInt_inj (x := v) (y := w)
  by_cases h : w < v
  · rw [if_pos h]; exact propext ⟨fun q => absurd q (by decide), fun q => by rw [e2] at h; rw [e] at q; omega⟩
  · rw [if_neg h]
    by_cases h2 : v = w
    · rw [if_pos h2]; exact propext ⟨fun q => absurd q (by decide), fun q => by rw [e] at q; rw [← e3] at h2; omega⟩
    · rw [if_neg h2]; exact propext ⟨fun _ => by rw [e]; rw [e2] at h; have : ¬ v.toInt = w.toInt := fun z => h2 (e3.mp z); omega, fun _ => by decide⟩
theorem lg_gt (v w : Int64) : (0 < lg_cmp v w) = (w < v) := by
  unfold lg_cmp
  by_cases h : w < v
  · rw [if_pos h]; exact propext ⟨fun _ => h, fun _ => by decide⟩
  · rw [if_neg h]
    by_cases h2 : v = w
    · rw [if_pos h2]; exact propext ⟨fun q => absurd q (by decide), fun q => absurd q h⟩
    · rw [if_neg h2]; exact propext ⟨fun q => absurd q (by decide), fun q => absurd q h⟩
theorem bl_y (h : a < b) (h1 : -9223372036854775808 ≤ a) (h2 : a < 9223372036854775808) (h3 : -9223372036854775808 ≤ b) (h4 : b < 9223372036854775808) : ((lg_cmp (lI a) (lI b) < 0 → P) ∧ (¬ (lg_cmp (lI a) (lI b) < 0) → R)) = P := br_y (by rw [lg_lt, lI_lt h1 h2 h3 h4]; exact h)
theorem bl_n (h : ¬ a < b) (h1 : -9223372036854775808 ≤ a) (h2 : a < 9223372036854775808) (h3 : -9223372036854775808 ≤ b) (h4 : b < 9223372036854775808) : ((lg_cmp (lI a) (lI b) < 0 → P) ∧ (¬ (lg_cmp (lI a) (lI b) < 0) → R)) = R := br_n (by rw [lg_lt, lI_lt h1 h2 h3 h4]; exact h)
theorem bg_y (h : b < a) (h1 : -9223372036854775808 ≤ a) (h2 : a < 9223372036854775808) (h3 : -9223372036854775808 ≤ b) (h4 : b < 9223372036854775808) : ((0 < lg_cmp (lI a) (lI b) → P) ∧ (¬ (0 < lg_cmp (lI a) (lI b)) → R)) = P := br_y (by rw [lg_gt, lI_lt h3 h4 h1 h2]; exact h)
theorem bg_n (h : ¬ b < a) (h1 : -9223372036854775808 ≤ a) (h2 : a < 9223372036854775808) (h3 : -9223372036854775808 ≤ b) (h4 : b < 9223372036854775808) : ((0 < lg_cmp (lI a) (lI b) → P) ∧ (¬ (0 < lg_cmp (lI a) (lI b)) → R)) = R := br_n (by rw [lg_gt, lI_lt h3 h4 h1 h2]; exact h)
theorem le_cmp_iff (v w : Int64) : (lg_cmp v w ≤ 0) = ¬ (w < v) := by rw [← lg_gt v w]; exact propext Int32.not_lt.symm
theorem blle_y (h : ¬ b < a) (h1 : -9223372036854775808 ≤ a) (h2 : a < 9223372036854775808) (h3 : -9223372036854775808 ≤ b) (h4 : b < 9223372036854775808) : ((lg_cmp (lI a) (lI b) ≤ 0 → P) ∧ (¬ (lg_cmp (lI a) (lI b) ≤ 0) → R)) = P := br_y (by rw [le_cmp_iff, lI_lt h3 h4 h1 h2]; exact h)
theorem blle_n (h : b < a) (h1 : -9223372036854775808 ≤ a) (h2 : a < 9223372036854775808) (h3 : -9223372036854775808 ≤ b) (h4 : b < 9223372036854775808) : ((lg_cmp (lI a) (lI b) ≤ 0 → P) ∧ (¬ (lg_cmp (lI a) (lI b) ≤ 0) → R)) = R := br_n (by rw [le_cmp_iff, lI_lt h3 h4 h1 h2]; exact fun q => q h)
theorem tf_eq0 {c : Prop} [Decidable c] : (iI (if c then 1 else 0) = 0) = ¬ c := by
  by_cases h : c
  · simp only [h, if_true, not_true_eq_false]; exact eq_false (by decide +kernel)
  · simp only [h, if_false, not_false_eq_true]; exact eq_true (by decide +kernel)
theorem zb_tf {c : Prop} [Decidable c] : zb .boolean (iI (if c then 1 else 0)) = True := by
  by_cases h : c
  · simp only [h, if_true]; exact eq_true (by unfold zb; decide +kernel)
  · simp only [h, if_false]; exact eq_true (by unfold zb; decide +kernel)
theorem zb_0 : zb .boolean (iI 0) = True := eq_true (by unfold zb; decide +kernel)
theorem zb_1 : zb .boolean (iI 1) = True := eq_true (by unfold zb; decide +kernel)
theorem nzp {z : Int} (h1 : -2147483648 ≤ z) (h2 : z < 2147483648) (h : ¬ z = 0) : (¬ iI z = 0 ∧ P) = P := propext ⟨fun q => q.2, fun q => ⟨by rw [iI_eq0 h1 h2]; exact h, q⟩⟩
theorem ne_0 {z : Int} (h1 : -2147483648 ≤ z) (h2 : z < 2147483648) (h : z ≠ 0) : (¬ iI z = 0) = True := eq_true (by rw [iI_eq0 h1 h2]; exact h)
end

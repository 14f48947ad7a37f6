/-! ints as integers -/
theorem r229_1446 {X : pXX} {d lim u : Nat} {Q : Option Value → List pME → Prop} {L : List (Option Value)} {st : List Value} {mem : List pME} : pR X d 229 lim Q (1446, L, st, mem, u) = pR X d 229 lim Q (18, L, st, mem, u) := by
  refine (q_wp (s := (1446, L, st, mem, u)) (show decode (yB 229) 1446 = .ok (.goto (-1428), 3) by decide +kernel)).trans ?_
  have e : ptgt 1446 (-1428) = 18 := by decide +kernel
  simp only [pstp, h_goto]
  rw [if_pos (by decide), e]
  rfl
theorem q_ent {X : pXX} {d y lim : Nat} {K : Option Value → List pME → Prop} {as : List Value} {mem : List pME} {L : List (Option Value)} (hy : y < nM) (hl : (pentL as).length ≤ yL y) (hL : pent y as = L) (hu : yU y = lim) : Cw X (d + 1) y as mem K = pR X d y lim K (0, L, [], mem, 0) := by
  subst hL; subst hu
  exact propext ⟨fun h => h.2.2, fun h => ⟨hl, hy, h⟩⟩
theorem iI_toInt {a : Int} (h1 : -2147483648 ≤ a) (h2 : a < 2147483648) : (iI a).toInt = a := by
  rw [iI, Int32.toInt_ofInt]
  show a.bmod 4294967296 = a
  exact Int.bmod_eq_of_le (by omega) (by omega)
theorem iI_of (x : Int32) : iI x.toInt = x := Int32.ofInt_toInt x
theorem i_rng (x : Int32) : -2147483648 ≤ x.toInt ∧ x.toInt < 2147483648 := by
  have h1 := Int32.le_toInt x
  have h2 := Int32.toInt_lt x
  omega
theorem iI_add (a b : Int) : iI a + iI b = iI (a + b) := (Int32.ofInt_add a b).symm
theorem iI_sub (a b : Int) : iI a - iI b = iI (a - b) := (Int32.ofInt_sub a b).symm
theorem iI_mul (a b : Int) : iI a * iI b = iI (a * b) := (Int32.ofInt_mul a b).symm
theorem iI_neg (a : Int) : -iI a = iI (-a) := (Int32.ofInt_neg a).symm
theorem iI_lt {a b : Int} (h1 : -2147483648 ≤ a) (h2 : a < 2147483648) (h3 : -2147483648 ≤ b) (h4 : b < 2147483648) : (iI a < iI b) = (a < b) := by
  rw [Int32.lt_iff_toInt_lt, iI_toInt h1 h2, iI_toInt h3 h4]
theorem iI_le {a b : Int} (h1 : -2147483648 ≤ a) (h2 : a < 2147483648) (h3 : -2147483648 ≤ b) (h4 : b < 2147483648) : (iI a ≤ iI b) = (a ≤ b) := by
  rw [Int32.le_iff_toInt_le, iI_toInt h1 h2, iI_toInt h3 h4]
theorem iI_eq {a b : Int} (h1 : -2147483648 ≤ a) (h2 : a < 2147483648) (h3 : -2147483648 ≤ b) (h4 : b < 2147483648) : (iI a = iI b) = (a = b) := by
  rw [← Int32.toInt_inj, iI_toInt h1 h2, iI_toInt h3 h4]
theorem iI_0 : (0 : Int32) = iI 0 := by decide +kernel
theorem iI_1 : (1 : Int32) = iI 1 := by decide +kernel
theorem iI_lt0 {a : Int} (h1 : -2147483648 ≤ a) (h2 : a < 2147483648) : (iI a < 0) = (a < 0) := by rw [iI_0, iI_lt h1 h2 (by omega) (by omega)]
theorem iI_le0 {a : Int} (h1 : -2147483648 ≤ a) (h2 : a < 2147483648) : (iI a ≤ 0) = (a ≤ 0) := by rw [iI_0, iI_le h1 h2 (by omega) (by omega)]
theorem iI_ge0 {a : Int} (h1 : -2147483648 ≤ a) (h2 : a < 2147483648) : (0 ≤ iI a) = (0 ≤ a) := by rw [iI_0, iI_le (by omega) (by omega) h1 h2]
theorem iI_gt0 {a : Int} (h1 : -2147483648 ≤ a) (h2 : a < 2147483648) : (0 < iI a) = (0 < a) := by rw [iI_0, iI_lt (by omega) (by omega) h1 h2]
theorem iI_eq0 {a : Int} (h1 : -2147483648 ≤ a) (h2 : a < 2147483648) : (iI a = 0) = (a = 0) := by rw [iI_0, iI_eq h1 h2 (by omega) (by omega)]
theorem iI_clamp {a : Int} (h1 : 0 ≤ a) (h2 : a < 2147483648) : (iI a).toNatClampNeg = a.toNat := by
  show (iI a).toInt.toNat = a.toNat
  rw [iI_toInt (by omega) h2]
theorem iI_div {a b : Int} (h1 : 0 ≤ a) (h2 : a < 2147483648) (h3 : 0 < b) (h4 : b < 2147483648) : iI a / iI b = iI (a / b) := by
  apply Int32.toInt_inj.1
  have h5 : 0 ≤ a / b := Int.ediv_nonneg h1 (by omega)
  have h6 : a / b ≤ a := Int.ediv_le_self b h1
  rw [Int32.toInt_div, iI_toInt (by omega) h2, iI_toInt (by omega) h4, iI_toInt (by omega) (by omega), Int.tdiv_eq_ediv_of_nonneg h1, Int.bmod_eq_of_le (by omega) (by omega)]
theorem iI_rem {a b : Int} (h1 : 0 ≤ a) (h2 : a < 2147483648) (h3 : 0 < b) (h4 : b < 2147483648) : iI a - iI a / iI b * iI b = iI (a % b) := by
  rw [iI_div h1 h2 h3 h4, iI_mul, iI_sub]
  congr 1
  have := Int.emod_add_mul_ediv a b
  rw [Int.mul_comm b] at this
  omega
theorem iI_ite {c : Prop} [Decidable c] {a b : Int} : (if c then iI a else iI b) = iI (if c then a else b) := by split <;> rfl
theorem iI_max {a b : Int} (h1 : -2147483648 ≤ a) (h2 : a < 2147483648) (h3 : -2147483648 ≤ b) (h4 : b < 2147483648) : (if iI a < iI b then iI b else iI a) = iI (max a b) := by
  by_cases h : a < b
  · rw [if_pos (by rw [iI_lt h1 h2 h3 h4]; exact h), Int.max_def, if_pos (by omega)]
  · rw [if_neg (by rw [iI_lt h1 h2 h3 h4]; exact h), Int.max_def]
    split
    · rw [show b = a by omega]
    · rfl
theorem iI_min {a b : Int} (h1 : -2147483648 ≤ a) (h2 : a < 2147483648) (h3 : -2147483648 ≤ b) (h4 : b < 2147483648) : (if iI b < iI a then iI b else iI a) = iI (min a b) := by
  by_cases h : b < a
  · rw [if_pos (by rw [iI_lt h3 h4 h1 h2]; exact h), Int.min_def, if_neg (by omega)]
  · rw [if_neg (by rw [iI_lt h3 h4 h1 h2]; exact h), Int.min_def, if_pos (by omega)]
theorem lI_toInt {a : Int} (h1 : -9223372036854775808 ≤ a) (h2 : a < 9223372036854775808) : (lI a).toInt = a := by
  rw [lI, Int64.toInt_ofInt]
  show a.bmod 18446744073709551616 = a
  exact Int.bmod_eq_of_le (by omega) (by omega)
theorem lI_add (a b : Int) : lI a + lI b = lI (a + b) := (Int64.ofInt_add a b).symm
theorem lI_sub (a b : Int) : lI a - lI b = lI (a - b) := (Int64.ofInt_sub a b).symm
theorem lI_mul (a b : Int) : lI a * lI b = lI (a * b) := (Int64.ofInt_mul a b).symm
theorem iI_l {a : Int} (h1 : -2147483648 ≤ a) (h2 : a < 2147483648) : (iI a).toInt64 = lI a := by
  apply Int64.toInt_inj.1
  rw [Int32.toInt_toInt64, iI_toInt h1 h2, lI_toInt (by omega) (by omega)]
theorem lI_i (a : Int) : (lI a).toInt32 = iI a := Int64.toInt32_ofInt
theorem lI_lt {a b : Int} (h1 : -9223372036854775808 ≤ a) (h2 : a < 9223372036854775808) (h3 : -9223372036854775808 ≤ b) (h4 : b < 9223372036854775808) : (lI a < lI b) = (a < b) := by
  rw [Int64.lt_iff_toInt_lt, lI_toInt h1 h2, lI_toInt h3 h4]
theorem lI_eq {a b : Int} (h1 : -9223372036854775808 ≤ a) (h2 : a < 9223372036854775808) (h3 : -9223372036854775808 ≤ b) (h4 : b < 9223372036854775808) : (lI a = lI b) = (a = b) := by
  rw [← Int64.toInt_inj, lI_toInt h1 h2, lI_toInt h3 h4]
/-- a row of n ints -/
def row (n : Nat) (f : Int → Int) : Nat → Int32 := fun k => if k < n then iI (f k) else 0
def iu (f : Int → Int) (k v : Int) : Int → Int := fun j => if j = k then v else f j
theorem iu_self (f : Int → Int) (k v : Int) : iu f k v k = v := by simp [iu]
theorem iu_ne {f : Int → Int} {k v j : Int} (h : j ≠ k) : iu f k v j = f j := by simp [iu, h]
theorem row_at {n : Nat} {f : Int → Int} {a : Int} (h1 : 0 ≤ a) (h2 : a < n) (h3 : n < 2147483648) : row n f (iI a).toNatClampNeg = iI (f a) := by
  rw [iI_clamp h1 (by omega), row, if_pos (by omega), Int.toNat_of_nonneg h1]
theorem row_upd {n : Nat} {f : Int → Int} {a v : Int} (h1 : 0 ≤ a) (h2 : a < n) (h3 : n < 2147483648) : upd (row n f) (iI a).toNatClampNeg (iI v) = row n (iu f a v) := by
  rw [iI_clamp h1 (by omega)]
  funext k
  unfold upd row iu
  by_cases hk : k = a.toNat
  · subst hk
    rw [if_pos rfl, if_pos (by omega), if_pos (Int.toNat_of_nonneg h1)]
  · rw [if_neg hk]
    by_cases hn : k < n
    · rw [if_pos hn, if_pos hn, if_neg (by omega)]
    · rw [if_neg hn, if_neg hn]
theorem row_cong {n : Nat} {f g : Int → Int} (h : ∀ k : Int, 0 ≤ k → k < n → f k = g k) : row n f = row n g := by
  funext k
  unfold row
  by_cases hn : k < n
  · rw [if_pos hn, if_pos hn, h k (by omega) (by omega)]
  · rw [if_neg hn, if_neg hn]
theorem row_in {n : Nat} {a : Int} (h1 : 0 ≤ a) (h2 : a < n) (h3 : n < 2147483648) : (¬ (iI a < 0 ∨ n ≤ (iI a).toNatClampNeg)) = True := by
  rw [iI_clamp h1 (by omega), iI_lt0 (by omega) (by omega)]
  exact eq_true (by omega)

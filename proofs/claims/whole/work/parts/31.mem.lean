/-! THE MEMORY of the run: x the class's numbers, m the reference's -/
def mu (m : Nat → Int → Int) (k : Nat) (f : Int → Int) : Nat → Int → Int := fun j => if j = k then f else m j
theorem mu_self (m : Nat → Int → Int) (k : Nat) (f : Int → Int) : mu m k f k = f := by simp [mu]
theorem mu_ne {m : Nat → Int → Int} {k j : Nat} {f : Int → Int} (h : j ≠ k) : mu m k f j = m j := by simp [mu, h]
theorem mu_mu (m : Nat → Int → Int) (k : Nat) (f g : Int → Int) : mu (mu m k f) k g = mu m k g := by
  funext j; by_cases h : j = k <;> simp [mu, h]
theorem mu_id (m : Nat → Int → Int) (k : Nat) : mu m k (m k) = m := by
  funext j; by_cases h : j = k <;> simp [mu, h]
def pr8 (t : Nat) : Nat → Option Nat := fun i => if i < 8 then some (t + 4 + i) else none
def sr4 : Nat → Option Nat := fun i => if i < 4 then some (41 + 2 * i) else none
/-- a number of somebody: of those there are, in d; of the others, in g -/
def pv (d g : Int → Int) (p b c : Int) : Int := if p < d 0 then d (b + p) else g (c + p)
def pe (d g : Int → Int) (p : Int) : pME := .inl (0, [.int (iI (pv d g p 11 0)), .int (iI (pv d g p 19 8)), .int (iI (pv d g p 27 16)), .int (iI (pv d g p 35 24)), .int (iI (pv d g p 43 32)), .int (iI (pv d g p 51 40))])
def tn (t : Nat) (d g : Int → Int) : List pME := [.inl (3, [.int (iI (d 3)), .int (iI (d 4)), .int (iI (d 1)), .int (iI (d 2)), .int (iI (d 0)), .ref (t + 1), .ref (t + 2), .ref (t + 3)]), .inr (.inr (2, 8, pr8 t)), .inr (.inl (0, 6, row 6 (fun k => d (5 + k)))), .inr (.inl (0, 10, row 10 (fun k => d (59 + k) - 1))), pe d g 0, pe d g 1, pe d g 2, pe d g 3, pe d g 4, pe d g 5, pe d g 6, pe d g 7]
def sh (s : Nat) (x : Nat → Int → Int) : List pME := [.inl (1, [.int (iI (x 8 s)), .int (iI (x 9 s)), .ref (42 + 2 * s)]), .inr (.inl (0, 40, row 40 (x (10 + s))))]
def MEM (x m : Nat → Int → Int) : List pME :=
  .inl (4, [.ref 1, .ref 13, .ref 25, .int (iI (x 7 0)), .ref 37, .ref 39, .ref 40]) :: (tn 1 (x 0) (x 1) ++ (tn 13 (x 2) (x 3) ++ (tn 25 (x 4) (x 5) ++ (
  [.inl (2, [.ref 38, .int (iI (x 7 1)), .int (iI (x 7 2)), .int (iI (x 7 3)), .int (iI (x 7 4)), .int (iI (x 7 5))]), .inr (.inl (0, 120, row 120 (x 6))), .inr (.inr (3, 4, sr4)), .inr (.inl (0, 7, row 7 (x 14)))] ++ (sh 0 x ++ (sh 1 x ++ (sh 2 x ++ (sh 3 x ++
  [.inl (5, [.ref 50, .ref 51, .ref 52, .ref 53, .int (iI (m 6 0)), .ref 54, .ref 55, .int (iI (m 6 1)), .int (iI (m 6 2)), .int (iI (m 6 3)), .int (iI (m 6 4)), .int (iI (m 6 5)), .long (lI (m 6 6)), .int (iI (m 6 7)), .ref 56, .ref 57, .ref 58, .ref 59]), .inr (.inl (0, 69, row 69 (m 0))), .inr (.inl (0, 69, row 69 (m 1))), .inr (.inl (0, 69, row 69 (m 2))), .inr (.inl (0, 69, row 69 (m 3))), .inr (.inl (0, 7, row 7 (m 4))), .inr (.inl (1, 120, row 120 (m 5))), .inr (.inl (0, 4, row 4 (m 7))), .inr (.inl (0, 4, row 4 (m 8))), .inr (.inl (0, 160, row 160 (m 9))), .inr (.inl (0, 40, row 40 (m 10)))]))))))))
theorem gf_of {mem : List pME} {a ci k : Nat} {fs : List Value} {v : Value} {K : Value → Prop} (h : mem[a]? = some (.inl (ci, fs))) (hv : fs[k]? = some v) : gf mem a ci k K = K v := by
  unfold gf; rw [h]
  exact propext ⟨fun ⟨_, w, hw, hk⟩ => by rw [hv] at hw; cases hw; exact hk, fun hk => ⟨rfl, v, hv, hk⟩⟩
theorem pf_of {y : Nat} {mem mem' : List pME} {a ci k : Nat} {fs : List Value} {v : Value} {K : List pME → Prop} (h : mem[a]? = some (.inl (ci, fs))) (hk : k < fs.length) (hn : narrow (cY ci k) v = v) (hf : fits (cY ci k) v = true) (hfin : (cF ci k).2.2.2 = false) (hm : mem.set a (.inl (ci, fs.set k v)) = mem') : pf y mem a ci k v K = K mem' := by
  unfold pf; rw [h, ← hm]
  exact propext ⟨fun q => q.2, fun q => ⟨⟨rfl, hk, hn, hf, Or.inl hfin⟩, q⟩⟩
theorem ri_of {X : pXX} {mem : List pME} {a n : Nat} {f : Int → Int} {j : Int} {K : Int32 → Prop} (h : mem[a]? = some (.inr (.inl (0, n, row n f)))) (h3 : n < 2147483648) (h1 : 0 ≤ j) (h2 : j < n) : ri X mem a (iI j) K = K (iI (f j)) := by
  unfold ri; rw [h]
  show (¬ (iI j < 0 ∨ n ≤ (iI j).toNatClampNeg) ∧ K (row n f (iI j).toNatClampNeg)) = _
  rw [row_in h1 h2 h3, row_at h1 h2 h3, true_and]
theorem rb_of {mem : List pME} {a n : Nat} {f : Int → Int} {j : Int} {K : Int32 → Prop} (h : mem[a]? = some (.inr (.inl (1, n, row n f)))) (h3 : n < 2147483648) (h1 : 0 ≤ j) (h2 : j < n) : rb mem a (iI j) K = K (iI (f j)) := by
  unfold rb; rw [h]
  show (¬ (iI j < 0 ∨ n ≤ (iI j).toNatClampNeg) ∧ K (row n f (iI j).toNatClampNeg)) = _
  rw [row_in h1 h2 h3, row_at h1 h2 h3, true_and]
theorem wi_of {mem mem' : List pME} {a n : Nat} {f : Int → Int} {j v : Int} {K : List pME → Prop} (h : mem[a]? = some (.inr (.inl (0, n, row n f)))) (h3 : n < 2147483648) (hm : mem.set a (.inr (.inl (0, n, row n (iu f j v)))) = mem') (h1 : 0 ≤ j) (h2 : j < n) : wi mem a (iI j) (iI v) K = K mem' := by
  unfold wi; rw [h, ← hm]
  show (¬ (iI j < 0 ∨ n ≤ (iI j).toNatClampNeg) ∧ K (mem.set a (.inr (.inl (0, n, upd (row n f) (iI j).toNatClampNeg (iI v)))))) = _
  rw [row_in h1 h2 h3, row_upd h1 h2 h3, true_and]
theorem vp_b {v : Int} (h1 : -128 ≤ v) (h2 : v < 128) : vp_nar .byte (iI v) = iI v := by
  rw [vp_nar_byte]
  apply Int32.toInt_inj.1
  rw [Int8.toInt_toInt32, Int32.toInt_toInt8, iI_toInt (by omega) (by omega), Int.bmod_eq_of_le (by omega) (by omega)]
theorem wb_of {mem mem' : List pME} {a n : Nat} {f : Int → Int} {j v : Int} {K : List pME → Prop} (h : mem[a]? = some (.inr (.inl (1, n, row n f)))) (h3 : n < 2147483648) (hm : mem.set a (.inr (.inl (1, n, row n (iu f j v)))) = mem') (h1 : 0 ≤ j) (h2 : j < n) (h4 : -128 ≤ v) (h5 : v < 128) : wb mem a (iI j) (iI v) K = K mem' := by
  unfold wb; rw [h, ← hm]
  show (¬ (iI j < 0 ∨ n ≤ (iI j).toNatClampNeg) ∧ K (mem.set a (.inr (.inl (1, n, upd (row n f) (iI j).toNatClampNeg (vp_nar .byte (iI v))))))) = _
  rw [row_in h1 h2 h3, vp_b h4 h5, row_upd h1 h2 h3, true_and]
section
variable {X : pXX} {x m : Nat → Int → Int} {K : Value → Prop} {KI : Int32 → Prop} {KM : List pME → Prop} {KN : Nat → Prop} {j v : Int} {y : Nat}
theorem g49_0 : gf (MEM x m) 49 5 0 K = K (.ref 50) := gf_of rfl rfl
theorem g49_1 : gf (MEM x m) 49 5 1 K = K (.ref 51) := gf_of rfl rfl
theorem g49_2 : gf (MEM x m) 49 5 2 K = K (.ref 52) := gf_of rfl rfl
theorem g49_3 : gf (MEM x m) 49 5 3 K = K (.ref 53) := gf_of rfl rfl
theorem g49_4 : gf (MEM x m) 49 5 4 K = K (.int (iI (m 6 0))) := gf_of rfl rfl
theorem g49_5 : gf (MEM x m) 49 5 5 K = K (.ref 54) := gf_of rfl rfl
theorem g49_6 : gf (MEM x m) 49 5 6 K = K (.ref 55) := gf_of rfl rfl
theorem g49_7 : gf (MEM x m) 49 5 7 K = K (.int (iI (m 6 1))) := gf_of rfl rfl
theorem g49_8 : gf (MEM x m) 49 5 8 K = K (.int (iI (m 6 2))) := gf_of rfl rfl
theorem g49_9 : gf (MEM x m) 49 5 9 K = K (.int (iI (m 6 3))) := gf_of rfl rfl
theorem g49_10 : gf (MEM x m) 49 5 10 K = K (.int (iI (m 6 4))) := gf_of rfl rfl
theorem g49_11 : gf (MEM x m) 49 5 11 K = K (.int (iI (m 6 5))) := gf_of rfl rfl
theorem g49_12 : gf (MEM x m) 49 5 12 K = K (.long (lI (m 6 6))) := gf_of rfl rfl
theorem g49_13 : gf (MEM x m) 49 5 13 K = K (.int (iI (m 6 7))) := gf_of rfl rfl
theorem g49_14 : gf (MEM x m) 49 5 14 K = K (.ref 56) := gf_of rfl rfl
theorem g49_15 : gf (MEM x m) 49 5 15 K = K (.ref 57) := gf_of rfl rfl
theorem g49_16 : gf (MEM x m) 49 5 16 K = K (.ref 58) := gf_of rfl rfl
theorem g49_17 : gf (MEM x m) 49 5 17 K = K (.ref 59) := gf_of rfl rfl
theorem p49_4_0 : pf y (MEM x m) 49 5 4 (.int (iI 0)) KM = KM (MEM x (mu m 6 (iu (m 6) 0 0))) := pf_of rfl (Nat.le_of_ble_eq_true rfl) (by decide +kernel) (by decide +kernel) rfl rfl
theorem p49_4_1 : pf y (MEM x m) 49 5 4 (.int (iI 1)) KM = KM (MEM x (mu m 6 (iu (m 6) 0 1))) := pf_of rfl (Nat.le_of_ble_eq_true rfl) (by decide +kernel) (by decide +kernel) rfl rfl
theorem p49_7 : pf y (MEM x m) 49 5 7 (.int (iI v)) KM = KM (MEM x (mu m 6 (iu (m 6) 1 v))) := pf_of rfl (Nat.le_of_ble_eq_true rfl) rfl rfl rfl rfl
theorem p49_8 : pf y (MEM x m) 49 5 8 (.int (iI v)) KM = KM (MEM x (mu m 6 (iu (m 6) 2 v))) := pf_of rfl (Nat.le_of_ble_eq_true rfl) rfl rfl rfl rfl
theorem p49_9 : pf y (MEM x m) 49 5 9 (.int (iI v)) KM = KM (MEM x (mu m 6 (iu (m 6) 3 v))) := pf_of rfl (Nat.le_of_ble_eq_true rfl) rfl rfl rfl rfl
theorem p49_10 : pf y (MEM x m) 49 5 10 (.int (iI v)) KM = KM (MEM x (mu m 6 (iu (m 6) 4 v))) := pf_of rfl (Nat.le_of_ble_eq_true rfl) rfl rfl rfl rfl
theorem p49_11 : pf y (MEM x m) 49 5 11 (.int (iI v)) KM = KM (MEM x (mu m 6 (iu (m 6) 5 v))) := pf_of rfl (Nat.le_of_ble_eq_true rfl) rfl rfl rfl rfl
theorem p49_12 : pf y (MEM x m) 49 5 12 (.long (lI v)) KM = KM (MEM x (mu m 6 (iu (m 6) 6 v))) := pf_of rfl (Nat.le_of_ble_eq_true rfl) rfl rfl rfl rfl
theorem p49_13 : pf y (MEM x m) 49 5 13 (.int (iI v)) KM = KM (MEM x (mu m 6 (iu (m 6) 7 v))) := pf_of rfl (Nat.le_of_ble_eq_true rfl) rfl rfl rfl rfl
theorem ri50 (h1 : 0 ≤ j) (h2 : j < 69) : ri X (MEM x m) 50 (iI j) KI = KI (iI (m 0 j)) := ri_of (n := 69) rfl (by decide) h1 h2
theorem wi50 (h1 : 0 ≤ j) (h2 : j < 69) : wi (MEM x m) 50 (iI j) (iI v) KM = KM (MEM x (mu m 0 (iu (m 0) j v))) := wi_of (n := 69) rfl (by decide) rfl h1 h2
theorem ri51 (h1 : 0 ≤ j) (h2 : j < 69) : ri X (MEM x m) 51 (iI j) KI = KI (iI (m 1 j)) := ri_of (n := 69) rfl (by decide) h1 h2
theorem wi51 (h1 : 0 ≤ j) (h2 : j < 69) : wi (MEM x m) 51 (iI j) (iI v) KM = KM (MEM x (mu m 1 (iu (m 1) j v))) := wi_of (n := 69) rfl (by decide) rfl h1 h2
theorem ri52 (h1 : 0 ≤ j) (h2 : j < 69) : ri X (MEM x m) 52 (iI j) KI = KI (iI (m 2 j)) := ri_of (n := 69) rfl (by decide) h1 h2
theorem wi52 (h1 : 0 ≤ j) (h2 : j < 69) : wi (MEM x m) 52 (iI j) (iI v) KM = KM (MEM x (mu m 2 (iu (m 2) j v))) := wi_of (n := 69) rfl (by decide) rfl h1 h2
theorem ri53 (h1 : 0 ≤ j) (h2 : j < 69) : ri X (MEM x m) 53 (iI j) KI = KI (iI (m 3 j)) := ri_of (n := 69) rfl (by decide) h1 h2
theorem wi53 (h1 : 0 ≤ j) (h2 : j < 69) : wi (MEM x m) 53 (iI j) (iI v) KM = KM (MEM x (mu m 3 (iu (m 3) j v))) := wi_of (n := 69) rfl (by decide) rfl h1 h2
theorem ri54 (h1 : 0 ≤ j) (h2 : j < 7) : ri X (MEM x m) 54 (iI j) KI = KI (iI (m 4 j)) := ri_of (n := 7) rfl (by decide) h1 h2
theorem wi54 (h1 : 0 ≤ j) (h2 : j < 7) : wi (MEM x m) 54 (iI j) (iI v) KM = KM (MEM x (mu m 4 (iu (m 4) j v))) := wi_of (n := 7) rfl (by decide) rfl h1 h2
theorem ri56 (h1 : 0 ≤ j) (h2 : j < 4) : ri X (MEM x m) 56 (iI j) KI = KI (iI (m 7 j)) := ri_of (n := 4) rfl (by decide) h1 h2
theorem wi56 (h1 : 0 ≤ j) (h2 : j < 4) : wi (MEM x m) 56 (iI j) (iI v) KM = KM (MEM x (mu m 7 (iu (m 7) j v))) := wi_of (n := 4) rfl (by decide) rfl h1 h2
theorem ri57 (h1 : 0 ≤ j) (h2 : j < 4) : ri X (MEM x m) 57 (iI j) KI = KI (iI (m 8 j)) := ri_of (n := 4) rfl (by decide) h1 h2
theorem wi57 (h1 : 0 ≤ j) (h2 : j < 4) : wi (MEM x m) 57 (iI j) (iI v) KM = KM (MEM x (mu m 8 (iu (m 8) j v))) := wi_of (n := 4) rfl (by decide) rfl h1 h2
theorem ri58 (h1 : 0 ≤ j) (h2 : j < 160) : ri X (MEM x m) 58 (iI j) KI = KI (iI (m 9 j)) := ri_of (n := 160) rfl (by decide) h1 h2
theorem wi58 (h1 : 0 ≤ j) (h2 : j < 160) : wi (MEM x m) 58 (iI j) (iI v) KM = KM (MEM x (mu m 9 (iu (m 9) j v))) := wi_of (n := 160) rfl (by decide) rfl h1 h2
theorem ri59 (h1 : 0 ≤ j) (h2 : j < 40) : ri X (MEM x m) 59 (iI j) KI = KI (iI (m 10 j)) := ri_of (n := 40) rfl (by decide) h1 h2
theorem wi59 (h1 : 0 ≤ j) (h2 : j < 40) : wi (MEM x m) 59 (iI j) (iI v) KM = KM (MEM x (mu m 10 (iu (m 10) j v))) := wi_of (n := 40) rfl (by decide) rfl h1 h2
theorem ri38 (h1 : 0 ≤ j) (h2 : j < 120) : ri X (MEM x m) 38 (iI j) KI = KI (iI (x 6 j)) := ri_of (n := 120) rfl (by decide) h1 h2
theorem wi38 (h1 : 0 ≤ j) (h2 : j < 120) : wi (MEM x m) 38 (iI j) (iI v) KM = KM (MEM (mu x 6 (iu (x 6) j v)) m) := wi_of (n := 120) rfl (by decide) rfl h1 h2
theorem ri40 (h1 : 0 ≤ j) (h2 : j < 7) : ri X (MEM x m) 40 (iI j) KI = KI (iI (x 14 j)) := ri_of (n := 7) rfl (by decide) h1 h2
theorem wi40 (h1 : 0 ≤ j) (h2 : j < 7) : wi (MEM x m) 40 (iI j) (iI v) KM = KM (MEM (mu x 14 (iu (x 14) j v)) m) := wi_of (n := 7) rfl (by decide) rfl h1 h2
theorem ri42 (h1 : 0 ≤ j) (h2 : j < 40) : ri X (MEM x m) 42 (iI j) KI = KI (iI (x 10 j)) := ri_of (n := 40) rfl (by decide) h1 h2
theorem wi42 (h1 : 0 ≤ j) (h2 : j < 40) : wi (MEM x m) 42 (iI j) (iI v) KM = KM (MEM (mu x 10 (iu (x 10) j v)) m) := wi_of (n := 40) rfl (by decide) rfl h1 h2
theorem ri44 (h1 : 0 ≤ j) (h2 : j < 40) : ri X (MEM x m) 44 (iI j) KI = KI (iI (x 11 j)) := ri_of (n := 40) rfl (by decide) h1 h2
theorem wi44 (h1 : 0 ≤ j) (h2 : j < 40) : wi (MEM x m) 44 (iI j) (iI v) KM = KM (MEM (mu x 11 (iu (x 11) j v)) m) := wi_of (n := 40) rfl (by decide) rfl h1 h2
theorem ri46 (h1 : 0 ≤ j) (h2 : j < 40) : ri X (MEM x m) 46 (iI j) KI = KI (iI (x 12 j)) := ri_of (n := 40) rfl (by decide) h1 h2
theorem wi46 (h1 : 0 ≤ j) (h2 : j < 40) : wi (MEM x m) 46 (iI j) (iI v) KM = KM (MEM (mu x 12 (iu (x 12) j v)) m) := wi_of (n := 40) rfl (by decide) rfl h1 h2
theorem ri48 (h1 : 0 ≤ j) (h2 : j < 40) : ri X (MEM x m) 48 (iI j) KI = KI (iI (x 13 j)) := ri_of (n := 40) rfl (by decide) h1 h2
theorem wi48 (h1 : 0 ≤ j) (h2 : j < 40) : wi (MEM x m) 48 (iI j) (iI v) KM = KM (MEM (mu x 13 (iu (x 13) j v)) m) := wi_of (n := 40) rfl (by decide) rfl h1 h2
theorem rb55 (h1 : 0 ≤ j) (h2 : j < 120) : rb (MEM x m) 55 (iI j) KI = KI (iI (m 5 j)) := rb_of (n := 120) rfl (by decide) h1 h2
theorem wb55 (h1 : 0 ≤ j) (h2 : j < 120) (h4 : -128 ≤ v) (h5 : v < 128) : wb (MEM x m) 55 (iI j) (iI v) KM = KM (MEM x (mu m 5 (iu (m 5) j v))) := wb_of (n := 120) rfl (by decide) rfl h1 h2 h4 h5
theorem g0_0 : gf (MEM x m) 0 4 0 K = K (.ref 1) := gf_of rfl rfl
theorem g0_1 : gf (MEM x m) 0 4 1 K = K (.ref 13) := gf_of rfl rfl
theorem g0_2 : gf (MEM x m) 0 4 2 K = K (.ref 25) := gf_of rfl rfl
theorem g0_3 : gf (MEM x m) 0 4 3 K = K (.int (iI (x 7 0))) := gf_of rfl rfl
theorem g0_4 : gf (MEM x m) 0 4 4 K = K (.ref 37) := gf_of rfl rfl
theorem g0_5 : gf (MEM x m) 0 4 5 K = K (.ref 39) := gf_of rfl rfl
theorem g0_6 : gf (MEM x m) 0 4 6 K = K (.ref 40) := gf_of rfl rfl
theorem p0_3_0 : pf y (MEM x m) 0 4 3 (.int (iI 0)) KM = KM (MEM (mu x 7 (iu (x 7) 0 0)) m) := pf_of rfl (Nat.le_of_ble_eq_true rfl) (by decide +kernel) (by decide +kernel) rfl rfl
theorem p0_3_1 : pf y (MEM x m) 0 4 3 (.int (iI 1)) KM = KM (MEM (mu x 7 (iu (x 7) 0 1)) m) := pf_of rfl (Nat.le_of_ble_eq_true rfl) (by decide +kernel) (by decide +kernel) rfl rfl
theorem g37_0 : gf (MEM x m) 37 2 0 K = K (.ref 38) := gf_of rfl rfl
theorem g37_1 : gf (MEM x m) 37 2 1 K = K (.int (iI (x 7 1))) := gf_of rfl rfl
theorem p37_1 : pf y (MEM x m) 37 2 1 (.int (iI v)) KM = KM (MEM (mu x 7 (iu (x 7) 1 v)) m) := pf_of rfl (Nat.le_of_ble_eq_true rfl) rfl rfl rfl rfl
theorem g37_2 : gf (MEM x m) 37 2 2 K = K (.int (iI (x 7 2))) := gf_of rfl rfl
theorem p37_2 : pf y (MEM x m) 37 2 2 (.int (iI v)) KM = KM (MEM (mu x 7 (iu (x 7) 2 v)) m) := pf_of rfl (Nat.le_of_ble_eq_true rfl) rfl rfl rfl rfl
theorem g37_3 : gf (MEM x m) 37 2 3 K = K (.int (iI (x 7 3))) := gf_of rfl rfl
theorem p37_3 : pf y (MEM x m) 37 2 3 (.int (iI v)) KM = KM (MEM (mu x 7 (iu (x 7) 3 v)) m) := pf_of rfl (Nat.le_of_ble_eq_true rfl) rfl rfl rfl rfl
theorem g37_4 : gf (MEM x m) 37 2 4 K = K (.int (iI (x 7 4))) := gf_of rfl rfl
theorem p37_4 : pf y (MEM x m) 37 2 4 (.int (iI v)) KM = KM (MEM (mu x 7 (iu (x 7) 4 v)) m) := pf_of rfl (Nat.le_of_ble_eq_true rfl) rfl rfl rfl rfl
theorem g37_5 : gf (MEM x m) 37 2 5 K = K (.int (iI (x 7 5))) := gf_of rfl rfl
theorem p37_5 : pf y (MEM x m) 37 2 5 (.int (iI v)) KM = KM (MEM (mu x 7 (iu (x 7) 5 v)) m) := pf_of rfl (Nat.le_of_ble_eq_true rfl) rfl rfl rfl rfl
theorem g41_0 : gf (MEM x m) 41 1 0 K = K (.int (iI (x 8 0))) := gf_of rfl rfl
theorem p41_0 : pf y (MEM x m) 41 1 0 (.int (iI v)) KM = KM (MEM (mu x 8 (iu (x 8) 0 v)) m) := pf_of rfl (Nat.le_of_ble_eq_true rfl) rfl rfl rfl rfl
theorem g41_1 : gf (MEM x m) 41 1 1 K = K (.int (iI (x 9 0))) := gf_of rfl rfl
theorem p41_1 : pf y (MEM x m) 41 1 1 (.int (iI v)) KM = KM (MEM (mu x 9 (iu (x 9) 0 v)) m) := pf_of rfl (Nat.le_of_ble_eq_true rfl) rfl rfl rfl rfl
theorem g41_2 : gf (MEM x m) 41 1 2 K = K (.ref 42) := gf_of rfl rfl
theorem g43_0 : gf (MEM x m) 43 1 0 K = K (.int (iI (x 8 1))) := gf_of rfl rfl
theorem p43_0 : pf y (MEM x m) 43 1 0 (.int (iI v)) KM = KM (MEM (mu x 8 (iu (x 8) 1 v)) m) := pf_of rfl (Nat.le_of_ble_eq_true rfl) rfl rfl rfl rfl
theorem g43_1 : gf (MEM x m) 43 1 1 K = K (.int (iI (x 9 1))) := gf_of rfl rfl
theorem p43_1 : pf y (MEM x m) 43 1 1 (.int (iI v)) KM = KM (MEM (mu x 9 (iu (x 9) 1 v)) m) := pf_of rfl (Nat.le_of_ble_eq_true rfl) rfl rfl rfl rfl
theorem g43_2 : gf (MEM x m) 43 1 2 K = K (.ref 44) := gf_of rfl rfl
theorem g45_0 : gf (MEM x m) 45 1 0 K = K (.int (iI (x 8 2))) := gf_of rfl rfl
theorem p45_0 : pf y (MEM x m) 45 1 0 (.int (iI v)) KM = KM (MEM (mu x 8 (iu (x 8) 2 v)) m) := pf_of rfl (Nat.le_of_ble_eq_true rfl) rfl rfl rfl rfl
theorem g45_1 : gf (MEM x m) 45 1 1 K = K (.int (iI (x 9 2))) := gf_of rfl rfl
theorem p45_1 : pf y (MEM x m) 45 1 1 (.int (iI v)) KM = KM (MEM (mu x 9 (iu (x 9) 2 v)) m) := pf_of rfl (Nat.le_of_ble_eq_true rfl) rfl rfl rfl rfl
theorem g45_2 : gf (MEM x m) 45 1 2 K = K (.ref 46) := gf_of rfl rfl
theorem g47_0 : gf (MEM x m) 47 1 0 K = K (.int (iI (x 8 3))) := gf_of rfl rfl
theorem p47_0 : pf y (MEM x m) 47 1 0 (.int (iI v)) KM = KM (MEM (mu x 8 (iu (x 8) 3 v)) m) := pf_of rfl (Nat.le_of_ble_eq_true rfl) rfl rfl rfl rfl
theorem g47_1 : gf (MEM x m) 47 1 1 K = K (.int (iI (x 9 3))) := gf_of rfl rfl
theorem p47_1 : pf y (MEM x m) 47 1 1 (.int (iI v)) KM = KM (MEM (mu x 9 (iu (x 9) 3 v)) m) := pf_of rfl (Nat.le_of_ble_eq_true rfl) rfl rfl rfl rfl
theorem g47_2 : gf (MEM x m) 47 1 2 K = K (.ref 48) := gf_of rfl rfl
theorem g1_0 : gf (MEM x m) 1 3 0 K = K (.int (iI (x 0 3))) := gf_of rfl rfl
theorem g1_1 : gf (MEM x m) 1 3 1 K = K (.int (iI (x 0 4))) := gf_of rfl rfl
theorem g1_2 : gf (MEM x m) 1 3 2 K = K (.int (iI (x 0 1))) := gf_of rfl rfl
theorem g1_3 : gf (MEM x m) 1 3 3 K = K (.int (iI (x 0 2))) := gf_of rfl rfl
theorem g1_4 : gf (MEM x m) 1 3 4 K = K (.int (iI (x 0 0))) := gf_of rfl rfl
theorem g1_5 : gf (MEM x m) 1 3 5 K = K (.ref 2) := gf_of rfl rfl
theorem g1_6 : gf (MEM x m) 1 3 6 K = K (.ref 3) := gf_of rfl rfl
theorem g1_7 : gf (MEM x m) 1 3 7 K = K (.ref 4) := gf_of rfl rfl
theorem g13_0 : gf (MEM x m) 13 3 0 K = K (.int (iI (x 2 3))) := gf_of rfl rfl
theorem g13_1 : gf (MEM x m) 13 3 1 K = K (.int (iI (x 2 4))) := gf_of rfl rfl
theorem g13_2 : gf (MEM x m) 13 3 2 K = K (.int (iI (x 2 1))) := gf_of rfl rfl
theorem g13_3 : gf (MEM x m) 13 3 3 K = K (.int (iI (x 2 2))) := gf_of rfl rfl
theorem g13_4 : gf (MEM x m) 13 3 4 K = K (.int (iI (x 2 0))) := gf_of rfl rfl
theorem g13_5 : gf (MEM x m) 13 3 5 K = K (.ref 14) := gf_of rfl rfl
theorem g13_6 : gf (MEM x m) 13 3 6 K = K (.ref 15) := gf_of rfl rfl
theorem g13_7 : gf (MEM x m) 13 3 7 K = K (.ref 16) := gf_of rfl rfl
theorem g25_0 : gf (MEM x m) 25 3 0 K = K (.int (iI (x 4 3))) := gf_of rfl rfl
theorem g25_1 : gf (MEM x m) 25 3 1 K = K (.int (iI (x 4 4))) := gf_of rfl rfl
theorem g25_2 : gf (MEM x m) 25 3 2 K = K (.int (iI (x 4 1))) := gf_of rfl rfl
theorem g25_3 : gf (MEM x m) 25 3 3 K = K (.int (iI (x 4 2))) := gf_of rfl rfl
theorem g25_4 : gf (MEM x m) 25 3 4 K = K (.int (iI (x 4 0))) := gf_of rfl rfl
theorem g25_5 : gf (MEM x m) 25 3 5 K = K (.ref 26) := gf_of rfl rfl
theorem g25_6 : gf (MEM x m) 25 3 6 K = K (.ref 27) := gf_of rfl rfl
theorem g25_7 : gf (MEM x m) 25 3 7 K = K (.ref 28) := gf_of rfl rfl
theorem rc0 : prcv (MEM x m) 4 0 = True := eq_true ⟨rfl, by decide⟩
theorem rc49 : prcv (MEM x m) 5 49 = True := eq_true ⟨rfl, by decide⟩
theorem rc37 : prcv (MEM x m) 2 37 = True := eq_true ⟨rfl, by decide⟩
theorem rc1 : prcv (MEM x m) 3 1 = True := eq_true ⟨rfl, by decide⟩
theorem rc13 : prcv (MEM x m) 3 13 = True := eq_true ⟨rfl, by decide⟩
theorem rc25 : prcv (MEM x m) 3 25 = True := eq_true ⟨rfl, by decide⟩
theorem rc41 : prcv (MEM x m) 1 41 = True := eq_true ⟨rfl, by decide⟩
theorem rc43 : prcv (MEM x m) 1 43 = True := eq_true ⟨rfl, by decide⟩
theorem rc45 : prcv (MEM x m) 1 45 = True := eq_true ⟨rfl, by decide⟩
theorem rc47 : prcv (MEM x m) 1 47 = True := eq_true ⟨rfl, by decide⟩
end

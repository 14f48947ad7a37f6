/-! a town becomes as another -/
theorem mu_3 {x : Nat → Int → Int} {a b : Nat} {f g h : Int → Int} : mu (mu (mu x a f) b g) a h = mu (mu x b g) a h := by
  funext k; unfold mu; by_cases h1 : k = a <;> by_cases h2 : k = b <;> simp [h1, h2]
theorem mu_cm {x : Nat → Int → Int} {a b : Nat} {f g : Int → Int} (h : a ≠ b) : mu (mu x a f) b g = mu (mu x b g) a f := by
  funext k; unfold mu
  by_cases h1 : k = a
  · subst h1; simp [h]
  · simp [h1]
def pcp (D S : Int → Int) (p : Int) : Int → Int := iu (iu (iu (iu (iu (iu D (11 + p) (S (11 + p))) (19 + p) (S (19 + p))) (27 + p) (S (27 + p))) (35 + p) (S (35 + p))) (43 + p) (S (43 + p))) (51 + p) (S (51 + p))
def bcF (D S : Int → Int) : Nat → Int → Int
  | 0 => D
  | k + 1 => pcp (bcF D S k) S k
theorem pcp_at {D S : Int → Int} {p j : Int} : pcp D S p j = if j = 11 + p ∨ j = 19 + p ∨ j = 27 + p ∨ j = 35 + p ∨ j = 43 + p ∨ j = 51 + p then S j else D j := by
  unfold pcp
  simp only [iu_at]
  by_cases h5 : j = 51 + p
  · subst h5; simp
  · by_cases h4 : j = 43 + p
    · subst h4; simp
    · by_cases h3 : j = 35 + p
      · subst h3; simp
      · by_cases h2 : j = 27 + p
        · subst h2; simp
        · by_cases h1 : j = 19 + p
          · subst h1; simp
          · by_cases h0 : j = 11 + p
            · subst h0; simp
            · simp [h0, h1, h2, h3, h4, h5]
theorem bcF_at {D S : Int → Int} {j : Int} : ∀ k : Nat, k ≤ 8 → bcF D S k j = if 11 ≤ j ∧ j < 59 ∧ (j - 11) % 8 < k then S j else D j
  | 0, _ => by
    rw [if_neg (by omega)]; rfl
  | k + 1, hk => by
    have ih := bcF_at (D := D) (S := S) (j := j) k (by omega)
    show pcp (bcF D S k) S k j = _
    rw [pcp_at, ih]
    by_cases c : j = 11 + (k : Int) ∨ j = 19 + (k : Int) ∨ j = 27 + (k : Int) ∨ j = 35 + (k : Int) ∨ j = 43 + (k : Int) ∨ j = 51 + (k : Int)
    · rw [if_pos c, if_pos (by omega)]
    · rw [if_neg c]
      by_cases c2 : 11 ≤ j ∧ j < 59 ∧ (j - 11) % 8 < k
      · rw [if_pos c2, if_pos (by omega)]
      · rw [if_neg c2, if_neg (by omega)]
section
variable {X : pXX} {d : Nat} {x m : Nat → Int → Int} {K : Option Value → List pME → Prop} {KM : List pME → Prop} {d' g' D' : Int → Int} {p : Int}
theorem T1_row2 (hD : ∀ j, ¬ (5 ≤ j ∧ j < 11) → D' j = x 0 j) : (MEM x m).set 3 (.inr (.inl (0, 6, row 6 (fun k => D' (5 + k))))) = MEM (mu x 0 D') m := by
  rw [← mu_i0]
  have hp : ∀ p, 0 ≤ p → p < 8 → pe D' (x 1) p = pe (x 0) (x 1) p := fun p p1 p2 => by
    by_cases c : p < x 0 0
    · rw [pe_live c, pe_live (by rw [hD _ (by omega)]; exact c), hD (11 + p) (by omega), hD (19 + p) (by omega), hD (27 + p) (by omega), hD (35 + p) (by omega), hD (43 + p) (by omega), hD (51 + p) (by omega)]
    · rw [pe_dead c, pe_dead (by rw [hD _ (by omega)]; exact c)]
  have r1 : row 10 (fun k => D' (59 + k) - 1) = row 10 (fun k => x 0 (59 + k) - 1) := row_cong fun k k1 k2 => by rw [hD _ (by omega)]
  have e : MEM (mu (mu x 0 D') 1 (x 1)) m = (MEM x m).take 1 ++ (tn 1 D' (x 1) ++ (MEM x m).drop 13) := rfl
  rw [e]
  unfold tn
  rw [r1]
  simp (disch := omega) only [hp]
  rw [hD 0 (by omega), hD 1 (by omega), hD 2 (by omega), hD 3 (by omega), hD 4 (by omega)]
  rfl
theorem T1_row3 (hD : ∀ j, ¬ (59 ≤ j ∧ j < 69) → D' j = x 0 j) : (MEM x m).set 4 (.inr (.inl (0, 10, row 10 (fun k => D' (59 + k) - 1)))) = MEM (mu x 0 D') m := by
  rw [← mu_i0]
  have hp : ∀ p, 0 ≤ p → p < 8 → pe D' (x 1) p = pe (x 0) (x 1) p := fun p p1 p2 => by
    by_cases c : p < x 0 0
    · rw [pe_live c, pe_live (by rw [hD _ (by omega)]; exact c), hD (11 + p) (by omega), hD (19 + p) (by omega), hD (27 + p) (by omega), hD (35 + p) (by omega), hD (43 + p) (by omega), hD (51 + p) (by omega)]
    · rw [pe_dead c, pe_dead (by rw [hD _ (by omega)]; exact c)]
  have r1 : row 6 (fun k => D' (5 + k)) = row 6 (fun k => x 0 (5 + k)) := row_cong fun k k1 k2 => by rw [hD _ (by omega)]
  have e : MEM (mu (mu x 0 D') 1 (x 1)) m = (MEM x m).take 1 ++ (tn 1 D' (x 1) ++ (MEM x m).drop 13) := rfl
  rw [e]
  unfold tn
  rw [r1]
  simp (disch := omega) only [hp]
  rw [hD 0 (by omega), hD 1 (by omega), hD 2 (by omega), hD 3 (by omega), hD 4 (by omega)]
  rfl
theorem T13_row2 (hD : ∀ j, ¬ (5 ≤ j ∧ j < 11) → D' j = x 2 j) : (MEM x m).set 15 (.inr (.inl (0, 6, row 6 (fun k => D' (5 + k))))) = MEM (mu x 2 D') m := by
  rw [← mu_i1]
  have hp : ∀ p, 0 ≤ p → p < 8 → pe D' (x 3) p = pe (x 2) (x 3) p := fun p p1 p2 => by
    by_cases c : p < x 2 0
    · rw [pe_live c, pe_live (by rw [hD _ (by omega)]; exact c), hD (11 + p) (by omega), hD (19 + p) (by omega), hD (27 + p) (by omega), hD (35 + p) (by omega), hD (43 + p) (by omega), hD (51 + p) (by omega)]
    · rw [pe_dead c, pe_dead (by rw [hD _ (by omega)]; exact c)]
  have r1 : row 10 (fun k => D' (59 + k) - 1) = row 10 (fun k => x 2 (59 + k) - 1) := row_cong fun k k1 k2 => by rw [hD _ (by omega)]
  have e : MEM (mu (mu x 2 D') 3 (x 3)) m = (MEM x m).take 13 ++ (tn 13 D' (x 3) ++ (MEM x m).drop 25) := rfl
  rw [e]
  unfold tn
  rw [r1]
  simp (disch := omega) only [hp]
  rw [hD 0 (by omega), hD 1 (by omega), hD 2 (by omega), hD 3 (by omega), hD 4 (by omega)]
  rfl
theorem T13_row3 (hD : ∀ j, ¬ (59 ≤ j ∧ j < 69) → D' j = x 2 j) : (MEM x m).set 16 (.inr (.inl (0, 10, row 10 (fun k => D' (59 + k) - 1)))) = MEM (mu x 2 D') m := by
  rw [← mu_i1]
  have hp : ∀ p, 0 ≤ p → p < 8 → pe D' (x 3) p = pe (x 2) (x 3) p := fun p p1 p2 => by
    by_cases c : p < x 2 0
    · rw [pe_live c, pe_live (by rw [hD _ (by omega)]; exact c), hD (11 + p) (by omega), hD (19 + p) (by omega), hD (27 + p) (by omega), hD (35 + p) (by omega), hD (43 + p) (by omega), hD (51 + p) (by omega)]
    · rw [pe_dead c, pe_dead (by rw [hD _ (by omega)]; exact c)]
  have r1 : row 6 (fun k => D' (5 + k)) = row 6 (fun k => x 2 (5 + k)) := row_cong fun k k1 k2 => by rw [hD _ (by omega)]
  have e : MEM (mu (mu x 2 D') 3 (x 3)) m = (MEM x m).take 13 ++ (tn 13 D' (x 3) ++ (MEM x m).drop 25) := rfl
  rw [e]
  unfold tn
  rw [r1]
  simp (disch := omega) only [hp]
  rw [hD 0 (by omega), hD 1 (by omega), hD 2 (by omega), hD 3 (by omega), hD 4 (by omega)]
  rfl
theorem T25_row2 (hD : ∀ j, ¬ (5 ≤ j ∧ j < 11) → D' j = x 4 j) : (MEM x m).set 27 (.inr (.inl (0, 6, row 6 (fun k => D' (5 + k))))) = MEM (mu x 4 D') m := by
  rw [← mu_i2]
  have hp : ∀ p, 0 ≤ p → p < 8 → pe D' (x 5) p = pe (x 4) (x 5) p := fun p p1 p2 => by
    by_cases c : p < x 4 0
    · rw [pe_live c, pe_live (by rw [hD _ (by omega)]; exact c), hD (11 + p) (by omega), hD (19 + p) (by omega), hD (27 + p) (by omega), hD (35 + p) (by omega), hD (43 + p) (by omega), hD (51 + p) (by omega)]
    · rw [pe_dead c, pe_dead (by rw [hD _ (by omega)]; exact c)]
  have r1 : row 10 (fun k => D' (59 + k) - 1) = row 10 (fun k => x 4 (59 + k) - 1) := row_cong fun k k1 k2 => by rw [hD _ (by omega)]
  have e : MEM (mu (mu x 4 D') 5 (x 5)) m = (MEM x m).take 25 ++ (tn 25 D' (x 5) ++ (MEM x m).drop 37) := rfl
  rw [e]
  unfold tn
  rw [r1]
  simp (disch := omega) only [hp]
  rw [hD 0 (by omega), hD 1 (by omega), hD 2 (by omega), hD 3 (by omega), hD 4 (by omega)]
  rfl
theorem T25_row3 (hD : ∀ j, ¬ (59 ≤ j ∧ j < 69) → D' j = x 4 j) : (MEM x m).set 28 (.inr (.inl (0, 10, row 10 (fun k => D' (59 + k) - 1)))) = MEM (mu x 4 D') m := by
  rw [← mu_i2]
  have hp : ∀ p, 0 ≤ p → p < 8 → pe D' (x 5) p = pe (x 4) (x 5) p := fun p p1 p2 => by
    by_cases c : p < x 4 0
    · rw [pe_live c, pe_live (by rw [hD _ (by omega)]; exact c), hD (11 + p) (by omega), hD (19 + p) (by omega), hD (27 + p) (by omega), hD (35 + p) (by omega), hD (43 + p) (by omega), hD (51 + p) (by omega)]
    · rw [pe_dead c, pe_dead (by rw [hD _ (by omega)]; exact c)]
  have r1 : row 6 (fun k => D' (5 + k)) = row 6 (fun k => x 4 (5 + k)) := row_cong fun k k1 k2 => by rw [hD _ (by omega)]
  have e : MEM (mu (mu x 4 D') 5 (x 5)) m = (MEM x m).take 25 ++ (tn 25 D' (x 5) ++ (MEM x m).drop 37) := rfl
  rw [e]
  unfold tn
  rw [r1]
  simp (disch := omega) only [hp]
  rw [hD 0 (by omega), hD 1 (by omega), hD 2 (by omega), hD 3 (by omega), hD 4 (by omega)]
  rfl
theorem cp13_1_2 : cpy (MEM x m) 3 15 (iI 0) (iI 0) (iI 6) KM = KM (MEM (mu x 2 (fun j => if 5 ≤ j ∧ j < 11 then x 0 j else x 2 j)) m) := by
  refine cpy_of (n0 := 6) (n1 := 6) (f := fun k => x 0 (5 + k)) (g := fun k => x 2 (5 + k)) (g' := fun k => (fun j => if 5 ≤ j ∧ j < 11 then x 0 j else x 2 j) (5 + k)) rfl rfl (by omega) (by omega) (by omega) (by omega) (by omega) (by omega) (by omega) (fun k k1 k2 => ?_) ?_
  · rw [if_pos (by omega)]
    show (if 5 ≤ 5 + (k : Int) ∧ 5 + (k : Int) < 11 then x 0 (5 + k) else x 2 (5 + k)) = x 0 (5 + (0 + ((k : Int) - 0)))
    rw [if_pos (by omega), show (0 : Int) + ((k : Int) - 0) = k by omega]
  · exact T13_row2 (D' := (fun j => if 5 ≤ j ∧ j < 11 then x 0 j else x 2 j)) (fun j hj => if_neg hj)
theorem cp13_1_3 : cpy (MEM x m) 4 16 (iI 0) (iI 0) (iI 10) KM = KM (MEM (mu x 2 (fun j => if 59 ≤ j ∧ j < 69 then x 0 j else x 2 j)) m) := by
  refine cpy_of (n0 := 10) (n1 := 10) (f := fun k => x 0 (59 + k) - 1) (g := fun k => x 2 (59 + k) - 1) (g' := fun k => (fun j => if 59 ≤ j ∧ j < 69 then x 0 j else x 2 j) (59 + k) - 1) rfl rfl (by omega) (by omega) (by omega) (by omega) (by omega) (by omega) (by omega) (fun k k1 k2 => ?_) ?_
  · rw [if_pos (by omega)]
    show (if 59 ≤ 59 + (k : Int) ∧ 59 + (k : Int) < 69 then x 0 (59 + k) else x 2 (59 + k)) - 1 = x 0 (59 + (0 + ((k : Int) - 0))) - 1
    rw [if_pos (by omega), show (0 : Int) + ((k : Int) - 0) = k by omega]
  · exact T13_row3 (D' := (fun j => if 59 ≤ j ∧ j < 69 then x 0 j else x 2 j)) (fun j hj => if_neg hj)
theorem T13_1_bp (h1 : 0 ≤ p) (h2 : p < x 2 0) (h8 : x 2 0 ≤ 8) (h3 : p < x 0 0) : Cw X (d + 1) 54 [.ref (17 + p.toNat), .ref (5 + p.toNat)] (MEM x m) K = K none (MEM (mu x 2 (pcp (x 2) (x 0) p)) m) := by
  refine (congrArg (fun z => Cw X (d + 1) 54 [.ref (17 + p.toNat), .ref (5 + p.toNat)] z K) (T13_PM (x := x) (m := m) h1 h2 h8)).symm.trans ((p_become (by rw [MEM_len]; omega) ((T1_pe h1 (by omega)).trans (congrArg some (pe_live h3))) (by omega)).trans (congrArg (K _) (T13_live h1 h2 h8 (fun j _ _ _ _ _ _ => ?_) ?_ ?_ ?_ ?_ ?_ ?_)))
  · rw [pcp_at, if_neg (by omega)]
  all_goals rw [pcp_at, if_pos (by omega)]
theorem T13_1_become (hN : 0 ≤ x 0 0) (hN2 : x 0 0 ≤ 8) : Cw X (d + 2) 53 [.ref 13, .ref 1] (MEM x m) K = K none (MEM (mu (mu x 3 (mgg (x 2) (x 3))) 2 (x 0)) m) := by
  have hM : MEM x m = MEM (mu (mu x 3 (mgg (x 2) (x 3))) 2 (mgd (x 2) (x 3))) m := by
    rw [mu_cm (by decide)]
    exact (T13_eq mg_tn).symm
  have hB : Bal (mgd (x 2) (x 3)) (mgg (x 2) (x 3)) := mg_Bal
  have hB4 : ∀ {a b c e : Int}, Bal (iu (iu (iu (iu (mgd (x 2) (x 3)) 3 a) 4 b) 1 c) 2 e) (mgg (x 2) (x 3)) := fun p w p1 p2 w1 w2 => by
    simp (disch := omega) only [iu_ne]; exact hB p w p1 p2 w1 w2
  have hpeo : ∀ {a b c e v : Int} {y : Nat} {KM : List pME → Prop}, pf y (MEM (mu (mu x 3 (mgg (x 2) (x 3))) 2 (iu (iu (iu (iu (mgd (x 2) (x 3)) 3 a) 4 b) 1 c) 2 e)) m) 13 3 4 (.int (iI v)) KM = KM (MEM (mu (mu x 3 (mgg (x 2) (x 3))) 2 (iu (iu (iu (iu (iu (mgd (x 2) (x 3)) 3 a) 4 b) 1 c) 2 e) 0 v)) m) := fun {a b c e v y KM} => by
    have z := T13_people (x := mu (mu x 3 (mgg (x 2) (x 3))) 2 (iu (iu (iu (iu (mgd (x 2) (x 3)) 3 a) 4 b) 1 c) 2 e)) (m := m) (v := v) (y := y) (KM := KM) (by
      rw [mu_self, mu_ne (by decide), mu_self]; exact hB4)
    rw [mu_self, mu_mu] at z
    exact z
  generalize hD1 : (iu (iu (iu (iu (iu (mgd (x 2) (x 3)) 3 ((x 0) 3)) 4 ((x 0) 4)) 1 ((x 0) 1)) 2 ((x 0) 2)) 0 ((x 0) 0)) = D1
  have hD0 : D1 0 = x 0 0 := by rw [← hD1, iu_self]
  have h := lp_up (f := fun k => pR X (d + 1) 53 0 K (42, [some (.ref 13), some (.ref 1), some (.int (iI k))], [], MEM (mu (mu x 3 (mgg (x 2) (x 3))) 2 (bcF D1 (x 0) k)) m, 0)) (n := (x 0 0).toNat) (fun k hk => by
    have e0 : bcF D1 (x 0) k 0 = x 0 0 := by rw [bcF_at k (by omega), if_neg (by omega), hD0]
    rw [r53_42]
    simp (disch := first | omega | assumption | (simp (disch := omega) only [mu_self, mu_ne, iu_self, iu_ne]; done) | (simp (disch := omega) only [mu_self, mu_ne, iu_self, iu_ne]; omega) | (simp (disch := omega) only [mu_self, mu_ne, iu_self, iu_ne]; assumption)) only [r53_0, r53_1, r53_2, r53_5, r53_8, r53_9, r53_10, r53_13, r53_16, r53_17, r53_18, r53_21, r53_24, r53_25, r53_26, r53_29, r53_32, r53_33, r53_34, r53_37, r53_40, r53_41, r53_43, r53_44, r53_47, r53_50, r53_51, r53_54, r53_55, r53_56, r53_57, r53_60, r53_61, r53_62, r53_65, r53_68, r53_71, r53_72, r53_75, r53_76, r53_77, r53_80, r53_81, r53_83, r53_86, r53_87, r53_90, r53_91, r53_92, r53_95, r53_96, r53_98, r53_101, g49_0, g49_1, g49_2, g49_3, g49_4, g49_5, g49_6, g49_7, g49_8, g49_9, g49_10, g49_11, g49_12, g49_13, g49_14, g49_15, g49_16, g49_17, p49_4_0, p49_4_1, p49_7, p49_8, p49_9, p49_10, p49_11, p49_12, p49_13, ri50, wi50, ri51, wi51, ri52, wi52, ri53, wi53, ri54, wi54, ri56, wi56, ri57, wi57, ri58, wi58, ri59, wi59, ri38, wi38, ri40, wi40, ri42, wi42, ri44, wi44, ri46, wi46, ri48, wi48, rb55, wb55, g0_0, g0_1, g0_2, g0_3, g0_4, g0_5, g0_6, p0_3_0, p0_3_1, g37_0, g37_1, p37_1, g37_2, p37_2, g37_3, p37_3, g37_4, p37_4, g37_5, p37_5, g41_0, p41_0, g41_1, p41_1, g41_2, g43_0, p43_0, g43_1, p43_1, g43_2, g45_0, p45_0, g45_1, p45_1, g45_2, g47_0, p47_0, g47_1, p47_1, g47_2, g1_0, g1_1, g1_2, g1_3, g1_4, g1_5, g1_6, g1_7, g13_0, g13_1, g13_2, g13_3, g13_4, g13_5, g13_6, g13_7, g25_0, g25_1, g25_2, g25_3, g25_4, g25_5, g25_6, g25_7, rc0, rc49, rc37, rc1, rc13, rc25, rc41, rc43, rc45, rc47, p1_0, p1_1, p1_2, p1_3, ri3, ri4, wi3, wi4, ra2, rcp1, gp1_0, pp1_0, gp1_1, pp1_1, gp1_2, pp1_2, gp1_3, pp1_3, gp1_4, pp1_4, gp1_5, pp1_5, p13_0, p13_1, p13_2, p13_3, ri15, ri16, wi15, wi16, ra14, rcp13, gp13_0, pp13_0, gp13_1, pp13_1, gp13_2, pp13_2, gp13_3, pp13_3, gp13_4, pp13_4, gp13_5, pp13_5, p25_0, p25_1, p25_2, p25_3, ri27, ri28, wi27, wi28, ra26, rcp25, gp25_0, pp25_0, gp25_1, pp25_1, gp25_2, pp25_2, gp25_3, pp25_3, gp25_4, pp25_4, gp25_5, pp25_5, br_y, br_n, ↓blt_y, ↓blt_n, ↓ble_y, ↓ble_n, ↓beq_y, ↓beq_n, ↓bne_y, ↓bne_n, ↓blt0_y, ↓blt0_n, ↓ble0_y, ↓ble0_n, ↓bge0_y, ↓bge0_n, ↓bgt0_y, ↓bgt0_n, ↓beq0_y, ↓beq0_n, ↓bne0_y, ↓bne0_n, ↓bt_y, ↓bt_n, ↓bu_y, ↓bu_n, ↓sw_n, ↓sw_y, ↓sd_n, ↓sd_y, ↓bl_y, ↓bl_n, ↓bg_y, ↓bg_n, ↓blle_y, ↓blle_n, zb_0, zb_1, zb_tf, ↓nzp, if_pos, if_neg, iI_add, iI_sub, iI_mul, iI_neg, iI_lt, iI_le, iI_eq, iI_lt0, iI_le0, iI_ge0, iI_gt0, iI_eq0, iI_div, iI_rem, iI_toInt, iI_l, lI_i, md_eq, mu_self, mu_mu, mu_ne, true_or, or_true, or_false, false_or, true_and, and_true, true_implies, false_implies, implies_true, forall_const, not_true_eq_false, not_false_eq_true, Option.toList_some, Option.toList_none, List.cons_append, List.nil_append, cl1, ite_true, ite_false, if_true, if_false, e0, T13_1_bp]
    rfl)
  have hn : (((x 0 0).toNat : Nat) : Int) = x 0 0 := by omega
  simp only [hn] at h
  have z0 : ((0 : Nat) : Int) = 0 := rfl
  have z1 : bcF D1 (x 0) 0 = D1 := rfl
  rw [z0, z1] at h
  rw [hM]
  simp (disch := first | omega | assumption | (simp (disch := omega) only [mu_self, mu_ne, iu_self, iu_ne]; done) | (simp (disch := omega) only [mu_self, mu_ne, iu_self, iu_ne]; omega) | (simp (disch := omega) only [mu_self, mu_ne, iu_self, iu_ne]; assumption)) only [r53_0, r53_1, r53_2, r53_5, r53_8, r53_9, r53_10, r53_13, r53_16, r53_17, r53_18, r53_21, r53_24, r53_25, r53_26, r53_29, r53_32, r53_33, r53_34, r53_37, r53_40, r53_41, r53_43, r53_44, r53_47, r53_50, r53_51, r53_54, r53_55, r53_56, r53_57, r53_60, r53_61, r53_62, r53_65, r53_68, r53_71, r53_72, r53_75, r53_76, r53_77, r53_80, r53_81, r53_83, r53_86, r53_87, r53_90, r53_91, r53_92, r53_95, r53_96, r53_98, r53_101, n53, g49_0, g49_1, g49_2, g49_3, g49_4, g49_5, g49_6, g49_7, g49_8, g49_9, g49_10, g49_11, g49_12, g49_13, g49_14, g49_15, g49_16, g49_17, p49_4_0, p49_4_1, p49_7, p49_8, p49_9, p49_10, p49_11, p49_12, p49_13, ri50, wi50, ri51, wi51, ri52, wi52, ri53, wi53, ri54, wi54, ri56, wi56, ri57, wi57, ri58, wi58, ri59, wi59, ri38, wi38, ri40, wi40, ri42, wi42, ri44, wi44, ri46, wi46, ri48, wi48, rb55, wb55, g0_0, g0_1, g0_2, g0_3, g0_4, g0_5, g0_6, p0_3_0, p0_3_1, g37_0, g37_1, p37_1, g37_2, p37_2, g37_3, p37_3, g37_4, p37_4, g37_5, p37_5, g41_0, p41_0, g41_1, p41_1, g41_2, g43_0, p43_0, g43_1, p43_1, g43_2, g45_0, p45_0, g45_1, p45_1, g45_2, g47_0, p47_0, g47_1, p47_1, g47_2, g1_0, g1_1, g1_2, g1_3, g1_4, g1_5, g1_6, g1_7, g13_0, g13_1, g13_2, g13_3, g13_4, g13_5, g13_6, g13_7, g25_0, g25_1, g25_2, g25_3, g25_4, g25_5, g25_6, g25_7, rc0, rc49, rc37, rc1, rc13, rc25, rc41, rc43, rc45, rc47, p1_0, p1_1, p1_2, p1_3, ri3, ri4, wi3, wi4, ra2, rcp1, gp1_0, pp1_0, gp1_1, pp1_1, gp1_2, pp1_2, gp1_3, pp1_3, gp1_4, pp1_4, gp1_5, pp1_5, p13_0, p13_1, p13_2, p13_3, ri15, ri16, wi15, wi16, ra14, rcp13, gp13_0, pp13_0, gp13_1, pp13_1, gp13_2, pp13_2, gp13_3, pp13_3, gp13_4, pp13_4, gp13_5, pp13_5, p25_0, p25_1, p25_2, p25_3, ri27, ri28, wi27, wi28, ra26, rcp25, gp25_0, pp25_0, gp25_1, pp25_1, gp25_2, pp25_2, gp25_3, pp25_3, gp25_4, pp25_4, gp25_5, pp25_5, br_y, br_n, ↓blt_y, ↓blt_n, ↓ble_y, ↓ble_n, ↓beq_y, ↓beq_n, ↓bne_y, ↓bne_n, ↓blt0_y, ↓blt0_n, ↓ble0_y, ↓ble0_n, ↓bge0_y, ↓bge0_n, ↓bgt0_y, ↓bgt0_n, ↓beq0_y, ↓beq0_n, ↓bne0_y, ↓bne0_n, ↓bt_y, ↓bt_n, ↓bu_y, ↓bu_n, ↓sw_n, ↓sw_y, ↓sd_n, ↓sd_y, ↓bl_y, ↓bl_n, ↓bg_y, ↓bg_n, ↓blle_y, ↓blle_n, zb_0, zb_1, zb_tf, ↓nzp, if_pos, if_neg, iI_add, iI_sub, iI_mul, iI_neg, iI_lt, iI_le, iI_eq, iI_lt0, iI_le0, iI_ge0, iI_gt0, iI_eq0, iI_div, iI_rem, iI_toInt, iI_l, lI_i, md_eq, mu_self, mu_mu, mu_ne, true_or, or_true, or_false, false_or, true_and, and_true, true_implies, false_implies, implies_true, forall_const, not_true_eq_false, not_false_eq_true, Option.toList_some, Option.toList_none, List.cons_append, List.nil_append, cl1, ite_true, ite_false, if_true, if_false, hpeo, hD1]
  rw [h, r53_42]
  have e0 : bcF D1 (x 0) (x 0 0).toNat 0 = x 0 0 := by rw [bcF_at _ (by omega), if_neg (by omega), hD0]
  simp (disch := first | omega | assumption | (simp (disch := omega) only [mu_self, mu_ne, iu_self, iu_ne]; done) | (simp (disch := omega) only [mu_self, mu_ne, iu_self, iu_ne]; omega) | (simp (disch := omega) only [mu_self, mu_ne, iu_self, iu_ne]; assumption)) only [r53_0, r53_1, r53_2, r53_5, r53_8, r53_9, r53_10, r53_13, r53_16, r53_17, r53_18, r53_21, r53_24, r53_25, r53_26, r53_29, r53_32, r53_33, r53_34, r53_37, r53_40, r53_41, r53_43, r53_44, r53_47, r53_50, r53_51, r53_54, r53_55, r53_56, r53_57, r53_60, r53_61, r53_62, r53_65, r53_68, r53_71, r53_72, r53_75, r53_76, r53_77, r53_80, r53_81, r53_83, r53_86, r53_87, r53_90, r53_91, r53_92, r53_95, r53_96, r53_98, r53_101, n53, g49_0, g49_1, g49_2, g49_3, g49_4, g49_5, g49_6, g49_7, g49_8, g49_9, g49_10, g49_11, g49_12, g49_13, g49_14, g49_15, g49_16, g49_17, p49_4_0, p49_4_1, p49_7, p49_8, p49_9, p49_10, p49_11, p49_12, p49_13, ri50, wi50, ri51, wi51, ri52, wi52, ri53, wi53, ri54, wi54, ri56, wi56, ri57, wi57, ri58, wi58, ri59, wi59, ri38, wi38, ri40, wi40, ri42, wi42, ri44, wi44, ri46, wi46, ri48, wi48, rb55, wb55, g0_0, g0_1, g0_2, g0_3, g0_4, g0_5, g0_6, p0_3_0, p0_3_1, g37_0, g37_1, p37_1, g37_2, p37_2, g37_3, p37_3, g37_4, p37_4, g37_5, p37_5, g41_0, p41_0, g41_1, p41_1, g41_2, g43_0, p43_0, g43_1, p43_1, g43_2, g45_0, p45_0, g45_1, p45_1, g45_2, g47_0, p47_0, g47_1, p47_1, g47_2, g1_0, g1_1, g1_2, g1_3, g1_4, g1_5, g1_6, g1_7, g13_0, g13_1, g13_2, g13_3, g13_4, g13_5, g13_6, g13_7, g25_0, g25_1, g25_2, g25_3, g25_4, g25_5, g25_6, g25_7, rc0, rc49, rc37, rc1, rc13, rc25, rc41, rc43, rc45, rc47, p1_0, p1_1, p1_2, p1_3, ri3, ri4, wi3, wi4, ra2, rcp1, gp1_0, pp1_0, gp1_1, pp1_1, gp1_2, pp1_2, gp1_3, pp1_3, gp1_4, pp1_4, gp1_5, pp1_5, p13_0, p13_1, p13_2, p13_3, ri15, ri16, wi15, wi16, ra14, rcp13, gp13_0, pp13_0, gp13_1, pp13_1, gp13_2, pp13_2, gp13_3, pp13_3, gp13_4, pp13_4, gp13_5, pp13_5, p25_0, p25_1, p25_2, p25_3, ri27, ri28, wi27, wi28, ra26, rcp25, gp25_0, pp25_0, gp25_1, pp25_1, gp25_2, pp25_2, gp25_3, pp25_3, gp25_4, pp25_4, gp25_5, pp25_5, br_y, br_n, ↓blt_y, ↓blt_n, ↓ble_y, ↓ble_n, ↓beq_y, ↓beq_n, ↓bne_y, ↓bne_n, ↓blt0_y, ↓blt0_n, ↓ble0_y, ↓ble0_n, ↓bge0_y, ↓bge0_n, ↓bgt0_y, ↓bgt0_n, ↓beq0_y, ↓beq0_n, ↓bne0_y, ↓bne0_n, ↓bt_y, ↓bt_n, ↓bu_y, ↓bu_n, ↓sw_n, ↓sw_y, ↓sd_n, ↓sd_y, ↓bl_y, ↓bl_n, ↓bg_y, ↓bg_n, ↓blle_y, ↓blle_n, zb_0, zb_1, zb_tf, ↓nzp, if_pos, if_neg, iI_add, iI_sub, iI_mul, iI_neg, iI_lt, iI_le, iI_eq, iI_lt0, iI_le0, iI_ge0, iI_gt0, iI_eq0, iI_div, iI_rem, iI_toInt, iI_l, lI_i, md_eq, mu_self, mu_mu, mu_ne, true_or, or_true, or_false, false_or, true_and, and_true, true_implies, false_implies, implies_true, forall_const, not_true_eq_false, not_false_eq_true, Option.toList_some, Option.toList_none, List.cons_append, List.nil_append, cl1, ite_true, ite_false, if_true, if_false, e0, cp13_1_2, cp13_1_3]
  refine congrArg (K none) ?_
  have hfin : ∀ j, ¬ (11 ≤ j ∧ j < 59 ∧ ¬ (j - 11) % 8 < x 0 0) → 0 ≤ j → j < 69 → (if 59 ≤ j ∧ j < 69 then x 0 j else if 5 ≤ j ∧ j < 11 then x 0 j else bcF D1 (x 0) (x 0 0).toNat j) = x 0 j := by
    intro j hj j1 j2
    by_cases c1 : 59 ≤ j ∧ j < 69
    · rw [if_pos c1]
    · rw [if_neg c1]
      by_cases c2 : 5 ≤ j ∧ j < 11
      · rw [if_pos c2]
      · rw [if_neg c2, bcF_at _ (by omega)]
        by_cases c3 : 11 ≤ j ∧ j < 59 ∧ (j - 11) % 8 < (x 0 0).toNat
        · rw [if_pos c3]
        · rw [if_neg c3, ← hD1]
          have : j = 0 ∨ j = 1 ∨ j = 2 ∨ j = 3 ∨ j = 4 := by omega
          rcases this with rfl | rfl | rfl | rfl | rfl <;> simp (disch := omega) only [iu_self, iu_ne]
  have q := T13_eq (x := mu (mu x 3 (mgg (x 2) (x 3))) 2 (x 0)) (m := m) (d' := fun j => if 59 ≤ j ∧ j < 69 then x 0 j else if 5 ≤ j ∧ j < 11 then x 0 j else bcF D1 (x 0) (x 0 0).toNat j) (g' := mgg (x 2) (x 3)) (by
    rw [mu_self, mu_ne (by decide), mu_self]
    refine tn_ext (hfin 0 (by omega) (by omega) (by omega)) (hfin 1 (by omega) (by omega) (by omega)) (hfin 2 (by omega) (by omega) (by omega)) (hfin 3 (by omega) (by omega) (by omega)) (hfin 4 (by omega) (by omega) (by omega)) (fun k k1 k2 => hfin _ (by omega) (by omega) (by omega)) (fun k k1 k2 => hfin _ (by omega) (by omega) (by omega)) (fun p p1 p2 => ?_)
    have f0 := hfin 0 (by omega) (by omega) (by omega)
    by_cases c : p < x 0 0
    · rw [pe_live c, pe_live (by rw [f0]; exact c)]
      have w := fun b (hb : b = 11 ∨ b = 19 ∨ b = 27 ∨ b = 35 ∨ b = 43 ∨ b = 51) => hfin (b + p) (by omega) (by omega) (by omega)
      rw [w 11 (by omega), w 19 (by omega), w 27 (by omega), w 35 (by omega), w 43 (by omega), w 51 (by omega)]
    · rw [pe_dead c, pe_dead (by rw [f0]; exact c)])
  rw [mu_mu, ← mu_cm (by decide), mu_mu, mu_cm (by decide)] at q
  exact q
theorem cp1_13_2 : cpy (MEM x m) 15 3 (iI 0) (iI 0) (iI 6) KM = KM (MEM (mu x 0 (fun j => if 5 ≤ j ∧ j < 11 then x 2 j else x 0 j)) m) := by
  refine cpy_of (n0 := 6) (n1 := 6) (f := fun k => x 2 (5 + k)) (g := fun k => x 0 (5 + k)) (g' := fun k => (fun j => if 5 ≤ j ∧ j < 11 then x 2 j else x 0 j) (5 + k)) rfl rfl (by omega) (by omega) (by omega) (by omega) (by omega) (by omega) (by omega) (fun k k1 k2 => ?_) ?_
  · rw [if_pos (by omega)]
    show (if 5 ≤ 5 + (k : Int) ∧ 5 + (k : Int) < 11 then x 2 (5 + k) else x 0 (5 + k)) = x 2 (5 + (0 + ((k : Int) - 0)))
    rw [if_pos (by omega), show (0 : Int) + ((k : Int) - 0) = k by omega]
  · exact T1_row2 (D' := (fun j => if 5 ≤ j ∧ j < 11 then x 2 j else x 0 j)) (fun j hj => if_neg hj)
theorem cp1_13_3 : cpy (MEM x m) 16 4 (iI 0) (iI 0) (iI 10) KM = KM (MEM (mu x 0 (fun j => if 59 ≤ j ∧ j < 69 then x 2 j else x 0 j)) m) := by
  refine cpy_of (n0 := 10) (n1 := 10) (f := fun k => x 2 (59 + k) - 1) (g := fun k => x 0 (59 + k) - 1) (g' := fun k => (fun j => if 59 ≤ j ∧ j < 69 then x 2 j else x 0 j) (59 + k) - 1) rfl rfl (by omega) (by omega) (by omega) (by omega) (by omega) (by omega) (by omega) (fun k k1 k2 => ?_) ?_
  · rw [if_pos (by omega)]
    show (if 59 ≤ 59 + (k : Int) ∧ 59 + (k : Int) < 69 then x 2 (59 + k) else x 0 (59 + k)) - 1 = x 2 (59 + (0 + ((k : Int) - 0))) - 1
    rw [if_pos (by omega), show (0 : Int) + ((k : Int) - 0) = k by omega]
  · exact T1_row3 (D' := (fun j => if 59 ≤ j ∧ j < 69 then x 2 j else x 0 j)) (fun j hj => if_neg hj)
theorem T1_13_bp (h1 : 0 ≤ p) (h2 : p < x 0 0) (h8 : x 0 0 ≤ 8) (h3 : p < x 2 0) : Cw X (d + 1) 54 [.ref (5 + p.toNat), .ref (17 + p.toNat)] (MEM x m) K = K none (MEM (mu x 0 (pcp (x 0) (x 2) p)) m) := by
  refine (congrArg (fun z => Cw X (d + 1) 54 [.ref (5 + p.toNat), .ref (17 + p.toNat)] z K) (T1_PM (x := x) (m := m) h1 h2 h8)).symm.trans ((p_become (by rw [MEM_len]; omega) ((T13_pe h1 (by omega)).trans (congrArg some (pe_live h3))) (by omega)).trans (congrArg (K _) (T1_live h1 h2 h8 (fun j _ _ _ _ _ _ => ?_) ?_ ?_ ?_ ?_ ?_ ?_)))
  · rw [pcp_at, if_neg (by omega)]
  all_goals rw [pcp_at, if_pos (by omega)]
theorem T1_13_become (hN : 0 ≤ x 2 0) (hN2 : x 2 0 ≤ 8) : Cw X (d + 2) 53 [.ref 1, .ref 13] (MEM x m) K = K none (MEM (mu (mu x 1 (mgg (x 0) (x 1))) 0 (x 2)) m) := by
  have hM : MEM x m = MEM (mu (mu x 1 (mgg (x 0) (x 1))) 0 (mgd (x 0) (x 1))) m := by
    rw [mu_cm (by decide)]
    exact (T1_eq mg_tn).symm
  have hB : Bal (mgd (x 0) (x 1)) (mgg (x 0) (x 1)) := mg_Bal
  have hB4 : ∀ {a b c e : Int}, Bal (iu (iu (iu (iu (mgd (x 0) (x 1)) 3 a) 4 b) 1 c) 2 e) (mgg (x 0) (x 1)) := fun p w p1 p2 w1 w2 => by
    simp (disch := omega) only [iu_ne]; exact hB p w p1 p2 w1 w2
  have hpeo : ∀ {a b c e v : Int} {y : Nat} {KM : List pME → Prop}, pf y (MEM (mu (mu x 1 (mgg (x 0) (x 1))) 0 (iu (iu (iu (iu (mgd (x 0) (x 1)) 3 a) 4 b) 1 c) 2 e)) m) 1 3 4 (.int (iI v)) KM = KM (MEM (mu (mu x 1 (mgg (x 0) (x 1))) 0 (iu (iu (iu (iu (iu (mgd (x 0) (x 1)) 3 a) 4 b) 1 c) 2 e) 0 v)) m) := fun {a b c e v y KM} => by
    have z := T1_people (x := mu (mu x 1 (mgg (x 0) (x 1))) 0 (iu (iu (iu (iu (mgd (x 0) (x 1)) 3 a) 4 b) 1 c) 2 e)) (m := m) (v := v) (y := y) (KM := KM) (by
      rw [mu_self, mu_ne (by decide), mu_self]; exact hB4)
    rw [mu_self, mu_mu] at z
    exact z
  generalize hD1 : (iu (iu (iu (iu (iu (mgd (x 0) (x 1)) 3 ((x 2) 3)) 4 ((x 2) 4)) 1 ((x 2) 1)) 2 ((x 2) 2)) 0 ((x 2) 0)) = D1
  have hD0 : D1 0 = x 2 0 := by rw [← hD1, iu_self]
  have h := lp_up (f := fun k => pR X (d + 1) 53 0 K (42, [some (.ref 1), some (.ref 13), some (.int (iI k))], [], MEM (mu (mu x 1 (mgg (x 0) (x 1))) 0 (bcF D1 (x 2) k)) m, 0)) (n := (x 2 0).toNat) (fun k hk => by
    have e0 : bcF D1 (x 2) k 0 = x 2 0 := by rw [bcF_at k (by omega), if_neg (by omega), hD0]
    rw [r53_42]
    simp (disch := first | omega | assumption | (simp (disch := omega) only [mu_self, mu_ne, iu_self, iu_ne]; done) | (simp (disch := omega) only [mu_self, mu_ne, iu_self, iu_ne]; omega) | (simp (disch := omega) only [mu_self, mu_ne, iu_self, iu_ne]; assumption)) only [r53_0, r53_1, r53_2, r53_5, r53_8, r53_9, r53_10, r53_13, r53_16, r53_17, r53_18, r53_21, r53_24, r53_25, r53_26, r53_29, r53_32, r53_33, r53_34, r53_37, r53_40, r53_41, r53_43, r53_44, r53_47, r53_50, r53_51, r53_54, r53_55, r53_56, r53_57, r53_60, r53_61, r53_62, r53_65, r53_68, r53_71, r53_72, r53_75, r53_76, r53_77, r53_80, r53_81, r53_83, r53_86, r53_87, r53_90, r53_91, r53_92, r53_95, r53_96, r53_98, r53_101, g49_0, g49_1, g49_2, g49_3, g49_4, g49_5, g49_6, g49_7, g49_8, g49_9, g49_10, g49_11, g49_12, g49_13, g49_14, g49_15, g49_16, g49_17, p49_4_0, p49_4_1, p49_7, p49_8, p49_9, p49_10, p49_11, p49_12, p49_13, ri50, wi50, ri51, wi51, ri52, wi52, ri53, wi53, ri54, wi54, ri56, wi56, ri57, wi57, ri58, wi58, ri59, wi59, ri38, wi38, ri40, wi40, ri42, wi42, ri44, wi44, ri46, wi46, ri48, wi48, rb55, wb55, g0_0, g0_1, g0_2, g0_3, g0_4, g0_5, g0_6, p0_3_0, p0_3_1, g37_0, g37_1, p37_1, g37_2, p37_2, g37_3, p37_3, g37_4, p37_4, g37_5, p37_5, g41_0, p41_0, g41_1, p41_1, g41_2, g43_0, p43_0, g43_1, p43_1, g43_2, g45_0, p45_0, g45_1, p45_1, g45_2, g47_0, p47_0, g47_1, p47_1, g47_2, g1_0, g1_1, g1_2, g1_3, g1_4, g1_5, g1_6, g1_7, g13_0, g13_1, g13_2, g13_3, g13_4, g13_5, g13_6, g13_7, g25_0, g25_1, g25_2, g25_3, g25_4, g25_5, g25_6, g25_7, rc0, rc49, rc37, rc1, rc13, rc25, rc41, rc43, rc45, rc47, p1_0, p1_1, p1_2, p1_3, ri3, ri4, wi3, wi4, ra2, rcp1, gp1_0, pp1_0, gp1_1, pp1_1, gp1_2, pp1_2, gp1_3, pp1_3, gp1_4, pp1_4, gp1_5, pp1_5, p13_0, p13_1, p13_2, p13_3, ri15, ri16, wi15, wi16, ra14, rcp13, gp13_0, pp13_0, gp13_1, pp13_1, gp13_2, pp13_2, gp13_3, pp13_3, gp13_4, pp13_4, gp13_5, pp13_5, p25_0, p25_1, p25_2, p25_3, ri27, ri28, wi27, wi28, ra26, rcp25, gp25_0, pp25_0, gp25_1, pp25_1, gp25_2, pp25_2, gp25_3, pp25_3, gp25_4, pp25_4, gp25_5, pp25_5, br_y, br_n, ↓blt_y, ↓blt_n, ↓ble_y, ↓ble_n, ↓beq_y, ↓beq_n, ↓bne_y, ↓bne_n, ↓blt0_y, ↓blt0_n, ↓ble0_y, ↓ble0_n, ↓bge0_y, ↓bge0_n, ↓bgt0_y, ↓bgt0_n, ↓beq0_y, ↓beq0_n, ↓bne0_y, ↓bne0_n, ↓bt_y, ↓bt_n, ↓bu_y, ↓bu_n, ↓sw_n, ↓sw_y, ↓sd_n, ↓sd_y, ↓bl_y, ↓bl_n, ↓bg_y, ↓bg_n, ↓blle_y, ↓blle_n, zb_0, zb_1, zb_tf, ↓nzp, if_pos, if_neg, iI_add, iI_sub, iI_mul, iI_neg, iI_lt, iI_le, iI_eq, iI_lt0, iI_le0, iI_ge0, iI_gt0, iI_eq0, iI_div, iI_rem, iI_toInt, iI_l, lI_i, md_eq, mu_self, mu_mu, mu_ne, true_or, or_true, or_false, false_or, true_and, and_true, true_implies, false_implies, implies_true, forall_const, not_true_eq_false, not_false_eq_true, Option.toList_some, Option.toList_none, List.cons_append, List.nil_append, cl1, ite_true, ite_false, if_true, if_false, e0, T1_13_bp]
    rfl)
  have hn : (((x 2 0).toNat : Nat) : Int) = x 2 0 := by omega
  simp only [hn] at h
  have z0 : ((0 : Nat) : Int) = 0 := rfl
  have z1 : bcF D1 (x 2) 0 = D1 := rfl
  rw [z0, z1] at h
  rw [hM]
  simp (disch := first | omega | assumption | (simp (disch := omega) only [mu_self, mu_ne, iu_self, iu_ne]; done) | (simp (disch := omega) only [mu_self, mu_ne, iu_self, iu_ne]; omega) | (simp (disch := omega) only [mu_self, mu_ne, iu_self, iu_ne]; assumption)) only [r53_0, r53_1, r53_2, r53_5, r53_8, r53_9, r53_10, r53_13, r53_16, r53_17, r53_18, r53_21, r53_24, r53_25, r53_26, r53_29, r53_32, r53_33, r53_34, r53_37, r53_40, r53_41, r53_43, r53_44, r53_47, r53_50, r53_51, r53_54, r53_55, r53_56, r53_57, r53_60, r53_61, r53_62, r53_65, r53_68, r53_71, r53_72, r53_75, r53_76, r53_77, r53_80, r53_81, r53_83, r53_86, r53_87, r53_90, r53_91, r53_92, r53_95, r53_96, r53_98, r53_101, n53, g49_0, g49_1, g49_2, g49_3, g49_4, g49_5, g49_6, g49_7, g49_8, g49_9, g49_10, g49_11, g49_12, g49_13, g49_14, g49_15, g49_16, g49_17, p49_4_0, p49_4_1, p49_7, p49_8, p49_9, p49_10, p49_11, p49_12, p49_13, ri50, wi50, ri51, wi51, ri52, wi52, ri53, wi53, ri54, wi54, ri56, wi56, ri57, wi57, ri58, wi58, ri59, wi59, ri38, wi38, ri40, wi40, ri42, wi42, ri44, wi44, ri46, wi46, ri48, wi48, rb55, wb55, g0_0, g0_1, g0_2, g0_3, g0_4, g0_5, g0_6, p0_3_0, p0_3_1, g37_0, g37_1, p37_1, g37_2, p37_2, g37_3, p37_3, g37_4, p37_4, g37_5, p37_5, g41_0, p41_0, g41_1, p41_1, g41_2, g43_0, p43_0, g43_1, p43_1, g43_2, g45_0, p45_0, g45_1, p45_1, g45_2, g47_0, p47_0, g47_1, p47_1, g47_2, g1_0, g1_1, g1_2, g1_3, g1_4, g1_5, g1_6, g1_7, g13_0, g13_1, g13_2, g13_3, g13_4, g13_5, g13_6, g13_7, g25_0, g25_1, g25_2, g25_3, g25_4, g25_5, g25_6, g25_7, rc0, rc49, rc37, rc1, rc13, rc25, rc41, rc43, rc45, rc47, p1_0, p1_1, p1_2, p1_3, ri3, ri4, wi3, wi4, ra2, rcp1, gp1_0, pp1_0, gp1_1, pp1_1, gp1_2, pp1_2, gp1_3, pp1_3, gp1_4, pp1_4, gp1_5, pp1_5, p13_0, p13_1, p13_2, p13_3, ri15, ri16, wi15, wi16, ra14, rcp13, gp13_0, pp13_0, gp13_1, pp13_1, gp13_2, pp13_2, gp13_3, pp13_3, gp13_4, pp13_4, gp13_5, pp13_5, p25_0, p25_1, p25_2, p25_3, ri27, ri28, wi27, wi28, ra26, rcp25, gp25_0, pp25_0, gp25_1, pp25_1, gp25_2, pp25_2, gp25_3, pp25_3, gp25_4, pp25_4, gp25_5, pp25_5, br_y, br_n, ↓blt_y, ↓blt_n, ↓ble_y, ↓ble_n, ↓beq_y, ↓beq_n, ↓bne_y, ↓bne_n, ↓blt0_y, ↓blt0_n, ↓ble0_y, ↓ble0_n, ↓bge0_y, ↓bge0_n, ↓bgt0_y, ↓bgt0_n, ↓beq0_y, ↓beq0_n, ↓bne0_y, ↓bne0_n, ↓bt_y, ↓bt_n, ↓bu_y, ↓bu_n, ↓sw_n, ↓sw_y, ↓sd_n, ↓sd_y, ↓bl_y, ↓bl_n, ↓bg_y, ↓bg_n, ↓blle_y, ↓blle_n, zb_0, zb_1, zb_tf, ↓nzp, if_pos, if_neg, iI_add, iI_sub, iI_mul, iI_neg, iI_lt, iI_le, iI_eq, iI_lt0, iI_le0, iI_ge0, iI_gt0, iI_eq0, iI_div, iI_rem, iI_toInt, iI_l, lI_i, md_eq, mu_self, mu_mu, mu_ne, true_or, or_true, or_false, false_or, true_and, and_true, true_implies, false_implies, implies_true, forall_const, not_true_eq_false, not_false_eq_true, Option.toList_some, Option.toList_none, List.cons_append, List.nil_append, cl1, ite_true, ite_false, if_true, if_false, hpeo, hD1]
  rw [h, r53_42]
  have e0 : bcF D1 (x 2) (x 2 0).toNat 0 = x 2 0 := by rw [bcF_at _ (by omega), if_neg (by omega), hD0]
  simp (disch := first | omega | assumption | (simp (disch := omega) only [mu_self, mu_ne, iu_self, iu_ne]; done) | (simp (disch := omega) only [mu_self, mu_ne, iu_self, iu_ne]; omega) | (simp (disch := omega) only [mu_self, mu_ne, iu_self, iu_ne]; assumption)) only [r53_0, r53_1, r53_2, r53_5, r53_8, r53_9, r53_10, r53_13, r53_16, r53_17, r53_18, r53_21, r53_24, r53_25, r53_26, r53_29, r53_32, r53_33, r53_34, r53_37, r53_40, r53_41, r53_43, r53_44, r53_47, r53_50, r53_51, r53_54, r53_55, r53_56, r53_57, r53_60, r53_61, r53_62, r53_65, r53_68, r53_71, r53_72, r53_75, r53_76, r53_77, r53_80, r53_81, r53_83, r53_86, r53_87, r53_90, r53_91, r53_92, r53_95, r53_96, r53_98, r53_101, n53, g49_0, g49_1, g49_2, g49_3, g49_4, g49_5, g49_6, g49_7, g49_8, g49_9, g49_10, g49_11, g49_12, g49_13, g49_14, g49_15, g49_16, g49_17, p49_4_0, p49_4_1, p49_7, p49_8, p49_9, p49_10, p49_11, p49_12, p49_13, ri50, wi50, ri51, wi51, ri52, wi52, ri53, wi53, ri54, wi54, ri56, wi56, ri57, wi57, ri58, wi58, ri59, wi59, ri38, wi38, ri40, wi40, ri42, wi42, ri44, wi44, ri46, wi46, ri48, wi48, rb55, wb55, g0_0, g0_1, g0_2, g0_3, g0_4, g0_5, g0_6, p0_3_0, p0_3_1, g37_0, g37_1, p37_1, g37_2, p37_2, g37_3, p37_3, g37_4, p37_4, g37_5, p37_5, g41_0, p41_0, g41_1, p41_1, g41_2, g43_0, p43_0, g43_1, p43_1, g43_2, g45_0, p45_0, g45_1, p45_1, g45_2, g47_0, p47_0, g47_1, p47_1, g47_2, g1_0, g1_1, g1_2, g1_3, g1_4, g1_5, g1_6, g1_7, g13_0, g13_1, g13_2, g13_3, g13_4, g13_5, g13_6, g13_7, g25_0, g25_1, g25_2, g25_3, g25_4, g25_5, g25_6, g25_7, rc0, rc49, rc37, rc1, rc13, rc25, rc41, rc43, rc45, rc47, p1_0, p1_1, p1_2, p1_3, ri3, ri4, wi3, wi4, ra2, rcp1, gp1_0, pp1_0, gp1_1, pp1_1, gp1_2, pp1_2, gp1_3, pp1_3, gp1_4, pp1_4, gp1_5, pp1_5, p13_0, p13_1, p13_2, p13_3, ri15, ri16, wi15, wi16, ra14, rcp13, gp13_0, pp13_0, gp13_1, pp13_1, gp13_2, pp13_2, gp13_3, pp13_3, gp13_4, pp13_4, gp13_5, pp13_5, p25_0, p25_1, p25_2, p25_3, ri27, ri28, wi27, wi28, ra26, rcp25, gp25_0, pp25_0, gp25_1, pp25_1, gp25_2, pp25_2, gp25_3, pp25_3, gp25_4, pp25_4, gp25_5, pp25_5, br_y, br_n, ↓blt_y, ↓blt_n, ↓ble_y, ↓ble_n, ↓beq_y, ↓beq_n, ↓bne_y, ↓bne_n, ↓blt0_y, ↓blt0_n, ↓ble0_y, ↓ble0_n, ↓bge0_y, ↓bge0_n, ↓bgt0_y, ↓bgt0_n, ↓beq0_y, ↓beq0_n, ↓bne0_y, ↓bne0_n, ↓bt_y, ↓bt_n, ↓bu_y, ↓bu_n, ↓sw_n, ↓sw_y, ↓sd_n, ↓sd_y, ↓bl_y, ↓bl_n, ↓bg_y, ↓bg_n, ↓blle_y, ↓blle_n, zb_0, zb_1, zb_tf, ↓nzp, if_pos, if_neg, iI_add, iI_sub, iI_mul, iI_neg, iI_lt, iI_le, iI_eq, iI_lt0, iI_le0, iI_ge0, iI_gt0, iI_eq0, iI_div, iI_rem, iI_toInt, iI_l, lI_i, md_eq, mu_self, mu_mu, mu_ne, true_or, or_true, or_false, false_or, true_and, and_true, true_implies, false_implies, implies_true, forall_const, not_true_eq_false, not_false_eq_true, Option.toList_some, Option.toList_none, List.cons_append, List.nil_append, cl1, ite_true, ite_false, if_true, if_false, e0, cp1_13_2, cp1_13_3]
  refine congrArg (K none) ?_
  have hfin : ∀ j, ¬ (11 ≤ j ∧ j < 59 ∧ ¬ (j - 11) % 8 < x 2 0) → 0 ≤ j → j < 69 → (if 59 ≤ j ∧ j < 69 then x 2 j else if 5 ≤ j ∧ j < 11 then x 2 j else bcF D1 (x 2) (x 2 0).toNat j) = x 2 j := by
    intro j hj j1 j2
    by_cases c1 : 59 ≤ j ∧ j < 69
    · rw [if_pos c1]
    · rw [if_neg c1]
      by_cases c2 : 5 ≤ j ∧ j < 11
      · rw [if_pos c2]
      · rw [if_neg c2, bcF_at _ (by omega)]
        by_cases c3 : 11 ≤ j ∧ j < 59 ∧ (j - 11) % 8 < (x 2 0).toNat
        · rw [if_pos c3]
        · rw [if_neg c3, ← hD1]
          have : j = 0 ∨ j = 1 ∨ j = 2 ∨ j = 3 ∨ j = 4 := by omega
          rcases this with rfl | rfl | rfl | rfl | rfl <;> simp (disch := omega) only [iu_self, iu_ne]
  have q := T1_eq (x := mu (mu x 1 (mgg (x 0) (x 1))) 0 (x 2)) (m := m) (d' := fun j => if 59 ≤ j ∧ j < 69 then x 2 j else if 5 ≤ j ∧ j < 11 then x 2 j else bcF D1 (x 2) (x 2 0).toNat j) (g' := mgg (x 0) (x 1)) (by
    rw [mu_self, mu_ne (by decide), mu_self]
    refine tn_ext (hfin 0 (by omega) (by omega) (by omega)) (hfin 1 (by omega) (by omega) (by omega)) (hfin 2 (by omega) (by omega) (by omega)) (hfin 3 (by omega) (by omega) (by omega)) (hfin 4 (by omega) (by omega) (by omega)) (fun k k1 k2 => hfin _ (by omega) (by omega) (by omega)) (fun k k1 k2 => hfin _ (by omega) (by omega) (by omega)) (fun p p1 p2 => ?_)
    have f0 := hfin 0 (by omega) (by omega) (by omega)
    by_cases c : p < x 2 0
    · rw [pe_live c, pe_live (by rw [f0]; exact c)]
      have w := fun b (hb : b = 11 ∨ b = 19 ∨ b = 27 ∨ b = 35 ∨ b = 43 ∨ b = 51) => hfin (b + p) (by omega) (by omega) (by omega)
      rw [w 11 (by omega), w 19 (by omega), w 27 (by omega), w 35 (by omega), w 43 (by omega), w 51 (by omega)]
    · rw [pe_dead c, pe_dead (by rw [f0]; exact c)])
  rw [mu_mu, ← mu_cm (by decide), mu_mu, mu_cm (by decide)] at q
  exact q
theorem cp25_1_2 : cpy (MEM x m) 3 27 (iI 0) (iI 0) (iI 6) KM = KM (MEM (mu x 4 (fun j => if 5 ≤ j ∧ j < 11 then x 0 j else x 4 j)) m) := by
  refine cpy_of (n0 := 6) (n1 := 6) (f := fun k => x 0 (5 + k)) (g := fun k => x 4 (5 + k)) (g' := fun k => (fun j => if 5 ≤ j ∧ j < 11 then x 0 j else x 4 j) (5 + k)) rfl rfl (by omega) (by omega) (by omega) (by omega) (by omega) (by omega) (by omega) (fun k k1 k2 => ?_) ?_
  · rw [if_pos (by omega)]
    show (if 5 ≤ 5 + (k : Int) ∧ 5 + (k : Int) < 11 then x 0 (5 + k) else x 4 (5 + k)) = x 0 (5 + (0 + ((k : Int) - 0)))
    rw [if_pos (by omega), show (0 : Int) + ((k : Int) - 0) = k by omega]
  · exact T25_row2 (D' := (fun j => if 5 ≤ j ∧ j < 11 then x 0 j else x 4 j)) (fun j hj => if_neg hj)
theorem cp25_1_3 : cpy (MEM x m) 4 28 (iI 0) (iI 0) (iI 10) KM = KM (MEM (mu x 4 (fun j => if 59 ≤ j ∧ j < 69 then x 0 j else x 4 j)) m) := by
  refine cpy_of (n0 := 10) (n1 := 10) (f := fun k => x 0 (59 + k) - 1) (g := fun k => x 4 (59 + k) - 1) (g' := fun k => (fun j => if 59 ≤ j ∧ j < 69 then x 0 j else x 4 j) (59 + k) - 1) rfl rfl (by omega) (by omega) (by omega) (by omega) (by omega) (by omega) (by omega) (fun k k1 k2 => ?_) ?_
  · rw [if_pos (by omega)]
    show (if 59 ≤ 59 + (k : Int) ∧ 59 + (k : Int) < 69 then x 0 (59 + k) else x 4 (59 + k)) - 1 = x 0 (59 + (0 + ((k : Int) - 0))) - 1
    rw [if_pos (by omega), show (0 : Int) + ((k : Int) - 0) = k by omega]
  · exact T25_row3 (D' := (fun j => if 59 ≤ j ∧ j < 69 then x 0 j else x 4 j)) (fun j hj => if_neg hj)
theorem T25_1_bp (h1 : 0 ≤ p) (h2 : p < x 4 0) (h8 : x 4 0 ≤ 8) (h3 : p < x 0 0) : Cw X (d + 1) 54 [.ref (29 + p.toNat), .ref (5 + p.toNat)] (MEM x m) K = K none (MEM (mu x 4 (pcp (x 4) (x 0) p)) m) := by
  refine (congrArg (fun z => Cw X (d + 1) 54 [.ref (29 + p.toNat), .ref (5 + p.toNat)] z K) (T25_PM (x := x) (m := m) h1 h2 h8)).symm.trans ((p_become (by rw [MEM_len]; omega) ((T1_pe h1 (by omega)).trans (congrArg some (pe_live h3))) (by omega)).trans (congrArg (K _) (T25_live h1 h2 h8 (fun j _ _ _ _ _ _ => ?_) ?_ ?_ ?_ ?_ ?_ ?_)))
  · rw [pcp_at, if_neg (by omega)]
  all_goals rw [pcp_at, if_pos (by omega)]
theorem T25_1_become (hN : 0 ≤ x 0 0) (hN2 : x 0 0 ≤ 8) : Cw X (d + 2) 53 [.ref 25, .ref 1] (MEM x m) K = K none (MEM (mu (mu x 5 (mgg (x 4) (x 5))) 4 (x 0)) m) := by
  have hM : MEM x m = MEM (mu (mu x 5 (mgg (x 4) (x 5))) 4 (mgd (x 4) (x 5))) m := by
    rw [mu_cm (by decide)]
    exact (T25_eq mg_tn).symm
  have hB : Bal (mgd (x 4) (x 5)) (mgg (x 4) (x 5)) := mg_Bal
  have hB4 : ∀ {a b c e : Int}, Bal (iu (iu (iu (iu (mgd (x 4) (x 5)) 3 a) 4 b) 1 c) 2 e) (mgg (x 4) (x 5)) := fun p w p1 p2 w1 w2 => by
    simp (disch := omega) only [iu_ne]; exact hB p w p1 p2 w1 w2
  have hpeo : ∀ {a b c e v : Int} {y : Nat} {KM : List pME → Prop}, pf y (MEM (mu (mu x 5 (mgg (x 4) (x 5))) 4 (iu (iu (iu (iu (mgd (x 4) (x 5)) 3 a) 4 b) 1 c) 2 e)) m) 25 3 4 (.int (iI v)) KM = KM (MEM (mu (mu x 5 (mgg (x 4) (x 5))) 4 (iu (iu (iu (iu (iu (mgd (x 4) (x 5)) 3 a) 4 b) 1 c) 2 e) 0 v)) m) := fun {a b c e v y KM} => by
    have z := T25_people (x := mu (mu x 5 (mgg (x 4) (x 5))) 4 (iu (iu (iu (iu (mgd (x 4) (x 5)) 3 a) 4 b) 1 c) 2 e)) (m := m) (v := v) (y := y) (KM := KM) (by
      rw [mu_self, mu_ne (by decide), mu_self]; exact hB4)
    rw [mu_self, mu_mu] at z
    exact z
  generalize hD1 : (iu (iu (iu (iu (iu (mgd (x 4) (x 5)) 3 ((x 0) 3)) 4 ((x 0) 4)) 1 ((x 0) 1)) 2 ((x 0) 2)) 0 ((x 0) 0)) = D1
  have hD0 : D1 0 = x 0 0 := by rw [← hD1, iu_self]
  have h := lp_up (f := fun k => pR X (d + 1) 53 0 K (42, [some (.ref 25), some (.ref 1), some (.int (iI k))], [], MEM (mu (mu x 5 (mgg (x 4) (x 5))) 4 (bcF D1 (x 0) k)) m, 0)) (n := (x 0 0).toNat) (fun k hk => by
    have e0 : bcF D1 (x 0) k 0 = x 0 0 := by rw [bcF_at k (by omega), if_neg (by omega), hD0]
    rw [r53_42]
    simp (disch := first | omega | assumption | (simp (disch := omega) only [mu_self, mu_ne, iu_self, iu_ne]; done) | (simp (disch := omega) only [mu_self, mu_ne, iu_self, iu_ne]; omega) | (simp (disch := omega) only [mu_self, mu_ne, iu_self, iu_ne]; assumption)) only [r53_0, r53_1, r53_2, r53_5, r53_8, r53_9, r53_10, r53_13, r53_16, r53_17, r53_18, r53_21, r53_24, r53_25, r53_26, r53_29, r53_32, r53_33, r53_34, r53_37, r53_40, r53_41, r53_43, r53_44, r53_47, r53_50, r53_51, r53_54, r53_55, r53_56, r53_57, r53_60, r53_61, r53_62, r53_65, r53_68, r53_71, r53_72, r53_75, r53_76, r53_77, r53_80, r53_81, r53_83, r53_86, r53_87, r53_90, r53_91, r53_92, r53_95, r53_96, r53_98, r53_101, g49_0, g49_1, g49_2, g49_3, g49_4, g49_5, g49_6, g49_7, g49_8, g49_9, g49_10, g49_11, g49_12, g49_13, g49_14, g49_15, g49_16, g49_17, p49_4_0, p49_4_1, p49_7, p49_8, p49_9, p49_10, p49_11, p49_12, p49_13, ri50, wi50, ri51, wi51, ri52, wi52, ri53, wi53, ri54, wi54, ri56, wi56, ri57, wi57, ri58, wi58, ri59, wi59, ri38, wi38, ri40, wi40, ri42, wi42, ri44, wi44, ri46, wi46, ri48, wi48, rb55, wb55, g0_0, g0_1, g0_2, g0_3, g0_4, g0_5, g0_6, p0_3_0, p0_3_1, g37_0, g37_1, p37_1, g37_2, p37_2, g37_3, p37_3, g37_4, p37_4, g37_5, p37_5, g41_0, p41_0, g41_1, p41_1, g41_2, g43_0, p43_0, g43_1, p43_1, g43_2, g45_0, p45_0, g45_1, p45_1, g45_2, g47_0, p47_0, g47_1, p47_1, g47_2, g1_0, g1_1, g1_2, g1_3, g1_4, g1_5, g1_6, g1_7, g13_0, g13_1, g13_2, g13_3, g13_4, g13_5, g13_6, g13_7, g25_0, g25_1, g25_2, g25_3, g25_4, g25_5, g25_6, g25_7, rc0, rc49, rc37, rc1, rc13, rc25, rc41, rc43, rc45, rc47, p1_0, p1_1, p1_2, p1_3, ri3, ri4, wi3, wi4, ra2, rcp1, gp1_0, pp1_0, gp1_1, pp1_1, gp1_2, pp1_2, gp1_3, pp1_3, gp1_4, pp1_4, gp1_5, pp1_5, p13_0, p13_1, p13_2, p13_3, ri15, ri16, wi15, wi16, ra14, rcp13, gp13_0, pp13_0, gp13_1, pp13_1, gp13_2, pp13_2, gp13_3, pp13_3, gp13_4, pp13_4, gp13_5, pp13_5, p25_0, p25_1, p25_2, p25_3, ri27, ri28, wi27, wi28, ra26, rcp25, gp25_0, pp25_0, gp25_1, pp25_1, gp25_2, pp25_2, gp25_3, pp25_3, gp25_4, pp25_4, gp25_5, pp25_5, br_y, br_n, ↓blt_y, ↓blt_n, ↓ble_y, ↓ble_n, ↓beq_y, ↓beq_n, ↓bne_y, ↓bne_n, ↓blt0_y, ↓blt0_n, ↓ble0_y, ↓ble0_n, ↓bge0_y, ↓bge0_n, ↓bgt0_y, ↓bgt0_n, ↓beq0_y, ↓beq0_n, ↓bne0_y, ↓bne0_n, ↓bt_y, ↓bt_n, ↓bu_y, ↓bu_n, ↓sw_n, ↓sw_y, ↓sd_n, ↓sd_y, ↓bl_y, ↓bl_n, ↓bg_y, ↓bg_n, ↓blle_y, ↓blle_n, zb_0, zb_1, zb_tf, ↓nzp, if_pos, if_neg, iI_add, iI_sub, iI_mul, iI_neg, iI_lt, iI_le, iI_eq, iI_lt0, iI_le0, iI_ge0, iI_gt0, iI_eq0, iI_div, iI_rem, iI_toInt, iI_l, lI_i, md_eq, mu_self, mu_mu, mu_ne, true_or, or_true, or_false, false_or, true_and, and_true, true_implies, false_implies, implies_true, forall_const, not_true_eq_false, not_false_eq_true, Option.toList_some, Option.toList_none, List.cons_append, List.nil_append, cl1, ite_true, ite_false, if_true, if_false, e0, T25_1_bp]
    rfl)
  have hn : (((x 0 0).toNat : Nat) : Int) = x 0 0 := by omega
  simp only [hn] at h
  have z0 : ((0 : Nat) : Int) = 0 := rfl
  have z1 : bcF D1 (x 0) 0 = D1 := rfl
  rw [z0, z1] at h
  rw [hM]
  simp (disch := first | omega | assumption | (simp (disch := omega) only [mu_self, mu_ne, iu_self, iu_ne]; done) | (simp (disch := omega) only [mu_self, mu_ne, iu_self, iu_ne]; omega) | (simp (disch := omega) only [mu_self, mu_ne, iu_self, iu_ne]; assumption)) only [r53_0, r53_1, r53_2, r53_5, r53_8, r53_9, r53_10, r53_13, r53_16, r53_17, r53_18, r53_21, r53_24, r53_25, r53_26, r53_29, r53_32, r53_33, r53_34, r53_37, r53_40, r53_41, r53_43, r53_44, r53_47, r53_50, r53_51, r53_54, r53_55, r53_56, r53_57, r53_60, r53_61, r53_62, r53_65, r53_68, r53_71, r53_72, r53_75, r53_76, r53_77, r53_80, r53_81, r53_83, r53_86, r53_87, r53_90, r53_91, r53_92, r53_95, r53_96, r53_98, r53_101, n53, g49_0, g49_1, g49_2, g49_3, g49_4, g49_5, g49_6, g49_7, g49_8, g49_9, g49_10, g49_11, g49_12, g49_13, g49_14, g49_15, g49_16, g49_17, p49_4_0, p49_4_1, p49_7, p49_8, p49_9, p49_10, p49_11, p49_12, p49_13, ri50, wi50, ri51, wi51, ri52, wi52, ri53, wi53, ri54, wi54, ri56, wi56, ri57, wi57, ri58, wi58, ri59, wi59, ri38, wi38, ri40, wi40, ri42, wi42, ri44, wi44, ri46, wi46, ri48, wi48, rb55, wb55, g0_0, g0_1, g0_2, g0_3, g0_4, g0_5, g0_6, p0_3_0, p0_3_1, g37_0, g37_1, p37_1, g37_2, p37_2, g37_3, p37_3, g37_4, p37_4, g37_5, p37_5, g41_0, p41_0, g41_1, p41_1, g41_2, g43_0, p43_0, g43_1, p43_1, g43_2, g45_0, p45_0, g45_1, p45_1, g45_2, g47_0, p47_0, g47_1, p47_1, g47_2, g1_0, g1_1, g1_2, g1_3, g1_4, g1_5, g1_6, g1_7, g13_0, g13_1, g13_2, g13_3, g13_4, g13_5, g13_6, g13_7, g25_0, g25_1, g25_2, g25_3, g25_4, g25_5, g25_6, g25_7, rc0, rc49, rc37, rc1, rc13, rc25, rc41, rc43, rc45, rc47, p1_0, p1_1, p1_2, p1_3, ri3, ri4, wi3, wi4, ra2, rcp1, gp1_0, pp1_0, gp1_1, pp1_1, gp1_2, pp1_2, gp1_3, pp1_3, gp1_4, pp1_4, gp1_5, pp1_5, p13_0, p13_1, p13_2, p13_3, ri15, ri16, wi15, wi16, ra14, rcp13, gp13_0, pp13_0, gp13_1, pp13_1, gp13_2, pp13_2, gp13_3, pp13_3, gp13_4, pp13_4, gp13_5, pp13_5, p25_0, p25_1, p25_2, p25_3, ri27, ri28, wi27, wi28, ra26, rcp25, gp25_0, pp25_0, gp25_1, pp25_1, gp25_2, pp25_2, gp25_3, pp25_3, gp25_4, pp25_4, gp25_5, pp25_5, br_y, br_n, ↓blt_y, ↓blt_n, ↓ble_y, ↓ble_n, ↓beq_y, ↓beq_n, ↓bne_y, ↓bne_n, ↓blt0_y, ↓blt0_n, ↓ble0_y, ↓ble0_n, ↓bge0_y, ↓bge0_n, ↓bgt0_y, ↓bgt0_n, ↓beq0_y, ↓beq0_n, ↓bne0_y, ↓bne0_n, ↓bt_y, ↓bt_n, ↓bu_y, ↓bu_n, ↓sw_n, ↓sw_y, ↓sd_n, ↓sd_y, ↓bl_y, ↓bl_n, ↓bg_y, ↓bg_n, ↓blle_y, ↓blle_n, zb_0, zb_1, zb_tf, ↓nzp, if_pos, if_neg, iI_add, iI_sub, iI_mul, iI_neg, iI_lt, iI_le, iI_eq, iI_lt0, iI_le0, iI_ge0, iI_gt0, iI_eq0, iI_div, iI_rem, iI_toInt, iI_l, lI_i, md_eq, mu_self, mu_mu, mu_ne, true_or, or_true, or_false, false_or, true_and, and_true, true_implies, false_implies, implies_true, forall_const, not_true_eq_false, not_false_eq_true, Option.toList_some, Option.toList_none, List.cons_append, List.nil_append, cl1, ite_true, ite_false, if_true, if_false, hpeo, hD1]
  rw [h, r53_42]
  have e0 : bcF D1 (x 0) (x 0 0).toNat 0 = x 0 0 := by rw [bcF_at _ (by omega), if_neg (by omega), hD0]
  simp (disch := first | omega | assumption | (simp (disch := omega) only [mu_self, mu_ne, iu_self, iu_ne]; done) | (simp (disch := omega) only [mu_self, mu_ne, iu_self, iu_ne]; omega) | (simp (disch := omega) only [mu_self, mu_ne, iu_self, iu_ne]; assumption)) only [r53_0, r53_1, r53_2, r53_5, r53_8, r53_9, r53_10, r53_13, r53_16, r53_17, r53_18, r53_21, r53_24, r53_25, r53_26, r53_29, r53_32, r53_33, r53_34, r53_37, r53_40, r53_41, r53_43, r53_44, r53_47, r53_50, r53_51, r53_54, r53_55, r53_56, r53_57, r53_60, r53_61, r53_62, r53_65, r53_68, r53_71, r53_72, r53_75, r53_76, r53_77, r53_80, r53_81, r53_83, r53_86, r53_87, r53_90, r53_91, r53_92, r53_95, r53_96, r53_98, r53_101, n53, g49_0, g49_1, g49_2, g49_3, g49_4, g49_5, g49_6, g49_7, g49_8, g49_9, g49_10, g49_11, g49_12, g49_13, g49_14, g49_15, g49_16, g49_17, p49_4_0, p49_4_1, p49_7, p49_8, p49_9, p49_10, p49_11, p49_12, p49_13, ri50, wi50, ri51, wi51, ri52, wi52, ri53, wi53, ri54, wi54, ri56, wi56, ri57, wi57, ri58, wi58, ri59, wi59, ri38, wi38, ri40, wi40, ri42, wi42, ri44, wi44, ri46, wi46, ri48, wi48, rb55, wb55, g0_0, g0_1, g0_2, g0_3, g0_4, g0_5, g0_6, p0_3_0, p0_3_1, g37_0, g37_1, p37_1, g37_2, p37_2, g37_3, p37_3, g37_4, p37_4, g37_5, p37_5, g41_0, p41_0, g41_1, p41_1, g41_2, g43_0, p43_0, g43_1, p43_1, g43_2, g45_0, p45_0, g45_1, p45_1, g45_2, g47_0, p47_0, g47_1, p47_1, g47_2, g1_0, g1_1, g1_2, g1_3, g1_4, g1_5, g1_6, g1_7, g13_0, g13_1, g13_2, g13_3, g13_4, g13_5, g13_6, g13_7, g25_0, g25_1, g25_2, g25_3, g25_4, g25_5, g25_6, g25_7, rc0, rc49, rc37, rc1, rc13, rc25, rc41, rc43, rc45, rc47, p1_0, p1_1, p1_2, p1_3, ri3, ri4, wi3, wi4, ra2, rcp1, gp1_0, pp1_0, gp1_1, pp1_1, gp1_2, pp1_2, gp1_3, pp1_3, gp1_4, pp1_4, gp1_5, pp1_5, p13_0, p13_1, p13_2, p13_3, ri15, ri16, wi15, wi16, ra14, rcp13, gp13_0, pp13_0, gp13_1, pp13_1, gp13_2, pp13_2, gp13_3, pp13_3, gp13_4, pp13_4, gp13_5, pp13_5, p25_0, p25_1, p25_2, p25_3, ri27, ri28, wi27, wi28, ra26, rcp25, gp25_0, pp25_0, gp25_1, pp25_1, gp25_2, pp25_2, gp25_3, pp25_3, gp25_4, pp25_4, gp25_5, pp25_5, br_y, br_n, ↓blt_y, ↓blt_n, ↓ble_y, ↓ble_n, ↓beq_y, ↓beq_n, ↓bne_y, ↓bne_n, ↓blt0_y, ↓blt0_n, ↓ble0_y, ↓ble0_n, ↓bge0_y, ↓bge0_n, ↓bgt0_y, ↓bgt0_n, ↓beq0_y, ↓beq0_n, ↓bne0_y, ↓bne0_n, ↓bt_y, ↓bt_n, ↓bu_y, ↓bu_n, ↓sw_n, ↓sw_y, ↓sd_n, ↓sd_y, ↓bl_y, ↓bl_n, ↓bg_y, ↓bg_n, ↓blle_y, ↓blle_n, zb_0, zb_1, zb_tf, ↓nzp, if_pos, if_neg, iI_add, iI_sub, iI_mul, iI_neg, iI_lt, iI_le, iI_eq, iI_lt0, iI_le0, iI_ge0, iI_gt0, iI_eq0, iI_div, iI_rem, iI_toInt, iI_l, lI_i, md_eq, mu_self, mu_mu, mu_ne, true_or, or_true, or_false, false_or, true_and, and_true, true_implies, false_implies, implies_true, forall_const, not_true_eq_false, not_false_eq_true, Option.toList_some, Option.toList_none, List.cons_append, List.nil_append, cl1, ite_true, ite_false, if_true, if_false, e0, cp25_1_2, cp25_1_3]
  refine congrArg (K none) ?_
  have hfin : ∀ j, ¬ (11 ≤ j ∧ j < 59 ∧ ¬ (j - 11) % 8 < x 0 0) → 0 ≤ j → j < 69 → (if 59 ≤ j ∧ j < 69 then x 0 j else if 5 ≤ j ∧ j < 11 then x 0 j else bcF D1 (x 0) (x 0 0).toNat j) = x 0 j := by
    intro j hj j1 j2
    by_cases c1 : 59 ≤ j ∧ j < 69
    · rw [if_pos c1]
    · rw [if_neg c1]
      by_cases c2 : 5 ≤ j ∧ j < 11
      · rw [if_pos c2]
      · rw [if_neg c2, bcF_at _ (by omega)]
        by_cases c3 : 11 ≤ j ∧ j < 59 ∧ (j - 11) % 8 < (x 0 0).toNat
        · rw [if_pos c3]
        · rw [if_neg c3, ← hD1]
          have : j = 0 ∨ j = 1 ∨ j = 2 ∨ j = 3 ∨ j = 4 := by omega
          rcases this with rfl | rfl | rfl | rfl | rfl <;> simp (disch := omega) only [iu_self, iu_ne]
  have q := T25_eq (x := mu (mu x 5 (mgg (x 4) (x 5))) 4 (x 0)) (m := m) (d' := fun j => if 59 ≤ j ∧ j < 69 then x 0 j else if 5 ≤ j ∧ j < 11 then x 0 j else bcF D1 (x 0) (x 0 0).toNat j) (g' := mgg (x 4) (x 5)) (by
    rw [mu_self, mu_ne (by decide), mu_self]
    refine tn_ext (hfin 0 (by omega) (by omega) (by omega)) (hfin 1 (by omega) (by omega) (by omega)) (hfin 2 (by omega) (by omega) (by omega)) (hfin 3 (by omega) (by omega) (by omega)) (hfin 4 (by omega) (by omega) (by omega)) (fun k k1 k2 => hfin _ (by omega) (by omega) (by omega)) (fun k k1 k2 => hfin _ (by omega) (by omega) (by omega)) (fun p p1 p2 => ?_)
    have f0 := hfin 0 (by omega) (by omega) (by omega)
    by_cases c : p < x 0 0
    · rw [pe_live c, pe_live (by rw [f0]; exact c)]
      have w := fun b (hb : b = 11 ∨ b = 19 ∨ b = 27 ∨ b = 35 ∨ b = 43 ∨ b = 51) => hfin (b + p) (by omega) (by omega) (by omega)
      rw [w 11 (by omega), w 19 (by omega), w 27 (by omega), w 35 (by omega), w 43 (by omega), w 51 (by omega)]
    · rw [pe_dead c, pe_dead (by rw [f0]; exact c)])
  rw [mu_mu, ← mu_cm (by decide), mu_mu, mu_cm (by decide)] at q
  exact q
theorem cp1_25_2 : cpy (MEM x m) 27 3 (iI 0) (iI 0) (iI 6) KM = KM (MEM (mu x 0 (fun j => if 5 ≤ j ∧ j < 11 then x 4 j else x 0 j)) m) := by
  refine cpy_of (n0 := 6) (n1 := 6) (f := fun k => x 4 (5 + k)) (g := fun k => x 0 (5 + k)) (g' := fun k => (fun j => if 5 ≤ j ∧ j < 11 then x 4 j else x 0 j) (5 + k)) rfl rfl (by omega) (by omega) (by omega) (by omega) (by omega) (by omega) (by omega) (fun k k1 k2 => ?_) ?_
  · rw [if_pos (by omega)]
    show (if 5 ≤ 5 + (k : Int) ∧ 5 + (k : Int) < 11 then x 4 (5 + k) else x 0 (5 + k)) = x 4 (5 + (0 + ((k : Int) - 0)))
    rw [if_pos (by omega), show (0 : Int) + ((k : Int) - 0) = k by omega]
  · exact T1_row2 (D' := (fun j => if 5 ≤ j ∧ j < 11 then x 4 j else x 0 j)) (fun j hj => if_neg hj)
theorem cp1_25_3 : cpy (MEM x m) 28 4 (iI 0) (iI 0) (iI 10) KM = KM (MEM (mu x 0 (fun j => if 59 ≤ j ∧ j < 69 then x 4 j else x 0 j)) m) := by
  refine cpy_of (n0 := 10) (n1 := 10) (f := fun k => x 4 (59 + k) - 1) (g := fun k => x 0 (59 + k) - 1) (g' := fun k => (fun j => if 59 ≤ j ∧ j < 69 then x 4 j else x 0 j) (59 + k) - 1) rfl rfl (by omega) (by omega) (by omega) (by omega) (by omega) (by omega) (by omega) (fun k k1 k2 => ?_) ?_
  · rw [if_pos (by omega)]
    show (if 59 ≤ 59 + (k : Int) ∧ 59 + (k : Int) < 69 then x 4 (59 + k) else x 0 (59 + k)) - 1 = x 4 (59 + (0 + ((k : Int) - 0))) - 1
    rw [if_pos (by omega), show (0 : Int) + ((k : Int) - 0) = k by omega]
  · exact T1_row3 (D' := (fun j => if 59 ≤ j ∧ j < 69 then x 4 j else x 0 j)) (fun j hj => if_neg hj)
theorem T1_25_bp (h1 : 0 ≤ p) (h2 : p < x 0 0) (h8 : x 0 0 ≤ 8) (h3 : p < x 4 0) : Cw X (d + 1) 54 [.ref (5 + p.toNat), .ref (29 + p.toNat)] (MEM x m) K = K none (MEM (mu x 0 (pcp (x 0) (x 4) p)) m) := by
  refine (congrArg (fun z => Cw X (d + 1) 54 [.ref (5 + p.toNat), .ref (29 + p.toNat)] z K) (T1_PM (x := x) (m := m) h1 h2 h8)).symm.trans ((p_become (by rw [MEM_len]; omega) ((T25_pe h1 (by omega)).trans (congrArg some (pe_live h3))) (by omega)).trans (congrArg (K _) (T1_live h1 h2 h8 (fun j _ _ _ _ _ _ => ?_) ?_ ?_ ?_ ?_ ?_ ?_)))
  · rw [pcp_at, if_neg (by omega)]
  all_goals rw [pcp_at, if_pos (by omega)]
theorem T1_25_become (hN : 0 ≤ x 4 0) (hN2 : x 4 0 ≤ 8) : Cw X (d + 2) 53 [.ref 1, .ref 25] (MEM x m) K = K none (MEM (mu (mu x 1 (mgg (x 0) (x 1))) 0 (x 4)) m) := by
  have hM : MEM x m = MEM (mu (mu x 1 (mgg (x 0) (x 1))) 0 (mgd (x 0) (x 1))) m := by
    rw [mu_cm (by decide)]
    exact (T1_eq mg_tn).symm
  have hB : Bal (mgd (x 0) (x 1)) (mgg (x 0) (x 1)) := mg_Bal
  have hB4 : ∀ {a b c e : Int}, Bal (iu (iu (iu (iu (mgd (x 0) (x 1)) 3 a) 4 b) 1 c) 2 e) (mgg (x 0) (x 1)) := fun p w p1 p2 w1 w2 => by
    simp (disch := omega) only [iu_ne]; exact hB p w p1 p2 w1 w2
  have hpeo : ∀ {a b c e v : Int} {y : Nat} {KM : List pME → Prop}, pf y (MEM (mu (mu x 1 (mgg (x 0) (x 1))) 0 (iu (iu (iu (iu (mgd (x 0) (x 1)) 3 a) 4 b) 1 c) 2 e)) m) 1 3 4 (.int (iI v)) KM = KM (MEM (mu (mu x 1 (mgg (x 0) (x 1))) 0 (iu (iu (iu (iu (iu (mgd (x 0) (x 1)) 3 a) 4 b) 1 c) 2 e) 0 v)) m) := fun {a b c e v y KM} => by
    have z := T1_people (x := mu (mu x 1 (mgg (x 0) (x 1))) 0 (iu (iu (iu (iu (mgd (x 0) (x 1)) 3 a) 4 b) 1 c) 2 e)) (m := m) (v := v) (y := y) (KM := KM) (by
      rw [mu_self, mu_ne (by decide), mu_self]; exact hB4)
    rw [mu_self, mu_mu] at z
    exact z
  generalize hD1 : (iu (iu (iu (iu (iu (mgd (x 0) (x 1)) 3 ((x 4) 3)) 4 ((x 4) 4)) 1 ((x 4) 1)) 2 ((x 4) 2)) 0 ((x 4) 0)) = D1
  have hD0 : D1 0 = x 4 0 := by rw [← hD1, iu_self]
  have h := lp_up (f := fun k => pR X (d + 1) 53 0 K (42, [some (.ref 1), some (.ref 25), some (.int (iI k))], [], MEM (mu (mu x 1 (mgg (x 0) (x 1))) 0 (bcF D1 (x 4) k)) m, 0)) (n := (x 4 0).toNat) (fun k hk => by
    have e0 : bcF D1 (x 4) k 0 = x 4 0 := by rw [bcF_at k (by omega), if_neg (by omega), hD0]
    rw [r53_42]
    simp (disch := first | omega | assumption | (simp (disch := omega) only [mu_self, mu_ne, iu_self, iu_ne]; done) | (simp (disch := omega) only [mu_self, mu_ne, iu_self, iu_ne]; omega) | (simp (disch := omega) only [mu_self, mu_ne, iu_self, iu_ne]; assumption)) only [r53_0, r53_1, r53_2, r53_5, r53_8, r53_9, r53_10, r53_13, r53_16, r53_17, r53_18, r53_21, r53_24, r53_25, r53_26, r53_29, r53_32, r53_33, r53_34, r53_37, r53_40, r53_41, r53_43, r53_44, r53_47, r53_50, r53_51, r53_54, r53_55, r53_56, r53_57, r53_60, r53_61, r53_62, r53_65, r53_68, r53_71, r53_72, r53_75, r53_76, r53_77, r53_80, r53_81, r53_83, r53_86, r53_87, r53_90, r53_91, r53_92, r53_95, r53_96, r53_98, r53_101, g49_0, g49_1, g49_2, g49_3, g49_4, g49_5, g49_6, g49_7, g49_8, g49_9, g49_10, g49_11, g49_12, g49_13, g49_14, g49_15, g49_16, g49_17, p49_4_0, p49_4_1, p49_7, p49_8, p49_9, p49_10, p49_11, p49_12, p49_13, ri50, wi50, ri51, wi51, ri52, wi52, ri53, wi53, ri54, wi54, ri56, wi56, ri57, wi57, ri58, wi58, ri59, wi59, ri38, wi38, ri40, wi40, ri42, wi42, ri44, wi44, ri46, wi46, ri48, wi48, rb55, wb55, g0_0, g0_1, g0_2, g0_3, g0_4, g0_5, g0_6, p0_3_0, p0_3_1, g37_0, g37_1, p37_1, g37_2, p37_2, g37_3, p37_3, g37_4, p37_4, g37_5, p37_5, g41_0, p41_0, g41_1, p41_1, g41_2, g43_0, p43_0, g43_1, p43_1, g43_2, g45_0, p45_0, g45_1, p45_1, g45_2, g47_0, p47_0, g47_1, p47_1, g47_2, g1_0, g1_1, g1_2, g1_3, g1_4, g1_5, g1_6, g1_7, g13_0, g13_1, g13_2, g13_3, g13_4, g13_5, g13_6, g13_7, g25_0, g25_1, g25_2, g25_3, g25_4, g25_5, g25_6, g25_7, rc0, rc49, rc37, rc1, rc13, rc25, rc41, rc43, rc45, rc47, p1_0, p1_1, p1_2, p1_3, ri3, ri4, wi3, wi4, ra2, rcp1, gp1_0, pp1_0, gp1_1, pp1_1, gp1_2, pp1_2, gp1_3, pp1_3, gp1_4, pp1_4, gp1_5, pp1_5, p13_0, p13_1, p13_2, p13_3, ri15, ri16, wi15, wi16, ra14, rcp13, gp13_0, pp13_0, gp13_1, pp13_1, gp13_2, pp13_2, gp13_3, pp13_3, gp13_4, pp13_4, gp13_5, pp13_5, p25_0, p25_1, p25_2, p25_3, ri27, ri28, wi27, wi28, ra26, rcp25, gp25_0, pp25_0, gp25_1, pp25_1, gp25_2, pp25_2, gp25_3, pp25_3, gp25_4, pp25_4, gp25_5, pp25_5, br_y, br_n, ↓blt_y, ↓blt_n, ↓ble_y, ↓ble_n, ↓beq_y, ↓beq_n, ↓bne_y, ↓bne_n, ↓blt0_y, ↓blt0_n, ↓ble0_y, ↓ble0_n, ↓bge0_y, ↓bge0_n, ↓bgt0_y, ↓bgt0_n, ↓beq0_y, ↓beq0_n, ↓bne0_y, ↓bne0_n, ↓bt_y, ↓bt_n, ↓bu_y, ↓bu_n, ↓sw_n, ↓sw_y, ↓sd_n, ↓sd_y, ↓bl_y, ↓bl_n, ↓bg_y, ↓bg_n, ↓blle_y, ↓blle_n, zb_0, zb_1, zb_tf, ↓nzp, if_pos, if_neg, iI_add, iI_sub, iI_mul, iI_neg, iI_lt, iI_le, iI_eq, iI_lt0, iI_le0, iI_ge0, iI_gt0, iI_eq0, iI_div, iI_rem, iI_toInt, iI_l, lI_i, md_eq, mu_self, mu_mu, mu_ne, true_or, or_true, or_false, false_or, true_and, and_true, true_implies, false_implies, implies_true, forall_const, not_true_eq_false, not_false_eq_true, Option.toList_some, Option.toList_none, List.cons_append, List.nil_append, cl1, ite_true, ite_false, if_true, if_false, e0, T1_25_bp]
    rfl)
  have hn : (((x 4 0).toNat : Nat) : Int) = x 4 0 := by omega
  simp only [hn] at h
  have z0 : ((0 : Nat) : Int) = 0 := rfl
  have z1 : bcF D1 (x 4) 0 = D1 := rfl
  rw [z0, z1] at h
  rw [hM]
  simp (disch := first | omega | assumption | (simp (disch := omega) only [mu_self, mu_ne, iu_self, iu_ne]; done) | (simp (disch := omega) only [mu_self, mu_ne, iu_self, iu_ne]; omega) | (simp (disch := omega) only [mu_self, mu_ne, iu_self, iu_ne]; assumption)) only [r53_0, r53_1, r53_2, r53_5, r53_8, r53_9, r53_10, r53_13, r53_16, r53_17, r53_18, r53_21, r53_24, r53_25, r53_26, r53_29, r53_32, r53_33, r53_34, r53_37, r53_40, r53_41, r53_43, r53_44, r53_47, r53_50, r53_51, r53_54, r53_55, r53_56, r53_57, r53_60, r53_61, r53_62, r53_65, r53_68, r53_71, r53_72, r53_75, r53_76, r53_77, r53_80, r53_81, r53_83, r53_86, r53_87, r53_90, r53_91, r53_92, r53_95, r53_96, r53_98, r53_101, n53, g49_0, g49_1, g49_2, g49_3, g49_4, g49_5, g49_6, g49_7, g49_8, g49_9, g49_10, g49_11, g49_12, g49_13, g49_14, g49_15, g49_16, g49_17, p49_4_0, p49_4_1, p49_7, p49_8, p49_9, p49_10, p49_11, p49_12, p49_13, ri50, wi50, ri51, wi51, ri52, wi52, ri53, wi53, ri54, wi54, ri56, wi56, ri57, wi57, ri58, wi58, ri59, wi59, ri38, wi38, ri40, wi40, ri42, wi42, ri44, wi44, ri46, wi46, ri48, wi48, rb55, wb55, g0_0, g0_1, g0_2, g0_3, g0_4, g0_5, g0_6, p0_3_0, p0_3_1, g37_0, g37_1, p37_1, g37_2, p37_2, g37_3, p37_3, g37_4, p37_4, g37_5, p37_5, g41_0, p41_0, g41_1, p41_1, g41_2, g43_0, p43_0, g43_1, p43_1, g43_2, g45_0, p45_0, g45_1, p45_1, g45_2, g47_0, p47_0, g47_1, p47_1, g47_2, g1_0, g1_1, g1_2, g1_3, g1_4, g1_5, g1_6, g1_7, g13_0, g13_1, g13_2, g13_3, g13_4, g13_5, g13_6, g13_7, g25_0, g25_1, g25_2, g25_3, g25_4, g25_5, g25_6, g25_7, rc0, rc49, rc37, rc1, rc13, rc25, rc41, rc43, rc45, rc47, p1_0, p1_1, p1_2, p1_3, ri3, ri4, wi3, wi4, ra2, rcp1, gp1_0, pp1_0, gp1_1, pp1_1, gp1_2, pp1_2, gp1_3, pp1_3, gp1_4, pp1_4, gp1_5, pp1_5, p13_0, p13_1, p13_2, p13_3, ri15, ri16, wi15, wi16, ra14, rcp13, gp13_0, pp13_0, gp13_1, pp13_1, gp13_2, pp13_2, gp13_3, pp13_3, gp13_4, pp13_4, gp13_5, pp13_5, p25_0, p25_1, p25_2, p25_3, ri27, ri28, wi27, wi28, ra26, rcp25, gp25_0, pp25_0, gp25_1, pp25_1, gp25_2, pp25_2, gp25_3, pp25_3, gp25_4, pp25_4, gp25_5, pp25_5, br_y, br_n, ↓blt_y, ↓blt_n, ↓ble_y, ↓ble_n, ↓beq_y, ↓beq_n, ↓bne_y, ↓bne_n, ↓blt0_y, ↓blt0_n, ↓ble0_y, ↓ble0_n, ↓bge0_y, ↓bge0_n, ↓bgt0_y, ↓bgt0_n, ↓beq0_y, ↓beq0_n, ↓bne0_y, ↓bne0_n, ↓bt_y, ↓bt_n, ↓bu_y, ↓bu_n, ↓sw_n, ↓sw_y, ↓sd_n, ↓sd_y, ↓bl_y, ↓bl_n, ↓bg_y, ↓bg_n, ↓blle_y, ↓blle_n, zb_0, zb_1, zb_tf, ↓nzp, if_pos, if_neg, iI_add, iI_sub, iI_mul, iI_neg, iI_lt, iI_le, iI_eq, iI_lt0, iI_le0, iI_ge0, iI_gt0, iI_eq0, iI_div, iI_rem, iI_toInt, iI_l, lI_i, md_eq, mu_self, mu_mu, mu_ne, true_or, or_true, or_false, false_or, true_and, and_true, true_implies, false_implies, implies_true, forall_const, not_true_eq_false, not_false_eq_true, Option.toList_some, Option.toList_none, List.cons_append, List.nil_append, cl1, ite_true, ite_false, if_true, if_false, hpeo, hD1]
  rw [h, r53_42]
  have e0 : bcF D1 (x 4) (x 4 0).toNat 0 = x 4 0 := by rw [bcF_at _ (by omega), if_neg (by omega), hD0]
  simp (disch := first | omega | assumption | (simp (disch := omega) only [mu_self, mu_ne, iu_self, iu_ne]; done) | (simp (disch := omega) only [mu_self, mu_ne, iu_self, iu_ne]; omega) | (simp (disch := omega) only [mu_self, mu_ne, iu_self, iu_ne]; assumption)) only [r53_0, r53_1, r53_2, r53_5, r53_8, r53_9, r53_10, r53_13, r53_16, r53_17, r53_18, r53_21, r53_24, r53_25, r53_26, r53_29, r53_32, r53_33, r53_34, r53_37, r53_40, r53_41, r53_43, r53_44, r53_47, r53_50, r53_51, r53_54, r53_55, r53_56, r53_57, r53_60, r53_61, r53_62, r53_65, r53_68, r53_71, r53_72, r53_75, r53_76, r53_77, r53_80, r53_81, r53_83, r53_86, r53_87, r53_90, r53_91, r53_92, r53_95, r53_96, r53_98, r53_101, n53, g49_0, g49_1, g49_2, g49_3, g49_4, g49_5, g49_6, g49_7, g49_8, g49_9, g49_10, g49_11, g49_12, g49_13, g49_14, g49_15, g49_16, g49_17, p49_4_0, p49_4_1, p49_7, p49_8, p49_9, p49_10, p49_11, p49_12, p49_13, ri50, wi50, ri51, wi51, ri52, wi52, ri53, wi53, ri54, wi54, ri56, wi56, ri57, wi57, ri58, wi58, ri59, wi59, ri38, wi38, ri40, wi40, ri42, wi42, ri44, wi44, ri46, wi46, ri48, wi48, rb55, wb55, g0_0, g0_1, g0_2, g0_3, g0_4, g0_5, g0_6, p0_3_0, p0_3_1, g37_0, g37_1, p37_1, g37_2, p37_2, g37_3, p37_3, g37_4, p37_4, g37_5, p37_5, g41_0, p41_0, g41_1, p41_1, g41_2, g43_0, p43_0, g43_1, p43_1, g43_2, g45_0, p45_0, g45_1, p45_1, g45_2, g47_0, p47_0, g47_1, p47_1, g47_2, g1_0, g1_1, g1_2, g1_3, g1_4, g1_5, g1_6, g1_7, g13_0, g13_1, g13_2, g13_3, g13_4, g13_5, g13_6, g13_7, g25_0, g25_1, g25_2, g25_3, g25_4, g25_5, g25_6, g25_7, rc0, rc49, rc37, rc1, rc13, rc25, rc41, rc43, rc45, rc47, p1_0, p1_1, p1_2, p1_3, ri3, ri4, wi3, wi4, ra2, rcp1, gp1_0, pp1_0, gp1_1, pp1_1, gp1_2, pp1_2, gp1_3, pp1_3, gp1_4, pp1_4, gp1_5, pp1_5, p13_0, p13_1, p13_2, p13_3, ri15, ri16, wi15, wi16, ra14, rcp13, gp13_0, pp13_0, gp13_1, pp13_1, gp13_2, pp13_2, gp13_3, pp13_3, gp13_4, pp13_4, gp13_5, pp13_5, p25_0, p25_1, p25_2, p25_3, ri27, ri28, wi27, wi28, ra26, rcp25, gp25_0, pp25_0, gp25_1, pp25_1, gp25_2, pp25_2, gp25_3, pp25_3, gp25_4, pp25_4, gp25_5, pp25_5, br_y, br_n, ↓blt_y, ↓blt_n, ↓ble_y, ↓ble_n, ↓beq_y, ↓beq_n, ↓bne_y, ↓bne_n, ↓blt0_y, ↓blt0_n, ↓ble0_y, ↓ble0_n, ↓bge0_y, ↓bge0_n, ↓bgt0_y, ↓bgt0_n, ↓beq0_y, ↓beq0_n, ↓bne0_y, ↓bne0_n, ↓bt_y, ↓bt_n, ↓bu_y, ↓bu_n, ↓sw_n, ↓sw_y, ↓sd_n, ↓sd_y, ↓bl_y, ↓bl_n, ↓bg_y, ↓bg_n, ↓blle_y, ↓blle_n, zb_0, zb_1, zb_tf, ↓nzp, if_pos, if_neg, iI_add, iI_sub, iI_mul, iI_neg, iI_lt, iI_le, iI_eq, iI_lt0, iI_le0, iI_ge0, iI_gt0, iI_eq0, iI_div, iI_rem, iI_toInt, iI_l, lI_i, md_eq, mu_self, mu_mu, mu_ne, true_or, or_true, or_false, false_or, true_and, and_true, true_implies, false_implies, implies_true, forall_const, not_true_eq_false, not_false_eq_true, Option.toList_some, Option.toList_none, List.cons_append, List.nil_append, cl1, ite_true, ite_false, if_true, if_false, e0, cp1_25_2, cp1_25_3]
  refine congrArg (K none) ?_
  have hfin : ∀ j, ¬ (11 ≤ j ∧ j < 59 ∧ ¬ (j - 11) % 8 < x 4 0) → 0 ≤ j → j < 69 → (if 59 ≤ j ∧ j < 69 then x 4 j else if 5 ≤ j ∧ j < 11 then x 4 j else bcF D1 (x 4) (x 4 0).toNat j) = x 4 j := by
    intro j hj j1 j2
    by_cases c1 : 59 ≤ j ∧ j < 69
    · rw [if_pos c1]
    · rw [if_neg c1]
      by_cases c2 : 5 ≤ j ∧ j < 11
      · rw [if_pos c2]
      · rw [if_neg c2, bcF_at _ (by omega)]
        by_cases c3 : 11 ≤ j ∧ j < 59 ∧ (j - 11) % 8 < (x 4 0).toNat
        · rw [if_pos c3]
        · rw [if_neg c3, ← hD1]
          have : j = 0 ∨ j = 1 ∨ j = 2 ∨ j = 3 ∨ j = 4 := by omega
          rcases this with rfl | rfl | rfl | rfl | rfl <;> simp (disch := omega) only [iu_self, iu_ne]
  have q := T1_eq (x := mu (mu x 1 (mgg (x 0) (x 1))) 0 (x 4)) (m := m) (d' := fun j => if 59 ≤ j ∧ j < 69 then x 4 j else if 5 ≤ j ∧ j < 11 then x 4 j else bcF D1 (x 4) (x 4 0).toNat j) (g' := mgg (x 0) (x 1)) (by
    rw [mu_self, mu_ne (by decide), mu_self]
    refine tn_ext (hfin 0 (by omega) (by omega) (by omega)) (hfin 1 (by omega) (by omega) (by omega)) (hfin 2 (by omega) (by omega) (by omega)) (hfin 3 (by omega) (by omega) (by omega)) (hfin 4 (by omega) (by omega) (by omega)) (fun k k1 k2 => hfin _ (by omega) (by omega) (by omega)) (fun k k1 k2 => hfin _ (by omega) (by omega) (by omega)) (fun p p1 p2 => ?_)
    have f0 := hfin 0 (by omega) (by omega) (by omega)
    by_cases c : p < x 4 0
    · rw [pe_live c, pe_live (by rw [f0]; exact c)]
      have w := fun b (hb : b = 11 ∨ b = 19 ∨ b = 27 ∨ b = 35 ∨ b = 43 ∨ b = 51) => hfin (b + p) (by omega) (by omega) (by omega)
      rw [w 11 (by omega), w 19 (by omega), w 27 (by omega), w 35 (by omega), w 43 (by omega), w 51 (by omega)]
    · rw [pe_dead c, pe_dead (by rw [f0]; exact c)])
  rw [mu_mu, ← mu_cm (by decide), mu_mu, mu_cm (by decide)] at q
  exact q
end

/-! the beginning: towns, tape, sheets, the reference -/
theorem row_z {n : Nat} {c : Int} : row n (fun _ => 0) = row n (fun j => if j < ((0 : Nat) : Int) then c else 0) := row_cong (fun k h1 h2 => (if_neg (by omega)).symm)
theorem if_up {k : Nat} {c : Int} : iu (fun j => if j < (k : Int) then c else 0) k c = fun j => if j < ((k + 1 : Nat) : Int) then c else 0 := by
  funext j
  rw [iu_at]
  by_cases e : j = k
  · rw [if_pos e, if_pos (by omega)]
  · rw [if_neg e]
    by_cases f : j < (k : Int)
    · rw [if_pos f, if_pos (by omega)]
    · rw [if_neg f, if_neg (by omega)]
theorem P0_pe {p : Int} (h : 0 ≤ p) : P0 = pe D0 Z0 p := by
  rw [pe_dead (show ¬ p < D0 0 from by show ¬ p < 0; omega)]
  unfold P0 PO
  rw [iI_0]
  rfl
section
variable {X : pXX} {d : Nat} {K : Option Value → List pME → Prop} {M l : List pME} {a i k : Nat} {KM : List pME → Prop} {KV : Value → Prop} {fs : List Value} {v : Value} {e : pME}
theorem gT5 (hM : M.length = a) : gf (M ++ (TT a :: l)) a 3 5 KV = KV (.ref (a + 1)) := gf_of (ap_at0 hM) rfl
theorem gT6 (hM : M.length = a) : gf (M ++ (TT a :: l)) a 3 6 KV = KV (.ref (a + 2)) := gf_of (ap_at0 hM) rfl
theorem gT7 (hM : M.length = a) : gf (M ++ (TT a :: l)) a 3 7 KV = KV (.ref (a + 3)) := gf_of (ap_at0 hM) rfl
theorem PA_up {k : Nat} : va_up (fun i => if i < k then some (a + 4 + i) else none) k (some (a + 4 + k)) = fun i => if i < k + 1 then some (a + 4 + i) else none := by
  funext i
  unfold va_up
  by_cases e : i = k
  · rw [if_pos e, if_pos (by omega), e]
  · rw [if_neg e]
    show (if i < k then some (a + 4 + i) else none) = _
    by_cases f : i < k
    · rw [if_pos f, if_pos (by omega)]
    · rw [if_neg f, if_neg (by omega)]
theorem t_2 (hM : M.length = a) (ha : a + 12 ≤ 900) {r6 r10 : pME} : pR X (d + 2) 1 11 K (57, [some (.ref a), some (.int (iI 0))], [], M ++ [TT a, .inr (.inr (2, 8, fun _ => none)), r6, r10], 3) = pR X (d + 2) 1 11 K (84, [some (.ref a), some (.int (iI 0))], [], M ++ (TT a :: PA a 8 :: r6 :: r10 :: List.replicate 8 P0), 11) := by
  have hl := lp_up (f := fun k => pR X (d + 2) 1 11 K (57, [some (.ref a), some (.int (iI k))], [], M ++ (TT a :: PA a k :: r6 :: r10 :: List.replicate k P0), 3 + k)) (n := 8) (fun k hk => by
    have hl : (M ++ (TT a :: PA a k :: r6 :: r10 :: List.replicate k P0)).length = a + 4 + k := by
      simp only [List.length_append, List.length_cons, List.length_replicate]; omega
    have hm : (M ++ (TT a :: PA a k :: r6 :: r10 :: List.replicate k P0)).length + 1 ≤ 900 := by rw [hl]; omega
    have hr : (M ++ (TT a :: PA a k :: r6 :: r10 :: List.replicate k P0)) ++ [P0] = M ++ (TT a :: PA a k :: r6 :: r10 :: List.replicate (k + 1) P0) := by
      rw [List.append_assoc, List.replicate_succ']; rfl
    have hwa : ∀ KM : List pME → Prop, wa (M ++ (TT a :: PA a k :: r6 :: r10 :: List.replicate (k + 1) P0)) (a + 1) (iI k) (a + 4 + k) KM = KM (M ++ (TT a :: PA a (k + 1) :: r6 :: r10 :: List.replicate (k + 1) P0)) := fun KM => by
      refine wa_of (k := 2) (n := 8) (f := fun i => if i < k then some (a + 4 + i) else none) (fs := [.int 0, .int 0, .int 0, .int 0, .int 0, .int 0]) (ap_at (i := 1) hM) (Or.inl rfl) (by decide) (by omega) (by omega) ?_ ?_
      · rw [show a + 4 + k = a + (k + 4) by omega, ap_at hM]
        show (List.replicate (k + 1) P0)[k]? = some P0
        rw [List.getElem?_replicate, if_pos (by omega)]
      · rw [ap_set hM, Int.toNat_natCast, PA_up]
        rfl
    rw [r1_57]
    simp (disch := first | omega | exact hm) only [r1_0, r1_1, r1_4, r1_5, r1_7, r1_10, r1_11, r1_12, r1_15, r1_16, r1_17, r1_20, r1_21, r1_22, r1_25, r1_26, r1_27, r1_30, r1_31, r1_36, r1_39, r1_40, r1_44, r1_47, r1_48, r1_52, r1_55, r1_56, r1_58, r1_60, r1_63, r1_64, r1_67, r1_71, r1_72, r1_75, r1_76, r1_79, r1_82, r1_83, r1_84, r1_85, r1_87, r1_90, r1_91, r1_94, r1_95, r1_97, r1_98, r1_101, r1_104, r1_105, r1_106, r1_107, r1_109, r1_112, r1_113, r1_116, r1_117, r1_118, r1_119, r1_122, r1_125, r1_68, hl, hr, c_pers0, gT5 hM, hwa, br_y, br_n, ↓blt_y, ↓blt_n, ↓ble_y, ↓ble_n, ↓beq_y, ↓beq_n, ↓bne_y, ↓bne_n, ↓blt0_y, ↓blt0_n, ↓ble0_y, ↓ble0_n, ↓bge0_y, ↓bge0_n, ↓bgt0_y, ↓bgt0_n, ↓beq0_y, ↓beq0_n, ↓bne0_y, ↓bne0_n, ↓bt_y, ↓bt_n, ↓bu_y, ↓bu_n, ↓sw_n, ↓sw_y, ↓sd_n, ↓sd_y, ↓bl_y, ↓bl_n, ↓bg_y, ↓bg_n, ↓blle_y, ↓blle_n, zb_0, zb_1, zb_tf, ↓nzp, if_pos, if_neg, iI_add, iI_sub, iI_mul, iI_neg, iI_lt, iI_le, iI_eq, iI_lt0, iI_le0, iI_ge0, iI_gt0, iI_eq0, iI_div, iI_rem, iI_toInt, iI_l, lI_i, md_eq, mu_self, mu_mu, mu_ne, true_or, or_true, or_false, false_or, true_and, and_true, true_implies, false_implies, implies_true, forall_const, not_true_eq_false, not_false_eq_true, Option.toList_some, Option.toList_none, List.cons_append, List.nil_append, cl1, ite_true, ite_false, if_true, if_false] <;> rfl)
  have e0 : PA a 0 = .inr (.inr (2, 8, fun _ => none)) := by
    unfold PA
    rw [show (fun i => if i < 0 then some (a + 4 + i) else none) = fun _ => none from funext fun i => if_neg (by omega)]
  simp only [z_0, e0, List.replicate_zero] at hl
  rw [show (3 + 0 : Nat) = 3 from rfl, show (3 + 8 : Nat) = 11 from rfl] at hl
  rw [hl, r1_57]
  simp (disch := omega) only [r1_0, r1_1, r1_4, r1_5, r1_7, r1_10, r1_11, r1_12, r1_15, r1_16, r1_17, r1_20, r1_21, r1_22, r1_25, r1_26, r1_27, r1_30, r1_31, r1_36, r1_39, r1_40, r1_44, r1_47, r1_48, r1_52, r1_55, r1_56, r1_58, r1_60, r1_63, r1_64, r1_67, r1_71, r1_72, r1_75, r1_76, r1_79, r1_82, r1_83, r1_85, r1_87, r1_90, r1_91, r1_94, r1_95, r1_97, r1_98, r1_101, r1_104, r1_105, r1_106, r1_107, r1_109, r1_112, r1_113, r1_116, r1_117, r1_118, r1_119, r1_122, r1_125, br_y, br_n, ↓blt_y, ↓blt_n, ↓ble_y, ↓ble_n, ↓beq_y, ↓beq_n, ↓bne_y, ↓bne_n, ↓blt0_y, ↓blt0_n, ↓ble0_y, ↓ble0_n, ↓bge0_y, ↓bge0_n, ↓bgt0_y, ↓bgt0_n, ↓beq0_y, ↓beq0_n, ↓bne0_y, ↓bne0_n, ↓bt_y, ↓bt_n, ↓bu_y, ↓bu_n, ↓sw_n, ↓sw_y, ↓sd_n, ↓sd_y, ↓bl_y, ↓bl_n, ↓bg_y, ↓bg_n, ↓blle_y, ↓blle_n, zb_0, zb_1, zb_tf, ↓nzp, if_pos, if_neg, iI_add, iI_sub, iI_mul, iI_neg, iI_lt, iI_le, iI_eq, iI_lt0, iI_le0, iI_ge0, iI_gt0, iI_eq0, iI_div, iI_rem, iI_toInt, iI_l, lI_i, md_eq, mu_self, mu_mu, mu_ne, true_or, or_true, or_false, false_or, true_and, and_true, true_implies, false_implies, implies_true, forall_const, not_true_eq_false, not_false_eq_true, Option.toList_some, Option.toList_none, List.cons_append, List.nil_append, cl1, ite_true, ite_false, if_true, if_false]
theorem t_3 (hM : M.length = a) {e1 : pME} : pR X (d + 2) 1 11 K (84, [some (.ref a), some (.int (iI 0))], [], M ++ (TT a :: e1 :: .inr (.inl (0, 6, row 6 (fun _ => 0))) :: l), 11) = pR X (d + 2) 1 11 K (106, [some (.ref a), some (.int (iI 0))], [], M ++ (TT a :: e1 :: R6 6 :: l), 11) := by
  have hl := lp_up (f := fun k => pR X (d + 2) 1 11 K (84, [some (.ref a), some (.int (iI k))], [], M ++ (TT a :: e1 :: R6 k :: l), 11)) (n := 6) (fun k hk => by
    have hwi : ∀ KM : List pME → Prop, wi (M ++ (TT a :: e1 :: R6 k :: l)) (a + 2) (iI k) (iI 100) KM = KM (M ++ (TT a :: e1 :: R6 (k + 1) :: l)) := fun KM => by
      refine wi_of (n := 6) (f := fun j => if j < (k : Int) then 100 else 0) (ap_at (i := 2) hM) (by decide) ?_ (by omega) (by omega)
      rw [ap_set hM, if_up]
      rfl
    rw [r1_84]
    simp (disch := omega) only [r1_0, r1_1, r1_4, r1_5, r1_7, r1_10, r1_11, r1_12, r1_15, r1_16, r1_17, r1_20, r1_21, r1_22, r1_25, r1_26, r1_27, r1_30, r1_31, r1_36, r1_39, r1_40, r1_44, r1_47, r1_48, r1_52, r1_55, r1_56, r1_57, r1_58, r1_60, r1_63, r1_64, r1_67, r1_71, r1_72, r1_75, r1_76, r1_79, r1_82, r1_83, r1_85, r1_87, r1_90, r1_91, r1_94, r1_95, r1_97, r1_98, r1_101, r1_104, r1_105, r1_106, r1_107, r1_109, r1_112, r1_113, r1_116, r1_117, r1_118, r1_119, r1_122, r1_125, gT6 hM, hwi, br_y, br_n, ↓blt_y, ↓blt_n, ↓ble_y, ↓ble_n, ↓beq_y, ↓beq_n, ↓bne_y, ↓bne_n, ↓blt0_y, ↓blt0_n, ↓ble0_y, ↓ble0_n, ↓bge0_y, ↓bge0_n, ↓bgt0_y, ↓bgt0_n, ↓beq0_y, ↓beq0_n, ↓bne0_y, ↓bne0_n, ↓bt_y, ↓bt_n, ↓bu_y, ↓bu_n, ↓sw_n, ↓sw_y, ↓sd_n, ↓sd_y, ↓bl_y, ↓bl_n, ↓bg_y, ↓bg_n, ↓blle_y, ↓blle_n, zb_0, zb_1, zb_tf, ↓nzp, if_pos, if_neg, iI_add, iI_sub, iI_mul, iI_neg, iI_lt, iI_le, iI_eq, iI_lt0, iI_le0, iI_ge0, iI_gt0, iI_eq0, iI_div, iI_rem, iI_toInt, iI_l, lI_i, md_eq, mu_self, mu_mu, mu_ne, true_or, or_true, or_false, false_or, true_and, and_true, true_implies, false_implies, implies_true, forall_const, not_true_eq_false, not_false_eq_true, Option.toList_some, Option.toList_none, List.cons_append, List.nil_append, cl1, ite_true, ite_false, if_true, if_false] <;> rfl)
  have e0 : R6 0 = .inr (.inl (0, 6, row 6 (fun _ => 0))) := by unfold R6; rw [row_z (c := 100)]
  simp only [z_0, e0] at hl
  rw [hl, r1_84]
  simp (disch := omega) only [r1_0, r1_1, r1_4, r1_5, r1_7, r1_10, r1_11, r1_12, r1_15, r1_16, r1_17, r1_20, r1_21, r1_22, r1_25, r1_26, r1_27, r1_30, r1_31, r1_36, r1_39, r1_40, r1_44, r1_47, r1_48, r1_52, r1_55, r1_56, r1_57, r1_58, r1_60, r1_63, r1_64, r1_67, r1_71, r1_72, r1_75, r1_76, r1_79, r1_82, r1_83, r1_85, r1_87, r1_90, r1_91, r1_94, r1_95, r1_97, r1_98, r1_101, r1_104, r1_105, r1_107, r1_109, r1_112, r1_113, r1_116, r1_117, r1_118, r1_119, r1_122, r1_125, br_y, br_n, ↓blt_y, ↓blt_n, ↓ble_y, ↓ble_n, ↓beq_y, ↓beq_n, ↓bne_y, ↓bne_n, ↓blt0_y, ↓blt0_n, ↓ble0_y, ↓ble0_n, ↓bge0_y, ↓bge0_n, ↓bgt0_y, ↓bgt0_n, ↓beq0_y, ↓beq0_n, ↓bne0_y, ↓bne0_n, ↓bt_y, ↓bt_n, ↓bu_y, ↓bu_n, ↓sw_n, ↓sw_y, ↓sd_n, ↓sd_y, ↓bl_y, ↓bl_n, ↓bg_y, ↓bg_n, ↓blle_y, ↓blle_n, zb_0, zb_1, zb_tf, ↓nzp, if_pos, if_neg, iI_add, iI_sub, iI_mul, iI_neg, iI_lt, iI_le, iI_eq, iI_lt0, iI_le0, iI_ge0, iI_gt0, iI_eq0, iI_div, iI_rem, iI_toInt, iI_l, lI_i, md_eq, mu_self, mu_mu, mu_ne, true_or, or_true, or_false, false_or, true_and, and_true, true_implies, false_implies, implies_true, forall_const, not_true_eq_false, not_false_eq_true, Option.toList_some, Option.toList_none, List.cons_append, List.nil_append, cl1, ite_true, ite_false, if_true, if_false]
theorem t_4 (hM : M.length = a) {e1 e2 : pME} : pR X (d + 2) 1 11 K (106, [some (.ref a), some (.int (iI 0))], [], M ++ (TT a :: e1 :: e2 :: .inr (.inl (0, 10, row 10 (fun _ => 0))) :: l), 11) = K none (M ++ (TT a :: e1 :: e2 :: R10 10 :: l)) := by
  have hl := lp_up (f := fun k => pR X (d + 2) 1 11 K (106, [some (.ref a), some (.int (iI k))], [], M ++ (TT a :: e1 :: e2 :: R10 k :: l), 11)) (n := 10) (fun k hk => by
    have hwi : ∀ KM : List pME → Prop, wi (M ++ (TT a :: e1 :: e2 :: R10 k :: l)) (a + 3) (iI k) (iI (-1)) KM = KM (M ++ (TT a :: e1 :: e2 :: R10 (k + 1) :: l)) := fun KM => by
      refine wi_of (n := 10) (f := fun j => if j < (k : Int) then -1 else 0) (ap_at (i := 3) hM) (by decide) ?_ (by omega) (by omega)
      rw [ap_set hM, if_up]
      rfl
    rw [r1_106]
    simp (disch := omega) only [r1_0, r1_1, r1_4, r1_5, r1_7, r1_10, r1_11, r1_12, r1_15, r1_16, r1_17, r1_20, r1_21, r1_22, r1_25, r1_26, r1_27, r1_30, r1_31, r1_36, r1_39, r1_40, r1_44, r1_47, r1_48, r1_52, r1_55, r1_56, r1_57, r1_58, r1_60, r1_63, r1_64, r1_67, r1_71, r1_72, r1_75, r1_76, r1_79, r1_82, r1_83, r1_84, r1_85, r1_87, r1_90, r1_91, r1_94, r1_95, r1_97, r1_98, r1_101, r1_104, r1_105, r1_107, r1_109, r1_112, r1_113, r1_116, r1_117, r1_118, r1_119, r1_122, r1_125, gT7 hM, hwi, br_y, br_n, ↓blt_y, ↓blt_n, ↓ble_y, ↓ble_n, ↓beq_y, ↓beq_n, ↓bne_y, ↓bne_n, ↓blt0_y, ↓blt0_n, ↓ble0_y, ↓ble0_n, ↓bge0_y, ↓bge0_n, ↓bgt0_y, ↓bgt0_n, ↓beq0_y, ↓beq0_n, ↓bne0_y, ↓bne0_n, ↓bt_y, ↓bt_n, ↓bu_y, ↓bu_n, ↓sw_n, ↓sw_y, ↓sd_n, ↓sd_y, ↓bl_y, ↓bl_n, ↓bg_y, ↓bg_n, ↓blle_y, ↓blle_n, zb_0, zb_1, zb_tf, ↓nzp, if_pos, if_neg, iI_add, iI_sub, iI_mul, iI_neg, iI_lt, iI_le, iI_eq, iI_lt0, iI_le0, iI_ge0, iI_gt0, iI_eq0, iI_div, iI_rem, iI_toInt, iI_l, lI_i, md_eq, mu_self, mu_mu, mu_ne, true_or, or_true, or_false, false_or, true_and, and_true, true_implies, false_implies, implies_true, forall_const, not_true_eq_false, not_false_eq_true, Option.toList_some, Option.toList_none, List.cons_append, List.nil_append, cl1, ite_true, ite_false, if_true, if_false] <;> rfl)
  have e0 : R10 0 = .inr (.inl (0, 10, row 10 (fun _ => 0))) := by unfold R10; rw [row_z (c := -1)]
  simp only [z_0, e0] at hl
  rw [hl, r1_106]
  simp (disch := omega) only [r1_0, r1_1, r1_4, r1_5, r1_7, r1_10, r1_11, r1_12, r1_15, r1_16, r1_17, r1_20, r1_21, r1_22, r1_25, r1_26, r1_27, r1_30, r1_31, r1_36, r1_39, r1_40, r1_44, r1_47, r1_48, r1_52, r1_55, r1_56, r1_57, r1_58, r1_60, r1_63, r1_64, r1_67, r1_71, r1_72, r1_75, r1_76, r1_79, r1_82, r1_83, r1_84, r1_85, r1_87, r1_90, r1_91, r1_94, r1_95, r1_97, r1_98, r1_101, r1_104, r1_105, r1_107, r1_109, r1_112, r1_113, r1_116, r1_117, r1_118, r1_119, r1_122, r1_125, br_y, br_n, ↓blt_y, ↓blt_n, ↓ble_y, ↓ble_n, ↓beq_y, ↓beq_n, ↓bne_y, ↓bne_n, ↓blt0_y, ↓blt0_n, ↓ble0_y, ↓ble0_n, ↓bge0_y, ↓bge0_n, ↓bgt0_y, ↓bgt0_n, ↓beq0_y, ↓beq0_n, ↓bne0_y, ↓bne0_n, ↓bt_y, ↓bt_n, ↓bu_y, ↓bu_n, ↓sw_n, ↓sw_y, ↓sd_n, ↓sd_y, ↓bl_y, ↓bl_n, ↓bg_y, ↓bg_n, ↓blle_y, ↓blle_n, zb_0, zb_1, zb_tf, ↓nzp, if_pos, if_neg, iI_add, iI_sub, iI_mul, iI_neg, iI_lt, iI_le, iI_eq, iI_lt0, iI_le0, iI_ge0, iI_gt0, iI_eq0, iI_div, iI_rem, iI_toInt, iI_l, lI_i, md_eq, mu_self, mu_mu, mu_ne, true_or, or_true, or_false, false_or, true_and, and_true, true_implies, false_implies, implies_true, forall_const, not_true_eq_false, not_false_eq_true, Option.toList_some, Option.toList_none, List.cons_append, List.nil_append, cl1, ite_true, ite_false, if_true, if_false]
theorem tn_0 : TT a :: PA a 8 :: R6 6 :: R10 10 :: List.replicate 8 P0 = tn a D0 Z0 := by
  have h6 : R6 6 = .inr (.inl (0, 6, row 6 (fun k => D0 (5 + k)))) := by
    unfold R6
    rw [row_cong (g := fun k => D0 (5 + k)) (fun k h1 h2 => by
      unfold D0
      rw [if_pos (by omega), if_neg (by omega), if_neg (by omega), if_pos (by omega)])]
  have h10 : R10 10 = .inr (.inl (0, 10, row 10 (fun k => D0 (59 + k) - 1))) := by
    unfold R10
    rw [row_cong (g := fun k => D0 (59 + k) - 1) (fun k h1 h2 => by
      unfold D0
      rw [if_pos (by omega), if_neg (by omega), if_neg (by omega), if_neg (by omega)]
      rfl)]
  have hp : List.replicate 8 P0 = [pe D0 Z0 0, pe D0 Z0 1, pe D0 Z0 2, pe D0 Z0 3, pe D0 Z0 4, pe D0 Z0 5, pe D0 Z0 6, pe D0 Z0 7] := by
    rw [← P0_pe (by decide), ← P0_pe (by decide), ← P0_pe (by decide), ← P0_pe (by decide), ← P0_pe (by decide), ← P0_pe (by decide), ← P0_pe (by decide), ← P0_pe (by decide)]
    rfl
  rw [h6, h10, hp]
  rfl
theorem c_town0 (hM : M.length = a) (ha : a + 12 ≤ 900) : Cw X (d + 3) 1 [.ref a] (M ++ [T0]) K = K none (M ++ tn a D0 Z0) := by
  rw [t_1 hM ha, t_2 hM ha, t_3 hM, t_4 hM, tn_0]
theorem c_tape0 (hM : M.length = a) (ha : a + 2 ≤ 900) : Cw X (d + 2) 3 [.ref a] (M ++ [E0]) K = K none (M ++ [.inl (2, [.ref (a + 1), .int (iI 0), .int (iI 0), .int (iI 0), .int (iI 0), .int (iI 0)]), .inr (.inl (0, 120, row 120 (fun _ => 0)))]) := by
  unfold E0
  simp (disch := first | omega | (simp only [List.length_append, List.length_cons, List.length_nil]; omega)) only [n3, r3_0, r3_1, r3_4, r3_5, r3_9, r3_12, r3_13, r3_14, r3_17, r3_18, r3_19, r3_22, r3_23, r3_24, r3_27, r3_28, r3_29, r3_32, r3_33, r3_34, r3_37, r3_7, pI3_0 hM, pI3_1 hM, pI3_2 hM, pI3_3 hM, pI3_4 hM, pI3_5 hM, List.append_assoc, List.cons_append, List.nil_append, List.length_append, List.length_cons, List.length_nil, hM, Nat.reduceAdd, Nat.zero_add, List.set_cons_zero, List.set_cons_succ, cl1]
theorem c_sheet0 (hM : M.length = a) (ha : a + 2 ≤ 900) : Cw X (d + 2) 4 [.ref a] (M ++ [S0]) K = K none (M ++ [.inl (1, [.int (iI 0), .int (iI 0), .ref (a + 1)]), .inr (.inl (0, 40, row 40 (fun _ => 0)))]) := by
  unfold S0
  simp (disch := first | omega | (simp only [List.length_append, List.length_cons, List.length_nil]; omega)) only [n4, r4_0, r4_1, r4_4, r4_5, r4_6, r4_9, r4_10, r4_11, r4_14, r4_15, r4_19, r4_22, r4_17, pI4_0 hM, pI4_1 hM, pI4_2 hM, List.append_assoc, List.cons_append, List.nil_append, List.length_append, List.length_cons, List.length_nil, hM, Nat.reduceAdd, Nat.zero_add, List.set_cons_zero, List.set_cons_succ, cl1]
theorem wI1 {f : Int → Int} {j v : Int} (hM : M.length = a) (h1 : 0 ≤ j) (h2 : j < 69) : wi (M ++ (e :: .inr (.inl (0, 69, row 69 f)) :: l)) (a + 1) (iI j) (iI v) KM = KM (M ++ (e :: .inr (.inl (0, 69, row 69 (iu f j v))) :: l)) := wi_of (n := 69) (ap_at (i := 1) hM) (by decide) (ap_set (i := 1) hM) h1 h2
theorem gM0 {b : Nat} (hM : M.length = a) : gf (M ++ (.inl (5, .ref b :: fs) :: l)) a 5 0 KV = KV (.ref b) := gf_of (ap_at0 hM) rfl
theorem c_model0 (hM : M.length = a) (ha : a + 11 ≤ 900) : Cw X (d + 2) 133 [.ref a] (M ++ [M0]) K = K none (M ++ [.inl (5, [.ref (a + 1), .ref (a + 2), .ref (a + 3), .ref (a + 4), .int 0, .ref (a + 5), .ref (a + 6), .int 0, .int 0, .int 0, .int 0, .int 0, .long 0, .int 0, .ref (a + 7), .ref (a + 8), .ref (a + 9), .ref (a + 10)]), .inr (.inl (0, 69, row 69 D0)), .inr (.inl (0, 69, row 69 (fun _ => 0))), .inr (.inl (0, 69, row 69 (fun _ => 0))), .inr (.inl (0, 69, row 69 (fun _ => 0))), .inr (.inl (0, 7, row 7 (fun _ => 0))), .inr (.inl (1, 120, row 120 (fun _ => 0))), .inr (.inl (0, 4, row 4 (fun _ => 0))), .inr (.inl (0, 4, row 4 (fun _ => 0))), .inr (.inl (0, 160, row 160 (fun _ => 0))), .inr (.inl (0, 40, row 40 (fun _ => 0)))]) := by
  have hD : row 69 D0 = row 69 (iu (iu (iu (iu (iu (iu (iu (iu (fun _ => 0) 2 1) 3 19) 5 100) 6 100) 7 100) 8 100) 9 100) 10 100) := row_cong (fun k h1 h2 => by
    simp only [iu_at]
    unfold D0
    repeat' split
    all_goals omega)
  rw [hD]
  unfold M0
  simp (disch := first | omega | (simp only [List.length_append, List.length_cons, List.length_nil]; omega)) only [n133, r133_0, r133_1, r133_4, r133_5, r133_9, r133_12, r133_13, r133_17, r133_20, r133_21, r133_25, r133_28, r133_29, r133_33, r133_36, r133_37, r133_41, r133_44, r133_45, r133_49, r133_52, r133_53, r133_56, r133_59, r133_60, r133_63, r133_66, r133_67, r133_72, r133_75, r133_76, r133_80, r133_83, r133_84, r133_87, r133_88, r133_89, r133_90, r133_91, r133_94, r133_95, r133_97, r133_98, r133_99, r133_100, r133_101, r133_103, r133_106, r133_107, r133_110, r133_111, r133_112, r133_113, r133_115, r133_116, r133_119, r133_122, r133_7, r133_15, r133_23, r133_31, r133_39, r133_47, r133_54, r133_61, r133_70, r133_78, pI133_0 hM, pI133_1 hM, pI133_2 hM, pI133_3 hM, pI133_5 hM, pI133_6 hM, pI133_14 hM, pI133_15 hM, pI133_16 hM, pI133_17 hM, gM0 hM, wI1 hM, List.append_assoc, List.cons_append, List.nil_append, List.length_append, List.length_cons, List.length_nil, hM, Nat.reduceAdd, Nat.zero_add, List.set_cons_zero, List.set_cons_succ, br_y, br_n, ↓blt_y, ↓blt_n, ↓ble_y, ↓ble_n, ↓beq_y, ↓beq_n, ↓bne_y, ↓bne_n, ↓blt0_y, ↓blt0_n, ↓ble0_y, ↓ble0_n, ↓bge0_y, ↓bge0_n, ↓bgt0_y, ↓bgt0_n, ↓beq0_y, ↓beq0_n, ↓bne0_y, ↓bne0_n, ↓bt_y, ↓bt_n, ↓bu_y, ↓bu_n, ↓sw_n, ↓sw_y, ↓sd_n, ↓sd_y, ↓bl_y, ↓bl_n, ↓bg_y, ↓bg_n, ↓blle_y, ↓blle_n, zb_0, zb_1, zb_tf, ↓nzp, if_pos, if_neg, iI_add, iI_sub, iI_mul, iI_neg, iI_lt, iI_le, iI_eq, iI_lt0, iI_le0, iI_ge0, iI_gt0, iI_eq0, iI_div, iI_rem, iI_toInt, iI_l, lI_i, md_eq, mu_self, mu_mu, mu_ne, true_or, or_true, or_false, false_or, true_and, and_true, true_implies, false_implies, implies_true, forall_const, not_true_eq_false, not_false_eq_true, Option.toList_some, Option.toList_none, List.cons_append, List.nil_append, cl1, ite_true, ite_false, if_true, if_false, Int.reduceAdd, Int.zero_add]
end

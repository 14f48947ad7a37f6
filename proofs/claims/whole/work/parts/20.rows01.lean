section
variable {X : pXX} {d lim u : Nat} {Q : Option Value → List pME → Prop} {L : List (Option Value)} {st : List Value} {mem : List pME} {x z z1 z2 z3 y0 y1 y2 y3 y4 k0 k1 k2 k3 k4 k5 k6 : Int32} {v w v0 v1 v2 w0 w1 w2 : Int64} {a b b0 b1 b2 b3 c0 c1 c2 c3 c4 c5 : Nat} {p : Value} {l0 l1 l2 l3 l4 l5 l6 l7 l8 l9 : Option Value}
theorem r35_0 : pR X d 35 0 Q (0, [some (.ref a), l1, l2], st, mem, 0) = pR X d 35 0 Q (1, [some (.ref a), l1, l2], .ref a :: st, mem, 0) := q_s (.ok (.aload_n 0, 1)) (by decide +kernel) rfl
theorem r35_1 : pR X d 35 0 Q (1, [l0, some (.int x), l2], st, mem, 0) = pR X d 35 0 Q (2, [l0, some (.int x), l2], .int x :: st, mem, 0) := q_s (.ok (.iload_n 1, 1)) (by decide +kernel) rfl
theorem r35_2 : pR X d 35 0 Q (2, L, .int y0 :: .ref a :: [], mem, 0) = (prcv mem 3 a ∧ Cw X d 20 [.ref a, .int y0] mem (fun r mem => pR X d 35 0 Q (5, L, r.toList ++ [], mem, 0))) := q_virt (ix := 85) (y2 := 20) (as := [.int y0]) (by decide +kernel) (by decide +kernel) rfl rfl rfl (Nat.le_of_ble_eq_true rfl) (by decide)
theorem r35_5 : pR X d 35 0 Q (5, L, .int x :: st, mem, 0) = ((x = 0 → pR X d 35 0 Q (25, L, st, mem, 0)) ∧ (¬ (x = 0) → pR X d 35 0 Q (8, L, st, mem, 0))) := r_if (c := .eq) (off := 20) (by decide +kernel) (by decide)
theorem r35_8 : pR X d 35 0 Q (8, [some (.ref a), l1, l2], st, mem, 0) = pR X d 35 0 Q (9, [some (.ref a), l1, l2], .ref a :: st, mem, 0) := q_s (.ok (.aload_n 0, 1)) (by decide +kernel) rfl
theorem r35_9 : pR X d 35 0 Q (9, [l0, l1, some (.int x)], st, mem, 0) = pR X d 35 0 Q (10, [l0, l1, some (.int x)], .int x :: st, mem, 0) := q_s (.ok (.iload_n 2, 1)) (by decide +kernel) rfl
theorem r35_10 : pR X d 35 0 Q (10, L, .int y0 :: .ref a :: [], mem, 0) = (prcv mem 3 a ∧ Cw X d 20 [.ref a, .int y0] mem (fun r mem => pR X d 35 0 Q (13, L, r.toList ++ [], mem, 0))) := q_virt (ix := 85) (y2 := 20) (as := [.int y0]) (by decide +kernel) (by decide +kernel) rfl rfl rfl (Nat.le_of_ble_eq_true rfl) (by decide)
theorem r35_13 : pR X d 35 0 Q (13, L, .int x :: st, mem, 0) = ((x = 0 → pR X d 35 0 Q (25, L, st, mem, 0)) ∧ (¬ (x = 0) → pR X d 35 0 Q (16, L, st, mem, 0))) := r_if (c := .eq) (off := 12) (by decide +kernel) (by decide)
theorem r35_16 : pR X d 35 0 Q (16, [l0, some (.int x), l2], st, mem, 0) = pR X d 35 0 Q (17, [l0, some (.int x), l2], .int x :: st, mem, 0) := q_s (.ok (.iload_n 1, 1)) (by decide +kernel) rfl
theorem r35_17 : pR X d 35 0 Q (17, [l0, l1, some (.int x)], st, mem, 0) = pR X d 35 0 Q (18, [l0, l1, some (.int x)], .int x :: st, mem, 0) := q_s (.ok (.iload_n 2, 1)) (by decide +kernel) rfl
theorem r35_18 : pR X d 35 0 Q (18, L, .int z :: .int x :: st, mem, 0) = ((x = z → pR X d 35 0 Q (25, L, st, mem, 0)) ∧ (¬ (x = z) → pR X d 35 0 Q (21, L, st, mem, 0))) := r_ic (c := .eq) (off := 7) (by decide +kernel) (by decide)
theorem r35_21 : pR X d 35 0 Q (21, L, st, mem, 0) = pR X d 35 0 Q (22, L, .int (iI (1)) :: st, mem, 0) := q_ic (by decide +kernel)
theorem r35_22 : pR X d 35 0 Q (22, L, st, mem, 0) = pR X d 35 0 Q (26, L, st, mem, 0) := q_s (.ok (.goto (4), 3)) (by decide +kernel) rfl
theorem r35_25 : pR X d 35 0 Q (25, L, st, mem, 0) = pR X d 35 0 Q (26, L, .int (iI (0)) :: st, mem, 0) := q_ic (by decide +kernel)
theorem r35_26 : pR X d 35 0 Q (26, L, [.int x], mem, 0) = (zb .boolean x ∧ Q (some (.int x)) mem) := q_retz (by decide +kernel) rfl (by decide)
theorem r36_0 : pR X d 36 0 Q (0, [some (.ref a), l1, l2, l3, l4, l5], st, mem, 0) = pR X d 36 0 Q (1, [some (.ref a), l1, l2, l3, l4, l5], .ref a :: st, mem, 0) := q_s (.ok (.aload_n 0, 1)) (by decide +kernel) rfl
theorem r36_1 : pR X d 36 0 Q (1, L, .ref a :: st, mem, 0) = gf mem a 3 5 (fun p => pR X d 36 0 Q (4, L, p :: st, mem, 0)) := q_get (ix := 29) (by decide +kernel) (by decide +kernel)
theorem r36_4 : pR X d 36 0 Q (4, [l0, some (.int x), l2, l3, l4, l5], st, mem, 0) = pR X d 36 0 Q (5, [l0, some (.int x), l2, l3, l4, l5], .int x :: st, mem, 0) := q_s (.ok (.iload_n 1, 1)) (by decide +kernel) rfl
theorem r36_5 : pR X d 36 0 Q (5, L, .int x :: .ref a :: st, mem, 0) = ra mem a x (fun b => pR X d 36 0 Q (6, L, .ref b :: st, mem, 0)) := q_ra (by decide +kernel)
theorem r36_6 : pR X d 36 0 Q (6, [l0, l1, l2, some (.int x), l4, l5], st, mem, 0) = pR X d 36 0 Q (7, [l0, l1, l2, some (.int x), l4, l5], .int x :: st, mem, 0) := q_s (.ok (.iload_n 3, 1)) (by decide +kernel) rfl
theorem r36_7 : pR X d 36 0 Q (7, [some (.ref a), l1, l2, l3, l4, l5], st, mem, 0) = pR X d 36 0 Q (8, [some (.ref a), l1, l2, l3, l4, l5], .ref a :: st, mem, 0) := q_s (.ok (.aload_n 0, 1)) (by decide +kernel) rfl
theorem r36_8 : pR X d 36 0 Q (8, L, .ref a :: st, mem, 0) = gf mem a 3 0 (fun p => pR X d 36 0 Q (11, L, p :: st, mem, 0)) := q_get (ix := 9) (by decide +kernel) (by decide +kernel)
theorem r36_11 : pR X d 36 0 Q (11, L, .int y1 :: .int y0 :: .ref a :: [], mem, 0) = (prcv mem 0 a ∧ Cw X d 32 [.ref a, .int y0, .int y1] mem (fun r mem => pR X d 36 0 Q (14, L, r.toList ++ [], mem, 0))) := q_virt (ix := 89) (y2 := 32) (as := [.int y1, .int y0]) (by decide +kernel) (by decide +kernel) rfl rfl rfl (Nat.le_of_ble_eq_true rfl) (by decide)
theorem r36_14 : pR X d 36 0 Q (14, [l0, l1, l2, l3, l4, l5], .int x :: st, mem, 0) = pR X d 36 0 Q (16, [l0, l1, l2, cl1 l3, some (.int x), l5], st, mem, 0) := q_s (.ok (.istore 4, 2)) (by decide +kernel) rfl
theorem r36_16 : pR X d 36 0 Q (16, [some (.ref a), l1, l2, l3, l4, l5], st, mem, 0) = pR X d 36 0 Q (17, [some (.ref a), l1, l2, l3, l4, l5], .ref a :: st, mem, 0) := q_s (.ok (.aload_n 0, 1)) (by decide +kernel) rfl
theorem r36_17 : pR X d 36 0 Q (17, L, .ref a :: st, mem, 0) = gf mem a 3 5 (fun p => pR X d 36 0 Q (20, L, p :: st, mem, 0)) := q_get (ix := 29) (by decide +kernel) (by decide +kernel)
theorem r36_20 : pR X d 36 0 Q (20, [l0, some (.int x), l2, l3, l4, l5], st, mem, 0) = pR X d 36 0 Q (21, [l0, some (.int x), l2, l3, l4, l5], .int x :: st, mem, 0) := q_s (.ok (.iload_n 1, 1)) (by decide +kernel) rfl
theorem r36_21 : pR X d 36 0 Q (21, L, .int x :: .ref a :: st, mem, 0) = ra mem a x (fun b => pR X d 36 0 Q (22, L, .ref b :: st, mem, 0)) := q_ra (by decide +kernel)
theorem r36_22 : pR X d 36 0 Q (22, [l0, l1, l2, l3, some (.int x), l5], st, mem, 0) = pR X d 36 0 Q (24, [l0, l1, l2, l3, some (.int x), l5], .int x :: st, mem, 0) := q_s (.ok (.iload 4, 2)) (by decide +kernel) rfl
theorem r36_24 : pR X d 36 0 Q (24, [some (.ref a), l1, l2, l3, l4, l5], st, mem, 0) = pR X d 36 0 Q (25, [some (.ref a), l1, l2, l3, l4, l5], .ref a :: st, mem, 0) := q_s (.ok (.aload_n 0, 1)) (by decide +kernel) rfl
theorem r36_25 : pR X d 36 0 Q (25, L, .ref a :: st, mem, 0) = gf mem a 3 0 (fun p => pR X d 36 0 Q (28, L, p :: st, mem, 0)) := q_get (ix := 9) (by decide +kernel) (by decide +kernel)
theorem r36_28 : pR X d 36 0 Q (28, L, .int y1 :: .int y0 :: .ref a :: [], mem, 0) = (prcv mem 0 a ∧ Cw X d 37 [.ref a, .int y0, .int y1] mem (fun r mem => pR X d 36 0 Q (31, L, r.toList ++ [], mem, 0))) := q_virt (ix := 92) (y2 := 37) (as := [.int y1, .int y0]) (by decide +kernel) (by decide +kernel) rfl rfl rfl (Nat.le_of_ble_eq_true rfl) (by decide)
theorem r36_31 : pR X d 36 0 Q (31, [l0, l1, l2, l3, l4, l5], .int x :: st, mem, 0) = pR X d 36 0 Q (33, [l0, l1, l2, l3, cl1 l4, some (.int x)], st, mem, 0) := q_s (.ok (.istore 5, 2)) (by decide +kernel) rfl
theorem r36_33 : pR X d 36 0 Q (33, [some (.ref a), l1, l2, l3, l4, l5], st, mem, 0) = pR X d 36 0 Q (34, [some (.ref a), l1, l2, l3, l4, l5], .ref a :: st, mem, 0) := q_s (.ok (.aload_n 0, 1)) (by decide +kernel) rfl
theorem r36_34 : pR X d 36 0 Q (34, L, .ref a :: st, mem, 0) = gf mem a 3 5 (fun p => pR X d 36 0 Q (37, L, p :: st, mem, 0)) := q_get (ix := 29) (by decide +kernel) (by decide +kernel)
theorem r36_37 : pR X d 36 0 Q (37, [l0, l1, some (.int x), l3, l4, l5], st, mem, 0) = pR X d 36 0 Q (38, [l0, l1, some (.int x), l3, l4, l5], .int x :: st, mem, 0) := q_s (.ok (.iload_n 2, 1)) (by decide +kernel) rfl
theorem r36_38 : pR X d 36 0 Q (38, L, .int x :: .ref a :: st, mem, 0) = ra mem a x (fun b => pR X d 36 0 Q (39, L, .ref b :: st, mem, 0)) := q_ra (by decide +kernel)
theorem r36_39 : pR X d 36 0 Q (39, [l0, l1, l2, some (.int x), l4, l5], st, mem, 0) = pR X d 36 0 Q (40, [l0, l1, l2, some (.int x), l4, l5], .int x :: st, mem, 0) := q_s (.ok (.iload_n 3, 1)) (by decide +kernel) rfl
theorem r36_40 : pR X d 36 0 Q (40, [l0, l1, l2, l3, l4, some (.int x)], st, mem, 0) = pR X d 36 0 Q (42, [l0, l1, l2, l3, l4, some (.int x)], .int x :: st, mem, 0) := q_s (.ok (.iload 5, 2)) (by decide +kernel) rfl
theorem r36_42 : pR X d 36 0 Q (42, L, .int y1 :: .int y0 :: .ref a :: [], mem, 0) = (prcv mem 0 a ∧ Cw X d 38 [.ref a, .int y0, .int y1] mem (fun r mem => pR X d 36 0 Q (45, L, r.toList ++ [], mem, 0))) := q_virt (ix := 95) (y2 := 38) (as := [.int y1, .int y0]) (by decide +kernel) (by decide +kernel) rfl rfl rfl (Nat.le_of_ble_eq_true rfl) (by decide)
theorem r36_45 : pR X d 36 0 Q (45, [l0, l1, l2, l3, l4, some (.int x)], st, mem, 0) = pR X d 36 0 Q (47, [l0, l1, l2, l3, l4, some (.int x)], .int x :: st, mem, 0) := q_s (.ok (.iload 5, 2)) (by decide +kernel) rfl
theorem r36_47 : pR X d 36 0 Q (47, L, [.int x], mem, 0) = Q (some (.int x)) mem := q_reti (by decide +kernel) rfl
theorem r37_0 : pR X d 37 0 Q (0, [some (.ref a), l1, l2, l3], st, mem, 0) = pR X d 37 0 Q (1, [some (.ref a), l1, l2, l3], .ref a :: st, mem, 0) := q_s (.ok (.aload_n 0, 1)) (by decide +kernel) rfl
theorem r37_1 : pR X d 37 0 Q (1, L, .ref a :: st, mem, 0) = gf mem a 0 1 (fun p => pR X d 37 0 Q (4, L, p :: st, mem, 0)) := q_get (ix := 15) (by decide +kernel) (by decide +kernel)
theorem r37_4 : pR X d 37 0 Q (4, [l0, some (.int x), l2, l3], st, mem, 0) = pR X d 37 0 Q (5, [l0, some (.int x), l2, l3], .int x :: st, mem, 0) := q_s (.ok (.iload_n 1, 1)) (by decide +kernel) rfl
theorem r37_5 : pR X d 37 0 Q (5, L, .int z :: .int x :: st, mem, 0) = ((z ≤ x → pR X d 37 0 Q (38, L, st, mem, 0)) ∧ (¬ (z ≤ x) → pR X d 37 0 Q (8, L, st, mem, 0))) := r_ic (c := .ge) (off := 33) (by decide +kernel) (by decide)
theorem r37_8 : pR X d 37 0 Q (8, [some (.ref a), l1, l2, l3], st, mem, 0) = pR X d 37 0 Q (9, [some (.ref a), l1, l2, l3], .ref a :: st, mem, 0) := q_s (.ok (.aload_n 0, 1)) (by decide +kernel) rfl
theorem r37_9 : pR X d 37 0 Q (9, L, .ref a :: st, mem, 0) = gf mem a 0 2 (fun p => pR X d 37 0 Q (12, L, p :: st, mem, 0)) := q_get (ix := 18) (by decide +kernel) (by decide +kernel)
theorem r37_12 : pR X d 37 0 Q (12, L, .int x :: st, mem, 0) = ((x ≤ 0 → pR X d 37 0 Q (38, L, st, mem, 0)) ∧ (¬ (x ≤ 0) → pR X d 37 0 Q (15, L, st, mem, 0))) := r_if (c := .le) (off := 26) (by decide +kernel) (by decide)
theorem r37_15 : pR X d 37 0 Q (15, [some (.ref a), l1, l2, l3], st, mem, 0) = pR X d 37 0 Q (16, [some (.ref a), l1, l2, l3], .ref a :: st, mem, 0) := q_s (.ok (.aload_n 0, 1)) (by decide +kernel) rfl
theorem r37_16 : pR X d 37 0 Q (16, L, .ref a :: st, mem, 0) = pR X d 37 0 Q (17, L, .ref a :: .ref a :: st, mem, 0) := q_s (.ok (.dup, 1)) (by decide +kernel) rfl
theorem r37_17 : pR X d 37 0 Q (17, L, .ref a :: st, mem, 0) = gf mem a 0 2 (fun p => pR X d 37 0 Q (20, L, p :: st, mem, 0)) := q_get (ix := 18) (by decide +kernel) (by decide +kernel)
theorem r37_20 : pR X d 37 0 Q (20, L, st, mem, 0) = pR X d 37 0 Q (21, L, .int (iI (1)) :: st, mem, 0) := q_ic (by decide +kernel)
theorem r37_21 : pR X d 37 0 Q (21, L, .int z :: .int x :: st, mem, 0) = pR X d 37 0 Q (22, L, .int (x - z) :: st, mem, 0) := q_s (.ok (.isub, 1)) (by decide +kernel) rfl
theorem r37_22 : pR X d 37 0 Q (22, L, p :: .ref a :: st, mem, 0) = pf 37 mem a 0 2 p (fun mem => pR X d 37 0 Q (25, L, st, mem, 0)) := q_put (ix := 18) (by decide +kernel) (by decide +kernel) (by decide)
theorem r37_25 : pR X d 37 0 Q (25, [some (.ref a), l1, l2, l3], st, mem, 0) = pR X d 37 0 Q (26, [some (.ref a), l1, l2, l3], .ref a :: st, mem, 0) := q_s (.ok (.aload_n 0, 1)) (by decide +kernel) rfl
theorem r37_26 : pR X d 37 0 Q (26, L, .ref a :: st, mem, 0) = pR X d 37 0 Q (27, L, .ref a :: .ref a :: st, mem, 0) := q_s (.ok (.dup, 1)) (by decide +kernel) rfl
theorem r37_27 : pR X d 37 0 Q (27, L, .ref a :: st, mem, 0) = gf mem a 0 1 (fun p => pR X d 37 0 Q (30, L, p :: st, mem, 0)) := q_get (ix := 15) (by decide +kernel) (by decide +kernel)
theorem r37_30 : pR X d 37 0 Q (30, [l0, l1, some (.int x), l3], st, mem, 0) = pR X d 37 0 Q (31, [l0, l1, some (.int x), l3], .int x :: st, mem, 0) := q_s (.ok (.iload_n 2, 1)) (by decide +kernel) rfl
theorem r37_31 : pR X d 37 0 Q (31, L, .int z :: .int x :: st, mem, 0) = pR X d 37 0 Q (32, L, .int (x + z) :: st, mem, 0) := q_s (.ok (.iadd, 1)) (by decide +kernel) rfl
theorem r37_32 : pR X d 37 0 Q (32, L, p :: .ref a :: st, mem, 0) = pf 37 mem a 0 1 p (fun mem => pR X d 37 0 Q (35, L, st, mem, 0)) := q_put (ix := 15) (by decide +kernel) (by decide +kernel) (by decide)
theorem r37_35 : pR X d 37 0 Q (35, L, st, mem, 0) = pR X d 37 0 Q (0, L, st, mem, 0) := q_s (.ok (.goto (-35), 3)) (by decide +kernel) rfl
theorem r37_38 : pR X d 37 0 Q (38, [l0, some (.int x), l2, l3], st, mem, 0) = pR X d 37 0 Q (39, [l0, some (.int x), l2, l3], .int x :: st, mem, 0) := q_s (.ok (.iload_n 1, 1)) (by decide +kernel) rfl
theorem r37_39 : pR X d 37 0 Q (39, [some (.ref a), l1, l2, l3], st, mem, 0) = pR X d 37 0 Q (40, [some (.ref a), l1, l2, l3], .ref a :: st, mem, 0) := q_s (.ok (.aload_n 0, 1)) (by decide +kernel) rfl
theorem r37_40 : pR X d 37 0 Q (40, L, .ref a :: st, mem, 0) = gf mem a 0 1 (fun p => pR X d 37 0 Q (43, L, p :: st, mem, 0)) := q_get (ix := 15) (by decide +kernel) (by decide +kernel)
theorem r37_43 : pR X d 37 0 Q (43, L, .int z :: .int x :: st, mem, 0) = pR X d 37 0 Q (44, L, .int (x - z) :: st, mem, 0) := q_s (.ok (.isub, 1)) (by decide +kernel) rfl
theorem r37_44 : pR X d 37 0 Q (44, L, st, mem, 0) = pR X d 37 0 Q (45, L, .int (iI (0)) :: st, mem, 0) := q_ic (by decide +kernel)
theorem r37_45 (h1 : 1 ≤ d) : pR X d 37 0 Q (45, L, .int z :: .int x :: [], mem, 0) = pR X d 37 0 Q (48, L, .int (if x < z then z else x) :: [], mem, 0) := q_mx (ix := 30) (yy := 0) (by decide +kernel) (by decide +kernel) (Nat.le_of_ble_eq_true rfl) h1
theorem r37_48 : pR X d 37 0 Q (48, [l0, l1, l2, l3], .int x :: st, mem, 0) = pR X d 37 0 Q (49, [l0, l1, cl1 l2, some (.int x)], st, mem, 0) := q_s (.ok (.istore_n 3, 1)) (by decide +kernel) rfl
theorem r37_49 : pR X d 37 0 Q (49, [some (.ref a), l1, l2, l3], st, mem, 0) = pR X d 37 0 Q (50, [some (.ref a), l1, l2, l3], .ref a :: st, mem, 0) := q_s (.ok (.aload_n 0, 1)) (by decide +kernel) rfl
theorem r37_50 : pR X d 37 0 Q (50, [some (.ref a), l1, l2, l3], st, mem, 0) = pR X d 37 0 Q (51, [some (.ref a), l1, l2, l3], .ref a :: st, mem, 0) := q_s (.ok (.aload_n 0, 1)) (by decide +kernel) rfl
theorem r37_51 : pR X d 37 0 Q (51, L, .ref a :: st, mem, 0) = gf mem a 0 1 (fun p => pR X d 37 0 Q (54, L, p :: st, mem, 0)) := q_get (ix := 15) (by decide +kernel) (by decide +kernel)
theorem r37_54 : pR X d 37 0 Q (54, [l0, some (.int x), l2, l3], st, mem, 0) = pR X d 37 0 Q (55, [l0, some (.int x), l2, l3], .int x :: st, mem, 0) := q_s (.ok (.iload_n 1, 1)) (by decide +kernel) rfl
theorem r37_55 : pR X d 37 0 Q (55, L, .int z :: .int x :: st, mem, 0) = pR X d 37 0 Q (56, L, .int (x - z) :: st, mem, 0) := q_s (.ok (.isub, 1)) (by decide +kernel) rfl
theorem r37_56 : pR X d 37 0 Q (56, L, st, mem, 0) = pR X d 37 0 Q (57, L, .int (iI (0)) :: st, mem, 0) := q_ic (by decide +kernel)
theorem r37_57 (h1 : 1 ≤ d) : pR X d 37 0 Q (57, L, .int z :: .int x :: [.ref c0], mem, 0) = pR X d 37 0 Q (60, L, .int (if x < z then z else x) :: [.ref c0], mem, 0) := q_mx (ix := 30) (yy := 0) (by decide +kernel) (by decide +kernel) (Nat.le_of_ble_eq_true rfl) h1
theorem r37_60 : pR X d 37 0 Q (60, L, p :: .ref a :: st, mem, 0) = pf 37 mem a 0 1 p (fun mem => pR X d 37 0 Q (63, L, st, mem, 0)) := q_put (ix := 15) (by decide +kernel) (by decide +kernel) (by decide)
theorem r37_63 : pR X d 37 0 Q (63, [some (.ref a), l1, l2, l3], st, mem, 0) = pR X d 37 0 Q (64, [some (.ref a), l1, l2, l3], .ref a :: st, mem, 0) := q_s (.ok (.aload_n 0, 1)) (by decide +kernel) rfl
theorem r37_64 : pR X d 37 0 Q (64, [some (.ref a), l1, l2, l3], st, mem, 0) = pR X d 37 0 Q (65, [some (.ref a), l1, l2, l3], .ref a :: st, mem, 0) := q_s (.ok (.aload_n 0, 1)) (by decide +kernel) rfl
theorem r37_65 : pR X d 37 0 Q (65, L, .ref a :: st, mem, 0) = gf mem a 0 3 (fun p => pR X d 37 0 Q (68, L, p :: st, mem, 0)) := q_get (ix := 21) (by decide +kernel) (by decide +kernel)
theorem r37_68 : pR X d 37 0 Q (68, [l0, l1, l2, some (.int x)], st, mem, 0) = pR X d 37 0 Q (69, [l0, l1, l2, some (.int x)], .int x :: st, mem, 0) := q_s (.ok (.iload_n 3, 1)) (by decide +kernel) rfl
theorem r37_69 : pR X d 37 0 Q (69, L, .int z :: .int x :: st, mem, 0) = pR X d 37 0 Q (70, L, .int (x + z) :: st, mem, 0) := q_s (.ok (.iadd, 1)) (by decide +kernel) rfl
theorem r37_70 : pR X d 37 0 Q (70, L, st, mem, 0) = pR X d 37 0 Q (73, L, .int (iI (9999)) :: st, mem, 0) := q_si (n := 9999) (by decide +kernel) (by decide +kernel)
theorem r37_73 (h1 : 1 ≤ d) : pR X d 37 0 Q (73, L, .int z :: .int x :: [.ref c0], mem, 0) = pR X d 37 0 Q (76, L, .int (if z < x then z else x) :: [.ref c0], mem, 0) := q_mn (ix := 36) (yy := 0) (by decide +kernel) (by decide +kernel) (Nat.le_of_ble_eq_true rfl) h1
theorem r37_76 : pR X d 37 0 Q (76, L, p :: .ref a :: st, mem, 0) = pf 37 mem a 0 3 p (fun mem => pR X d 37 0 Q (79, L, st, mem, 0)) := q_put (ix := 21) (by decide +kernel) (by decide +kernel) (by decide)
theorem r37_79 : pR X d 37 0 Q (79, [some (.ref a), l1, l2, l3], st, mem, 0) = pR X d 37 0 Q (80, [some (.ref a), l1, l2, l3], .ref a :: st, mem, 0) := q_s (.ok (.aload_n 0, 1)) (by decide +kernel) rfl
theorem r37_80 : pR X d 37 0 Q (80, [some (.ref a), l1, l2, l3], st, mem, 0) = pR X d 37 0 Q (81, [some (.ref a), l1, l2, l3], .ref a :: st, mem, 0) := q_s (.ok (.aload_n 0, 1)) (by decide +kernel) rfl
theorem r37_81 : pR X d 37 0 Q (81, L, .ref a :: st, mem, 0) = gf mem a 0 5 (fun p => pR X d 37 0 Q (84, L, p :: st, mem, 0)) := q_get (ix := 27) (by decide +kernel) (by decide +kernel)
theorem r37_84 : pR X d 37 0 Q (84, L, st, mem, 0) = pR X d 37 0 Q (85, L, .int (iI (1)) :: st, mem, 0) := q_ic (by decide +kernel)
theorem r37_85 : pR X d 37 0 Q (85, L, .int z :: .int x :: st, mem, 0) = pR X d 37 0 Q (86, L, .int (x + z) :: st, mem, 0) := q_s (.ok (.iadd, 1)) (by decide +kernel) rfl
theorem r37_86 : pR X d 37 0 Q (86, L, st, mem, 0) = pR X d 37 0 Q (89, L, .int (iI (9999)) :: st, mem, 0) := q_si (n := 9999) (by decide +kernel) (by decide +kernel)
theorem r37_89 (h1 : 1 ≤ d) : pR X d 37 0 Q (89, L, .int z :: .int x :: [.ref c0], mem, 0) = pR X d 37 0 Q (92, L, .int (if z < x then z else x) :: [.ref c0], mem, 0) := q_mn (ix := 36) (yy := 0) (by decide +kernel) (by decide +kernel) (Nat.le_of_ble_eq_true rfl) h1
theorem r37_92 : pR X d 37 0 Q (92, L, p :: .ref a :: st, mem, 0) = pf 37 mem a 0 5 p (fun mem => pR X d 37 0 Q (95, L, st, mem, 0)) := q_put (ix := 27) (by decide +kernel) (by decide +kernel) (by decide)
theorem r37_95 : pR X d 37 0 Q (95, [l0, l1, l2, some (.int x)], st, mem, 0) = pR X d 37 0 Q (96, [l0, l1, l2, some (.int x)], .int x :: st, mem, 0) := q_s (.ok (.iload_n 3, 1)) (by decide +kernel) rfl
theorem r37_96 : pR X d 37 0 Q (96, L, [.int x], mem, 0) = Q (some (.int x)) mem := q_reti (by decide +kernel) rfl
theorem r38_0 : pR X d 38 0 Q (0, [some (.ref a), l1, l2, l3], st, mem, 0) = pR X d 38 0 Q (1, [some (.ref a), l1, l2, l3], .ref a :: st, mem, 0) := q_s (.ok (.aload_n 0, 1)) (by decide +kernel) rfl
theorem r38_1 : pR X d 38 0 Q (1, [some (.ref a), l1, l2, l3], st, mem, 0) = pR X d 38 0 Q (2, [some (.ref a), l1, l2, l3], .ref a :: st, mem, 0) := q_s (.ok (.aload_n 0, 1)) (by decide +kernel) rfl
theorem r38_2 : pR X d 38 0 Q (2, L, .ref a :: st, mem, 0) = gf mem a 0 4 (fun p => pR X d 38 0 Q (5, L, p :: st, mem, 0)) := q_get (ix := 24) (by decide +kernel) (by decide +kernel)
theorem r38_5 : pR X d 38 0 Q (5, L, st, mem, 0) = pR X d 38 0 Q (6, L, .int (iI (1)) :: st, mem, 0) := q_ic (by decide +kernel)
theorem r38_6 : pR X d 38 0 Q (6, L, .int z :: .int x :: st, mem, 0) = pR X d 38 0 Q (7, L, .int (x + z) :: st, mem, 0) := q_s (.ok (.iadd, 1)) (by decide +kernel) rfl
theorem r38_7 : pR X d 38 0 Q (7, L, st, mem, 0) = pR X d 38 0 Q (9, L, .int (iI (99)) :: st, mem, 0) := q_bi (n := 99) (by decide +kernel) (by decide +kernel)
theorem r38_9 (h1 : 1 ≤ d) : pR X d 38 0 Q (9, L, .int z :: .int x :: [.ref c0], mem, 0) = pR X d 38 0 Q (12, L, .int (if z < x then z else x) :: [.ref c0], mem, 0) := q_mn (ix := 36) (yy := 0) (by decide +kernel) (by decide +kernel) (Nat.le_of_ble_eq_true rfl) h1
theorem r38_12 : pR X d 38 0 Q (12, L, p :: .ref a :: st, mem, 0) = pf 38 mem a 0 4 p (fun mem => pR X d 38 0 Q (15, L, st, mem, 0)) := q_put (ix := 24) (by decide +kernel) (by decide +kernel) (by decide)
theorem r38_15 : pR X d 38 0 Q (15, [some (.ref a), l1, l2, l3], st, mem, 0) = pR X d 38 0 Q (16, [some (.ref a), l1, l2, l3], .ref a :: st, mem, 0) := q_s (.ok (.aload_n 0, 1)) (by decide +kernel) rfl
theorem r38_16 : pR X d 38 0 Q (16, [l0, some (.int x), l2, l3], st, mem, 0) = pR X d 38 0 Q (17, [l0, some (.int x), l2, l3], .int x :: st, mem, 0) := q_s (.ok (.iload_n 1, 1)) (by decide +kernel) rfl
theorem r38_17 : pR X d 38 0 Q (17, L, .int y0 :: .ref a :: [], mem, 0) = (prcv mem 0 a ∧ Cw X d 33 [.ref a, .int y0] mem (fun r mem => pR X d 38 0 Q (20, L, r.toList ++ [], mem, 0))) := q_virt (ix := 39) (y2 := 33) (as := [.int y0]) (by decide +kernel) (by decide +kernel) rfl rfl rfl (Nat.le_of_ble_eq_true rfl) (by decide)
theorem r38_20 : pR X d 38 0 Q (20, [l0, l1, some (.int x), l3], st, mem, 0) = pR X d 38 0 Q (21, [l0, l1, some (.int x), l3], .int x :: st, mem, 0) := q_s (.ok (.iload_n 2, 1)) (by decide +kernel) rfl
theorem r38_21 : pR X d 38 0 Q (21, L, .int z :: .int x :: st, mem, 0) = pR X d 38 0 Q (22, L, .int (x - z) :: st, mem, 0) := q_s (.ok (.isub, 1)) (by decide +kernel) rfl
theorem r38_22 : pR X d 38 0 Q (22, L, st, mem, 0) = pR X d 38 0 Q (23, L, .int (iI (0)) :: st, mem, 0) := q_ic (by decide +kernel)
theorem r38_23 (h1 : 1 ≤ d) : pR X d 38 0 Q (23, L, .int z :: .int x :: [], mem, 0) = pR X d 38 0 Q (26, L, .int (if x < z then z else x) :: [], mem, 0) := q_mx (ix := 30) (yy := 0) (by decide +kernel) (by decide +kernel) (Nat.le_of_ble_eq_true rfl) h1
theorem r38_26 : pR X d 38 0 Q (26, [l0, l1, l2, l3], .int x :: st, mem, 0) = pR X d 38 0 Q (27, [l0, l1, cl1 l2, some (.int x)], st, mem, 0) := q_s (.ok (.istore_n 3, 1)) (by decide +kernel) rfl
theorem r38_27 : pR X d 38 0 Q (27, [some (.ref a), l1, l2, l3], st, mem, 0) = pR X d 38 0 Q (28, [some (.ref a), l1, l2, l3], .ref a :: st, mem, 0) := q_s (.ok (.aload_n 0, 1)) (by decide +kernel) rfl
theorem r38_28 : pR X d 38 0 Q (28, [some (.ref a), l1, l2, l3], st, mem, 0) = pR X d 38 0 Q (29, [some (.ref a), l1, l2, l3], .ref a :: st, mem, 0) := q_s (.ok (.aload_n 0, 1)) (by decide +kernel) rfl
theorem r38_29 : pR X d 38 0 Q (29, L, .ref a :: st, mem, 0) = gf mem a 0 1 (fun p => pR X d 38 0 Q (32, L, p :: st, mem, 0)) := q_get (ix := 15) (by decide +kernel) (by decide +kernel)
theorem r38_32 : pR X d 38 0 Q (32, [l0, l1, l2, some (.int x)], st, mem, 0) = pR X d 38 0 Q (33, [l0, l1, l2, some (.int x)], .int x :: st, mem, 0) := q_s (.ok (.iload_n 3, 1)) (by decide +kernel) rfl
theorem r38_33 : pR X d 38 0 Q (33, L, .int z :: .int x :: st, mem, 0) = pR X d 38 0 Q (34, L, .int (x + z) :: st, mem, 0) := q_s (.ok (.iadd, 1)) (by decide +kernel) rfl
theorem r38_34 : pR X d 38 0 Q (34, L, st, mem, 0) = pR X d 38 0 Q (37, L, .int (iI (999)) :: st, mem, 0) := q_si (n := 999) (by decide +kernel) (by decide +kernel)
theorem r38_37 (h1 : 1 ≤ d) : pR X d 38 0 Q (37, L, .int z :: .int x :: [.ref c0], mem, 0) = pR X d 38 0 Q (40, L, .int (if z < x then z else x) :: [.ref c0], mem, 0) := q_mn (ix := 36) (yy := 0) (by decide +kernel) (by decide +kernel) (Nat.le_of_ble_eq_true rfl) h1
theorem r38_40 : pR X d 38 0 Q (40, L, p :: .ref a :: st, mem, 0) = pf 38 mem a 0 1 p (fun mem => pR X d 38 0 Q (43, L, st, mem, 0)) := q_put (ix := 15) (by decide +kernel) (by decide +kernel) (by decide)
theorem r38_43 : pR X d 38 0 Q (43, L, [], mem, 0) = Q none mem := q_retv (by decide +kernel) rfl
theorem r39_0 : pR X d 39 0 Q (0, [l0, some (.int x)], st, mem, 0) = pR X d 39 0 Q (1, [l0, some (.int x)], .int x :: st, mem, 0) := q_s (.ok (.iload_n 1, 1)) (by decide +kernel) rfl
theorem r39_1 : pR X d 39 0 Q (1, L, st, mem, 0) = pR X d 39 0 Q (2, L, .int (iI (1)) :: st, mem, 0) := q_ic (by decide +kernel)
theorem r39_2 : pR X d 39 0 Q (2, L, st, mem, 0) = pR X d 39 0 Q (4, L, .int (iI (60)) :: st, mem, 0) := q_bi (n := 60) (by decide +kernel) (by decide +kernel)
theorem r39_4 : pR X d 39 0 Q (4, L, .int y2 :: .int y1 :: .int y0 :: [], mem, 0) = Cw X d 7 [.int y0, .int y1, .int y2] mem (fun r mem => pR X d 39 0 Q (7, L, r.toList ++ [], mem, 0)) := q_stat (ix := 52) (kd := 1) (y2 := 7) (as := [.int y2, .int y1, .int y0]) (by decide +kernel) (by decide +kernel) (by decide) rfl rfl rfl (Nat.le_of_ble_eq_true rfl) (by decide)
theorem r39_7 : pR X d 39 0 Q (7, L, .int x :: st, mem, 0) = ((¬ x = 0 → pR X d 39 0 Q (16, L, st, mem, 0)) ∧ (¬ (¬ x = 0) → pR X d 39 0 Q (10, L, st, mem, 0))) := r_if (c := .ne) (off := 9) (by decide +kernel) (by decide)
theorem r39_10 : pR X d 39 0 Q (10, [some (.ref a), l1], st, mem, 0) = pR X d 39 0 Q (11, [some (.ref a), l1], .ref a :: st, mem, 0) := q_s (.ok (.aload_n 0, 1)) (by decide +kernel) rfl
theorem r39_11 : pR X d 39 0 Q (11, L, st, mem, 0) = pR X d 39 0 Q (12, L, .int (iI (0)) :: st, mem, 0) := q_ic (by decide +kernel)
theorem r39_12 : pR X d 39 0 Q (12, L, .int y0 :: .ref a :: [], mem, 0) = (prcv mem 4 a ∧ Cw X d 8 [.ref a, .int y0] mem (fun r mem => pR X d 39 0 Q (15, L, r.toList ++ [], mem, 0))) := q_virt (ix := 59) (y2 := 8) (as := [.int y0]) (by decide +kernel) (by decide +kernel) rfl rfl rfl (Nat.le_of_ble_eq_true rfl) (by decide)
theorem r39_15 : pR X d 39 0 Q (15, L, [.int x], mem, 0) = Q (some (.int x)) mem := q_reti (by decide +kernel) rfl
theorem r39_16 : pR X d 39 0 Q (16, [some (.ref a), l1], st, mem, 0) = pR X d 39 0 Q (17, [some (.ref a), l1], .ref a :: st, mem, 0) := q_s (.ok (.aload_n 0, 1)) (by decide +kernel) rfl
theorem r39_17 : pR X d 39 0 Q (17, L, .ref a :: st, mem, 0) = gf mem a 4 0 (fun p => pR X d 39 0 Q (20, L, p :: st, mem, 0)) := q_get (ix := 10) (by decide +kernel) (by decide +kernel)
theorem r39_20 : pR X d 39 0 Q (20, L, .ref a :: st, mem, 0) = gf mem a 3 2 (fun p => pR X d 39 0 Q (23, L, p :: st, mem, 0)) := q_get (ix := 122) (by decide +kernel) (by decide +kernel)
theorem r39_23 : pR X d 39 0 Q (23, [l0, some (.int x)], st, mem, 0) = pR X d 39 0 Q (24, [l0, some (.int x)], .int x :: st, mem, 0) := q_s (.ok (.iload_n 1, 1)) (by decide +kernel) rfl
theorem r39_24 : pR X d 39 0 Q (24, L, .int z :: .int x :: st, mem, 0) = pR X d 39 0 Q (25, L, .int (x + z) :: st, mem, 0) := q_s (.ok (.iadd, 1)) (by decide +kernel) rfl
theorem r39_25 : pR X d 39 0 Q (25, L, st, mem, 0) = pR X d 39 0 Q (27, L, .int (iI (99999)) :: st, mem, 0) := q_ldc (k := 125) (by decide +kernel) (by decide +kernel)
theorem r39_27 : pR X d 39 0 Q (27, L, .int z :: .int x :: st, mem, 0) = ((x ≤ z → pR X d 39 0 Q (36, L, st, mem, 0)) ∧ (¬ (x ≤ z) → pR X d 39 0 Q (30, L, st, mem, 0))) := r_ic (c := .le) (off := 9) (by decide +kernel) (by decide)
theorem r39_30 : pR X d 39 0 Q (30, [some (.ref a), l1], st, mem, 0) = pR X d 39 0 Q (31, [some (.ref a), l1], .ref a :: st, mem, 0) := q_s (.ok (.aload_n 0, 1)) (by decide +kernel) rfl
theorem r39_31 : pR X d 39 0 Q (31, L, st, mem, 0) = pR X d 39 0 Q (32, L, .int (iI (4)) :: st, mem, 0) := q_ic (by decide +kernel)
theorem r39_32 : pR X d 39 0 Q (32, L, .int y0 :: .ref a :: [], mem, 0) = (prcv mem 4 a ∧ Cw X d 8 [.ref a, .int y0] mem (fun r mem => pR X d 39 0 Q (35, L, r.toList ++ [], mem, 0))) := q_virt (ix := 59) (y2 := 8) (as := [.int y0]) (by decide +kernel) (by decide +kernel) rfl rfl rfl (Nat.le_of_ble_eq_true rfl) (by decide)
theorem r39_35 : pR X d 39 0 Q (35, L, [.int x], mem, 0) = Q (some (.int x)) mem := q_reti (by decide +kernel) rfl
theorem r39_36 : pR X d 39 0 Q (36, [some (.ref a), l1], st, mem, 0) = pR X d 39 0 Q (37, [some (.ref a), l1], .ref a :: st, mem, 0) := q_s (.ok (.aload_n 0, 1)) (by decide +kernel) rfl
theorem r39_37 : pR X d 39 0 Q (37, L, .ref a :: st, mem, 0) = gf mem a 4 0 (fun p => pR X d 39 0 Q (40, L, p :: st, mem, 0)) := q_get (ix := 10) (by decide +kernel) (by decide +kernel)
theorem r39_40 : pR X d 39 0 Q (40, [l0, some (.int x)], st, mem, 0) = pR X d 39 0 Q (41, [l0, some (.int x)], .int x :: st, mem, 0) := q_s (.ok (.iload_n 1, 1)) (by decide +kernel) rfl
theorem r39_41 : pR X d 39 0 Q (41, L, .int y0 :: .ref a :: [], mem, 0) = (prcv mem 3 a ∧ Cw X d 40 [.ref a, .int y0] mem (fun r mem => pR X d 39 0 Q (44, L, r.toList ++ [], mem, 0))) := q_virt (ix := 126) (y2 := 40) (as := [.int y0]) (by decide +kernel) (by decide +kernel) rfl rfl rfl (Nat.le_of_ble_eq_true rfl) (by decide)
theorem r39_44 : pR X d 39 0 Q (44, [some (.ref a), l1], st, mem, 0) = pR X d 39 0 Q (45, [some (.ref a), l1], .ref a :: st, mem, 0) := q_s (.ok (.aload_n 0, 1)) (by decide +kernel) rfl
theorem r39_45 : pR X d 39 0 Q (45, L, .ref a :: st, mem, 0) = gf mem a 4 0 (fun p => pR X d 39 0 Q (48, L, p :: st, mem, 0)) := q_get (ix := 10) (by decide +kernel) (by decide +kernel)
theorem r39_48 : pR X d 39 0 Q (48, L, .ref a :: [], mem, 0) = (prcv mem 3 a ∧ Cw X d 47 [.ref a] mem (fun r mem => pR X d 39 0 Q (51, L, r.toList ++ [], mem, 0))) := q_virt (ix := 130) (y2 := 47) (as := []) (by decide +kernel) (by decide +kernel) rfl rfl rfl (Nat.le_of_ble_eq_true rfl) (by decide)
theorem r39_51 : pR X d 39 0 Q (51, L, [.int x], mem, 0) = Q (some (.int x)) mem := q_reti (by decide +kernel) rfl
theorem r40_0 : pR X d 40 0 Q (0, L, st, mem, 0) = pR X d 40 0 Q (1, L, .int (iI (0)) :: st, mem, 0) := q_ic (by decide +kernel)
theorem r40_1 : pR X d 40 0 Q (1, [l0, l1, l2], .int x :: st, mem, 0) = pR X d 40 0 Q (2, [l0, cl1 l1, some (.int x)], st, mem, 0) := q_s (.ok (.istore_n 2, 1)) (by decide +kernel) rfl
theorem r40_2 : pR X d 40 0 Q (2, [l0, l1, some (.int x)], st, mem, 0) = pR X d 40 0 Q (3, [l0, l1, some (.int x)], .int x :: st, mem, 0) := q_s (.ok (.iload_n 2, 1)) (by decide +kernel) rfl
theorem r40_3 : pR X d 40 0 Q (3, [l0, some (.int x), l2], st, mem, 0) = pR X d 40 0 Q (4, [l0, some (.int x), l2], .int x :: st, mem, 0) := q_s (.ok (.iload_n 1, 1)) (by decide +kernel) rfl
theorem r40_4 : pR X d 40 0 Q (4, L, .int z :: .int x :: st, mem, 0) = ((z ≤ x → pR X d 40 0 Q (17, L, st, mem, 0)) ∧ (¬ (z ≤ x) → pR X d 40 0 Q (7, L, st, mem, 0))) := r_ic (c := .ge) (off := 13) (by decide +kernel) (by decide)
theorem r40_7 : pR X d 40 0 Q (7, [some (.ref a), l1, l2], st, mem, 0) = pR X d 40 0 Q (8, [some (.ref a), l1, l2], .ref a :: st, mem, 0) := q_s (.ok (.aload_n 0, 1)) (by decide +kernel) rfl
theorem r40_8 : pR X d 40 0 Q (8, L, .ref a :: [], mem, 0) = (prcv mem 3 a ∧ Cw X d 41 [.ref a] mem (fun r mem => pR X d 40 0 Q (11, L, r.toList ++ [], mem, 0))) := q_virt (ix := 98) (y2 := 41) (as := []) (by decide +kernel) (by decide +kernel) rfl rfl rfl (Nat.le_of_ble_eq_true rfl) (by decide)
theorem r40_11 : pR X d 40 0 Q (11, [l0, l1, some (.int x)], st, mem, 0) = pR X d 40 0 Q (14, [l0, cl1 l1, some (.int (x + iI (1)))], st, mem, 0) := q_s (.ok (.iinc 2 (1), 3)) (by decide +kernel) rfl
theorem r40_14 : pR X d 40 0 Q (14, L, st, mem, 0) = pR X d 40 0 Q (2, L, st, mem, 0) := q_s (.ok (.goto (-12), 3)) (by decide +kernel) rfl
theorem r40_17 : pR X d 40 0 Q (17, L, [], mem, 0) = Q none mem := q_retv (by decide +kernel) rfl
theorem r41_0 : pR X d 41 0 Q (0, [some (.ref a), l1, l2, l3, l4], st, mem, 0) = pR X d 41 0 Q (1, [some (.ref a), l1, l2, l3, l4], .ref a :: st, mem, 0) := q_s (.ok (.aload_n 0, 1)) (by decide +kernel) rfl
theorem r41_1 : pR X d 41 0 Q (1, L, .ref a :: st, mem, 0) = gf mem a 3 6 (fun p => pR X d 41 0 Q (4, L, p :: st, mem, 0)) := q_get (ix := 33) (by decide +kernel) (by decide +kernel)
theorem r41_4 : pR X d 41 0 Q (4, [some (.ref a), l1, l2, l3, l4], st, mem, 0) = pR X d 41 0 Q (5, [some (.ref a), l1, l2, l3, l4], .ref a :: st, mem, 0) := q_s (.ok (.aload_n 0, 1)) (by decide +kernel) rfl
theorem r41_5 : pR X d 41 0 Q (5, L, .ref a :: [.ref c0], mem, 0) = (prcv mem 3 a ∧ Cw X d 42 [.ref a] mem (fun r mem => pR X d 41 0 Q (8, L, r.toList ++ [.ref c0], mem, 0))) := q_virt (ix := 101) (y2 := 42) (as := []) (by decide +kernel) (by decide +kernel) rfl rfl rfl (Nat.le_of_ble_eq_true rfl) (by decide)
theorem r41_8 : pR X d 41 0 Q (8, L, .int x :: .ref a :: st, mem, 0) = ri X mem a x (fun z => pR X d 41 0 Q (9, L, .int z :: st, mem, 0)) := q_ri (by decide +kernel)
theorem r41_9 : pR X d 41 0 Q (9, [l0, l1, l2, l3, l4], .int x :: st, mem, 0) = pR X d 41 0 Q (10, [cl1 l0, some (.int x), l2, l3, l4], st, mem, 0) := q_s (.ok (.istore_n 1, 1)) (by decide +kernel) rfl
theorem r41_10 : pR X d 41 0 Q (10, [l0, some (.int x), l2, l3, l4], st, mem, 0) = pR X d 41 0 Q (11, [l0, some (.int x), l2, l3, l4], .int x :: st, mem, 0) := q_s (.ok (.iload_n 1, 1)) (by decide +kernel) rfl
theorem r41_11 : pR X d 41 0 Q (11, L, .int y0 :: [], mem, 0) = Cw X d 43 [.int y0] mem (fun r mem => pR X d 41 0 Q (14, L, r.toList ++ [], mem, 0)) := q_stat (ix := 105) (kd := 2) (y2 := 43) (as := [.int y0]) (by decide +kernel) (by decide +kernel) (by decide) rfl rfl rfl (Nat.le_of_ble_eq_true rfl) (by decide)
theorem r41_14 : pR X d 41 0 Q (14, [l0, l1, l2, l3, l4], .int x :: st, mem, 0) = pR X d 41 0 Q (15, [l0, cl1 l1, some (.int x), l3, l4], st, mem, 0) := q_s (.ok (.istore_n 2, 1)) (by decide +kernel) rfl
theorem r41_15 : pR X d 41 0 Q (15, [l0, some (.int x), l2, l3, l4], st, mem, 0) = pR X d 41 0 Q (16, [l0, some (.int x), l2, l3, l4], .int x :: st, mem, 0) := q_s (.ok (.iload_n 1, 1)) (by decide +kernel) rfl
theorem r41_16 : pR X d 41 0 Q (16, L, .int y0 :: [], mem, 0) = Cw X d 12 [.int y0] mem (fun r mem => pR X d 41 0 Q (19, L, r.toList ++ [], mem, 0)) := q_stat (ix := 108) (kd := 2) (y2 := 12) (as := [.int y0]) (by decide +kernel) (by decide +kernel) (by decide) rfl rfl rfl (Nat.le_of_ble_eq_true rfl) (by decide)
theorem r41_19 : pR X d 41 0 Q (19, [l0, l1, l2, l3, l4], .int x :: st, mem, 0) = pR X d 41 0 Q (20, [l0, l1, cl1 l2, some (.int x), l4], st, mem, 0) := q_s (.ok (.istore_n 3, 1)) (by decide +kernel) rfl
theorem r41_20 : pR X d 41 0 Q (20, [l0, some (.int x), l2, l3, l4], st, mem, 0) = pR X d 41 0 Q (21, [l0, some (.int x), l2, l3, l4], .int x :: st, mem, 0) := q_s (.ok (.iload_n 1, 1)) (by decide +kernel) rfl
theorem r41_21 : pR X d 41 0 Q (21, L, .int y0 :: [], mem, 0) = Cw X d 44 [.int y0] mem (fun r mem => pR X d 41 0 Q (24, L, r.toList ++ [], mem, 0)) := q_stat (ix := 82) (kd := 2) (y2 := 44) (as := [.int y0]) (by decide +kernel) (by decide +kernel) (by decide) rfl rfl rfl (Nat.le_of_ble_eq_true rfl) (by decide)
theorem r41_24 : pR X d 41 0 Q (24, L, .int x :: st, mem, 0) = ((x ≤ 0 → pR X d 41 0 Q (47, L, st, mem, 0)) ∧ (¬ (x ≤ 0) → pR X d 41 0 Q (27, L, st, mem, 0))) := r_if (c := .le) (off := 23) (by decide +kernel) (by decide)
theorem r41_27 : pR X d 41 0 Q (27, [some (.ref a), l1, l2, l3, l4], st, mem, 0) = pR X d 41 0 Q (28, [some (.ref a), l1, l2, l3, l4], .ref a :: st, mem, 0) := q_s (.ok (.aload_n 0, 1)) (by decide +kernel) rfl
theorem r41_28 : pR X d 41 0 Q (28, [l0, l1, some (.int x), l3, l4], st, mem, 0) = pR X d 41 0 Q (29, [l0, l1, some (.int x), l3, l4], .int x :: st, mem, 0) := q_s (.ok (.iload_n 2, 1)) (by decide +kernel) rfl
theorem r41_29 : pR X d 41 0 Q (29, [l0, l1, l2, some (.int x), l4], st, mem, 0) = pR X d 41 0 Q (30, [l0, l1, l2, some (.int x), l4], .int x :: st, mem, 0) := q_s (.ok (.iload_n 3, 1)) (by decide +kernel) rfl
theorem r41_30 : pR X d 41 0 Q (30, L, .int y1 :: .int y0 :: .ref a :: [], mem, 0) = (prcv mem 3 a ∧ Cw X d 35 [.ref a, .int y0, .int y1] mem (fun r mem => pR X d 41 0 Q (33, L, r.toList ++ [], mem, 0))) := q_virt (ix := 111) (y2 := 35) (as := [.int y1, .int y0]) (by decide +kernel) (by decide +kernel) rfl rfl rfl (Nat.le_of_ble_eq_true rfl) (by decide)
theorem r41_33 : pR X d 41 0 Q (33, L, .int x :: st, mem, 0) = ((x = 0 → pR X d 41 0 Q (47, L, st, mem, 0)) ∧ (¬ (x = 0) → pR X d 41 0 Q (36, L, st, mem, 0))) := r_if (c := .eq) (off := 14) (by decide +kernel) (by decide)
theorem r41_36 : pR X d 41 0 Q (36, [some (.ref a), l1, l2, l3, l4], st, mem, 0) = pR X d 41 0 Q (37, [some (.ref a), l1, l2, l3, l4], .ref a :: st, mem, 0) := q_s (.ok (.aload_n 0, 1)) (by decide +kernel) rfl
theorem r41_37 : pR X d 41 0 Q (37, [l0, l1, some (.int x), l3, l4], st, mem, 0) = pR X d 41 0 Q (38, [l0, l1, some (.int x), l3, l4], .int x :: st, mem, 0) := q_s (.ok (.iload_n 2, 1)) (by decide +kernel) rfl
theorem r41_38 : pR X d 41 0 Q (38, [l0, l1, l2, some (.int x), l4], st, mem, 0) = pR X d 41 0 Q (39, [l0, l1, l2, some (.int x), l4], .int x :: st, mem, 0) := q_s (.ok (.iload_n 3, 1)) (by decide +kernel) rfl
theorem r41_39 : pR X d 41 0 Q (39, [l0, some (.int x), l2, l3, l4], st, mem, 0) = pR X d 41 0 Q (40, [l0, some (.int x), l2, l3, l4], .int x :: st, mem, 0) := q_s (.ok (.iload_n 1, 1)) (by decide +kernel) rfl
theorem r41_40 : pR X d 41 0 Q (40, L, .int y0 :: [.int k0, .int k1, .ref c2], mem, 0) = Cw X d 44 [.int y0] mem (fun r mem => pR X d 41 0 Q (43, L, r.toList ++ [.int k0, .int k1, .ref c2], mem, 0)) := q_stat (ix := 82) (kd := 2) (y2 := 44) (as := [.int y0]) (by decide +kernel) (by decide +kernel) (by decide) rfl rfl rfl (Nat.le_of_ble_eq_true rfl) (by decide)
theorem r41_43 : pR X d 41 0 Q (43, L, .int y2 :: .int y1 :: .int y0 :: .ref a :: [], mem, 0) = (prcv mem 3 a ∧ Cw X d 36 [.ref a, .int y0, .int y1, .int y2] mem (fun r mem => pR X d 41 0 Q (46, L, r.toList ++ [], mem, 0))) := q_virt (ix := 115) (y2 := 36) (as := [.int y2, .int y1, .int y0]) (by decide +kernel) (by decide +kernel) rfl rfl rfl (Nat.le_of_ble_eq_true rfl) (by decide)
theorem r41_46 : pR X d 41 0 Q (46, L, .int x :: st, mem, 0) = pR X d 41 0 Q (47, L, st, mem, 0) := q_s (.ok (.pop, 1)) (by decide +kernel) rfl
theorem r41_47 : pR X d 41 0 Q (47, L, st, mem, 0) = pR X d 41 0 Q (48, L, .int (iI (0)) :: st, mem, 0) := q_ic (by decide +kernel)
theorem r41_48 : pR X d 41 0 Q (48, [l0, l1, l2, l3, l4], .int x :: st, mem, 0) = pR X d 41 0 Q (50, [l0, l1, l2, cl1 l3, some (.int x)], st, mem, 0) := q_s (.ok (.istore 4, 2)) (by decide +kernel) rfl
theorem r41_50 : pR X d 41 0 Q (50, [l0, l1, l2, l3, some (.int x)], st, mem, 0) = pR X d 41 0 Q (52, [l0, l1, l2, l3, some (.int x)], .int x :: st, mem, 0) := q_s (.ok (.iload 4, 2)) (by decide +kernel) rfl
theorem r41_52 : pR X d 41 0 Q (52, [some (.ref a), l1, l2, l3, l4], st, mem, 0) = pR X d 41 0 Q (53, [some (.ref a), l1, l2, l3, l4], .ref a :: st, mem, 0) := q_s (.ok (.aload_n 0, 1)) (by decide +kernel) rfl
theorem r41_53 : pR X d 41 0 Q (53, L, .ref a :: st, mem, 0) = gf mem a 3 4 (fun p => pR X d 41 0 Q (56, L, p :: st, mem, 0)) := q_get (ix := 24) (by decide +kernel) (by decide +kernel)
theorem r41_56 : pR X d 41 0 Q (56, L, .int z :: .int x :: st, mem, 0) = ((z ≤ x → pR X d 41 0 Q (110, L, st, mem, 0)) ∧ (¬ (z ≤ x) → pR X d 41 0 Q (59, L, st, mem, 0))) := r_ic (c := .ge) (off := 54) (by decide +kernel) (by decide)
theorem r41_59 : pR X d 41 0 Q (59, [some (.ref a), l1, l2, l3, l4], st, mem, 0) = pR X d 41 0 Q (60, [some (.ref a), l1, l2, l3, l4], .ref a :: st, mem, 0) := q_s (.ok (.aload_n 0, 1)) (by decide +kernel) rfl
theorem r41_60 : pR X d 41 0 Q (60, L, .ref a :: st, mem, 0) = gf mem a 3 5 (fun p => pR X d 41 0 Q (63, L, p :: st, mem, 0)) := q_get (ix := 29) (by decide +kernel) (by decide +kernel)
theorem r41_63 : pR X d 41 0 Q (63, [l0, l1, l2, l3, some (.int x)], st, mem, 0) = pR X d 41 0 Q (65, [l0, l1, l2, l3, some (.int x)], .int x :: st, mem, 0) := q_s (.ok (.iload 4, 2)) (by decide +kernel) rfl
theorem r41_65 : pR X d 41 0 Q (65, L, .int x :: .ref a :: st, mem, 0) = ra mem a x (fun b => pR X d 41 0 Q (66, L, .ref b :: st, mem, 0)) := q_ra (by decide +kernel)
theorem r41_66 : pR X d 41 0 Q (66, [some (.ref a), l1, l2, l3, l4], st, mem, 0) = pR X d 41 0 Q (67, [some (.ref a), l1, l2, l3, l4], .ref a :: st, mem, 0) := q_s (.ok (.aload_n 0, 1)) (by decide +kernel) rfl
theorem r41_67 : pR X d 41 0 Q (67, L, .ref a :: st, mem, 0) = gf mem a 3 2 (fun p => pR X d 41 0 Q (70, L, p :: st, mem, 0)) := q_get (ix := 18) (by decide +kernel) (by decide +kernel)
theorem r41_70 : pR X d 41 0 Q (70, L, .int y0 :: .ref a :: [], mem, 0) = (prcv mem 0 a ∧ Cw X d 45 [.ref a, .int y0] mem (fun r mem => pR X d 41 0 Q (73, L, r.toList ++ [], mem, 0))) := q_virt (ix := 119) (y2 := 45) (as := [.int y0]) (by decide +kernel) (by decide +kernel) rfl rfl rfl (Nat.le_of_ble_eq_true rfl) (by decide)
theorem r41_73 : pR X d 41 0 Q (73, [some (.ref a), l1, l2, l3, l4], st, mem, 0) = pR X d 41 0 Q (74, [some (.ref a), l1, l2, l3, l4], .ref a :: st, mem, 0) := q_s (.ok (.aload_n 0, 1)) (by decide +kernel) rfl
theorem r41_74 : pR X d 41 0 Q (74, L, .ref a :: st, mem, 0) = gf mem a 3 5 (fun p => pR X d 41 0 Q (77, L, p :: st, mem, 0)) := q_get (ix := 29) (by decide +kernel) (by decide +kernel)
theorem r41_77 : pR X d 41 0 Q (77, [l0, l1, l2, l3, some (.int x)], st, mem, 0) = pR X d 41 0 Q (79, [l0, l1, l2, l3, some (.int x)], .int x :: st, mem, 0) := q_s (.ok (.iload 4, 2)) (by decide +kernel) rfl
theorem r41_79 : pR X d 41 0 Q (79, L, .int x :: .ref a :: st, mem, 0) = ra mem a x (fun b => pR X d 41 0 Q (80, L, .ref b :: st, mem, 0)) := q_ra (by decide +kernel)
theorem r41_80 : pR X d 41 0 Q (80, L, .ref a :: st, mem, 0) = gf mem a 0 0 (fun p => pR X d 41 0 Q (83, L, p :: st, mem, 0)) := q_get (ix := 123) (by decide +kernel) (by decide +kernel)
theorem r41_83 : pR X d 41 0 Q (83, L, st, mem, 0) = pR X d 41 0 Q (85, L, .int (iI (6)) :: st, mem, 0) := q_bi (n := 6) (by decide +kernel) (by decide +kernel)
theorem r41_85 : pR X d 41 0 Q (85, L, .int z :: .int x :: st, mem, 0) = ((¬ x = z → pR X d 41 0 Q (104, L, st, mem, 0)) ∧ (¬ (¬ x = z) → pR X d 41 0 Q (88, L, st, mem, 0))) := r_ic (c := .ne) (off := 19) (by decide +kernel) (by decide)
theorem r41_88 : pR X d 41 0 Q (88, [some (.ref a), l1, l2, l3, l4], st, mem, 0) = pR X d 41 0 Q (89, [some (.ref a), l1, l2, l3, l4], .ref a :: st, mem, 0) := q_s (.ok (.aload_n 0, 1)) (by decide +kernel) rfl
theorem r41_89 : pR X d 41 0 Q (89, [some (.ref a), l1, l2, l3, l4], st, mem, 0) = pR X d 41 0 Q (90, [some (.ref a), l1, l2, l3, l4], .ref a :: st, mem, 0) := q_s (.ok (.aload_n 0, 1)) (by decide +kernel) rfl
theorem r41_90 : pR X d 41 0 Q (90, L, .ref a :: st, mem, 0) = gf mem a 3 1 (fun p => pR X d 41 0 Q (93, L, p :: st, mem, 0)) := q_get (ix := 15) (by decide +kernel) (by decide +kernel)
theorem r41_93 : pR X d 41 0 Q (93, L, st, mem, 0) = pR X d 41 0 Q (94, L, .int (iI (5)) :: st, mem, 0) := q_ic (by decide +kernel)
theorem r41_94 : pR X d 41 0 Q (94, L, .int z :: .int x :: st, mem, 0) = pR X d 41 0 Q (95, L, .int (x + z) :: st, mem, 0) := q_s (.ok (.iadd, 1)) (by decide +kernel) rfl
theorem r41_95 : pR X d 41 0 Q (95, L, st, mem, 0) = pR X d 41 0 Q (98, L, .int (iI (9999)) :: st, mem, 0) := q_si (n := 9999) (by decide +kernel) (by decide +kernel)
theorem r41_98 (h1 : 1 ≤ d) : pR X d 41 0 Q (98, L, .int z :: .int x :: [.ref c0], mem, 0) = pR X d 41 0 Q (101, L, .int (if z < x then z else x) :: [.ref c0], mem, 0) := q_mn (ix := 126) (yy := 0) (by decide +kernel) (by decide +kernel) (Nat.le_of_ble_eq_true rfl) h1
theorem r41_101 : pR X d 41 0 Q (101, L, p :: .ref a :: st, mem, 0) = pf 41 mem a 3 1 p (fun mem => pR X d 41 0 Q (104, L, st, mem, 0)) := q_put (ix := 15) (by decide +kernel) (by decide +kernel) (by decide)
theorem r41_104 : pR X d 41 0 Q (104, [l0, l1, l2, l3, some (.int x)], st, mem, 0) = pR X d 41 0 Q (107, [l0, l1, l2, cl1 l3, some (.int (x + iI (1)))], st, mem, 0) := q_s (.ok (.iinc 4 (1), 3)) (by decide +kernel) rfl
theorem r41_107 : pR X d 41 0 Q (107, L, st, mem, 0) = pR X d 41 0 Q (50, L, st, mem, 0) := q_s (.ok (.goto (-57), 3)) (by decide +kernel) rfl
theorem r41_110 : pR X d 41 0 Q (110, L, st, mem, 0) = pR X d 41 0 Q (111, L, .int (iI (0)) :: st, mem, 0) := q_ic (by decide +kernel)
theorem r41_111 : pR X d 41 0 Q (111, [l0, l1, l2, l3, l4], .int x :: st, mem, 0) = pR X d 41 0 Q (113, [l0, l1, l2, cl1 l3, some (.int x)], st, mem, 0) := q_s (.ok (.istore 4, 2)) (by decide +kernel) rfl
theorem r41_113 : pR X d 41 0 Q (113, [l0, l1, l2, l3, some (.int x)], st, mem, 0) = pR X d 41 0 Q (115, [l0, l1, l2, l3, some (.int x)], .int x :: st, mem, 0) := q_s (.ok (.iload 4, 2)) (by decide +kernel) rfl
theorem r41_115 : pR X d 41 0 Q (115, [some (.ref a), l1, l2, l3, l4], st, mem, 0) = pR X d 41 0 Q (116, [some (.ref a), l1, l2, l3, l4], .ref a :: st, mem, 0) := q_s (.ok (.aload_n 0, 1)) (by decide +kernel) rfl
theorem r41_116 : pR X d 41 0 Q (116, L, .ref a :: st, mem, 0) = gf mem a 3 4 (fun p => pR X d 41 0 Q (119, L, p :: st, mem, 0)) := q_get (ix := 24) (by decide +kernel) (by decide +kernel)
theorem r41_119 : pR X d 41 0 Q (119, L, .int z :: .int x :: st, mem, 0) = ((z ≤ x → pR X d 41 0 Q (142, L, st, mem, 0)) ∧ (¬ (z ≤ x) → pR X d 41 0 Q (122, L, st, mem, 0))) := r_ic (c := .ge) (off := 23) (by decide +kernel) (by decide)
theorem r41_122 : pR X d 41 0 Q (122, [some (.ref a), l1, l2, l3, l4], st, mem, 0) = pR X d 41 0 Q (123, [some (.ref a), l1, l2, l3, l4], .ref a :: st, mem, 0) := q_s (.ok (.aload_n 0, 1)) (by decide +kernel) rfl
theorem r41_123 : pR X d 41 0 Q (123, L, .ref a :: st, mem, 0) = gf mem a 3 5 (fun p => pR X d 41 0 Q (126, L, p :: st, mem, 0)) := q_get (ix := 29) (by decide +kernel) (by decide +kernel)
theorem r41_126 : pR X d 41 0 Q (126, [l0, l1, l2, l3, some (.int x)], st, mem, 0) = pR X d 41 0 Q (128, [l0, l1, l2, l3, some (.int x)], .int x :: st, mem, 0) := q_s (.ok (.iload 4, 2)) (by decide +kernel) rfl
theorem r41_128 : pR X d 41 0 Q (128, L, .int x :: .ref a :: st, mem, 0) = ra mem a x (fun b => pR X d 41 0 Q (129, L, .ref b :: st, mem, 0)) := q_ra (by decide +kernel)
theorem r41_129 : pR X d 41 0 Q (129, [some (.ref a), l1, l2, l3, l4], st, mem, 0) = pR X d 41 0 Q (130, [some (.ref a), l1, l2, l3, l4], .ref a :: st, mem, 0) := q_s (.ok (.aload_n 0, 1)) (by decide +kernel) rfl
theorem r41_130 : pR X d 41 0 Q (130, L, .ref a :: st, mem, 0) = gf mem a 3 0 (fun p => pR X d 41 0 Q (133, L, p :: st, mem, 0)) := q_get (ix := 9) (by decide +kernel) (by decide +kernel)
theorem r41_133 : pR X d 41 0 Q (133, L, .int y0 :: .ref a :: [], mem, 0) = (prcv mem 0 a ∧ Cw X d 46 [.ref a, .int y0] mem (fun r mem => pR X d 41 0 Q (136, L, r.toList ++ [], mem, 0))) := q_virt (ix := 131) (y2 := 46) (as := [.int y0]) (by decide +kernel) (by decide +kernel) rfl rfl rfl (Nat.le_of_ble_eq_true rfl) (by decide)
theorem r41_136 : pR X d 41 0 Q (136, [l0, l1, l2, l3, some (.int x)], st, mem, 0) = pR X d 41 0 Q (139, [l0, l1, l2, cl1 l3, some (.int (x + iI (1)))], st, mem, 0) := q_s (.ok (.iinc 4 (1), 3)) (by decide +kernel) rfl
theorem r41_139 : pR X d 41 0 Q (139, L, st, mem, 0) = pR X d 41 0 Q (113, L, st, mem, 0) := q_s (.ok (.goto (-26), 3)) (by decide +kernel) rfl
theorem r41_142 : pR X d 41 0 Q (142, [some (.ref a), l1, l2, l3, l4], st, mem, 0) = pR X d 41 0 Q (143, [some (.ref a), l1, l2, l3, l4], .ref a :: st, mem, 0) := q_s (.ok (.aload_n 0, 1)) (by decide +kernel) rfl
theorem r41_143 : pR X d 41 0 Q (143, [some (.ref a), l1, l2, l3, l4], st, mem, 0) = pR X d 41 0 Q (144, [some (.ref a), l1, l2, l3, l4], .ref a :: st, mem, 0) := q_s (.ok (.aload_n 0, 1)) (by decide +kernel) rfl
theorem r41_144 : pR X d 41 0 Q (144, L, .ref a :: st, mem, 0) = gf mem a 3 2 (fun p => pR X d 41 0 Q (147, L, p :: st, mem, 0)) := q_get (ix := 18) (by decide +kernel) (by decide +kernel)
theorem r41_147 : pR X d 41 0 Q (147, L, st, mem, 0) = pR X d 41 0 Q (148, L, .int (iI (1)) :: st, mem, 0) := q_ic (by decide +kernel)
theorem r41_148 : pR X d 41 0 Q (148, L, .int z :: .int x :: st, mem, 0) = pR X d 41 0 Q (149, L, .int (x + z) :: st, mem, 0) := q_s (.ok (.iadd, 1)) (by decide +kernel) rfl
theorem r41_149 : pR X d 41 0 Q (149, L, st, mem, 0) = pR X d 41 0 Q (151, L, .int (iI (99999)) :: st, mem, 0) := q_ldc (k := 134) (by decide +kernel) (by decide +kernel)
theorem r41_151 (h1 : 1 ≤ d) : pR X d 41 0 Q (151, L, .int z :: .int x :: [.ref c0], mem, 0) = pR X d 41 0 Q (154, L, .int (if z < x then z else x) :: [.ref c0], mem, 0) := q_mn (ix := 126) (yy := 0) (by decide +kernel) (by decide +kernel) (Nat.le_of_ble_eq_true rfl) h1
theorem r41_154 : pR X d 41 0 Q (154, L, p :: .ref a :: st, mem, 0) = pf 41 mem a 3 2 p (fun mem => pR X d 41 0 Q (157, L, st, mem, 0)) := q_put (ix := 18) (by decide +kernel) (by decide +kernel) (by decide)
theorem r41_157 : pR X d 41 0 Q (157, L, [], mem, 0) = Q none mem := q_retv (by decide +kernel) rfl
theorem r42_0 : pR X d 42 0 Q (0, [some (.ref a)], st, mem, 0) = pR X d 42 0 Q (1, [some (.ref a)], .ref a :: st, mem, 0) := q_s (.ok (.aload_n 0, 1)) (by decide +kernel) rfl
theorem r42_1 : pR X d 42 0 Q (1, L, .ref a :: st, mem, 0) = gf mem a 3 2 (fun p => pR X d 42 0 Q (4, L, p :: st, mem, 0)) := q_get (ix := 18) (by decide +kernel) (by decide +kernel)
theorem r42_4 : pR X d 42 0 Q (4, L, st, mem, 0) = pR X d 42 0 Q (6, L, .int (iI (6)) :: st, mem, 0) := q_bi (n := 6) (by decide +kernel) (by decide +kernel)
theorem r42_6 : pR X d 42 0 Q (6, L, .int z :: .int x :: st, mem, 0) = (¬ z = 0 ∧ pR X d 42 0 Q (7, L, .int (x - x / z * z) :: st, mem, 0)) := q_rem (by decide +kernel)
theorem r42_7 : pR X d 42 0 Q (7, L, [.int x], mem, 0) = Q (some (.int x)) mem := q_reti (by decide +kernel) rfl
theorem r43_0 : pR X d 43 0 Q (0, [some (.int x)], st, mem, 0) = pR X d 43 0 Q (1, [some (.int x)], .int x :: st, mem, 0) := q_s (.ok (.iload_n 0, 1)) (by decide +kernel) rfl
theorem r43_1 : pR X d 43 0 Q (1, L, st, mem, 0) = pR X d 43 0 Q (4, L, .int (iI (1000)) :: st, mem, 0) := q_si (n := 1000) (by decide +kernel) (by decide +kernel)
theorem r43_4 : pR X d 43 0 Q (4, L, .int z :: .int x :: st, mem, 0) = (¬ z = 0 ∧ pR X d 43 0 Q (5, L, .int (x / z) :: st, mem, 0)) := q_div (by decide +kernel)
theorem r43_5 : pR X d 43 0 Q (5, L, [.int x], mem, 0) = Q (some (.int x)) mem := q_reti (by decide +kernel) rfl
theorem r44_0 : pR X d 44 0 Q (0, [some (.int x)], st, mem, 0) = pR X d 44 0 Q (1, [some (.int x)], .int x :: st, mem, 0) := q_s (.ok (.iload_n 0, 1)) (by decide +kernel) rfl
theorem r44_1 : pR X d 44 0 Q (1, L, st, mem, 0) = pR X d 44 0 Q (3, L, .int (iI (100)) :: st, mem, 0) := q_bi (n := 100) (by decide +kernel) (by decide +kernel)
theorem r44_3 : pR X d 44 0 Q (3, L, .int z :: .int x :: st, mem, 0) = (¬ z = 0 ∧ pR X d 44 0 Q (4, L, .int (x - x / z * z) :: st, mem, 0)) := q_rem (by decide +kernel)
theorem r44_4 : pR X d 44 0 Q (4, L, [.int x], mem, 0) = Q (some (.int x)) mem := q_reti (by decide +kernel) rfl
theorem r45_0 : pR X d 45 0 Q (0, [some (.ref a), l1, l2], st, mem, 0) = pR X d 45 0 Q (1, [some (.ref a), l1, l2], .ref a :: st, mem, 0) := q_s (.ok (.aload_n 0, 1)) (by decide +kernel) rfl
theorem r45_1 : pR X d 45 0 Q (1, [some (.ref a), l1, l2], st, mem, 0) = pR X d 45 0 Q (2, [some (.ref a), l1, l2], .ref a :: st, mem, 0) := q_s (.ok (.aload_n 0, 1)) (by decide +kernel) rfl
theorem r45_2 : pR X d 45 0 Q (2, L, .ref a :: st, mem, 0) = gf mem a 0 1 (fun p => pR X d 45 0 Q (5, L, p :: st, mem, 0)) := q_get (ix := 15) (by decide +kernel) (by decide +kernel)
theorem r45_5 : pR X d 45 0 Q (5, [some (.ref a), l1, l2], st, mem, 0) = pR X d 45 0 Q (6, [some (.ref a), l1, l2], .ref a :: st, mem, 0) := q_s (.ok (.aload_n 0, 1)) (by decide +kernel) rfl
theorem r45_6 : pR X d 45 0 Q (6, [l0, some (.int x), l2], st, mem, 0) = pR X d 45 0 Q (7, [l0, some (.int x), l2], .int x :: st, mem, 0) := q_s (.ok (.iload_n 1, 1)) (by decide +kernel) rfl
theorem r45_7 : pR X d 45 0 Q (7, L, .int y0 :: .ref a :: [.int k0, .ref c1], mem, 0) = (prcv mem 0 a ∧ Cw X d 24 [.ref a, .int y0] mem (fun r mem => pR X d 45 0 Q (10, L, r.toList ++ [.int k0, .ref c1], mem, 0))) := q_virt (ix := 43) (y2 := 24) (as := [.int y0]) (by decide +kernel) (by decide +kernel) rfl rfl rfl (Nat.le_of_ble_eq_true rfl) (by decide)
theorem r45_10 : pR X d 45 0 Q (10, L, .int z :: .int x :: st, mem, 0) = pR X d 45 0 Q (11, L, .int (x + z) :: st, mem, 0) := q_s (.ok (.iadd, 1)) (by decide +kernel) rfl
theorem r45_11 : pR X d 45 0 Q (11, L, st, mem, 0) = pR X d 45 0 Q (14, L, .int (iI (999)) :: st, mem, 0) := q_si (n := 999) (by decide +kernel) (by decide +kernel)
theorem r45_14 (h1 : 1 ≤ d) : pR X d 45 0 Q (14, L, .int z :: .int x :: [.ref c0], mem, 0) = pR X d 45 0 Q (17, L, .int (if z < x then z else x) :: [.ref c0], mem, 0) := q_mn (ix := 36) (yy := 0) (by decide +kernel) (by decide +kernel) (Nat.le_of_ble_eq_true rfl) h1
theorem r45_17 : pR X d 45 0 Q (17, L, p :: .ref a :: st, mem, 0) = pf 45 mem a 0 1 p (fun mem => pR X d 45 0 Q (20, L, st, mem, 0)) := q_put (ix := 15) (by decide +kernel) (by decide +kernel) (by decide)
theorem r45_20 : pR X d 45 0 Q (20, [some (.ref a), l1, l2], st, mem, 0) = pR X d 45 0 Q (21, [some (.ref a), l1, l2], .ref a :: st, mem, 0) := q_s (.ok (.aload_n 0, 1)) (by decide +kernel) rfl
theorem r45_21 : pR X d 45 0 Q (21, L, .ref a :: st, mem, 0) = gf mem a 0 3 (fun p => pR X d 45 0 Q (24, L, p :: st, mem, 0)) := q_get (ix := 21) (by decide +kernel) (by decide +kernel)
theorem r45_24 : pR X d 45 0 Q (24, [some (.ref a), l1, l2], st, mem, 0) = pR X d 45 0 Q (25, [some (.ref a), l1, l2], .ref a :: st, mem, 0) := q_s (.ok (.aload_n 0, 1)) (by decide +kernel) rfl
theorem r45_25 : pR X d 45 0 Q (25, L, .ref a :: st, mem, 0) = gf mem a 0 1 (fun p => pR X d 45 0 Q (28, L, p :: st, mem, 0)) := q_get (ix := 15) (by decide +kernel) (by decide +kernel)
theorem r45_28 (h1 : 1 ≤ d) : pR X d 45 0 Q (28, L, .int z :: .int x :: [], mem, 0) = pR X d 45 0 Q (31, L, .int (if z < x then z else x) :: [], mem, 0) := q_mn (ix := 36) (yy := 0) (by decide +kernel) (by decide +kernel) (Nat.le_of_ble_eq_true rfl) h1
theorem r45_31 : pR X d 45 0 Q (31, [l0, l1, l2], .int x :: st, mem, 0) = pR X d 45 0 Q (32, [l0, cl1 l1, some (.int x)], st, mem, 0) := q_s (.ok (.istore_n 2, 1)) (by decide +kernel) rfl
theorem r45_32 : pR X d 45 0 Q (32, [some (.ref a), l1, l2], st, mem, 0) = pR X d 45 0 Q (33, [some (.ref a), l1, l2], .ref a :: st, mem, 0) := q_s (.ok (.aload_n 0, 1)) (by decide +kernel) rfl
theorem r45_33 : pR X d 45 0 Q (33, L, .ref a :: st, mem, 0) = pR X d 45 0 Q (34, L, .ref a :: .ref a :: st, mem, 0) := q_s (.ok (.dup, 1)) (by decide +kernel) rfl
theorem r45_34 : pR X d 45 0 Q (34, L, .ref a :: st, mem, 0) = gf mem a 0 3 (fun p => pR X d 45 0 Q (37, L, p :: st, mem, 0)) := q_get (ix := 21) (by decide +kernel) (by decide +kernel)
theorem r45_37 : pR X d 45 0 Q (37, [l0, l1, some (.int x)], st, mem, 0) = pR X d 45 0 Q (38, [l0, l1, some (.int x)], .int x :: st, mem, 0) := q_s (.ok (.iload_n 2, 1)) (by decide +kernel) rfl
theorem r45_38 : pR X d 45 0 Q (38, L, .int z :: .int x :: st, mem, 0) = pR X d 45 0 Q (39, L, .int (x - z) :: st, mem, 0) := q_s (.ok (.isub, 1)) (by decide +kernel) rfl
theorem r45_39 : pR X d 45 0 Q (39, L, p :: .ref a :: st, mem, 0) = pf 45 mem a 0 3 p (fun mem => pR X d 45 0 Q (42, L, st, mem, 0)) := q_put (ix := 21) (by decide +kernel) (by decide +kernel) (by decide)
theorem r45_42 : pR X d 45 0 Q (42, [some (.ref a), l1, l2], st, mem, 0) = pR X d 45 0 Q (43, [some (.ref a), l1, l2], .ref a :: st, mem, 0) := q_s (.ok (.aload_n 0, 1)) (by decide +kernel) rfl
theorem r45_43 : pR X d 45 0 Q (43, L, .ref a :: st, mem, 0) = pR X d 45 0 Q (44, L, .ref a :: .ref a :: st, mem, 0) := q_s (.ok (.dup, 1)) (by decide +kernel) rfl
theorem r45_44 : pR X d 45 0 Q (44, L, .ref a :: st, mem, 0) = gf mem a 0 1 (fun p => pR X d 45 0 Q (47, L, p :: st, mem, 0)) := q_get (ix := 15) (by decide +kernel) (by decide +kernel)
theorem r45_47 : pR X d 45 0 Q (47, [l0, l1, some (.int x)], st, mem, 0) = pR X d 45 0 Q (48, [l0, l1, some (.int x)], .int x :: st, mem, 0) := q_s (.ok (.iload_n 2, 1)) (by decide +kernel) rfl
theorem r45_48 : pR X d 45 0 Q (48, L, .int z :: .int x :: st, mem, 0) = pR X d 45 0 Q (49, L, .int (x - z) :: st, mem, 0) := q_s (.ok (.isub, 1)) (by decide +kernel) rfl
theorem r45_49 : pR X d 45 0 Q (49, L, p :: .ref a :: st, mem, 0) = pf 45 mem a 0 1 p (fun mem => pR X d 45 0 Q (52, L, st, mem, 0)) := q_put (ix := 15) (by decide +kernel) (by decide +kernel) (by decide)
theorem r45_52 : pR X d 45 0 Q (52, L, [], mem, 0) = Q none mem := q_retv (by decide +kernel) rfl
theorem r46_0 : pR X d 46 0 Q (0, [some (.ref a), l1, l2], st, mem, 0) = pR X d 46 0 Q (1, [some (.ref a), l1, l2], .ref a :: st, mem, 0) := q_s (.ok (.aload_n 0, 1)) (by decide +kernel) rfl
theorem r46_1 : pR X d 46 0 Q (1, L, .ref a :: [], mem, 0) = (prcv mem 0 a ∧ Cw X d 25 [.ref a] mem (fun r mem => pR X d 46 0 Q (4, L, r.toList ++ [], mem, 0))) := q_virt (ix := 46) (y2 := 25) (as := []) (by decide +kernel) (by decide +kernel) rfl rfl rfl (Nat.le_of_ble_eq_true rfl) (by decide)
theorem r46_4 : pR X d 46 0 Q (4, L, .int x :: st, mem, 0) = ((x = 0 → pR X d 46 0 Q (12, L, st, mem, 0)) ∧ (¬ (x = 0) → pR X d 46 0 Q (7, L, st, mem, 0))) := r_if (c := .eq) (off := 8) (by decide +kernel) (by decide)
theorem r46_7 : pR X d 46 0 Q (7, [l0, some (.int x), l2], st, mem, 0) = pR X d 46 0 Q (8, [l0, some (.int x), l2], .int x :: st, mem, 0) := q_s (.ok (.iload_n 1, 1)) (by decide +kernel) rfl
theorem r46_8 : pR X d 46 0 Q (8, L, st, mem, 0) = pR X d 46 0 Q (9, L, .int (iI (1)) :: st, mem, 0) := q_ic (by decide +kernel)
theorem r46_9 : pR X d 46 0 Q (9, L, .int z :: .int x :: st, mem, 0) = ((z ≤ x → pR X d 46 0 Q (13, L, st, mem, 0)) ∧ (¬ (z ≤ x) → pR X d 46 0 Q (12, L, st, mem, 0))) := r_ic (c := .ge) (off := 4) (by decide +kernel) (by decide)
theorem r46_12 : pR X d 46 0 Q (12, L, [], mem, 0) = Q none mem := q_retv (by decide +kernel) rfl
theorem r46_13 : pR X d 46 0 Q (13, [some (.ref a), l1, l2], st, mem, 0) = pR X d 46 0 Q (14, [some (.ref a), l1, l2], .ref a :: st, mem, 0) := q_s (.ok (.aload_n 0, 1)) (by decide +kernel) rfl
theorem r46_14 : pR X d 46 0 Q (14, L, .ref a :: st, mem, 0) = gf mem a 0 1 (fun p => pR X d 46 0 Q (17, L, p :: st, mem, 0)) := q_get (ix := 15) (by decide +kernel) (by decide +kernel)
theorem r46_17 : pR X d 46 0 Q (17, [l0, some (.int x), l2], st, mem, 0) = pR X d 46 0 Q (18, [l0, some (.int x), l2], .int x :: st, mem, 0) := q_s (.ok (.iload_n 1, 1)) (by decide +kernel) rfl
theorem r46_18 : pR X d 46 0 Q (18, L, .int z :: .int x :: st, mem, 0) = (¬ z = 0 ∧ pR X d 46 0 Q (19, L, .int (x / z) :: st, mem, 0)) := q_div (by decide +kernel)
theorem r46_19 : pR X d 46 0 Q (19, L, st, mem, 0) = pR X d 46 0 Q (22, L, .int (iI (999)) :: st, mem, 0) := q_si (n := 999) (by decide +kernel) (by decide +kernel)
theorem r46_22 : pR X d 46 0 Q (22, [some (.ref a), l1, l2], st, mem, 0) = pR X d 46 0 Q (23, [some (.ref a), l1, l2], .ref a :: st, mem, 0) := q_s (.ok (.aload_n 0, 1)) (by decide +kernel) rfl
theorem r46_23 : pR X d 46 0 Q (23, L, .ref a :: st, mem, 0) = gf mem a 0 2 (fun p => pR X d 46 0 Q (26, L, p :: st, mem, 0)) := q_get (ix := 18) (by decide +kernel) (by decide +kernel)
theorem r46_26 : pR X d 46 0 Q (26, L, .int z :: .int x :: st, mem, 0) = pR X d 46 0 Q (27, L, .int (x - z) :: st, mem, 0) := q_s (.ok (.isub, 1)) (by decide +kernel) rfl
theorem r46_27 (h1 : 1 ≤ d) : pR X d 46 0 Q (27, L, .int z :: .int x :: [], mem, 0) = pR X d 46 0 Q (30, L, .int (if z < x then z else x) :: [], mem, 0) := q_mn (ix := 36) (yy := 0) (by decide +kernel) (by decide +kernel) (Nat.le_of_ble_eq_true rfl) h1
theorem r46_30 : pR X d 46 0 Q (30, [l0, l1, l2], .int x :: st, mem, 0) = pR X d 46 0 Q (31, [l0, cl1 l1, some (.int x)], st, mem, 0) := q_s (.ok (.istore_n 2, 1)) (by decide +kernel) rfl
theorem r46_31 : pR X d 46 0 Q (31, [l0, l1, some (.int x)], st, mem, 0) = pR X d 46 0 Q (32, [l0, l1, some (.int x)], .int x :: st, mem, 0) := q_s (.ok (.iload_n 2, 1)) (by decide +kernel) rfl
theorem r46_32 : pR X d 46 0 Q (32, L, .int x :: st, mem, 0) = ((x ≤ 0 → pR X d 46 0 Q (71, L, st, mem, 0)) ∧ (¬ (x ≤ 0) → pR X d 46 0 Q (35, L, st, mem, 0))) := r_if (c := .le) (off := 39) (by decide +kernel) (by decide)
theorem r46_35 : pR X d 46 0 Q (35, [some (.ref a), l1, l2], st, mem, 0) = pR X d 46 0 Q (36, [some (.ref a), l1, l2], .ref a :: st, mem, 0) := q_s (.ok (.aload_n 0, 1)) (by decide +kernel) rfl
theorem r46_36 : pR X d 46 0 Q (36, L, .ref a :: st, mem, 0) = pR X d 46 0 Q (37, L, .ref a :: .ref a :: st, mem, 0) := q_s (.ok (.dup, 1)) (by decide +kernel) rfl
theorem r46_37 : pR X d 46 0 Q (37, L, .ref a :: st, mem, 0) = gf mem a 0 1 (fun p => pR X d 46 0 Q (40, L, p :: st, mem, 0)) := q_get (ix := 15) (by decide +kernel) (by decide +kernel)
theorem r46_40 : pR X d 46 0 Q (40, [l0, l1, some (.int x)], st, mem, 0) = pR X d 46 0 Q (41, [l0, l1, some (.int x)], .int x :: st, mem, 0) := q_s (.ok (.iload_n 2, 1)) (by decide +kernel) rfl
theorem r46_41 : pR X d 46 0 Q (41, [l0, some (.int x), l2], st, mem, 0) = pR X d 46 0 Q (42, [l0, some (.int x), l2], .int x :: st, mem, 0) := q_s (.ok (.iload_n 1, 1)) (by decide +kernel) rfl
theorem r46_42 : pR X d 46 0 Q (42, L, .int z :: .int x :: st, mem, 0) = pR X d 46 0 Q (43, L, .int (x * z) :: st, mem, 0) := q_s (.ok (.imul, 1)) (by decide +kernel) rfl
theorem r46_43 : pR X d 46 0 Q (43, L, .int z :: .int x :: st, mem, 0) = pR X d 46 0 Q (44, L, .int (x - z) :: st, mem, 0) := q_s (.ok (.isub, 1)) (by decide +kernel) rfl
theorem r46_44 : pR X d 46 0 Q (44, L, p :: .ref a :: st, mem, 0) = pf 46 mem a 0 1 p (fun mem => pR X d 46 0 Q (47, L, st, mem, 0)) := q_put (ix := 15) (by decide +kernel) (by decide +kernel) (by decide)
theorem r46_47 : pR X d 46 0 Q (47, [some (.ref a), l1, l2], st, mem, 0) = pR X d 46 0 Q (48, [some (.ref a), l1, l2], .ref a :: st, mem, 0) := q_s (.ok (.aload_n 0, 1)) (by decide +kernel) rfl
theorem r46_48 : pR X d 46 0 Q (48, L, .ref a :: st, mem, 0) = pR X d 46 0 Q (49, L, .ref a :: .ref a :: st, mem, 0) := q_s (.ok (.dup, 1)) (by decide +kernel) rfl
theorem r46_49 : pR X d 46 0 Q (49, L, .ref a :: st, mem, 0) = gf mem a 0 2 (fun p => pR X d 46 0 Q (52, L, p :: st, mem, 0)) := q_get (ix := 18) (by decide +kernel) (by decide +kernel)
theorem r46_52 : pR X d 46 0 Q (52, [l0, l1, some (.int x)], st, mem, 0) = pR X d 46 0 Q (53, [l0, l1, some (.int x)], .int x :: st, mem, 0) := q_s (.ok (.iload_n 2, 1)) (by decide +kernel) rfl
theorem r46_53 : pR X d 46 0 Q (53, L, .int z :: .int x :: st, mem, 0) = pR X d 46 0 Q (54, L, .int (x + z) :: st, mem, 0) := q_s (.ok (.iadd, 1)) (by decide +kernel) rfl
theorem r46_54 : pR X d 46 0 Q (54, L, p :: .ref a :: st, mem, 0) = pf 46 mem a 0 2 p (fun mem => pR X d 46 0 Q (57, L, st, mem, 0)) := q_put (ix := 18) (by decide +kernel) (by decide +kernel) (by decide)
theorem r46_57 : pR X d 46 0 Q (57, [some (.ref a), l1, l2], st, mem, 0) = pR X d 46 0 Q (58, [some (.ref a), l1, l2], .ref a :: st, mem, 0) := q_s (.ok (.aload_n 0, 1)) (by decide +kernel) rfl
theorem r46_58 : pR X d 46 0 Q (58, [some (.ref a), l1, l2], st, mem, 0) = pR X d 46 0 Q (59, [some (.ref a), l1, l2], .ref a :: st, mem, 0) := q_s (.ok (.aload_n 0, 1)) (by decide +kernel) rfl
theorem r46_59 : pR X d 46 0 Q (59, L, .ref a :: st, mem, 0) = gf mem a 0 4 (fun p => pR X d 46 0 Q (62, L, p :: st, mem, 0)) := q_get (ix := 24) (by decide +kernel) (by decide +kernel)
theorem r46_62 : pR X d 46 0 Q (62, L, st, mem, 0) = pR X d 46 0 Q (63, L, .int (iI (2)) :: st, mem, 0) := q_ic (by decide +kernel)
theorem r46_63 : pR X d 46 0 Q (63, L, .int z :: .int x :: st, mem, 0) = pR X d 46 0 Q (64, L, .int (x - z) :: st, mem, 0) := q_s (.ok (.isub, 1)) (by decide +kernel) rfl
theorem r46_64 : pR X d 46 0 Q (64, L, st, mem, 0) = pR X d 46 0 Q (65, L, .int (iI (0)) :: st, mem, 0) := q_ic (by decide +kernel)
theorem r46_65 (h1 : 1 ≤ d) : pR X d 46 0 Q (65, L, .int z :: .int x :: [.ref c0], mem, 0) = pR X d 46 0 Q (68, L, .int (if x < z then z else x) :: [.ref c0], mem, 0) := q_mx (ix := 30) (yy := 0) (by decide +kernel) (by decide +kernel) (Nat.le_of_ble_eq_true rfl) h1
theorem r46_68 : pR X d 46 0 Q (68, L, p :: .ref a :: st, mem, 0) = pf 46 mem a 0 4 p (fun mem => pR X d 46 0 Q (71, L, st, mem, 0)) := q_put (ix := 24) (by decide +kernel) (by decide +kernel) (by decide)
theorem r46_71 : pR X d 46 0 Q (71, L, [], mem, 0) = Q none mem := q_retv (by decide +kernel) rfl
theorem r47_0 : pR X d 47 0 Q (0, [some (.ref a)], st, mem, 0) = pR X d 47 0 Q (1, [some (.ref a)], .ref a :: st, mem, 0) := q_s (.ok (.aload_n 0, 1)) (by decide +kernel) rfl
theorem r47_1 : pR X d 47 0 Q (1, L, st, mem, 0) = pR X d 47 0 Q (3, L, .int (iI (6)) :: st, mem, 0) := q_bi (n := 6) (by decide +kernel) (by decide +kernel)
theorem r47_3 : pR X d 47 0 Q (3, L, .int y0 :: .ref a :: [], mem, 0) = (prcv mem 3 a ∧ Cw X d 48 [.ref a, .int y0] mem (fun r mem => pR X d 47 0 Q (6, L, r.toList ++ [], mem, 0))) := q_virt (ix := 72) (y2 := 48) (as := [.int y0]) (by decide +kernel) (by decide +kernel) rfl rfl rfl (Nat.le_of_ble_eq_true rfl) (by decide)
theorem r47_6 : pR X d 47 0 Q (6, L, [.int x], mem, 0) = Q (some (.int x)) mem := q_reti (by decide +kernel) rfl
theorem r48_0 : pR X d 48 0 Q (0, L, st, mem, 0) = pR X d 48 0 Q (1, L, .int (iI (0)) :: st, mem, 0) := q_ic (by decide +kernel)
theorem r48_1 : pR X d 48 0 Q (1, [l0, l1, l2, l3], .int x :: st, mem, 0) = pR X d 48 0 Q (2, [l0, cl1 l1, some (.int x), l3], st, mem, 0) := q_s (.ok (.istore_n 2, 1)) (by decide +kernel) rfl
theorem r48_2 : pR X d 48 0 Q (2, L, st, mem, 0) = pR X d 48 0 Q (3, L, .int (iI (0)) :: st, mem, 0) := q_ic (by decide +kernel)
theorem r48_3 : pR X d 48 0 Q (3, [l0, l1, l2, l3], .int x :: st, mem, 0) = pR X d 48 0 Q (4, [l0, l1, cl1 l2, some (.int x)], st, mem, 0) := q_s (.ok (.istore_n 3, 1)) (by decide +kernel) rfl
theorem r48_4 : pR X d 48 0 Q (4, [l0, l1, l2, some (.int x)], st, mem, 0) = pR X d 48 0 Q (5, [l0, l1, l2, some (.int x)], .int x :: st, mem, 0) := q_s (.ok (.iload_n 3, 1)) (by decide +kernel) rfl
theorem r48_5 : pR X d 48 0 Q (5, [some (.ref a), l1, l2, l3], st, mem, 0) = pR X d 48 0 Q (6, [some (.ref a), l1, l2, l3], .ref a :: st, mem, 0) := q_s (.ok (.aload_n 0, 1)) (by decide +kernel) rfl
theorem r48_6 : pR X d 48 0 Q (6, L, .ref a :: st, mem, 0) = gf mem a 3 4 (fun p => pR X d 48 0 Q (9, L, p :: st, mem, 0)) := q_get (ix := 24) (by decide +kernel) (by decide +kernel)
theorem r48_9 : pR X d 48 0 Q (9, L, .int z :: .int x :: st, mem, 0) = ((z ≤ x → pR X d 48 0 Q (27, L, st, mem, 0)) ∧ (¬ (z ≤ x) → pR X d 48 0 Q (12, L, st, mem, 0))) := r_ic (c := .ge) (off := 18) (by decide +kernel) (by decide)
theorem r48_12 : pR X d 48 0 Q (12, [l0, l1, some (.int x), l3], st, mem, 0) = pR X d 48 0 Q (13, [l0, l1, some (.int x), l3], .int x :: st, mem, 0) := q_s (.ok (.iload_n 2, 1)) (by decide +kernel) rfl
theorem r48_13 : pR X d 48 0 Q (13, [some (.ref a), l1, l2, l3], st, mem, 0) = pR X d 48 0 Q (14, [some (.ref a), l1, l2, l3], .ref a :: st, mem, 0) := q_s (.ok (.aload_n 0, 1)) (by decide +kernel) rfl
theorem r48_14 : pR X d 48 0 Q (14, [l0, l1, l2, some (.int x)], st, mem, 0) = pR X d 48 0 Q (15, [l0, l1, l2, some (.int x)], .int x :: st, mem, 0) := q_s (.ok (.iload_n 3, 1)) (by decide +kernel) rfl
theorem r48_15 : pR X d 48 0 Q (15, [l0, some (.int x), l2, l3], st, mem, 0) = pR X d 48 0 Q (16, [l0, some (.int x), l2, l3], .int x :: st, mem, 0) := q_s (.ok (.iload_n 1, 1)) (by decide +kernel) rfl
theorem r48_16 : pR X d 48 0 Q (16, L, .int y1 :: .int y0 :: .ref a :: [.int k0], mem, 0) = (prcv mem 3 a ∧ Cw X d 21 [.ref a, .int y0, .int y1] mem (fun r mem => pR X d 48 0 Q (19, L, r.toList ++ [.int k0], mem, 0))) := q_virt (ix := 75) (y2 := 21) (as := [.int y1, .int y0]) (by decide +kernel) (by decide +kernel) rfl rfl rfl (Nat.le_of_ble_eq_true rfl) (by decide)
theorem r48_19 : pR X d 48 0 Q (19, L, .int z :: .int x :: st, mem, 0) = pR X d 48 0 Q (20, L, .int (x + z) :: st, mem, 0) := q_s (.ok (.iadd, 1)) (by decide +kernel) rfl
theorem r48_20 : pR X d 48 0 Q (20, [l0, l1, l2, l3], .int x :: st, mem, 0) = pR X d 48 0 Q (21, [l0, cl1 l1, some (.int x), l3], st, mem, 0) := q_s (.ok (.istore_n 2, 1)) (by decide +kernel) rfl
theorem r48_21 : pR X d 48 0 Q (21, [l0, l1, l2, some (.int x)], st, mem, 0) = pR X d 48 0 Q (24, [l0, l1, cl1 l2, some (.int (x + iI (1)))], st, mem, 0) := q_s (.ok (.iinc 3 (1), 3)) (by decide +kernel) rfl
theorem r48_24 : pR X d 48 0 Q (24, L, st, mem, 0) = pR X d 48 0 Q (4, L, st, mem, 0) := q_s (.ok (.goto (-20), 3)) (by decide +kernel) rfl
theorem r48_27 : pR X d 48 0 Q (27, [l0, l1, some (.int x), l3], st, mem, 0) = pR X d 48 0 Q (28, [l0, l1, some (.int x), l3], .int x :: st, mem, 0) := q_s (.ok (.iload_n 2, 1)) (by decide +kernel) rfl
theorem r48_28 : pR X d 48 0 Q (28, L, [.int x], mem, 0) = Q (some (.int x)) mem := q_reti (by decide +kernel) rfl
theorem r49_0 : pR X d 49 0 Q (0, [l0, some (.int x)], st, mem, 0) = pR X d 49 0 Q (1, [l0, some (.int x)], .int x :: st, mem, 0) := q_s (.ok (.iload_n 1, 1)) (by decide +kernel) rfl
theorem r49_1 : pR X d 49 0 Q (1, L, .int x :: st, mem, 0) = (((x.toInt < 0 ∨ 7 < x.toInt) → pR X d 49 0 Q (115, L, st, mem, 0)) ∧ (x.toInt = 0 → pR X d 49 0 Q (48, L, st, mem, 0)) ∧ (x.toInt = 1 → pR X d 49 0 Q (56, L, st, mem, 0)) ∧ (x.toInt = 2 → pR X d 49 0 Q (64, L, st, mem, 0)) ∧ (x.toInt = 3 → pR X d 49 0 Q (73, L, st, mem, 0)) ∧ (x.toInt = 4 → pR X d 49 0 Q (81, L, st, mem, 0)) ∧ (x.toInt = 5 → pR X d 49 0 Q (89, L, st, mem, 0)) ∧ (x.toInt = 6 → pR X d 49 0 Q (97, L, st, mem, 0)) ∧ (x.toInt = 7 → pR X d 49 0 Q (106, L, st, mem, 0)) ∧ True) := q_tsl (dflt := 114) (lo := 0) (hi := 7) (offs := #[47, 55, 63, 72, 80, 88, 96, 105]) (ll := 47) (by decide +kernel) (by decide) (by decide) (by decide)
theorem r49_48 : pR X d 49 0 Q (48, [some (.ref a), l1], st, mem, 0) = pR X d 49 0 Q (49, [some (.ref a), l1], .ref a :: st, mem, 0) := q_s (.ok (.aload_n 0, 1)) (by decide +kernel) rfl
theorem r49_49 : pR X d 49 0 Q (49, L, .ref a :: st, mem, 0) = gf mem a 4 0 (fun p => pR X d 49 0 Q (52, L, p :: st, mem, 0)) := q_get (ix := 10) (by decide +kernel) (by decide +kernel)
theorem r49_52 : pR X d 49 0 Q (52, L, .ref a :: st, mem, 0) = gf mem a 3 2 (fun p => pR X d 49 0 Q (55, L, p :: st, mem, 0)) := q_get (ix := 122) (by decide +kernel) (by decide +kernel)
theorem r49_55 : pR X d 49 0 Q (55, L, [.int x], mem, 0) = Q (some (.int x)) mem := q_reti (by decide +kernel) rfl
theorem r49_56 : pR X d 49 0 Q (56, [some (.ref a), l1], st, mem, 0) = pR X d 49 0 Q (57, [some (.ref a), l1], .ref a :: st, mem, 0) := q_s (.ok (.aload_n 0, 1)) (by decide +kernel) rfl
theorem r49_57 : pR X d 49 0 Q (57, L, .ref a :: st, mem, 0) = gf mem a 4 0 (fun p => pR X d 49 0 Q (60, L, p :: st, mem, 0)) := q_get (ix := 10) (by decide +kernel) (by decide +kernel)
theorem r49_60 : pR X d 49 0 Q (60, L, .ref a :: [], mem, 0) = (prcv mem 3 a ∧ Cw X d 47 [.ref a] mem (fun r mem => pR X d 49 0 Q (63, L, r.toList ++ [], mem, 0))) := q_virt (ix := 130) (y2 := 47) (as := []) (by decide +kernel) (by decide +kernel) rfl rfl rfl (Nat.le_of_ble_eq_true rfl) (by decide)
theorem r49_63 : pR X d 49 0 Q (63, L, [.int x], mem, 0) = Q (some (.int x)) mem := q_reti (by decide +kernel) rfl
theorem r49_64 : pR X d 49 0 Q (64, [some (.ref a), l1], st, mem, 0) = pR X d 49 0 Q (65, [some (.ref a), l1], .ref a :: st, mem, 0) := q_s (.ok (.aload_n 0, 1)) (by decide +kernel) rfl
theorem r49_65 : pR X d 49 0 Q (65, L, .ref a :: st, mem, 0) = gf mem a 4 0 (fun p => pR X d 49 0 Q (68, L, p :: st, mem, 0)) := q_get (ix := 10) (by decide +kernel) (by decide +kernel)
theorem r49_68 : pR X d 49 0 Q (68, L, st, mem, 0) = pR X d 49 0 Q (69, L, .int (iI (3)) :: st, mem, 0) := q_ic (by decide +kernel)
theorem r49_69 : pR X d 49 0 Q (69, L, .int y0 :: .ref a :: [], mem, 0) = (prcv mem 3 a ∧ Cw X d 48 [.ref a, .int y0] mem (fun r mem => pR X d 49 0 Q (72, L, r.toList ++ [], mem, 0))) := q_virt (ix := 134) (y2 := 48) (as := [.int y0]) (by decide +kernel) (by decide +kernel) rfl rfl rfl (Nat.le_of_ble_eq_true rfl) (by decide)
theorem r49_72 : pR X d 49 0 Q (72, L, [.int x], mem, 0) = Q (some (.int x)) mem := q_reti (by decide +kernel) rfl
theorem r49_73 : pR X d 49 0 Q (73, [some (.ref a), l1], st, mem, 0) = pR X d 49 0 Q (74, [some (.ref a), l1], .ref a :: st, mem, 0) := q_s (.ok (.aload_n 0, 1)) (by decide +kernel) rfl
theorem r49_74 : pR X d 49 0 Q (74, L, .ref a :: st, mem, 0) = gf mem a 4 0 (fun p => pR X d 49 0 Q (77, L, p :: st, mem, 0)) := q_get (ix := 10) (by decide +kernel) (by decide +kernel)
theorem r49_77 : pR X d 49 0 Q (77, L, .ref a :: st, mem, 0) = gf mem a 3 1 (fun p => pR X d 49 0 Q (80, L, p :: st, mem, 0)) := q_get (ix := 56) (by decide +kernel) (by decide +kernel)
theorem r49_80 : pR X d 49 0 Q (80, L, [.int x], mem, 0) = Q (some (.int x)) mem := q_reti (by decide +kernel) rfl
theorem r49_81 : pR X d 49 0 Q (81, [some (.ref a), l1], st, mem, 0) = pR X d 49 0 Q (82, [some (.ref a), l1], .ref a :: st, mem, 0) := q_s (.ok (.aload_n 0, 1)) (by decide +kernel) rfl
theorem r49_82 : pR X d 49 0 Q (82, L, .ref a :: st, mem, 0) = gf mem a 4 0 (fun p => pR X d 49 0 Q (85, L, p :: st, mem, 0)) := q_get (ix := 10) (by decide +kernel) (by decide +kernel)
theorem r49_85 : pR X d 49 0 Q (85, L, .ref a :: [], mem, 0) = (prcv mem 3 a ∧ Cw X d 50 [.ref a] mem (fun r mem => pR X d 49 0 Q (88, L, r.toList ++ [], mem, 0))) := q_virt (ix := 137) (y2 := 50) (as := []) (by decide +kernel) (by decide +kernel) rfl rfl rfl (Nat.le_of_ble_eq_true rfl) (by decide)
theorem r49_88 : pR X d 49 0 Q (88, L, [.int x], mem, 0) = Q (some (.int x)) mem := q_reti (by decide +kernel) rfl
theorem r49_89 : pR X d 49 0 Q (89, [some (.ref a), l1], st, mem, 0) = pR X d 49 0 Q (90, [some (.ref a), l1], .ref a :: st, mem, 0) := q_s (.ok (.aload_n 0, 1)) (by decide +kernel) rfl
theorem r49_90 : pR X d 49 0 Q (90, L, .ref a :: st, mem, 0) = gf mem a 4 0 (fun p => pR X d 49 0 Q (93, L, p :: st, mem, 0)) := q_get (ix := 10) (by decide +kernel) (by decide +kernel)
theorem r49_93 : pR X d 49 0 Q (93, L, .ref a :: [], mem, 0) = (prcv mem 3 a ∧ Cw X d 51 [.ref a] mem (fun r mem => pR X d 49 0 Q (96, L, r.toList ++ [], mem, 0))) := q_virt (ix := 140) (y2 := 51) (as := []) (by decide +kernel) (by decide +kernel) rfl rfl rfl (Nat.le_of_ble_eq_true rfl) (by decide)
theorem r49_96 : pR X d 49 0 Q (96, L, [.int x], mem, 0) = Q (some (.int x)) mem := q_reti (by decide +kernel) rfl
theorem r49_97 : pR X d 49 0 Q (97, [some (.ref a), l1], st, mem, 0) = pR X d 49 0 Q (98, [some (.ref a), l1], .ref a :: st, mem, 0) := q_s (.ok (.aload_n 0, 1)) (by decide +kernel) rfl
theorem r49_98 : pR X d 49 0 Q (98, L, .ref a :: st, mem, 0) = gf mem a 4 0 (fun p => pR X d 49 0 Q (101, L, p :: st, mem, 0)) := q_get (ix := 10) (by decide +kernel) (by decide +kernel)
theorem r49_101 : pR X d 49 0 Q (101, L, st, mem, 0) = pR X d 49 0 Q (102, L, .int (iI (4)) :: st, mem, 0) := q_ic (by decide +kernel)
theorem r49_102 : pR X d 49 0 Q (102, L, .int y0 :: .ref a :: [], mem, 0) = (prcv mem 3 a ∧ Cw X d 48 [.ref a, .int y0] mem (fun r mem => pR X d 49 0 Q (105, L, r.toList ++ [], mem, 0))) := q_virt (ix := 134) (y2 := 48) (as := [.int y0]) (by decide +kernel) (by decide +kernel) rfl rfl rfl (Nat.le_of_ble_eq_true rfl) (by decide)
theorem r49_105 : pR X d 49 0 Q (105, L, [.int x], mem, 0) = Q (some (.int x)) mem := q_reti (by decide +kernel) rfl
theorem r49_106 : pR X d 49 0 Q (106, [some (.ref a), l1], st, mem, 0) = pR X d 49 0 Q (107, [some (.ref a), l1], .ref a :: st, mem, 0) := q_s (.ok (.aload_n 0, 1)) (by decide +kernel) rfl
theorem r49_107 : pR X d 49 0 Q (107, L, .ref a :: st, mem, 0) = gf mem a 4 0 (fun p => pR X d 49 0 Q (110, L, p :: st, mem, 0)) := q_get (ix := 10) (by decide +kernel) (by decide +kernel)
theorem r49_110 : pR X d 49 0 Q (110, L, st, mem, 0) = pR X d 49 0 Q (111, L, .int (iI (5)) :: st, mem, 0) := q_ic (by decide +kernel)
theorem r49_111 : pR X d 49 0 Q (111, L, .int y0 :: .ref a :: [], mem, 0) = (prcv mem 3 a ∧ Cw X d 48 [.ref a, .int y0] mem (fun r mem => pR X d 49 0 Q (114, L, r.toList ++ [], mem, 0))) := q_virt (ix := 134) (y2 := 48) (as := [.int y0]) (by decide +kernel) (by decide +kernel) rfl rfl rfl (Nat.le_of_ble_eq_true rfl) (by decide)
theorem r49_114 : pR X d 49 0 Q (114, L, [.int x], mem, 0) = Q (some (.int x)) mem := q_reti (by decide +kernel) rfl
theorem r49_115 : pR X d 49 0 Q (115, [some (.ref a), l1], st, mem, 0) = pR X d 49 0 Q (116, [some (.ref a), l1], .ref a :: st, mem, 0) := q_s (.ok (.aload_n 0, 1)) (by decide +kernel) rfl
theorem r49_116 : pR X d 49 0 Q (116, L, st, mem, 0) = pR X d 49 0 Q (117, L, .int (iI (0)) :: st, mem, 0) := q_ic (by decide +kernel)
theorem r49_117 : pR X d 49 0 Q (117, L, .int y0 :: .ref a :: [], mem, 0) = (prcv mem 4 a ∧ Cw X d 8 [.ref a, .int y0] mem (fun r mem => pR X d 49 0 Q (120, L, r.toList ++ [], mem, 0))) := q_virt (ix := 59) (y2 := 8) (as := [.int y0]) (by decide +kernel) (by decide +kernel) rfl rfl rfl (Nat.le_of_ble_eq_true rfl) (by decide)
theorem r49_120 : pR X d 49 0 Q (120, L, [.int x], mem, 0) = Q (some (.int x)) mem := q_reti (by decide +kernel) rfl
theorem r50_0 : pR X d 50 0 Q (0, L, st, mem, 0) = pR X d 50 0 Q (1, L, .int (iI (0)) :: st, mem, 0) := q_ic (by decide +kernel)
theorem r50_1 : pR X d 50 0 Q (1, [l0, l1, l2], .int x :: st, mem, 0) = pR X d 50 0 Q (2, [cl1 l0, some (.int x), l2], st, mem, 0) := q_s (.ok (.istore_n 1, 1)) (by decide +kernel) rfl
theorem r50_2 : pR X d 50 0 Q (2, L, st, mem, 0) = pR X d 50 0 Q (3, L, .int (iI (0)) :: st, mem, 0) := q_ic (by decide +kernel)
theorem r50_3 : pR X d 50 0 Q (3, [l0, l1, l2], .int x :: st, mem, 0) = pR X d 50 0 Q (4, [l0, cl1 l1, some (.int x)], st, mem, 0) := q_s (.ok (.istore_n 2, 1)) (by decide +kernel) rfl
theorem r50_4 : pR X d 50 0 Q (4, [l0, l1, some (.int x)], st, mem, 0) = pR X d 50 0 Q (5, [l0, l1, some (.int x)], .int x :: st, mem, 0) := q_s (.ok (.iload_n 2, 1)) (by decide +kernel) rfl
theorem r50_5 : pR X d 50 0 Q (5, [some (.ref a), l1, l2], st, mem, 0) = pR X d 50 0 Q (6, [some (.ref a), l1, l2], .ref a :: st, mem, 0) := q_s (.ok (.aload_n 0, 1)) (by decide +kernel) rfl
theorem r50_6 : pR X d 50 0 Q (6, L, .ref a :: st, mem, 0) = gf mem a 3 4 (fun p => pR X d 50 0 Q (9, L, p :: st, mem, 0)) := q_get (ix := 24) (by decide +kernel) (by decide +kernel)
theorem r50_9 : pR X d 50 0 Q (9, L, .int z :: .int x :: st, mem, 0) = ((z ≤ x → pR X d 50 0 Q (36, L, st, mem, 0)) ∧ (¬ (z ≤ x) → pR X d 50 0 Q (12, L, st, mem, 0))) := r_ic (c := .ge) (off := 27) (by decide +kernel) (by decide)
theorem r50_12 : pR X d 50 0 Q (12, [some (.ref a), l1, l2], st, mem, 0) = pR X d 50 0 Q (13, [some (.ref a), l1, l2], .ref a :: st, mem, 0) := q_s (.ok (.aload_n 0, 1)) (by decide +kernel) rfl
theorem r50_13 : pR X d 50 0 Q (13, L, .ref a :: st, mem, 0) = gf mem a 3 5 (fun p => pR X d 50 0 Q (16, L, p :: st, mem, 0)) := q_get (ix := 29) (by decide +kernel) (by decide +kernel)
theorem r50_16 : pR X d 50 0 Q (16, [l0, l1, some (.int x)], st, mem, 0) = pR X d 50 0 Q (17, [l0, l1, some (.int x)], .int x :: st, mem, 0) := q_s (.ok (.iload_n 2, 1)) (by decide +kernel) rfl
theorem r50_17 : pR X d 50 0 Q (17, L, .int x :: .ref a :: st, mem, 0) = ra mem a x (fun b => pR X d 50 0 Q (18, L, .ref b :: st, mem, 0)) := q_ra (by decide +kernel)
theorem r50_18 : pR X d 50 0 Q (18, L, .ref a :: st, mem, 0) = gf mem a 0 3 (fun p => pR X d 50 0 Q (21, L, p :: st, mem, 0)) := q_get (ix := 79) (by decide +kernel) (by decide +kernel)
theorem r50_21 : pR X d 50 0 Q (21, L, .int x :: st, mem, 0) = ((x ≤ 0 → pR X d 50 0 Q (30, L, st, mem, 0)) ∧ (¬ (x ≤ 0) → pR X d 50 0 Q (24, L, st, mem, 0))) := r_if (c := .le) (off := 9) (by decide +kernel) (by decide)
theorem r50_24 : pR X d 50 0 Q (24, [l0, some (.int x), l2], st, mem, 0) = pR X d 50 0 Q (25, [l0, some (.int x), l2], .int x :: st, mem, 0) := q_s (.ok (.iload_n 1, 1)) (by decide +kernel) rfl
theorem r50_25 : pR X d 50 0 Q (25, L, st, mem, 0) = pR X d 50 0 Q (26, L, .int (iI (1)) :: st, mem, 0) := q_ic (by decide +kernel)
theorem r50_26 : pR X d 50 0 Q (26, [l0, l1, some (.int x)], st, mem, 0) = pR X d 50 0 Q (27, [l0, l1, some (.int x)], .int x :: st, mem, 0) := q_s (.ok (.iload_n 2, 1)) (by decide +kernel) rfl
theorem r50_27 : pR X d 50 0 Q (27, L, .int z :: .int x :: st, mem, 0) = pR X d 50 0 Q (28, L, .int (x <<< (z &&& 31)) :: st, mem, 0) := q_s (.ok (.ishl, 1)) (by decide +kernel) rfl
theorem r50_28 : pR X d 50 0 Q (28, L, .int z :: .int x :: st, mem, 0) = pR X d 50 0 Q (29, L, .int (x ||| z) :: st, mem, 0) := q_s (.ok (.ior, 1)) (by decide +kernel) rfl
theorem r50_29 : pR X d 50 0 Q (29, [l0, l1, l2], .int x :: st, mem, 0) = pR X d 50 0 Q (30, [cl1 l0, some (.int x), l2], st, mem, 0) := q_s (.ok (.istore_n 1, 1)) (by decide +kernel) rfl
theorem r50_30 : pR X d 50 0 Q (30, [l0, l1, some (.int x)], st, mem, 0) = pR X d 50 0 Q (33, [l0, cl1 l1, some (.int (x + iI (1)))], st, mem, 0) := q_s (.ok (.iinc 2 (1), 3)) (by decide +kernel) rfl
theorem r50_33 : pR X d 50 0 Q (33, L, st, mem, 0) = pR X d 50 0 Q (4, L, st, mem, 0) := q_s (.ok (.goto (-29), 3)) (by decide +kernel) rfl
theorem r50_36 : pR X d 50 0 Q (36, [l0, some (.int x), l2], st, mem, 0) = pR X d 50 0 Q (37, [l0, some (.int x), l2], .int x :: st, mem, 0) := q_s (.ok (.iload_n 1, 1)) (by decide +kernel) rfl
theorem r50_37 : pR X d 50 0 Q (37, L, [.int x], mem, 0) = Q (some (.int x)) mem := q_reti (by decide +kernel) rfl
theorem r51_0 : pR X d 51 0 Q (0, L, st, mem, 0) = pR X d 51 0 Q (1, L, .int (iI (-1)) :: st, mem, 0) := q_ic (by decide +kernel)
theorem r51_1 : pR X d 51 0 Q (1, [l0, l1, l2, l3], .int x :: st, mem, 0) = pR X d 51 0 Q (2, [cl1 l0, some (.int x), l2, l3], st, mem, 0) := q_s (.ok (.istore_n 1, 1)) (by decide +kernel) rfl
theorem r51_2 : pR X d 51 0 Q (2, L, st, mem, 0) = pR X d 51 0 Q (3, L, .int (iI (-1)) :: st, mem, 0) := q_ic (by decide +kernel)
theorem r51_3 : pR X d 51 0 Q (3, [l0, l1, l2, l3], .int x :: st, mem, 0) = pR X d 51 0 Q (4, [l0, cl1 l1, some (.int x), l3], st, mem, 0) := q_s (.ok (.istore_n 2, 1)) (by decide +kernel) rfl
theorem r51_4 : pR X d 51 0 Q (4, L, st, mem, 0) = pR X d 51 0 Q (5, L, .int (iI (0)) :: st, mem, 0) := q_ic (by decide +kernel)
theorem r51_5 : pR X d 51 0 Q (5, [l0, l1, l2, l3], .int x :: st, mem, 0) = pR X d 51 0 Q (6, [l0, l1, cl1 l2, some (.int x)], st, mem, 0) := q_s (.ok (.istore_n 3, 1)) (by decide +kernel) rfl
theorem r51_6 : pR X d 51 0 Q (6, [l0, l1, l2, some (.int x)], st, mem, 0) = pR X d 51 0 Q (7, [l0, l1, l2, some (.int x)], .int x :: st, mem, 0) := q_s (.ok (.iload_n 3, 1)) (by decide +kernel) rfl
theorem r51_7 : pR X d 51 0 Q (7, [some (.ref a), l1, l2, l3], st, mem, 0) = pR X d 51 0 Q (8, [some (.ref a), l1, l2, l3], .ref a :: st, mem, 0) := q_s (.ok (.aload_n 0, 1)) (by decide +kernel) rfl
theorem r51_8 : pR X d 51 0 Q (8, L, .ref a :: st, mem, 0) = gf mem a 3 4 (fun p => pR X d 51 0 Q (11, L, p :: st, mem, 0)) := q_get (ix := 24) (by decide +kernel) (by decide +kernel)
theorem r51_11 : pR X d 51 0 Q (11, L, .int z :: .int x :: st, mem, 0) = ((z ≤ x → pR X d 51 0 Q (37, L, st, mem, 0)) ∧ (¬ (z ≤ x) → pR X d 51 0 Q (14, L, st, mem, 0))) := r_ic (c := .ge) (off := 26) (by decide +kernel) (by decide)
theorem r51_14 : pR X d 51 0 Q (14, [some (.ref a), l1, l2, l3], st, mem, 0) = pR X d 51 0 Q (15, [some (.ref a), l1, l2, l3], .ref a :: st, mem, 0) := q_s (.ok (.aload_n 0, 1)) (by decide +kernel) rfl
theorem r51_15 : pR X d 51 0 Q (15, [l0, l1, l2, some (.int x)], st, mem, 0) = pR X d 51 0 Q (16, [l0, l1, l2, some (.int x)], .int x :: st, mem, 0) := q_s (.ok (.iload_n 3, 1)) (by decide +kernel) rfl
theorem r51_16 : pR X d 51 0 Q (16, L, .int y0 :: .ref a :: [], mem, 0) = (prcv mem 3 a ∧ Cw X d 22 [.ref a, .int y0] mem (fun r mem => pR X d 51 0 Q (19, L, r.toList ++ [], mem, 0))) := q_virt (ix := 55) (y2 := 22) (as := [.int y0]) (by decide +kernel) (by decide +kernel) rfl rfl rfl (Nat.le_of_ble_eq_true rfl) (by decide)
theorem r51_19 : pR X d 51 0 Q (19, [l0, l1, some (.int x), l3], st, mem, 0) = pR X d 51 0 Q (20, [l0, l1, some (.int x), l3], .int x :: st, mem, 0) := q_s (.ok (.iload_n 2, 1)) (by decide +kernel) rfl
theorem r51_20 : pR X d 51 0 Q (20, L, .int z :: .int x :: st, mem, 0) = ((x ≤ z → pR X d 51 0 Q (31, L, st, mem, 0)) ∧ (¬ (x ≤ z) → pR X d 51 0 Q (23, L, st, mem, 0))) := r_ic (c := .le) (off := 11) (by decide +kernel) (by decide)
theorem r51_23 : pR X d 51 0 Q (23, [some (.ref a), l1, l2, l3], st, mem, 0) = pR X d 51 0 Q (24, [some (.ref a), l1, l2, l3], .ref a :: st, mem, 0) := q_s (.ok (.aload_n 0, 1)) (by decide +kernel) rfl
theorem r51_24 : pR X d 51 0 Q (24, [l0, l1, l2, some (.int x)], st, mem, 0) = pR X d 51 0 Q (25, [l0, l1, l2, some (.int x)], .int x :: st, mem, 0) := q_s (.ok (.iload_n 3, 1)) (by decide +kernel) rfl
theorem r51_25 : pR X d 51 0 Q (25, L, .int y0 :: .ref a :: [], mem, 0) = (prcv mem 3 a ∧ Cw X d 22 [.ref a, .int y0] mem (fun r mem => pR X d 51 0 Q (28, L, r.toList ++ [], mem, 0))) := q_virt (ix := 55) (y2 := 22) (as := [.int y0]) (by decide +kernel) (by decide +kernel) rfl rfl rfl (Nat.le_of_ble_eq_true rfl) (by decide)
theorem r51_28 : pR X d 51 0 Q (28, [l0, l1, l2, l3], .int x :: st, mem, 0) = pR X d 51 0 Q (29, [l0, cl1 l1, some (.int x), l3], st, mem, 0) := q_s (.ok (.istore_n 2, 1)) (by decide +kernel) rfl
theorem r51_29 : pR X d 51 0 Q (29, [l0, l1, l2, some (.int x)], st, mem, 0) = pR X d 51 0 Q (30, [l0, l1, l2, some (.int x)], .int x :: st, mem, 0) := q_s (.ok (.iload_n 3, 1)) (by decide +kernel) rfl
theorem r51_30 : pR X d 51 0 Q (30, [l0, l1, l2, l3], .int x :: st, mem, 0) = pR X d 51 0 Q (31, [cl1 l0, some (.int x), l2, l3], st, mem, 0) := q_s (.ok (.istore_n 1, 1)) (by decide +kernel) rfl
theorem r51_31 : pR X d 51 0 Q (31, [l0, l1, l2, some (.int x)], st, mem, 0) = pR X d 51 0 Q (34, [l0, l1, cl1 l2, some (.int (x + iI (1)))], st, mem, 0) := q_s (.ok (.iinc 3 (1), 3)) (by decide +kernel) rfl
theorem r51_34 : pR X d 51 0 Q (34, L, st, mem, 0) = pR X d 51 0 Q (6, L, st, mem, 0) := q_s (.ok (.goto (-28), 3)) (by decide +kernel) rfl
theorem r51_37 : pR X d 51 0 Q (37, [l0, some (.int x), l2, l3], st, mem, 0) = pR X d 51 0 Q (38, [l0, some (.int x), l2, l3], .int x :: st, mem, 0) := q_s (.ok (.iload_n 1, 1)) (by decide +kernel) rfl
theorem r51_38 : pR X d 51 0 Q (38, L, [.int x], mem, 0) = Q (some (.int x)) mem := q_reti (by decide +kernel) rfl
theorem r52_0 : pR X d 52 0 Q (0, [some (.ref a), l1, l2, l3], st, mem, 0) = pR X d 52 0 Q (1, [some (.ref a), l1, l2, l3], .ref a :: st, mem, 0) := q_s (.ok (.aload_n 0, 1)) (by decide +kernel) rfl
theorem r52_1 : pR X d 52 0 Q (1, L, .ref a :: st, mem, 0) = gf mem a 4 0 (fun p => pR X d 52 0 Q (4, L, p :: st, mem, 0)) := q_get (ix := 10) (by decide +kernel) (by decide +kernel)
theorem r52_4 : pR X d 52 0 Q (4, [l0, some (.int x), l2, l3], st, mem, 0) = pR X d 52 0 Q (5, [l0, some (.int x), l2, l3], .int x :: st, mem, 0) := q_s (.ok (.iload_n 1, 1)) (by decide +kernel) rfl
theorem r52_5 : pR X d 52 0 Q (5, L, .int y0 :: .ref a :: [], mem, 0) = (prcv mem 3 a ∧ Cw X d 20 [.ref a, .int y0] mem (fun r mem => pR X d 52 0 Q (8, L, r.toList ++ [], mem, 0))) := q_virt (ix := 83) (y2 := 20) (as := [.int y0]) (by decide +kernel) (by decide +kernel) rfl rfl rfl (Nat.le_of_ble_eq_true rfl) (by decide)
theorem r52_8 : pR X d 52 0 Q (8, L, .int x :: st, mem, 0) = ((x = 0 → pR X d 52 0 Q (31, L, st, mem, 0)) ∧ (¬ (x = 0) → pR X d 52 0 Q (11, L, st, mem, 0))) := r_if (c := .eq) (off := 23) (by decide +kernel) (by decide)
theorem r52_11 : pR X d 52 0 Q (11, [l0, l1, some (.int x), l3], st, mem, 0) = pR X d 52 0 Q (12, [l0, l1, some (.int x), l3], .int x :: st, mem, 0) := q_s (.ok (.iload_n 2, 1)) (by decide +kernel) rfl
theorem r52_12 : pR X d 52 0 Q (12, L, st, mem, 0) = pR X d 52 0 Q (13, L, .int (iI (1)) :: st, mem, 0) := q_ic (by decide +kernel)
theorem r52_13 : pR X d 52 0 Q (13, L, st, mem, 0) = pR X d 52 0 Q (15, L, .int (iI (6)) :: st, mem, 0) := q_bi (n := 6) (by decide +kernel) (by decide +kernel)
theorem r52_15 : pR X d 52 0 Q (15, L, .int y2 :: .int y1 :: .int y0 :: [], mem, 0) = Cw X d 7 [.int y0, .int y1, .int y2] mem (fun r mem => pR X d 52 0 Q (18, L, r.toList ++ [], mem, 0)) := q_stat (ix := 52) (kd := 1) (y2 := 7) (as := [.int y2, .int y1, .int y0]) (by decide +kernel) (by decide +kernel) (by decide) rfl rfl rfl (Nat.le_of_ble_eq_true rfl) (by decide)
theorem r52_18 : pR X d 52 0 Q (18, L, .int x :: st, mem, 0) = ((x = 0 → pR X d 52 0 Q (31, L, st, mem, 0)) ∧ (¬ (x = 0) → pR X d 52 0 Q (21, L, st, mem, 0))) := r_if (c := .eq) (off := 13) (by decide +kernel) (by decide)
theorem r52_21 : pR X d 52 0 Q (21, [l0, l1, l2, some (.int x)], st, mem, 0) = pR X d 52 0 Q (22, [l0, l1, l2, some (.int x)], .int x :: st, mem, 0) := q_s (.ok (.iload_n 3, 1)) (by decide +kernel) rfl
theorem r52_22 : pR X d 52 0 Q (22, L, st, mem, 0) = pR X d 52 0 Q (23, L, .int (iI (0)) :: st, mem, 0) := q_ic (by decide +kernel)
theorem r52_23 : pR X d 52 0 Q (23, L, st, mem, 0) = pR X d 52 0 Q (25, L, .int (iI (100)) :: st, mem, 0) := q_bi (n := 100) (by decide +kernel) (by decide +kernel)
theorem r52_25 : pR X d 52 0 Q (25, L, .int y2 :: .int y1 :: .int y0 :: [], mem, 0) = Cw X d 7 [.int y0, .int y1, .int y2] mem (fun r mem => pR X d 52 0 Q (28, L, r.toList ++ [], mem, 0)) := q_stat (ix := 52) (kd := 1) (y2 := 7) (as := [.int y2, .int y1, .int y0]) (by decide +kernel) (by decide +kernel) (by decide) rfl rfl rfl (Nat.le_of_ble_eq_true rfl) (by decide)
theorem r52_28 : pR X d 52 0 Q (28, L, .int x :: st, mem, 0) = ((¬ x = 0 → pR X d 52 0 Q (37, L, st, mem, 0)) ∧ (¬ (¬ x = 0) → pR X d 52 0 Q (31, L, st, mem, 0))) := r_if (c := .ne) (off := 9) (by decide +kernel) (by decide)
theorem r52_31 : pR X d 52 0 Q (31, [some (.ref a), l1, l2, l3], st, mem, 0) = pR X d 52 0 Q (32, [some (.ref a), l1, l2, l3], .ref a :: st, mem, 0) := q_s (.ok (.aload_n 0, 1)) (by decide +kernel) rfl
theorem r52_32 : pR X d 52 0 Q (32, L, st, mem, 0) = pR X d 52 0 Q (33, L, .int (iI (0)) :: st, mem, 0) := q_ic (by decide +kernel)
theorem r52_33 : pR X d 52 0 Q (33, L, .int y0 :: .ref a :: [], mem, 0) = (prcv mem 4 a ∧ Cw X d 8 [.ref a, .int y0] mem (fun r mem => pR X d 52 0 Q (36, L, r.toList ++ [], mem, 0))) := q_virt (ix := 59) (y2 := 8) (as := [.int y0]) (by decide +kernel) (by decide +kernel) rfl rfl rfl (Nat.le_of_ble_eq_true rfl) (by decide)
theorem r52_36 : pR X d 52 0 Q (36, L, [.int x], mem, 0) = Q (some (.int x)) mem := q_reti (by decide +kernel) rfl
theorem r52_37 : pR X d 52 0 Q (37, [some (.ref a), l1, l2, l3], st, mem, 0) = pR X d 52 0 Q (38, [some (.ref a), l1, l2, l3], .ref a :: st, mem, 0) := q_s (.ok (.aload_n 0, 1)) (by decide +kernel) rfl
theorem r52_38 : pR X d 52 0 Q (38, L, .ref a :: st, mem, 0) = gf mem a 4 1 (fun p => pR X d 52 0 Q (41, L, p :: st, mem, 0)) := q_get (ix := 16) (by decide +kernel) (by decide +kernel)
theorem r52_41 : pR X d 52 0 Q (41, [some (.ref a), l1, l2, l3], st, mem, 0) = pR X d 52 0 Q (42, [some (.ref a), l1, l2, l3], .ref a :: st, mem, 0) := q_s (.ok (.aload_n 0, 1)) (by decide +kernel) rfl
theorem r52_42 : pR X d 52 0 Q (42, L, .ref a :: st, mem, 0) = gf mem a 4 0 (fun p => pR X d 52 0 Q (45, L, p :: st, mem, 0)) := q_get (ix := 10) (by decide +kernel) (by decide +kernel)
theorem r52_45 : pR X d 52 0 Q (45, L, .ref b0 :: .ref a :: [], mem, 0) = (prcv mem 3 a ∧ Cw X d 53 [.ref a, .ref b0] mem (fun r mem => pR X d 52 0 Q (48, L, r.toList ++ [], mem, 0))) := q_virt (ix := 143) (y2 := 53) (as := [.ref b0]) (by decide +kernel) (by decide +kernel) rfl rfl rfl (Nat.le_of_ble_eq_true rfl) (by decide)
theorem r52_48 : pR X d 52 0 Q (48, [some (.ref a), l1, l2, l3], st, mem, 0) = pR X d 52 0 Q (49, [some (.ref a), l1, l2, l3], .ref a :: st, mem, 0) := q_s (.ok (.aload_n 0, 1)) (by decide +kernel) rfl
theorem r52_49 : pR X d 52 0 Q (49, L, .ref a :: st, mem, 0) = gf mem a 4 1 (fun p => pR X d 52 0 Q (52, L, p :: st, mem, 0)) := q_get (ix := 16) (by decide +kernel) (by decide +kernel)
theorem r52_52 : pR X d 52 0 Q (52, [l0, l1, l2, some (.int x)], st, mem, 0) = pR X d 52 0 Q (53, [l0, l1, l2, some (.int x)], .int x :: st, mem, 0) := q_s (.ok (.iload_n 3, 1)) (by decide +kernel) rfl
theorem r52_53 : pR X d 52 0 Q (53, L, .int y0 :: .ref a :: [], mem, 0) = (prcv mem 3 a ∧ Cw X d 40 [.ref a, .int y0] mem (fun r mem => pR X d 52 0 Q (56, L, r.toList ++ [], mem, 0))) := q_virt (ix := 126) (y2 := 40) (as := [.int y0]) (by decide +kernel) (by decide +kernel) rfl rfl rfl (Nat.le_of_ble_eq_true rfl) (by decide)
theorem r52_56 : pR X d 52 0 Q (56, [some (.ref a), l1, l2, l3], st, mem, 0) = pR X d 52 0 Q (57, [some (.ref a), l1, l2, l3], .ref a :: st, mem, 0) := q_s (.ok (.aload_n 0, 1)) (by decide +kernel) rfl
theorem r52_57 : pR X d 52 0 Q (57, L, .ref a :: st, mem, 0) = gf mem a 4 1 (fun p => pR X d 52 0 Q (60, L, p :: st, mem, 0)) := q_get (ix := 16) (by decide +kernel) (by decide +kernel)
theorem r52_60 : pR X d 52 0 Q (60, [l0, some (.int x), l2, l3], st, mem, 0) = pR X d 52 0 Q (61, [l0, some (.int x), l2, l3], .int x :: st, mem, 0) := q_s (.ok (.iload_n 1, 1)) (by decide +kernel) rfl
theorem r52_61 : pR X d 52 0 Q (61, [l0, l1, some (.int x), l3], st, mem, 0) = pR X d 52 0 Q (62, [l0, l1, some (.int x), l3], .int x :: st, mem, 0) := q_s (.ok (.iload_n 2, 1)) (by decide +kernel) rfl
theorem r52_62 : pR X d 52 0 Q (62, L, .int y1 :: .int y0 :: .ref a :: [], mem, 0) = (prcv mem 3 a ∧ Cw X d 21 [.ref a, .int y0, .int y1] mem (fun r mem => pR X d 52 0 Q (65, L, r.toList ++ [], mem, 0))) := q_virt (ix := 86) (y2 := 21) (as := [.int y1, .int y0]) (by decide +kernel) (by decide +kernel) rfl rfl rfl (Nat.le_of_ble_eq_true rfl) (by decide)
theorem r52_65 : pR X d 52 0 Q (65, L, [.int x], mem, 0) = Q (some (.int x)) mem := q_reti (by decide +kernel) rfl
theorem r53_0 : pR X d 53 0 Q (0, [some (.ref a), l1, l2], st, mem, 0) = pR X d 53 0 Q (1, [some (.ref a), l1, l2], .ref a :: st, mem, 0) := q_s (.ok (.aload_n 0, 1)) (by decide +kernel) rfl
theorem r53_1 : pR X d 53 0 Q (1, [l0, some (.ref a), l2], st, mem, 0) = pR X d 53 0 Q (2, [l0, some (.ref a), l2], .ref a :: st, mem, 0) := q_s (.ok (.aload_n 1, 1)) (by decide +kernel) rfl
theorem r53_2 : pR X d 53 0 Q (2, L, .ref a :: st, mem, 0) = gf mem a 3 0 (fun p => pR X d 53 0 Q (5, L, p :: st, mem, 0)) := q_get (ix := 9) (by decide +kernel) (by decide +kernel)
theorem r53_5 : pR X d 53 0 Q (5, L, p :: .ref a :: st, mem, 0) = pf 53 mem a 3 0 p (fun mem => pR X d 53 0 Q (8, L, st, mem, 0)) := q_put (ix := 9) (by decide +kernel) (by decide +kernel) (by decide)
theorem r53_8 : pR X d 53 0 Q (8, [some (.ref a), l1, l2], st, mem, 0) = pR X d 53 0 Q (9, [some (.ref a), l1, l2], .ref a :: st, mem, 0) := q_s (.ok (.aload_n 0, 1)) (by decide +kernel) rfl
theorem r53_9 : pR X d 53 0 Q (9, [l0, some (.ref a), l2], st, mem, 0) = pR X d 53 0 Q (10, [l0, some (.ref a), l2], .ref a :: st, mem, 0) := q_s (.ok (.aload_n 1, 1)) (by decide +kernel) rfl
theorem r53_10 : pR X d 53 0 Q (10, L, .ref a :: st, mem, 0) = gf mem a 3 1 (fun p => pR X d 53 0 Q (13, L, p :: st, mem, 0)) := q_get (ix := 15) (by decide +kernel) (by decide +kernel)
theorem r53_13 : pR X d 53 0 Q (13, L, p :: .ref a :: st, mem, 0) = pf 53 mem a 3 1 p (fun mem => pR X d 53 0 Q (16, L, st, mem, 0)) := q_put (ix := 15) (by decide +kernel) (by decide +kernel) (by decide)
theorem r53_16 : pR X d 53 0 Q (16, [some (.ref a), l1, l2], st, mem, 0) = pR X d 53 0 Q (17, [some (.ref a), l1, l2], .ref a :: st, mem, 0) := q_s (.ok (.aload_n 0, 1)) (by decide +kernel) rfl
theorem r53_17 : pR X d 53 0 Q (17, [l0, some (.ref a), l2], st, mem, 0) = pR X d 53 0 Q (18, [l0, some (.ref a), l2], .ref a :: st, mem, 0) := q_s (.ok (.aload_n 1, 1)) (by decide +kernel) rfl
theorem r53_18 : pR X d 53 0 Q (18, L, .ref a :: st, mem, 0) = gf mem a 3 2 (fun p => pR X d 53 0 Q (21, L, p :: st, mem, 0)) := q_get (ix := 18) (by decide +kernel) (by decide +kernel)
theorem r53_21 : pR X d 53 0 Q (21, L, p :: .ref a :: st, mem, 0) = pf 53 mem a 3 2 p (fun mem => pR X d 53 0 Q (24, L, st, mem, 0)) := q_put (ix := 18) (by decide +kernel) (by decide +kernel) (by decide)
theorem r53_24 : pR X d 53 0 Q (24, [some (.ref a), l1, l2], st, mem, 0) = pR X d 53 0 Q (25, [some (.ref a), l1, l2], .ref a :: st, mem, 0) := q_s (.ok (.aload_n 0, 1)) (by decide +kernel) rfl
theorem r53_25 : pR X d 53 0 Q (25, [l0, some (.ref a), l2], st, mem, 0) = pR X d 53 0 Q (26, [l0, some (.ref a), l2], .ref a :: st, mem, 0) := q_s (.ok (.aload_n 1, 1)) (by decide +kernel) rfl
theorem r53_26 : pR X d 53 0 Q (26, L, .ref a :: st, mem, 0) = gf mem a 3 3 (fun p => pR X d 53 0 Q (29, L, p :: st, mem, 0)) := q_get (ix := 21) (by decide +kernel) (by decide +kernel)
theorem r53_29 : pR X d 53 0 Q (29, L, p :: .ref a :: st, mem, 0) = pf 53 mem a 3 3 p (fun mem => pR X d 53 0 Q (32, L, st, mem, 0)) := q_put (ix := 21) (by decide +kernel) (by decide +kernel) (by decide)
theorem r53_32 : pR X d 53 0 Q (32, [some (.ref a), l1, l2], st, mem, 0) = pR X d 53 0 Q (33, [some (.ref a), l1, l2], .ref a :: st, mem, 0) := q_s (.ok (.aload_n 0, 1)) (by decide +kernel) rfl
theorem r53_33 : pR X d 53 0 Q (33, [l0, some (.ref a), l2], st, mem, 0) = pR X d 53 0 Q (34, [l0, some (.ref a), l2], .ref a :: st, mem, 0) := q_s (.ok (.aload_n 1, 1)) (by decide +kernel) rfl
theorem r53_34 : pR X d 53 0 Q (34, L, .ref a :: st, mem, 0) = gf mem a 3 4 (fun p => pR X d 53 0 Q (37, L, p :: st, mem, 0)) := q_get (ix := 24) (by decide +kernel) (by decide +kernel)
theorem r53_37 : pR X d 53 0 Q (37, L, p :: .ref a :: st, mem, 0) = pf 53 mem a 3 4 p (fun mem => pR X d 53 0 Q (40, L, st, mem, 0)) := q_put (ix := 24) (by decide +kernel) (by decide +kernel) (by decide)
theorem r53_40 : pR X d 53 0 Q (40, L, st, mem, 0) = pR X d 53 0 Q (41, L, .int (iI (0)) :: st, mem, 0) := q_ic (by decide +kernel)
theorem r53_41 : pR X d 53 0 Q (41, [l0, l1, l2], .int x :: st, mem, 0) = pR X d 53 0 Q (42, [l0, cl1 l1, some (.int x)], st, mem, 0) := q_s (.ok (.istore_n 2, 1)) (by decide +kernel) rfl
theorem r53_42 : pR X d 53 0 Q (42, [l0, l1, some (.int x)], st, mem, 0) = pR X d 53 0 Q (43, [l0, l1, some (.int x)], .int x :: st, mem, 0) := q_s (.ok (.iload_n 2, 1)) (by decide +kernel) rfl
theorem r53_43 : pR X d 53 0 Q (43, [some (.ref a), l1, l2], st, mem, 0) = pR X d 53 0 Q (44, [some (.ref a), l1, l2], .ref a :: st, mem, 0) := q_s (.ok (.aload_n 0, 1)) (by decide +kernel) rfl
theorem r53_44 : pR X d 53 0 Q (44, L, .ref a :: st, mem, 0) = gf mem a 3 4 (fun p => pR X d 53 0 Q (47, L, p :: st, mem, 0)) := q_get (ix := 24) (by decide +kernel) (by decide +kernel)
theorem r53_47 : pR X d 53 0 Q (47, L, .int z :: .int x :: st, mem, 0) = ((z ≤ x → pR X d 53 0 Q (71, L, st, mem, 0)) ∧ (¬ (z ≤ x) → pR X d 53 0 Q (50, L, st, mem, 0))) := r_ic (c := .ge) (off := 24) (by decide +kernel) (by decide)
theorem r53_50 : pR X d 53 0 Q (50, [some (.ref a), l1, l2], st, mem, 0) = pR X d 53 0 Q (51, [some (.ref a), l1, l2], .ref a :: st, mem, 0) := q_s (.ok (.aload_n 0, 1)) (by decide +kernel) rfl
theorem r53_51 : pR X d 53 0 Q (51, L, .ref a :: st, mem, 0) = gf mem a 3 5 (fun p => pR X d 53 0 Q (54, L, p :: st, mem, 0)) := q_get (ix := 29) (by decide +kernel) (by decide +kernel)
theorem r53_54 : pR X d 53 0 Q (54, [l0, l1, some (.int x)], st, mem, 0) = pR X d 53 0 Q (55, [l0, l1, some (.int x)], .int x :: st, mem, 0) := q_s (.ok (.iload_n 2, 1)) (by decide +kernel) rfl
theorem r53_55 : pR X d 53 0 Q (55, L, .int x :: .ref a :: st, mem, 0) = ra mem a x (fun b => pR X d 53 0 Q (56, L, .ref b :: st, mem, 0)) := q_ra (by decide +kernel)
theorem r53_56 : pR X d 53 0 Q (56, [l0, some (.ref a), l2], st, mem, 0) = pR X d 53 0 Q (57, [l0, some (.ref a), l2], .ref a :: st, mem, 0) := q_s (.ok (.aload_n 1, 1)) (by decide +kernel) rfl
theorem r53_57 : pR X d 53 0 Q (57, L, .ref a :: st, mem, 0) = gf mem a 3 5 (fun p => pR X d 53 0 Q (60, L, p :: st, mem, 0)) := q_get (ix := 29) (by decide +kernel) (by decide +kernel)
theorem r53_60 : pR X d 53 0 Q (60, [l0, l1, some (.int x)], st, mem, 0) = pR X d 53 0 Q (61, [l0, l1, some (.int x)], .int x :: st, mem, 0) := q_s (.ok (.iload_n 2, 1)) (by decide +kernel) rfl
theorem r53_61 : pR X d 53 0 Q (61, L, .int x :: .ref a :: st, mem, 0) = ra mem a x (fun b => pR X d 53 0 Q (62, L, .ref b :: st, mem, 0)) := q_ra (by decide +kernel)
theorem r53_62 : pR X d 53 0 Q (62, L, .ref b0 :: .ref a :: [], mem, 0) = (prcv mem 0 a ∧ Cw X d 54 [.ref a, .ref b0] mem (fun r mem => pR X d 53 0 Q (65, L, r.toList ++ [], mem, 0))) := q_virt (ix := 41) (y2 := 54) (as := [.ref b0]) (by decide +kernel) (by decide +kernel) rfl rfl rfl (Nat.le_of_ble_eq_true rfl) (by decide)
theorem r53_65 : pR X d 53 0 Q (65, [l0, l1, some (.int x)], st, mem, 0) = pR X d 53 0 Q (68, [l0, cl1 l1, some (.int (x + iI (1)))], st, mem, 0) := q_s (.ok (.iinc 2 (1), 3)) (by decide +kernel) rfl
theorem r53_68 : pR X d 53 0 Q (68, L, st, mem, 0) = pR X d 53 0 Q (42, L, st, mem, 0) := q_s (.ok (.goto (-26), 3)) (by decide +kernel) rfl
theorem r53_71 : pR X d 53 0 Q (71, [l0, some (.ref a), l2], st, mem, 0) = pR X d 53 0 Q (72, [l0, some (.ref a), l2], .ref a :: st, mem, 0) := q_s (.ok (.aload_n 1, 1)) (by decide +kernel) rfl
theorem r53_72 : pR X d 53 0 Q (72, L, .ref a :: st, mem, 0) = gf mem a 3 6 (fun p => pR X d 53 0 Q (75, L, p :: st, mem, 0)) := q_get (ix := 33) (by decide +kernel) (by decide +kernel)
theorem r53_75 : pR X d 53 0 Q (75, L, st, mem, 0) = pR X d 53 0 Q (76, L, .int (iI (0)) :: st, mem, 0) := q_ic (by decide +kernel)
theorem r53_76 : pR X d 53 0 Q (76, [some (.ref a), l1, l2], st, mem, 0) = pR X d 53 0 Q (77, [some (.ref a), l1, l2], .ref a :: st, mem, 0) := q_s (.ok (.aload_n 0, 1)) (by decide +kernel) rfl
theorem r53_77 : pR X d 53 0 Q (77, L, .ref a :: st, mem, 0) = gf mem a 3 6 (fun p => pR X d 53 0 Q (80, L, p :: st, mem, 0)) := q_get (ix := 33) (by decide +kernel) (by decide +kernel)
theorem r53_80 : pR X d 53 0 Q (80, L, st, mem, 0) = pR X d 53 0 Q (81, L, .int (iI (0)) :: st, mem, 0) := q_ic (by decide +kernel)
theorem r53_81 : pR X d 53 0 Q (81, L, st, mem, 0) = pR X d 53 0 Q (83, L, .int (iI (6)) :: st, mem, 0) := q_bi (n := 6) (by decide +kernel) (by decide +kernel)
theorem r53_83 (h1 : 1 ≤ d) : pR X d 53 0 Q (83, L, .int z3 :: .int z2 :: .ref b :: .int z1 :: .ref a :: [], mem, 0) = cpy mem a b z1 z2 z3 (fun mem => pR X d 53 0 Q (86, L, [], mem, 0)) := q_cpy (ix := 45) (yy := 0) (by decide +kernel) (by decide +kernel) (Nat.le_of_ble_eq_true rfl) h1
theorem r53_86 : pR X d 53 0 Q (86, [l0, some (.ref a), l2], st, mem, 0) = pR X d 53 0 Q (87, [l0, some (.ref a), l2], .ref a :: st, mem, 0) := q_s (.ok (.aload_n 1, 1)) (by decide +kernel) rfl
theorem r53_87 : pR X d 53 0 Q (87, L, .ref a :: st, mem, 0) = gf mem a 3 7 (fun p => pR X d 53 0 Q (90, L, p :: st, mem, 0)) := q_get (ix := 37) (by decide +kernel) (by decide +kernel)
theorem r53_90 : pR X d 53 0 Q (90, L, st, mem, 0) = pR X d 53 0 Q (91, L, .int (iI (0)) :: st, mem, 0) := q_ic (by decide +kernel)
theorem r53_91 : pR X d 53 0 Q (91, [some (.ref a), l1, l2], st, mem, 0) = pR X d 53 0 Q (92, [some (.ref a), l1, l2], .ref a :: st, mem, 0) := q_s (.ok (.aload_n 0, 1)) (by decide +kernel) rfl
theorem r53_92 : pR X d 53 0 Q (92, L, .ref a :: st, mem, 0) = gf mem a 3 7 (fun p => pR X d 53 0 Q (95, L, p :: st, mem, 0)) := q_get (ix := 37) (by decide +kernel) (by decide +kernel)
theorem r53_95 : pR X d 53 0 Q (95, L, st, mem, 0) = pR X d 53 0 Q (96, L, .int (iI (0)) :: st, mem, 0) := q_ic (by decide +kernel)
theorem r53_96 : pR X d 53 0 Q (96, L, st, mem, 0) = pR X d 53 0 Q (98, L, .int (iI (10)) :: st, mem, 0) := q_bi (n := 10) (by decide +kernel) (by decide +kernel)
theorem r53_98 (h1 : 1 ≤ d) : pR X d 53 0 Q (98, L, .int z3 :: .int z2 :: .ref b :: .int z1 :: .ref a :: [], mem, 0) = cpy mem a b z1 z2 z3 (fun mem => pR X d 53 0 Q (101, L, [], mem, 0)) := q_cpy (ix := 45) (yy := 0) (by decide +kernel) (by decide +kernel) (Nat.le_of_ble_eq_true rfl) h1
theorem r53_101 : pR X d 53 0 Q (101, L, [], mem, 0) = Q none mem := q_retv (by decide +kernel) rfl
theorem r54_0 : pR X d 54 0 Q (0, [some (.ref a), l1], st, mem, 0) = pR X d 54 0 Q (1, [some (.ref a), l1], .ref a :: st, mem, 0) := q_s (.ok (.aload_n 0, 1)) (by decide +kernel) rfl
theorem r54_1 : pR X d 54 0 Q (1, [l0, some (.ref a)], st, mem, 0) = pR X d 54 0 Q (2, [l0, some (.ref a)], .ref a :: st, mem, 0) := q_s (.ok (.aload_n 1, 1)) (by decide +kernel) rfl
theorem r54_2 : pR X d 54 0 Q (2, L, .ref a :: st, mem, 0) = gf mem a 0 0 (fun p => pR X d 54 0 Q (5, L, p :: st, mem, 0)) := q_get (ix := 9) (by decide +kernel) (by decide +kernel)
theorem r54_5 : pR X d 54 0 Q (5, L, p :: .ref a :: st, mem, 0) = pf 54 mem a 0 0 p (fun mem => pR X d 54 0 Q (8, L, st, mem, 0)) := q_put (ix := 9) (by decide +kernel) (by decide +kernel) (by decide)
theorem r54_8 : pR X d 54 0 Q (8, [some (.ref a), l1], st, mem, 0) = pR X d 54 0 Q (9, [some (.ref a), l1], .ref a :: st, mem, 0) := q_s (.ok (.aload_n 0, 1)) (by decide +kernel) rfl
theorem r54_9 : pR X d 54 0 Q (9, [l0, some (.ref a)], st, mem, 0) = pR X d 54 0 Q (10, [l0, some (.ref a)], .ref a :: st, mem, 0) := q_s (.ok (.aload_n 1, 1)) (by decide +kernel) rfl
theorem r54_10 : pR X d 54 0 Q (10, L, .ref a :: st, mem, 0) = gf mem a 0 1 (fun p => pR X d 54 0 Q (13, L, p :: st, mem, 0)) := q_get (ix := 15) (by decide +kernel) (by decide +kernel)
theorem r54_13 : pR X d 54 0 Q (13, L, p :: .ref a :: st, mem, 0) = pf 54 mem a 0 1 p (fun mem => pR X d 54 0 Q (16, L, st, mem, 0)) := q_put (ix := 15) (by decide +kernel) (by decide +kernel) (by decide)
theorem r54_16 : pR X d 54 0 Q (16, [some (.ref a), l1], st, mem, 0) = pR X d 54 0 Q (17, [some (.ref a), l1], .ref a :: st, mem, 0) := q_s (.ok (.aload_n 0, 1)) (by decide +kernel) rfl
theorem r54_17 : pR X d 54 0 Q (17, [l0, some (.ref a)], st, mem, 0) = pR X d 54 0 Q (18, [l0, some (.ref a)], .ref a :: st, mem, 0) := q_s (.ok (.aload_n 1, 1)) (by decide +kernel) rfl
theorem r54_18 : pR X d 54 0 Q (18, L, .ref a :: st, mem, 0) = gf mem a 0 2 (fun p => pR X d 54 0 Q (21, L, p :: st, mem, 0)) := q_get (ix := 18) (by decide +kernel) (by decide +kernel)
theorem r54_21 : pR X d 54 0 Q (21, L, p :: .ref a :: st, mem, 0) = pf 54 mem a 0 2 p (fun mem => pR X d 54 0 Q (24, L, st, mem, 0)) := q_put (ix := 18) (by decide +kernel) (by decide +kernel) (by decide)
theorem r54_24 : pR X d 54 0 Q (24, [some (.ref a), l1], st, mem, 0) = pR X d 54 0 Q (25, [some (.ref a), l1], .ref a :: st, mem, 0) := q_s (.ok (.aload_n 0, 1)) (by decide +kernel) rfl
theorem r54_25 : pR X d 54 0 Q (25, [l0, some (.ref a)], st, mem, 0) = pR X d 54 0 Q (26, [l0, some (.ref a)], .ref a :: st, mem, 0) := q_s (.ok (.aload_n 1, 1)) (by decide +kernel) rfl
theorem r54_26 : pR X d 54 0 Q (26, L, .ref a :: st, mem, 0) = gf mem a 0 3 (fun p => pR X d 54 0 Q (29, L, p :: st, mem, 0)) := q_get (ix := 21) (by decide +kernel) (by decide +kernel)
theorem r54_29 : pR X d 54 0 Q (29, L, p :: .ref a :: st, mem, 0) = pf 54 mem a 0 3 p (fun mem => pR X d 54 0 Q (32, L, st, mem, 0)) := q_put (ix := 21) (by decide +kernel) (by decide +kernel) (by decide)
theorem r54_32 : pR X d 54 0 Q (32, [some (.ref a), l1], st, mem, 0) = pR X d 54 0 Q (33, [some (.ref a), l1], .ref a :: st, mem, 0) := q_s (.ok (.aload_n 0, 1)) (by decide +kernel) rfl
theorem r54_33 : pR X d 54 0 Q (33, [l0, some (.ref a)], st, mem, 0) = pR X d 54 0 Q (34, [l0, some (.ref a)], .ref a :: st, mem, 0) := q_s (.ok (.aload_n 1, 1)) (by decide +kernel) rfl
theorem r54_34 : pR X d 54 0 Q (34, L, .ref a :: st, mem, 0) = gf mem a 0 4 (fun p => pR X d 54 0 Q (37, L, p :: st, mem, 0)) := q_get (ix := 24) (by decide +kernel) (by decide +kernel)
theorem r54_37 : pR X d 54 0 Q (37, L, p :: .ref a :: st, mem, 0) = pf 54 mem a 0 4 p (fun mem => pR X d 54 0 Q (40, L, st, mem, 0)) := q_put (ix := 24) (by decide +kernel) (by decide +kernel) (by decide)
theorem r54_40 : pR X d 54 0 Q (40, [some (.ref a), l1], st, mem, 0) = pR X d 54 0 Q (41, [some (.ref a), l1], .ref a :: st, mem, 0) := q_s (.ok (.aload_n 0, 1)) (by decide +kernel) rfl
theorem r54_41 : pR X d 54 0 Q (41, [l0, some (.ref a)], st, mem, 0) = pR X d 54 0 Q (42, [l0, some (.ref a)], .ref a :: st, mem, 0) := q_s (.ok (.aload_n 1, 1)) (by decide +kernel) rfl
theorem r54_42 : pR X d 54 0 Q (42, L, .ref a :: st, mem, 0) = gf mem a 0 5 (fun p => pR X d 54 0 Q (45, L, p :: st, mem, 0)) := q_get (ix := 27) (by decide +kernel) (by decide +kernel)
theorem r54_45 : pR X d 54 0 Q (45, L, p :: .ref a :: st, mem, 0) = pf 54 mem a 0 5 p (fun mem => pR X d 54 0 Q (48, L, st, mem, 0)) := q_put (ix := 27) (by decide +kernel) (by decide +kernel) (by decide)
theorem r54_48 : pR X d 54 0 Q (48, L, [], mem, 0) = Q none mem := q_retv (by decide +kernel) rfl
theorem r55_0 : pR X d 55 0 Q (0, [some (.ref a), l1, l2], st, mem, 0) = pR X d 55 0 Q (1, [some (.ref a), l1, l2], .ref a :: st, mem, 0) := q_s (.ok (.aload_n 0, 1)) (by decide +kernel) rfl
theorem r55_1 : pR X d 55 0 Q (1, L, .ref a :: st, mem, 0) = gf mem a 4 0 (fun p => pR X d 55 0 Q (4, L, p :: st, mem, 0)) := q_get (ix := 10) (by decide +kernel) (by decide +kernel)
theorem r55_4 : pR X d 55 0 Q (4, [l0, some (.int x), l2], st, mem, 0) = pR X d 55 0 Q (5, [l0, some (.int x), l2], .int x :: st, mem, 0) := q_s (.ok (.iload_n 1, 1)) (by decide +kernel) rfl
theorem r55_5 : pR X d 55 0 Q (5, L, .int y0 :: .ref a :: [], mem, 0) = (prcv mem 3 a ∧ Cw X d 20 [.ref a, .int y0] mem (fun r mem => pR X d 55 0 Q (8, L, r.toList ++ [], mem, 0))) := q_virt (ix := 83) (y2 := 20) (as := [.int y0]) (by decide +kernel) (by decide +kernel) rfl rfl rfl (Nat.le_of_ble_eq_true rfl) (by decide)
theorem r55_8 : pR X d 55 0 Q (8, L, .int x :: st, mem, 0) = ((x = 0 → pR X d 55 0 Q (22, L, st, mem, 0)) ∧ (¬ (x = 0) → pR X d 55 0 Q (11, L, st, mem, 0))) := r_if (c := .eq) (off := 14) (by decide +kernel) (by decide)
theorem r55_11 : pR X d 55 0 Q (11, [l0, l1, some (.int x)], st, mem, 0) = pR X d 55 0 Q (12, [l0, l1, some (.int x)], .int x :: st, mem, 0) := q_s (.ok (.iload_n 2, 1)) (by decide +kernel) rfl
theorem r55_12 : pR X d 55 0 Q (12, L, st, mem, 0) = pR X d 55 0 Q (13, L, .int (iI (0)) :: st, mem, 0) := q_ic (by decide +kernel)
theorem r55_13 : pR X d 55 0 Q (13, L, st, mem, 0) = pR X d 55 0 Q (16, L, .int (iI (9999)) :: st, mem, 0) := q_si (n := 9999) (by decide +kernel) (by decide +kernel)
theorem r55_16 : pR X d 55 0 Q (16, L, .int y2 :: .int y1 :: .int y0 :: [], mem, 0) = Cw X d 7 [.int y0, .int y1, .int y2] mem (fun r mem => pR X d 55 0 Q (19, L, r.toList ++ [], mem, 0)) := q_stat (ix := 52) (kd := 1) (y2 := 7) (as := [.int y2, .int y1, .int y0]) (by decide +kernel) (by decide +kernel) (by decide) rfl rfl rfl (Nat.le_of_ble_eq_true rfl) (by decide)
theorem r55_19 : pR X d 55 0 Q (19, L, .int x :: st, mem, 0) = ((¬ x = 0 → pR X d 55 0 Q (28, L, st, mem, 0)) ∧ (¬ (¬ x = 0) → pR X d 55 0 Q (22, L, st, mem, 0))) := r_if (c := .ne) (off := 9) (by decide +kernel) (by decide)
theorem r55_22 : pR X d 55 0 Q (22, [some (.ref a), l1, l2], st, mem, 0) = pR X d 55 0 Q (23, [some (.ref a), l1, l2], .ref a :: st, mem, 0) := q_s (.ok (.aload_n 0, 1)) (by decide +kernel) rfl
theorem r55_23 : pR X d 55 0 Q (23, L, st, mem, 0) = pR X d 55 0 Q (24, L, .int (iI (0)) :: st, mem, 0) := q_ic (by decide +kernel)
theorem r55_24 : pR X d 55 0 Q (24, L, .int y0 :: .ref a :: [], mem, 0) = (prcv mem 4 a ∧ Cw X d 8 [.ref a, .int y0] mem (fun r mem => pR X d 55 0 Q (27, L, r.toList ++ [], mem, 0))) := q_virt (ix := 59) (y2 := 8) (as := [.int y0]) (by decide +kernel) (by decide +kernel) rfl rfl rfl (Nat.le_of_ble_eq_true rfl) (by decide)
theorem r55_27 : pR X d 55 0 Q (27, L, [.int x], mem, 0) = Q (some (.int x)) mem := q_reti (by decide +kernel) rfl
theorem r55_28 : pR X d 55 0 Q (28, [some (.ref a), l1, l2], st, mem, 0) = pR X d 55 0 Q (29, [some (.ref a), l1, l2], .ref a :: st, mem, 0) := q_s (.ok (.aload_n 0, 1)) (by decide +kernel) rfl
theorem r55_29 : pR X d 55 0 Q (29, L, st, mem, 0) = pR X d 55 0 Q (30, L, .int (iI (0)) :: st, mem, 0) := q_ic (by decide +kernel)
theorem r55_30 : pR X d 55 0 Q (30, [l0, some (.int x), l2], st, mem, 0) = pR X d 55 0 Q (31, [l0, some (.int x), l2], .int x :: st, mem, 0) := q_s (.ok (.iload_n 1, 1)) (by decide +kernel) rfl
theorem r55_31 : pR X d 55 0 Q (31, [l0, l1, some (.int x)], st, mem, 0) = pR X d 55 0 Q (32, [l0, l1, some (.int x)], .int x :: st, mem, 0) := q_s (.ok (.iload_n 2, 1)) (by decide +kernel) rfl
theorem r55_32 : pR X d 55 0 Q (32, L, .int y2 :: .int y1 :: .int y0 :: .ref a :: [], mem, 0) = (prcv mem 4 a ∧ Cw X d 56 [.ref a, .int y0, .int y1, .int y2] mem (fun r mem => pR X d 55 0 Q (35, L, r.toList ++ [], mem, 0))) := q_virt (ix := 147) (y2 := 56) (as := [.int y2, .int y1, .int y0]) (by decide +kernel) (by decide +kernel) rfl rfl rfl (Nat.le_of_ble_eq_true rfl) (by decide)
theorem r55_35 : pR X d 55 0 Q (35, L, [.int x], mem, 0) = Q (some (.int x)) mem := q_reti (by decide +kernel) rfl
theorem r56_0 : pR X d 56 0 Q (0, [some (.ref a), l1, l2, l3, l4], st, mem, 0) = pR X d 56 0 Q (1, [some (.ref a), l1, l2, l3, l4], .ref a :: st, mem, 0) := q_s (.ok (.aload_n 0, 1)) (by decide +kernel) rfl
theorem r56_1 : pR X d 56 0 Q (1, L, .ref a :: st, mem, 0) = gf mem a 4 1 (fun p => pR X d 56 0 Q (4, L, p :: st, mem, 0)) := q_get (ix := 16) (by decide +kernel) (by decide +kernel)
theorem r56_4 : pR X d 56 0 Q (4, [some (.ref a), l1, l2, l3, l4], st, mem, 0) = pR X d 56 0 Q (5, [some (.ref a), l1, l2, l3, l4], .ref a :: st, mem, 0) := q_s (.ok (.aload_n 0, 1)) (by decide +kernel) rfl
theorem r56_5 : pR X d 56 0 Q (5, L, .ref a :: st, mem, 0) = gf mem a 4 0 (fun p => pR X d 56 0 Q (8, L, p :: st, mem, 0)) := q_get (ix := 10) (by decide +kernel) (by decide +kernel)
theorem r56_8 : pR X d 56 0 Q (8, L, .ref b0 :: .ref a :: [], mem, 0) = (prcv mem 3 a ∧ Cw X d 53 [.ref a, .ref b0] mem (fun r mem => pR X d 56 0 Q (11, L, r.toList ++ [], mem, 0))) := q_virt (ix := 143) (y2 := 53) (as := [.ref b0]) (by decide +kernel) (by decide +kernel) rfl rfl rfl (Nat.le_of_ble_eq_true rfl) (by decide)
theorem r56_11 : pR X d 56 0 Q (11, L, st, mem, 0) = pR X d 56 0 Q (12, L, .int (iI (0)) :: st, mem, 0) := q_ic (by decide +kernel)
theorem r56_12 : pR X d 56 0 Q (12, [l0, l1, l2, l3, l4], .int x :: st, mem, 0) = pR X d 56 0 Q (14, [l0, l1, l2, cl1 l3, some (.int x)], st, mem, 0) := q_s (.ok (.istore 4, 2)) (by decide +kernel) rfl
theorem r56_14 : pR X d 56 0 Q (14, [l0, l1, l2, l3, some (.int x)], st, mem, 0) = pR X d 56 0 Q (16, [l0, l1, l2, l3, some (.int x)], .int x :: st, mem, 0) := q_s (.ok (.iload 4, 2)) (by decide +kernel) rfl
theorem r56_16 : pR X d 56 0 Q (16, L, st, mem, 0) = pR X d 56 0 Q (19, L, .int (iI (200)) :: st, mem, 0) := q_si (n := 200) (by decide +kernel) (by decide +kernel)
theorem r56_19 : pR X d 56 0 Q (19, L, .int z :: .int x :: st, mem, 0) = ((z < x → pR X d 56 0 Q (51, L, st, mem, 0)) ∧ (¬ (z < x) → pR X d 56 0 Q (22, L, st, mem, 0))) := r_ic (c := .gt) (off := 32) (by decide +kernel) (by decide)
theorem r56_22 : pR X d 56 0 Q (22, [some (.ref a), l1, l2, l3, l4], st, mem, 0) = pR X d 56 0 Q (23, [some (.ref a), l1, l2, l3, l4], .ref a :: st, mem, 0) := q_s (.ok (.aload_n 0, 1)) (by decide +kernel) rfl
theorem r56_23 : pR X d 56 0 Q (23, L, .ref a :: st, mem, 0) = gf mem a 4 1 (fun p => pR X d 56 0 Q (26, L, p :: st, mem, 0)) := q_get (ix := 16) (by decide +kernel) (by decide +kernel)
theorem r56_26 : pR X d 56 0 Q (26, [l0, some (.int x), l2, l3, l4], st, mem, 0) = pR X d 56 0 Q (27, [l0, some (.int x), l2, l3, l4], .int x :: st, mem, 0) := q_s (.ok (.iload_n 1, 1)) (by decide +kernel) rfl
theorem r56_27 : pR X d 56 0 Q (27, [l0, l1, some (.int x), l3, l4], st, mem, 0) = pR X d 56 0 Q (28, [l0, l1, some (.int x), l3, l4], .int x :: st, mem, 0) := q_s (.ok (.iload_n 2, 1)) (by decide +kernel) rfl
theorem r56_28 : pR X d 56 0 Q (28, [l0, l1, l2, some (.int x), l4], st, mem, 0) = pR X d 56 0 Q (29, [l0, l1, l2, some (.int x), l4], .int x :: st, mem, 0) := q_s (.ok (.iload_n 3, 1)) (by decide +kernel) rfl
theorem r56_29 : pR X d 56 0 Q (29, L, .int y2 :: .int y1 :: .int y0 :: .ref a :: [], mem, 0) = (prcv mem 3 a ∧ Cw X d 57 [.ref a, .int y0, .int y1, .int y2] mem (fun r mem => pR X d 56 0 Q (32, L, r.toList ++ [], mem, 0))) := q_virt (ix := 269) (y2 := 57) (as := [.int y2, .int y1, .int y0]) (by decide +kernel) (by decide +kernel) rfl rfl rfl (Nat.le_of_ble_eq_true rfl) (by decide)
theorem r56_32 : pR X d 56 0 Q (32, L, .int x :: st, mem, 0) = ((x = 0 → pR X d 56 0 Q (38, L, st, mem, 0)) ∧ (¬ (x = 0) → pR X d 56 0 Q (35, L, st, mem, 0))) := r_if (c := .eq) (off := 6) (by decide +kernel) (by decide)
theorem r56_35 : pR X d 56 0 Q (35, [l0, l1, l2, l3, some (.int x)], st, mem, 0) = pR X d 56 0 Q (37, [l0, l1, l2, l3, some (.int x)], .int x :: st, mem, 0) := q_s (.ok (.iload 4, 2)) (by decide +kernel) rfl
theorem r56_37 : pR X d 56 0 Q (37, L, [.int x], mem, 0) = Q (some (.int x)) mem := q_reti (by decide +kernel) rfl
theorem r56_38 : pR X d 56 0 Q (38, [some (.ref a), l1, l2, l3, l4], st, mem, 0) = pR X d 56 0 Q (39, [some (.ref a), l1, l2, l3, l4], .ref a :: st, mem, 0) := q_s (.ok (.aload_n 0, 1)) (by decide +kernel) rfl
theorem r56_39 : pR X d 56 0 Q (39, L, .ref a :: st, mem, 0) = gf mem a 4 1 (fun p => pR X d 56 0 Q (42, L, p :: st, mem, 0)) := q_get (ix := 16) (by decide +kernel) (by decide +kernel)
theorem r56_42 : pR X d 56 0 Q (42, L, .ref a :: [], mem, 0) = (prcv mem 3 a ∧ Cw X d 41 [.ref a] mem (fun r mem => pR X d 56 0 Q (45, L, r.toList ++ [], mem, 0))) := q_virt (ix := 193) (y2 := 41) (as := []) (by decide +kernel) (by decide +kernel) rfl rfl rfl (Nat.le_of_ble_eq_true rfl) (by decide)
theorem r56_45 : pR X d 56 0 Q (45, [l0, l1, l2, l3, some (.int x)], st, mem, 0) = pR X d 56 0 Q (48, [l0, l1, l2, cl1 l3, some (.int (x + iI (1)))], st, mem, 0) := q_s (.ok (.iinc 4 (1), 3)) (by decide +kernel) rfl
theorem r56_48 : pR X d 56 0 Q (48, L, st, mem, 0) = pR X d 56 0 Q (14, L, st, mem, 0) := q_s (.ok (.goto (-34), 3)) (by decide +kernel) rfl
theorem r56_51 : pR X d 56 0 Q (51, [some (.ref a), l1, l2, l3, l4], st, mem, 0) = pR X d 56 0 Q (52, [some (.ref a), l1, l2, l3, l4], .ref a :: st, mem, 0) := q_s (.ok (.aload_n 0, 1)) (by decide +kernel) rfl
theorem r56_52 : pR X d 56 0 Q (52, L, st, mem, 0) = pR X d 56 0 Q (53, L, .int (iI (3)) :: st, mem, 0) := q_ic (by decide +kernel)
theorem r56_53 : pR X d 56 0 Q (53, L, .int y0 :: .ref a :: [], mem, 0) = (prcv mem 4 a ∧ Cw X d 8 [.ref a, .int y0] mem (fun r mem => pR X d 56 0 Q (56, L, r.toList ++ [], mem, 0))) := q_virt (ix := 59) (y2 := 8) (as := [.int y0]) (by decide +kernel) (by decide +kernel) rfl rfl rfl (Nat.le_of_ble_eq_true rfl) (by decide)
theorem r56_56 : pR X d 56 0 Q (56, L, [.int x], mem, 0) = Q (some (.int x)) mem := q_reti (by decide +kernel) rfl
theorem r57_0 : pR X d 57 0 Q (0, [l0, some (.int x), l2, l3], st, mem, 0) = pR X d 57 0 Q (1, [l0, some (.int x), l2, l3], .int x :: st, mem, 0) := q_s (.ok (.iload_n 1, 1)) (by decide +kernel) rfl
theorem r57_1 : pR X d 57 0 Q (1, L, .int x :: st, mem, 0) = (((x.toInt < 0 ∨ 2 < x.toInt) → pR X d 57 0 Q (90, L, st, mem, 0)) ∧ (x.toInt = 0 → pR X d 57 0 Q (28, L, st, mem, 0)) ∧ (x.toInt = 1 → pR X d 57 0 Q (51, L, st, mem, 0)) ∧ (x.toInt = 2 → pR X d 57 0 Q (77, L, st, mem, 0)) ∧ True) := q_tsl (dflt := 89) (lo := 0) (hi := 2) (offs := #[27, 50, 76]) (ll := 27) (by decide +kernel) (by decide) (by decide) (by decide)
theorem r57_28 : pR X d 57 0 Q (28, [some (.ref a), l1, l2, l3], st, mem, 0) = pR X d 57 0 Q (29, [some (.ref a), l1, l2, l3], .ref a :: st, mem, 0) := q_s (.ok (.aload_n 0, 1)) (by decide +kernel) rfl
theorem r57_29 : pR X d 57 0 Q (29, [l0, l1, some (.int x), l3], st, mem, 0) = pR X d 57 0 Q (30, [l0, l1, some (.int x), l3], .int x :: st, mem, 0) := q_s (.ok (.iload_n 2, 1)) (by decide +kernel) rfl
theorem r57_30 : pR X d 57 0 Q (30, L, .int y0 :: .ref a :: [], mem, 0) = (prcv mem 3 a ∧ Cw X d 20 [.ref a, .int y0] mem (fun r mem => pR X d 57 0 Q (33, L, r.toList ++ [], mem, 0))) := q_virt (ix := 85) (y2 := 20) (as := [.int y0]) (by decide +kernel) (by decide +kernel) rfl rfl rfl (Nat.le_of_ble_eq_true rfl) (by decide)
theorem r57_33 : pR X d 57 0 Q (33, L, .int x :: st, mem, 0) = ((x = 0 → pR X d 57 0 Q (49, L, st, mem, 0)) ∧ (¬ (x = 0) → pR X d 57 0 Q (36, L, st, mem, 0))) := r_if (c := .eq) (off := 16) (by decide +kernel) (by decide)
theorem r57_36 : pR X d 57 0 Q (36, [some (.ref a), l1, l2, l3], st, mem, 0) = pR X d 57 0 Q (37, [some (.ref a), l1, l2, l3], .ref a :: st, mem, 0) := q_s (.ok (.aload_n 0, 1)) (by decide +kernel) rfl
theorem r57_37 : pR X d 57 0 Q (37, [l0, l1, some (.int x), l3], st, mem, 0) = pR X d 57 0 Q (38, [l0, l1, some (.int x), l3], .int x :: st, mem, 0) := q_s (.ok (.iload_n 2, 1)) (by decide +kernel) rfl
theorem r57_38 : pR X d 57 0 Q (38, L, .int y0 :: .ref a :: [], mem, 0) = (prcv mem 3 a ∧ Cw X d 22 [.ref a, .int y0] mem (fun r mem => pR X d 57 0 Q (41, L, r.toList ++ [], mem, 0))) := q_virt (ix := 55) (y2 := 22) (as := [.int y0]) (by decide +kernel) (by decide +kernel) rfl rfl rfl (Nat.le_of_ble_eq_true rfl) (by decide)
theorem r57_41 : pR X d 57 0 Q (41, [l0, l1, l2, some (.int x)], st, mem, 0) = pR X d 57 0 Q (42, [l0, l1, l2, some (.int x)], .int x :: st, mem, 0) := q_s (.ok (.iload_n 3, 1)) (by decide +kernel) rfl
theorem r57_42 : pR X d 57 0 Q (42, L, .int z :: .int x :: st, mem, 0) = ((x < z → pR X d 57 0 Q (49, L, st, mem, 0)) ∧ (¬ (x < z) → pR X d 57 0 Q (45, L, st, mem, 0))) := r_ic (c := .lt) (off := 7) (by decide +kernel) (by decide)
theorem r57_45 : pR X d 57 0 Q (45, L, st, mem, 0) = pR X d 57 0 Q (46, L, .int (iI (1)) :: st, mem, 0) := q_ic (by decide +kernel)
theorem r57_46 : pR X d 57 0 Q (46, L, st, mem, 0) = pR X d 57 0 Q (50, L, st, mem, 0) := q_s (.ok (.goto (4), 3)) (by decide +kernel) rfl
theorem r57_49 : pR X d 57 0 Q (49, L, st, mem, 0) = pR X d 57 0 Q (50, L, .int (iI (0)) :: st, mem, 0) := q_ic (by decide +kernel)
theorem r57_50 : pR X d 57 0 Q (50, L, [.int x], mem, 0) = (zb .boolean x ∧ Q (some (.int x)) mem) := q_retz (by decide +kernel) rfl (by decide)
theorem r57_51 : pR X d 57 0 Q (51, [some (.ref a), l1, l2, l3], st, mem, 0) = pR X d 57 0 Q (52, [some (.ref a), l1, l2, l3], .ref a :: st, mem, 0) := q_s (.ok (.aload_n 0, 1)) (by decide +kernel) rfl
theorem r57_52 : pR X d 57 0 Q (52, [l0, l1, some (.int x), l3], st, mem, 0) = pR X d 57 0 Q (53, [l0, l1, some (.int x), l3], .int x :: st, mem, 0) := q_s (.ok (.iload_n 2, 1)) (by decide +kernel) rfl
theorem r57_53 : pR X d 57 0 Q (53, L, .int y0 :: .ref a :: [], mem, 0) = (prcv mem 3 a ∧ Cw X d 20 [.ref a, .int y0] mem (fun r mem => pR X d 57 0 Q (56, L, r.toList ++ [], mem, 0))) := q_virt (ix := 85) (y2 := 20) (as := [.int y0]) (by decide +kernel) (by decide +kernel) rfl rfl rfl (Nat.le_of_ble_eq_true rfl) (by decide)
theorem r57_56 : pR X d 57 0 Q (56, L, .int x :: st, mem, 0) = ((x = 0 → pR X d 57 0 Q (75, L, st, mem, 0)) ∧ (¬ (x = 0) → pR X d 57 0 Q (59, L, st, mem, 0))) := r_if (c := .eq) (off := 19) (by decide +kernel) (by decide)
theorem r57_59 : pR X d 57 0 Q (59, [some (.ref a), l1, l2, l3], st, mem, 0) = pR X d 57 0 Q (60, [some (.ref a), l1, l2, l3], .ref a :: st, mem, 0) := q_s (.ok (.aload_n 0, 1)) (by decide +kernel) rfl
theorem r57_60 : pR X d 57 0 Q (60, L, .ref a :: st, mem, 0) = gf mem a 3 5 (fun p => pR X d 57 0 Q (63, L, p :: st, mem, 0)) := q_get (ix := 29) (by decide +kernel) (by decide +kernel)
theorem r57_63 : pR X d 57 0 Q (63, [l0, l1, some (.int x), l3], st, mem, 0) = pR X d 57 0 Q (64, [l0, l1, some (.int x), l3], .int x :: st, mem, 0) := q_s (.ok (.iload_n 2, 1)) (by decide +kernel) rfl
theorem r57_64 : pR X d 57 0 Q (64, L, .int x :: .ref a :: st, mem, 0) = ra mem a x (fun b => pR X d 57 0 Q (65, L, .ref b :: st, mem, 0)) := q_ra (by decide +kernel)
theorem r57_65 : pR X d 57 0 Q (65, L, .ref a :: st, mem, 0) = gf mem a 0 3 (fun p => pR X d 57 0 Q (68, L, p :: st, mem, 0)) := q_get (ix := 79) (by decide +kernel) (by decide +kernel)
theorem r57_68 : pR X d 57 0 Q (68, L, .int x :: st, mem, 0) = ((x ≤ 0 → pR X d 57 0 Q (75, L, st, mem, 0)) ∧ (¬ (x ≤ 0) → pR X d 57 0 Q (71, L, st, mem, 0))) := r_if (c := .le) (off := 7) (by decide +kernel) (by decide)
theorem r57_71 : pR X d 57 0 Q (71, L, st, mem, 0) = pR X d 57 0 Q (72, L, .int (iI (1)) :: st, mem, 0) := q_ic (by decide +kernel)
theorem r57_72 : pR X d 57 0 Q (72, L, st, mem, 0) = pR X d 57 0 Q (76, L, st, mem, 0) := q_s (.ok (.goto (4), 3)) (by decide +kernel) rfl
theorem r57_75 : pR X d 57 0 Q (75, L, st, mem, 0) = pR X d 57 0 Q (76, L, .int (iI (0)) :: st, mem, 0) := q_ic (by decide +kernel)
theorem r57_76 : pR X d 57 0 Q (76, L, [.int x], mem, 0) = (zb .boolean x ∧ Q (some (.int x)) mem) := q_retz (by decide +kernel) rfl (by decide)
theorem r57_77 : pR X d 57 0 Q (77, [some (.ref a), l1, l2, l3], st, mem, 0) = pR X d 57 0 Q (78, [some (.ref a), l1, l2, l3], .ref a :: st, mem, 0) := q_s (.ok (.aload_n 0, 1)) (by decide +kernel) rfl
theorem r57_78 : pR X d 57 0 Q (78, L, .ref a :: [], mem, 0) = (prcv mem 3 a ∧ Cw X d 50 [.ref a] mem (fun r mem => pR X d 57 0 Q (81, L, r.toList ++ [], mem, 0))) := q_virt (ix := 138) (y2 := 50) (as := []) (by decide +kernel) (by decide +kernel) rfl rfl rfl (Nat.le_of_ble_eq_true rfl) (by decide)
theorem r57_81 : pR X d 57 0 Q (81, L, .int x :: st, mem, 0) = ((¬ x = 0 → pR X d 57 0 Q (88, L, st, mem, 0)) ∧ (¬ (¬ x = 0) → pR X d 57 0 Q (84, L, st, mem, 0))) := r_if (c := .ne) (off := 7) (by decide +kernel) (by decide)
theorem r57_84 : pR X d 57 0 Q (84, L, st, mem, 0) = pR X d 57 0 Q (85, L, .int (iI (1)) :: st, mem, 0) := q_ic (by decide +kernel)
theorem r57_85 : pR X d 57 0 Q (85, L, st, mem, 0) = pR X d 57 0 Q (89, L, st, mem, 0) := q_s (.ok (.goto (4), 3)) (by decide +kernel) rfl
theorem r57_88 : pR X d 57 0 Q (88, L, st, mem, 0) = pR X d 57 0 Q (89, L, .int (iI (0)) :: st, mem, 0) := q_ic (by decide +kernel)
theorem r57_89 : pR X d 57 0 Q (89, L, [.int x], mem, 0) = (zb .boolean x ∧ Q (some (.int x)) mem) := q_retz (by decide +kernel) rfl (by decide)
theorem r57_90 : pR X d 57 0 Q (90, [some (.ref a), l1, l2, l3], st, mem, 0) = pR X d 57 0 Q (91, [some (.ref a), l1, l2, l3], .ref a :: st, mem, 0) := q_s (.ok (.aload_n 0, 1)) (by decide +kernel) rfl
theorem r57_91 : pR X d 57 0 Q (91, L, .ref a :: st, mem, 0) = gf mem a 3 1 (fun p => pR X d 57 0 Q (94, L, p :: st, mem, 0)) := q_get (ix := 15) (by decide +kernel) (by decide +kernel)
theorem r57_94 : pR X d 57 0 Q (94, [l0, l1, l2, some (.int x)], st, mem, 0) = pR X d 57 0 Q (95, [l0, l1, l2, some (.int x)], .int x :: st, mem, 0) := q_s (.ok (.iload_n 3, 1)) (by decide +kernel) rfl
theorem r57_95 : pR X d 57 0 Q (95, L, .int z :: .int x :: st, mem, 0) = ((x < z → pR X d 57 0 Q (102, L, st, mem, 0)) ∧ (¬ (x < z) → pR X d 57 0 Q (98, L, st, mem, 0))) := r_ic (c := .lt) (off := 7) (by decide +kernel) (by decide)
theorem r57_98 : pR X d 57 0 Q (98, L, st, mem, 0) = pR X d 57 0 Q (99, L, .int (iI (1)) :: st, mem, 0) := q_ic (by decide +kernel)
theorem r57_99 : pR X d 57 0 Q (99, L, st, mem, 0) = pR X d 57 0 Q (103, L, st, mem, 0) := q_s (.ok (.goto (4), 3)) (by decide +kernel) rfl
theorem r57_102 : pR X d 57 0 Q (102, L, st, mem, 0) = pR X d 57 0 Q (103, L, .int (iI (0)) :: st, mem, 0) := q_ic (by decide +kernel)
theorem r57_103 : pR X d 57 0 Q (103, L, [.int x], mem, 0) = (zb .boolean x ∧ Q (some (.int x)) mem) := q_retz (by decide +kernel) rfl (by decide)
theorem r58_0 : pR X d 58 0 Q (0, [some (.ref a), l1], st, mem, 0) = pR X d 58 0 Q (1, [some (.ref a), l1], .ref a :: st, mem, 0) := q_s (.ok (.aload_n 0, 1)) (by decide +kernel) rfl
theorem r58_1 : pR X d 58 0 Q (1, L, .ref a :: st, mem, 0) = gf mem a 4 0 (fun p => pR X d 58 0 Q (4, L, p :: st, mem, 0)) := q_get (ix := 10) (by decide +kernel) (by decide +kernel)
theorem r58_4 : pR X d 58 0 Q (4, [l0, some (.int x)], st, mem, 0) = pR X d 58 0 Q (5, [l0, some (.int x)], .int x :: st, mem, 0) := q_s (.ok (.iload_n 1, 1)) (by decide +kernel) rfl
theorem r58_5 : pR X d 58 0 Q (5, L, .int y0 :: .ref a :: [], mem, 0) = (prcv mem 3 a ∧ Cw X d 20 [.ref a, .int y0] mem (fun r mem => pR X d 58 0 Q (8, L, r.toList ++ [], mem, 0))) := q_virt (ix := 83) (y2 := 20) (as := [.int y0]) (by decide +kernel) (by decide +kernel) rfl rfl rfl (Nat.le_of_ble_eq_true rfl) (by decide)
theorem r58_8 : pR X d 58 0 Q (8, L, .int x :: st, mem, 0) = ((x = 0 → pR X d 58 0 Q (21, L, st, mem, 0)) ∧ (¬ (x = 0) → pR X d 58 0 Q (11, L, st, mem, 0))) := r_if (c := .eq) (off := 13) (by decide +kernel) (by decide)
theorem r58_11 : pR X d 58 0 Q (11, [some (.ref a), l1], st, mem, 0) = pR X d 58 0 Q (12, [some (.ref a), l1], .ref a :: st, mem, 0) := q_s (.ok (.aload_n 0, 1)) (by decide +kernel) rfl
theorem r58_12 : pR X d 58 0 Q (12, L, st, mem, 0) = pR X d 58 0 Q (13, L, .int (iI (1)) :: st, mem, 0) := q_ic (by decide +kernel)
theorem r58_13 : pR X d 58 0 Q (13, [l0, some (.int x)], st, mem, 0) = pR X d 58 0 Q (14, [l0, some (.int x)], .int x :: st, mem, 0) := q_s (.ok (.iload_n 1, 1)) (by decide +kernel) rfl
theorem r58_14 : pR X d 58 0 Q (14, L, st, mem, 0) = pR X d 58 0 Q (15, L, .int (iI (0)) :: st, mem, 0) := q_ic (by decide +kernel)
theorem r58_15 : pR X d 58 0 Q (15, L, .int y2 :: .int y1 :: .int y0 :: .ref a :: [], mem, 0) = (prcv mem 4 a ∧ Cw X d 56 [.ref a, .int y0, .int y1, .int y2] mem (fun r mem => pR X d 58 0 Q (18, L, r.toList ++ [], mem, 0))) := q_virt (ix := 147) (y2 := 56) (as := [.int y2, .int y1, .int y0]) (by decide +kernel) (by decide +kernel) rfl rfl rfl (Nat.le_of_ble_eq_true rfl) (by decide)
theorem r58_18 : pR X d 58 0 Q (18, L, st, mem, 0) = pR X d 58 0 Q (26, L, st, mem, 0) := q_s (.ok (.goto (8), 3)) (by decide +kernel) rfl
theorem r58_21 : pR X d 58 0 Q (21, [some (.ref a), l1], st, mem, 0) = pR X d 58 0 Q (22, [some (.ref a), l1], .ref a :: st, mem, 0) := q_s (.ok (.aload_n 0, 1)) (by decide +kernel) rfl
theorem r58_22 : pR X d 58 0 Q (22, L, st, mem, 0) = pR X d 58 0 Q (23, L, .int (iI (0)) :: st, mem, 0) := q_ic (by decide +kernel)
theorem r58_23 : pR X d 58 0 Q (23, L, .int y0 :: .ref a :: [], mem, 0) = (prcv mem 4 a ∧ Cw X d 8 [.ref a, .int y0] mem (fun r mem => pR X d 58 0 Q (26, L, r.toList ++ [], mem, 0))) := q_virt (ix := 59) (y2 := 8) (as := [.int y0]) (by decide +kernel) (by decide +kernel) rfl rfl rfl (Nat.le_of_ble_eq_true rfl) (by decide)
theorem r58_26 : pR X d 58 0 Q (26, L, [.int x], mem, 0) = Q (some (.int x)) mem := q_reti (by decide +kernel) rfl
theorem r59_0 : pR X d 59 0 Q (0, [some (.ref a)], st, mem, 0) = pR X d 59 0 Q (1, [some (.ref a)], .ref a :: st, mem, 0) := q_s (.ok (.aload_n 0, 1)) (by decide +kernel) rfl
theorem r59_1 : pR X d 59 0 Q (1, L, st, mem, 0) = pR X d 59 0 Q (2, L, .int (iI (2)) :: st, mem, 0) := q_ic (by decide +kernel)
theorem r59_2 : pR X d 59 0 Q (2, L, st, mem, 0) = pR X d 59 0 Q (3, L, .int (iI (-1)) :: st, mem, 0) := q_ic (by decide +kernel)
theorem r59_3 : pR X d 59 0 Q (3, L, st, mem, 0) = pR X d 59 0 Q (4, L, .int (iI (0)) :: st, mem, 0) := q_ic (by decide +kernel)
theorem r59_4 : pR X d 59 0 Q (4, L, .int y2 :: .int y1 :: .int y0 :: .ref a :: [], mem, 0) = (prcv mem 4 a ∧ Cw X d 56 [.ref a, .int y0, .int y1, .int y2] mem (fun r mem => pR X d 59 0 Q (7, L, r.toList ++ [], mem, 0))) := q_virt (ix := 147) (y2 := 56) (as := [.int y2, .int y1, .int y0]) (by decide +kernel) (by decide +kernel) rfl rfl rfl (Nat.le_of_ble_eq_true rfl) (by decide)
theorem r59_7 : pR X d 59 0 Q (7, L, [.int x], mem, 0) = Q (some (.int x)) mem := q_reti (by decide +kernel) rfl
theorem r60_0 : pR X d 60 0 Q (0, [l0, some (.int x)], st, mem, 0) = pR X d 60 0 Q (1, [l0, some (.int x)], .int x :: st, mem, 0) := q_s (.ok (.iload_n 1, 1)) (by decide +kernel) rfl
theorem r60_1 : pR X d 60 0 Q (1, L, st, mem, 0) = pR X d 60 0 Q (2, L, .int (iI (0)) :: st, mem, 0) := q_ic (by decide +kernel)
theorem r60_2 : pR X d 60 0 Q (2, L, st, mem, 0) = pR X d 60 0 Q (5, L, .int (iI (9999)) :: st, mem, 0) := q_si (n := 9999) (by decide +kernel) (by decide +kernel)
theorem r60_5 : pR X d 60 0 Q (5, L, .int y2 :: .int y1 :: .int y0 :: [], mem, 0) = Cw X d 7 [.int y0, .int y1, .int y2] mem (fun r mem => pR X d 60 0 Q (8, L, r.toList ++ [], mem, 0)) := q_stat (ix := 52) (kd := 1) (y2 := 7) (as := [.int y2, .int y1, .int y0]) (by decide +kernel) (by decide +kernel) (by decide) rfl rfl rfl (Nat.le_of_ble_eq_true rfl) (by decide)
theorem r60_8 : pR X d 60 0 Q (8, L, .int x :: st, mem, 0) = ((x = 0 → pR X d 60 0 Q (21, L, st, mem, 0)) ∧ (¬ (x = 0) → pR X d 60 0 Q (11, L, st, mem, 0))) := r_if (c := .eq) (off := 13) (by decide +kernel) (by decide)
theorem r60_11 : pR X d 60 0 Q (11, [some (.ref a), l1], st, mem, 0) = pR X d 60 0 Q (12, [some (.ref a), l1], .ref a :: st, mem, 0) := q_s (.ok (.aload_n 0, 1)) (by decide +kernel) rfl
theorem r60_12 : pR X d 60 0 Q (12, L, st, mem, 0) = pR X d 60 0 Q (13, L, .int (iI (3)) :: st, mem, 0) := q_ic (by decide +kernel)
theorem r60_13 : pR X d 60 0 Q (13, L, st, mem, 0) = pR X d 60 0 Q (14, L, .int (iI (-1)) :: st, mem, 0) := q_ic (by decide +kernel)
theorem r60_14 : pR X d 60 0 Q (14, [l0, some (.int x)], st, mem, 0) = pR X d 60 0 Q (15, [l0, some (.int x)], .int x :: st, mem, 0) := q_s (.ok (.iload_n 1, 1)) (by decide +kernel) rfl
theorem r60_15 : pR X d 60 0 Q (15, L, .int y2 :: .int y1 :: .int y0 :: .ref a :: [], mem, 0) = (prcv mem 4 a ∧ Cw X d 56 [.ref a, .int y0, .int y1, .int y2] mem (fun r mem => pR X d 60 0 Q (18, L, r.toList ++ [], mem, 0))) := q_virt (ix := 147) (y2 := 56) (as := [.int y2, .int y1, .int y0]) (by decide +kernel) (by decide +kernel) rfl rfl rfl (Nat.le_of_ble_eq_true rfl) (by decide)
theorem r60_18 : pR X d 60 0 Q (18, L, st, mem, 0) = pR X d 60 0 Q (26, L, st, mem, 0) := q_s (.ok (.goto (8), 3)) (by decide +kernel) rfl
theorem r60_21 : pR X d 60 0 Q (21, [some (.ref a), l1], st, mem, 0) = pR X d 60 0 Q (22, [some (.ref a), l1], .ref a :: st, mem, 0) := q_s (.ok (.aload_n 0, 1)) (by decide +kernel) rfl
theorem r60_22 : pR X d 60 0 Q (22, L, st, mem, 0) = pR X d 60 0 Q (23, L, .int (iI (0)) :: st, mem, 0) := q_ic (by decide +kernel)
theorem r60_23 : pR X d 60 0 Q (23, L, .int y0 :: .ref a :: [], mem, 0) = (prcv mem 4 a ∧ Cw X d 8 [.ref a, .int y0] mem (fun r mem => pR X d 60 0 Q (26, L, r.toList ++ [], mem, 0))) := q_virt (ix := 59) (y2 := 8) (as := [.int y0]) (by decide +kernel) (by decide +kernel) rfl rfl rfl (Nat.le_of_ble_eq_true rfl) (by decide)
theorem r60_26 : pR X d 60 0 Q (26, L, [.int x], mem, 0) = Q (some (.int x)) mem := q_reti (by decide +kernel) rfl
end

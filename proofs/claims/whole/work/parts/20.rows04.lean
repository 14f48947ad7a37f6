section
variable {X : pXX} {d lim u : Nat} {Q : Option Value → List pME → Prop} {L : List (Option Value)} {st : List Value} {mem : List pME} {x z z1 z2 z3 y0 y1 y2 y3 y4 k0 k1 k2 k3 k4 k5 k6 : Int32} {v w v0 v1 v2 w0 w1 w2 : Int64} {a b b0 b1 b2 b3 c0 c1 c2 c3 c4 c5 : Nat} {p : Value} {l0 l1 l2 l3 l4 l5 l6 l7 l8 l9 : Option Value}
theorem r114_0 : pR X d 114 0 Q (0, [l0, some (.int x), l2], st, mem, 0) = pR X d 114 0 Q (1, [l0, some (.int x), l2], .int x :: st, mem, 0) := q_s (.ok (.iload_n 1, 1)) (by decide +kernel) rfl
theorem r114_1 : pR X d 114 0 Q (1, L, .int y0 :: [], mem, 0) = Cw X d 115 [.int y0] mem (fun r mem => pR X d 114 0 Q (4, L, r.toList ++ [], mem, 0)) := q_stat (ix := 215) (kd := 1) (y2 := 115) (as := [.int y0]) (by decide +kernel) (by decide +kernel) (by decide) rfl rfl rfl (Nat.le_of_ble_eq_true rfl) (by decide)
theorem r114_4 : pR X d 114 0 Q (4, L, .int x :: st, mem, 0) = ((x = 0 → pR X d 114 0 Q (23, L, st, mem, 0)) ∧ (¬ (x = 0) → pR X d 114 0 Q (7, L, st, mem, 0))) := r_if (c := .eq) (off := 19) (by decide +kernel) (by decide)
theorem r114_7 : pR X d 114 0 Q (7, [l0, l1, some (.int x)], st, mem, 0) = pR X d 114 0 Q (8, [l0, l1, some (.int x)], .int x :: st, mem, 0) := q_s (.ok (.iload_n 2, 1)) (by decide +kernel) rfl
theorem r114_8 : pR X d 114 0 Q (8, L, st, mem, 0) = pR X d 114 0 Q (9, L, .int (iI (-1)) :: st, mem, 0) := q_ic (by decide +kernel)
theorem r114_9 : pR X d 114 0 Q (9, L, .int z :: .int x :: st, mem, 0) = ((x = z → pR X d 114 0 Q (29, L, st, mem, 0)) ∧ (¬ (x = z) → pR X d 114 0 Q (12, L, st, mem, 0))) := r_ic (c := .eq) (off := 20) (by decide +kernel) (by decide)
theorem r114_12 : pR X d 114 0 Q (12, [some (.ref a), l1, l2], st, mem, 0) = pR X d 114 0 Q (13, [some (.ref a), l1, l2], .ref a :: st, mem, 0) := q_s (.ok (.aload_n 0, 1)) (by decide +kernel) rfl
theorem r114_13 : pR X d 114 0 Q (13, L, .ref a :: st, mem, 0) = gf mem a 4 0 (fun p => pR X d 114 0 Q (16, L, p :: st, mem, 0)) := q_get (ix := 10) (by decide +kernel) (by decide +kernel)
theorem r114_16 : pR X d 114 0 Q (16, [l0, l1, some (.int x)], st, mem, 0) = pR X d 114 0 Q (17, [l0, l1, some (.int x)], .int x :: st, mem, 0) := q_s (.ok (.iload_n 2, 1)) (by decide +kernel) rfl
theorem r114_17 : pR X d 114 0 Q (17, L, .int y0 :: .ref a :: [], mem, 0) = (prcv mem 3 a ∧ Cw X d 20 [.ref a, .int y0] mem (fun r mem => pR X d 114 0 Q (20, L, r.toList ++ [], mem, 0))) := q_virt (ix := 83) (y2 := 20) (as := [.int y0]) (by decide +kernel) (by decide +kernel) rfl rfl rfl (Nat.le_of_ble_eq_true rfl) (by decide)
theorem r114_20 : pR X d 114 0 Q (20, L, .int x :: st, mem, 0) = ((¬ x = 0 → pR X d 114 0 Q (29, L, st, mem, 0)) ∧ (¬ (¬ x = 0) → pR X d 114 0 Q (23, L, st, mem, 0))) := r_if (c := .ne) (off := 9) (by decide +kernel) (by decide)
theorem r114_23 : pR X d 114 0 Q (23, [some (.ref a), l1, l2], st, mem, 0) = pR X d 114 0 Q (24, [some (.ref a), l1, l2], .ref a :: st, mem, 0) := q_s (.ok (.aload_n 0, 1)) (by decide +kernel) rfl
theorem r114_24 : pR X d 114 0 Q (24, L, st, mem, 0) = pR X d 114 0 Q (25, L, .int (iI (0)) :: st, mem, 0) := q_ic (by decide +kernel)
theorem r114_25 : pR X d 114 0 Q (25, L, .int y0 :: .ref a :: [], mem, 0) = (prcv mem 4 a ∧ Cw X d 8 [.ref a, .int y0] mem (fun r mem => pR X d 114 0 Q (28, L, r.toList ++ [], mem, 0))) := q_virt (ix := 59) (y2 := 8) (as := [.int y0]) (by decide +kernel) (by decide +kernel) rfl rfl rfl (Nat.le_of_ble_eq_true rfl) (by decide)
theorem r114_28 : pR X d 114 0 Q (28, L, [.int x], mem, 0) = Q (some (.int x)) mem := q_reti (by decide +kernel) rfl
theorem r114_29 : pR X d 114 0 Q (29, [some (.ref a), l1, l2], st, mem, 0) = pR X d 114 0 Q (30, [some (.ref a), l1, l2], .ref a :: st, mem, 0) := q_s (.ok (.aload_n 0, 1)) (by decide +kernel) rfl
theorem r114_30 : pR X d 114 0 Q (30, L, .ref a :: st, mem, 0) = gf mem a 4 0 (fun p => pR X d 114 0 Q (33, L, p :: st, mem, 0)) := q_get (ix := 10) (by decide +kernel) (by decide +kernel)
theorem r114_33 : pR X d 114 0 Q (33, L, .ref a :: st, mem, 0) = gf mem a 3 7 (fun p => pR X d 114 0 Q (36, L, p :: st, mem, 0)) := q_get (ix := 218) (by decide +kernel) (by decide +kernel)
theorem r114_36 : pR X d 114 0 Q (36, [l0, some (.int x), l2], st, mem, 0) = pR X d 114 0 Q (37, [l0, some (.int x), l2], .int x :: st, mem, 0) := q_s (.ok (.iload_n 1, 1)) (by decide +kernel) rfl
theorem r114_37 : pR X d 114 0 Q (37, [l0, l1, some (.int x)], st, mem, 0) = pR X d 114 0 Q (38, [l0, l1, some (.int x)], .int x :: st, mem, 0) := q_s (.ok (.iload_n 2, 1)) (by decide +kernel) rfl
theorem r114_38 : pR X d 114 0 Q (38, L, .int z :: .int x :: .ref a :: st, mem, 0) = wi mem a x z (fun mem => pR X d 114 0 Q (39, L, st, mem, 0)) := q_wi (by decide +kernel)
theorem r114_39 : pR X d 114 0 Q (39, L, st, mem, 0) = pR X d 114 0 Q (40, L, .int (iI (1)) :: st, mem, 0) := q_ic (by decide +kernel)
theorem r114_40 : pR X d 114 0 Q (40, L, [.int x], mem, 0) = Q (some (.int x)) mem := q_reti (by decide +kernel) rfl
theorem r115_0 : pR X d 115 0 Q (0, [some (.int x)], st, mem, 0) = pR X d 115 0 Q (1, [some (.int x)], .int x :: st, mem, 0) := q_s (.ok (.iload_n 0, 1)) (by decide +kernel) rfl
theorem r115_1 : pR X d 115 0 Q (1, L, st, mem, 0) = pR X d 115 0 Q (2, L, .int (iI (0)) :: st, mem, 0) := q_ic (by decide +kernel)
theorem r115_2 : pR X d 115 0 Q (2, L, st, mem, 0) = pR X d 115 0 Q (4, L, .int (iI (9)) :: st, mem, 0) := q_bi (n := 9) (by decide +kernel) (by decide +kernel)
theorem r115_4 : pR X d 115 0 Q (4, L, .int y2 :: .int y1 :: .int y0 :: [], mem, 0) = Cw X d 7 [.int y0, .int y1, .int y2] mem (fun r mem => pR X d 115 0 Q (7, L, r.toList ++ [], mem, 0)) := q_stat (ix := 52) (kd := 1) (y2 := 7) (as := [.int y2, .int y1, .int y0]) (by decide +kernel) (by decide +kernel) (by decide) rfl rfl rfl (Nat.le_of_ble_eq_true rfl) (by decide)
theorem r115_7 : pR X d 115 0 Q (7, L, [.int x], mem, 0) = (zb .boolean x ∧ Q (some (.int x)) mem) := q_retz (by decide +kernel) rfl (by decide)
theorem r116_0 : pR X d 116 0 Q (0, [l0, some (.int x), l2, l3], st, mem, 0) = pR X d 116 0 Q (1, [l0, some (.int x), l2, l3], .int x :: st, mem, 0) := q_s (.ok (.iload_n 1, 1)) (by decide +kernel) rfl
theorem r116_1 : pR X d 116 0 Q (1, L, .int y0 :: [], mem, 0) = Cw X d 115 [.int y0] mem (fun r mem => pR X d 116 0 Q (4, L, r.toList ++ [], mem, 0)) := q_stat (ix := 215) (kd := 1) (y2 := 115) (as := [.int y0]) (by decide +kernel) (by decide +kernel) (by decide) rfl rfl rfl (Nat.le_of_ble_eq_true rfl) (by decide)
theorem r116_4 : pR X d 116 0 Q (4, L, .int x :: st, mem, 0) = ((x = 0 → pR X d 116 0 Q (14, L, st, mem, 0)) ∧ (¬ (x = 0) → pR X d 116 0 Q (7, L, st, mem, 0))) := r_if (c := .eq) (off := 10) (by decide +kernel) (by decide)
theorem r116_7 : pR X d 116 0 Q (7, [l0, l1, some (.int x), l3], st, mem, 0) = pR X d 116 0 Q (8, [l0, l1, some (.int x), l3], .int x :: st, mem, 0) := q_s (.ok (.iload_n 2, 1)) (by decide +kernel) rfl
theorem r116_8 : pR X d 116 0 Q (8, L, .int y0 :: [], mem, 0) = Cw X d 15 [.int y0] mem (fun r mem => pR X d 116 0 Q (11, L, r.toList ++ [], mem, 0)) := q_stat (ix := 72) (kd := 1) (y2 := 15) (as := [.int y0]) (by decide +kernel) (by decide +kernel) (by decide) rfl rfl rfl (Nat.le_of_ble_eq_true rfl) (by decide)
theorem r116_11 : pR X d 116 0 Q (11, L, .int x :: st, mem, 0) = ((¬ x = 0 → pR X d 116 0 Q (20, L, st, mem, 0)) ∧ (¬ (¬ x = 0) → pR X d 116 0 Q (14, L, st, mem, 0))) := r_if (c := .ne) (off := 9) (by decide +kernel) (by decide)
theorem r116_14 : pR X d 116 0 Q (14, [some (.ref a), l1, l2, l3], st, mem, 0) = pR X d 116 0 Q (15, [some (.ref a), l1, l2, l3], .ref a :: st, mem, 0) := q_s (.ok (.aload_n 0, 1)) (by decide +kernel) rfl
theorem r116_15 : pR X d 116 0 Q (15, L, st, mem, 0) = pR X d 116 0 Q (16, L, .int (iI (0)) :: st, mem, 0) := q_ic (by decide +kernel)
theorem r116_16 : pR X d 116 0 Q (16, L, .int y0 :: .ref a :: [], mem, 0) = (prcv mem 4 a ∧ Cw X d 8 [.ref a, .int y0] mem (fun r mem => pR X d 116 0 Q (19, L, r.toList ++ [], mem, 0))) := q_virt (ix := 59) (y2 := 8) (as := [.int y0]) (by decide +kernel) (by decide +kernel) rfl rfl rfl (Nat.le_of_ble_eq_true rfl) (by decide)
theorem r116_19 : pR X d 116 0 Q (19, L, [.int x], mem, 0) = Q (some (.int x)) mem := q_reti (by decide +kernel) rfl
theorem r116_20 : pR X d 116 0 Q (20, [some (.ref a), l1, l2, l3], st, mem, 0) = pR X d 116 0 Q (21, [some (.ref a), l1, l2, l3], .ref a :: st, mem, 0) := q_s (.ok (.aload_n 0, 1)) (by decide +kernel) rfl
theorem r116_21 : pR X d 116 0 Q (21, L, .ref a :: st, mem, 0) = gf mem a 4 0 (fun p => pR X d 116 0 Q (24, L, p :: st, mem, 0)) := q_get (ix := 10) (by decide +kernel) (by decide +kernel)
theorem r116_24 : pR X d 116 0 Q (24, L, .ref a :: st, mem, 0) = gf mem a 3 7 (fun p => pR X d 116 0 Q (27, L, p :: st, mem, 0)) := q_get (ix := 218) (by decide +kernel) (by decide +kernel)
theorem r116_27 : pR X d 116 0 Q (27, [l0, some (.int x), l2, l3], st, mem, 0) = pR X d 116 0 Q (28, [l0, some (.int x), l2, l3], .int x :: st, mem, 0) := q_s (.ok (.iload_n 1, 1)) (by decide +kernel) rfl
theorem r116_28 : pR X d 116 0 Q (28, L, .int x :: .ref a :: st, mem, 0) = ri X mem a x (fun z => pR X d 116 0 Q (29, L, .int z :: st, mem, 0)) := q_ri (by decide +kernel)
theorem r116_29 : pR X d 116 0 Q (29, [l0, l1, l2, l3], .int x :: st, mem, 0) = pR X d 116 0 Q (30, [l0, l1, cl1 l2, some (.int x)], st, mem, 0) := q_s (.ok (.istore_n 3, 1)) (by decide +kernel) rfl
theorem r116_30 : pR X d 116 0 Q (30, [some (.ref a), l1, l2, l3], st, mem, 0) = pR X d 116 0 Q (31, [some (.ref a), l1, l2, l3], .ref a :: st, mem, 0) := q_s (.ok (.aload_n 0, 1)) (by decide +kernel) rfl
theorem r116_31 : pR X d 116 0 Q (31, L, .ref a :: st, mem, 0) = gf mem a 4 0 (fun p => pR X d 116 0 Q (34, L, p :: st, mem, 0)) := q_get (ix := 10) (by decide +kernel) (by decide +kernel)
theorem r116_34 : pR X d 116 0 Q (34, [l0, l1, l2, some (.int x)], st, mem, 0) = pR X d 116 0 Q (35, [l0, l1, l2, some (.int x)], .int x :: st, mem, 0) := q_s (.ok (.iload_n 3, 1)) (by decide +kernel) rfl
theorem r116_35 : pR X d 116 0 Q (35, L, .int y0 :: .ref a :: [], mem, 0) = (prcv mem 3 a ∧ Cw X d 20 [.ref a, .int y0] mem (fun r mem => pR X d 116 0 Q (38, L, r.toList ++ [], mem, 0))) := q_virt (ix := 83) (y2 := 20) (as := [.int y0]) (by decide +kernel) (by decide +kernel) rfl rfl rfl (Nat.le_of_ble_eq_true rfl) (by decide)
theorem r116_38 : pR X d 116 0 Q (38, L, .int x :: st, mem, 0) = ((¬ x = 0 → pR X d 116 0 Q (47, L, st, mem, 0)) ∧ (¬ (¬ x = 0) → pR X d 116 0 Q (41, L, st, mem, 0))) := r_if (c := .ne) (off := 9) (by decide +kernel) (by decide)
theorem r116_41 : pR X d 116 0 Q (41, [some (.ref a), l1, l2, l3], st, mem, 0) = pR X d 116 0 Q (42, [some (.ref a), l1, l2, l3], .ref a :: st, mem, 0) := q_s (.ok (.aload_n 0, 1)) (by decide +kernel) rfl
theorem r116_42 : pR X d 116 0 Q (42, L, st, mem, 0) = pR X d 116 0 Q (43, L, .int (iI (5)) :: st, mem, 0) := q_ic (by decide +kernel)
theorem r116_43 : pR X d 116 0 Q (43, L, .int y0 :: .ref a :: [], mem, 0) = (prcv mem 4 a ∧ Cw X d 8 [.ref a, .int y0] mem (fun r mem => pR X d 116 0 Q (46, L, r.toList ++ [], mem, 0))) := q_virt (ix := 59) (y2 := 8) (as := [.int y0]) (by decide +kernel) (by decide +kernel) rfl rfl rfl (Nat.le_of_ble_eq_true rfl) (by decide)
theorem r116_46 : pR X d 116 0 Q (46, L, [.int x], mem, 0) = Q (some (.int x)) mem := q_reti (by decide +kernel) rfl
theorem r116_47 : pR X d 116 0 Q (47, [some (.ref a), l1, l2, l3], st, mem, 0) = pR X d 116 0 Q (48, [some (.ref a), l1, l2, l3], .ref a :: st, mem, 0) := q_s (.ok (.aload_n 0, 1)) (by decide +kernel) rfl
theorem r116_48 : pR X d 116 0 Q (48, L, .ref a :: st, mem, 0) = gf mem a 4 0 (fun p => pR X d 116 0 Q (51, L, p :: st, mem, 0)) := q_get (ix := 10) (by decide +kernel) (by decide +kernel)
theorem r116_51 : pR X d 116 0 Q (51, L, .ref a :: st, mem, 0) = gf mem a 3 5 (fun p => pR X d 116 0 Q (54, L, p :: st, mem, 0)) := q_get (ix := 92) (by decide +kernel) (by decide +kernel)
theorem r116_54 : pR X d 116 0 Q (54, [l0, l1, l2, some (.int x)], st, mem, 0) = pR X d 116 0 Q (55, [l0, l1, l2, some (.int x)], .int x :: st, mem, 0) := q_s (.ok (.iload_n 3, 1)) (by decide +kernel) rfl
theorem r116_55 : pR X d 116 0 Q (55, L, .int x :: .ref a :: st, mem, 0) = ra mem a x (fun b => pR X d 116 0 Q (56, L, .ref b :: st, mem, 0)) := q_ra (by decide +kernel)
theorem r116_56 : pR X d 116 0 Q (56, L, .ref a :: st, mem, 0) = gf mem a 0 0 (fun p => pR X d 116 0 Q (59, L, p :: st, mem, 0)) := q_get (ix := 153) (by decide +kernel) (by decide +kernel)
theorem r116_59 : pR X d 116 0 Q (59, [l0, l1, some (.int x), l3], st, mem, 0) = pR X d 116 0 Q (60, [l0, l1, some (.int x), l3], .int x :: st, mem, 0) := q_s (.ok (.iload_n 2, 1)) (by decide +kernel) rfl
theorem r116_60 : pR X d 116 0 Q (60, L, .int y1 :: .int y0 :: [], mem, 0) = Cw X d 117 [.int y0, .int y1] mem (fun r mem => pR X d 116 0 Q (63, L, r.toList ++ [], mem, 0)) := q_stat (ix := 221) (kd := 1) (y2 := 117) (as := [.int y1, .int y0]) (by decide +kernel) (by decide +kernel) (by decide) rfl rfl rfl (Nat.le_of_ble_eq_true rfl) (by decide)
theorem r116_63 : pR X d 116 0 Q (63, L, .int x :: st, mem, 0) = ((x = 0 → pR X d 116 0 Q (70, L, st, mem, 0)) ∧ (¬ (x = 0) → pR X d 116 0 Q (66, L, st, mem, 0))) := r_if (c := .eq) (off := 7) (by decide +kernel) (by decide)
theorem r116_66 : pR X d 116 0 Q (66, [l0, l1, l2, some (.int x)], st, mem, 0) = pR X d 116 0 Q (67, [l0, l1, l2, some (.int x)], .int x :: st, mem, 0) := q_s (.ok (.iload_n 3, 1)) (by decide +kernel) rfl
theorem r116_67 : pR X d 116 0 Q (67, L, st, mem, 0) = pR X d 116 0 Q (75, L, st, mem, 0) := q_s (.ok (.goto (8), 3)) (by decide +kernel) rfl
theorem r116_70 : pR X d 116 0 Q (70, [some (.ref a), l1, l2, l3], st, mem, 0) = pR X d 116 0 Q (71, [some (.ref a), l1, l2, l3], .ref a :: st, mem, 0) := q_s (.ok (.aload_n 0, 1)) (by decide +kernel) rfl
theorem r116_71 : pR X d 116 0 Q (71, L, st, mem, 0) = pR X d 116 0 Q (72, L, .int (iI (2)) :: st, mem, 0) := q_ic (by decide +kernel)
theorem r116_72 : pR X d 116 0 Q (72, L, .int y0 :: .ref a :: [], mem, 0) = (prcv mem 4 a ∧ Cw X d 8 [.ref a, .int y0] mem (fun r mem => pR X d 116 0 Q (75, L, r.toList ++ [], mem, 0))) := q_virt (ix := 59) (y2 := 8) (as := [.int y0]) (by decide +kernel) (by decide +kernel) rfl rfl rfl (Nat.le_of_ble_eq_true rfl) (by decide)
theorem r116_75 : pR X d 116 0 Q (75, L, [.int x], mem, 0) = Q (some (.int x)) mem := q_reti (by decide +kernel) rfl
theorem r117_0 : pR X d 117 0 Q (0, [some (.int x), l1, l2, l3], st, mem, 0) = pR X d 117 0 Q (1, [some (.int x), l1, l2, l3], .int x :: st, mem, 0) := q_s (.ok (.iload_n 0, 1)) (by decide +kernel) rfl
theorem r117_1 : pR X d 117 0 Q (1, [l0, l1, l2, l3], .int x :: st, mem, 0) = pR X d 117 0 Q (2, [l0, cl1 l1, some (.int x), l3], st, mem, 0) := q_s (.ok (.istore_n 2, 1)) (by decide +kernel) rfl
theorem r117_2 : pR X d 117 0 Q (2, L, st, mem, 0) = pR X d 117 0 Q (3, L, .int (iI (0)) :: st, mem, 0) := q_ic (by decide +kernel)
theorem r117_3 : pR X d 117 0 Q (3, [l0, l1, l2, l3], .int x :: st, mem, 0) = pR X d 117 0 Q (4, [l0, l1, cl1 l2, some (.int x)], st, mem, 0) := q_s (.ok (.istore_n 3, 1)) (by decide +kernel) rfl
theorem r117_4 : pR X d 117 0 Q (4, [l0, l1, l2, some (.int x)], st, mem, 0) = pR X d 117 0 Q (5, [l0, l1, l2, some (.int x)], .int x :: st, mem, 0) := q_s (.ok (.iload_n 3, 1)) (by decide +kernel) rfl
theorem r117_5 : pR X d 117 0 Q (5, L, st, mem, 0) = pR X d 117 0 Q (7, L, .int (iI (7)) :: st, mem, 0) := q_bi (n := 7) (by decide +kernel) (by decide +kernel)
theorem r117_7 : pR X d 117 0 Q (7, L, .int z :: .int x :: st, mem, 0) = ((z ≤ x → pR X d 117 0 Q (36, L, st, mem, 0)) ∧ (¬ (z ≤ x) → pR X d 117 0 Q (10, L, st, mem, 0))) := r_ic (c := .ge) (off := 29) (by decide +kernel) (by decide)
theorem r117_10 : pR X d 117 0 Q (10, [l0, l1, some (.int x), l3], st, mem, 0) = pR X d 117 0 Q (11, [l0, l1, some (.int x), l3], .int x :: st, mem, 0) := q_s (.ok (.iload_n 2, 1)) (by decide +kernel) rfl
theorem r117_11 : pR X d 117 0 Q (11, L, .int y0 :: [], mem, 0) = Cw X d 15 [.int y0] mem (fun r mem => pR X d 117 0 Q (14, L, r.toList ++ [], mem, 0)) := q_stat (ix := 72) (kd := 1) (y2 := 15) (as := [.int y0]) (by decide +kernel) (by decide +kernel) (by decide) rfl rfl rfl (Nat.le_of_ble_eq_true rfl) (by decide)
theorem r117_14 : pR X d 117 0 Q (14, L, .int x :: st, mem, 0) = ((x = 0 → pR X d 117 0 Q (36, L, st, mem, 0)) ∧ (¬ (x = 0) → pR X d 117 0 Q (17, L, st, mem, 0))) := r_if (c := .eq) (off := 22) (by decide +kernel) (by decide)
theorem r117_17 : pR X d 117 0 Q (17, [l0, l1, some (.int x), l3], st, mem, 0) = pR X d 117 0 Q (18, [l0, l1, some (.int x), l3], .int x :: st, mem, 0) := q_s (.ok (.iload_n 2, 1)) (by decide +kernel) rfl
theorem r117_18 : pR X d 117 0 Q (18, [l0, some (.int x), l2, l3], st, mem, 0) = pR X d 117 0 Q (19, [l0, some (.int x), l2, l3], .int x :: st, mem, 0) := q_s (.ok (.iload_n 1, 1)) (by decide +kernel) rfl
theorem r117_19 : pR X d 117 0 Q (19, L, .int z :: .int x :: st, mem, 0) = ((¬ x = z → pR X d 117 0 Q (24, L, st, mem, 0)) ∧ (¬ (¬ x = z) → pR X d 117 0 Q (22, L, st, mem, 0))) := r_ic (c := .ne) (off := 5) (by decide +kernel) (by decide)
theorem r117_22 : pR X d 117 0 Q (22, L, st, mem, 0) = pR X d 117 0 Q (23, L, .int (iI (1)) :: st, mem, 0) := q_ic (by decide +kernel)
theorem r117_23 : pR X d 117 0 Q (23, L, [.int x], mem, 0) = (zb .boolean x ∧ Q (some (.int x)) mem) := q_retz (by decide +kernel) rfl (by decide)
theorem r117_24 : pR X d 117 0 Q (24, L, st, mem, 0) = pR X d 117 0 Q (27, L, .ref 998 :: st, mem, 0) := q_gs (k := 281) (by decide +kernel) (Or.inl ⟨(by decide +kernel), rfl⟩)
theorem r117_27 : pR X d 117 0 Q (27, [l0, l1, some (.int x), l3], st, mem, 0) = pR X d 117 0 Q (28, [l0, l1, some (.int x), l3], .int x :: st, mem, 0) := q_s (.ok (.iload_n 2, 1)) (by decide +kernel) rfl
theorem r117_28 : pR X d 117 0 Q (28, L, .int x :: .ref a :: st, mem, 0) = ri X mem a x (fun z => pR X d 117 0 Q (29, L, .int z :: st, mem, 0)) := q_ri (by decide +kernel)
theorem r117_29 : pR X d 117 0 Q (29, [l0, l1, l2, l3], .int x :: st, mem, 0) = pR X d 117 0 Q (30, [l0, cl1 l1, some (.int x), l3], st, mem, 0) := q_s (.ok (.istore_n 2, 1)) (by decide +kernel) rfl
theorem r117_30 : pR X d 117 0 Q (30, [l0, l1, l2, some (.int x)], st, mem, 0) = pR X d 117 0 Q (33, [l0, l1, cl1 l2, some (.int (x + iI (1)))], st, mem, 0) := q_s (.ok (.iinc 3 (1), 3)) (by decide +kernel) rfl
theorem r117_33 : pR X d 117 0 Q (33, L, st, mem, 0) = pR X d 117 0 Q (4, L, st, mem, 0) := q_s (.ok (.goto (-29), 3)) (by decide +kernel) rfl
theorem r117_36 : pR X d 117 0 Q (36, L, st, mem, 0) = pR X d 117 0 Q (37, L, .int (iI (0)) :: st, mem, 0) := q_ic (by decide +kernel)
theorem r117_37 : pR X d 117 0 Q (37, L, [.int x], mem, 0) = (zb .boolean x ∧ Q (some (.int x)) mem) := q_retz (by decide +kernel) rfl (by decide)
theorem r118_0 : pR X d 118 0 Q (0, [l0, some (.int x), l2, l3], st, mem, 0) = pR X d 118 0 Q (1, [l0, some (.int x), l2, l3], .int x :: st, mem, 0) := q_s (.ok (.iload_n 1, 1)) (by decide +kernel) rfl
theorem r118_1 : pR X d 118 0 Q (1, L, .int y0 :: [], mem, 0) = Cw X d 75 [.int y0] mem (fun r mem => pR X d 118 0 Q (4, L, r.toList ++ [], mem, 0)) := q_stat (ix := 224) (kd := 1) (y2 := 75) (as := [.int y0]) (by decide +kernel) (by decide +kernel) (by decide) rfl rfl rfl (Nat.le_of_ble_eq_true rfl) (by decide)
theorem r118_4 : pR X d 118 0 Q (4, L, .int x :: st, mem, 0) = ((x = 0 → pR X d 118 0 Q (29, L, st, mem, 0)) ∧ (¬ (x = 0) → pR X d 118 0 Q (7, L, st, mem, 0))) := r_if (c := .eq) (off := 25) (by decide +kernel) (by decide)
theorem r118_7 : pR X d 118 0 Q (7, [l0, l1, some (.int x), l3], st, mem, 0) = pR X d 118 0 Q (8, [l0, l1, some (.int x), l3], .int x :: st, mem, 0) := q_s (.ok (.iload_n 2, 1)) (by decide +kernel) rfl
theorem r118_8 : pR X d 118 0 Q (8, L, .int x :: st, mem, 0) = ((x = 0 → pR X d 118 0 Q (35, L, st, mem, 0)) ∧ (¬ (x = 0) → pR X d 118 0 Q (11, L, st, mem, 0))) := r_if (c := .eq) (off := 27) (by decide +kernel) (by decide)
theorem r118_11 : pR X d 118 0 Q (11, [l0, l1, some (.int x), l3], st, mem, 0) = pR X d 118 0 Q (12, [l0, l1, some (.int x), l3], .int x :: st, mem, 0) := q_s (.ok (.iload_n 2, 1)) (by decide +kernel) rfl
theorem r118_12 : pR X d 118 0 Q (12, L, st, mem, 0) = pR X d 118 0 Q (14, L, .int (iI (8)) :: st, mem, 0) := q_bi (n := 8) (by decide +kernel) (by decide +kernel)
theorem r118_14 : pR X d 118 0 Q (14, L, .int z :: .int x :: st, mem, 0) = ((x = z → pR X d 118 0 Q (35, L, st, mem, 0)) ∧ (¬ (x = z) → pR X d 118 0 Q (17, L, st, mem, 0))) := r_ic (c := .eq) (off := 21) (by decide +kernel) (by decide)
theorem r118_17 : pR X d 118 0 Q (17, [l0, l1, some (.int x), l3], st, mem, 0) = pR X d 118 0 Q (18, [l0, l1, some (.int x), l3], .int x :: st, mem, 0) := q_s (.ok (.iload_n 2, 1)) (by decide +kernel) rfl
theorem r118_18 : pR X d 118 0 Q (18, L, st, mem, 0) = pR X d 118 0 Q (20, L, .int (iI (16)) :: st, mem, 0) := q_bi (n := 16) (by decide +kernel) (by decide +kernel)
theorem r118_20 : pR X d 118 0 Q (20, L, .int z :: .int x :: st, mem, 0) = ((x = z → pR X d 118 0 Q (35, L, st, mem, 0)) ∧ (¬ (x = z) → pR X d 118 0 Q (23, L, st, mem, 0))) := r_ic (c := .eq) (off := 15) (by decide +kernel) (by decide)
theorem r118_23 : pR X d 118 0 Q (23, [l0, l1, some (.int x), l3], st, mem, 0) = pR X d 118 0 Q (24, [l0, l1, some (.int x), l3], .int x :: st, mem, 0) := q_s (.ok (.iload_n 2, 1)) (by decide +kernel) rfl
theorem r118_24 : pR X d 118 0 Q (24, L, st, mem, 0) = pR X d 118 0 Q (26, L, .int (iI (32)) :: st, mem, 0) := q_bi (n := 32) (by decide +kernel) (by decide +kernel)
theorem r118_26 : pR X d 118 0 Q (26, L, .int z :: .int x :: st, mem, 0) = ((x = z → pR X d 118 0 Q (35, L, st, mem, 0)) ∧ (¬ (x = z) → pR X d 118 0 Q (29, L, st, mem, 0))) := r_ic (c := .eq) (off := 9) (by decide +kernel) (by decide)
theorem r118_29 : pR X d 118 0 Q (29, [some (.ref a), l1, l2, l3], st, mem, 0) = pR X d 118 0 Q (30, [some (.ref a), l1, l2, l3], .ref a :: st, mem, 0) := q_s (.ok (.aload_n 0, 1)) (by decide +kernel) rfl
theorem r118_30 : pR X d 118 0 Q (30, L, st, mem, 0) = pR X d 118 0 Q (31, L, .int (iI (0)) :: st, mem, 0) := q_ic (by decide +kernel)
theorem r118_31 : pR X d 118 0 Q (31, L, .int y0 :: .ref a :: [], mem, 0) = (prcv mem 4 a ∧ Cw X d 8 [.ref a, .int y0] mem (fun r mem => pR X d 118 0 Q (34, L, r.toList ++ [], mem, 0))) := q_virt (ix := 59) (y2 := 8) (as := [.int y0]) (by decide +kernel) (by decide +kernel) rfl rfl rfl (Nat.le_of_ble_eq_true rfl) (by decide)
theorem r118_34 : pR X d 118 0 Q (34, L, [.int x], mem, 0) = Q (some (.int x)) mem := q_reti (by decide +kernel) rfl
theorem r118_35 : pR X d 118 0 Q (35, [l0, l1, l2, some (.int x)], st, mem, 0) = pR X d 118 0 Q (36, [l0, l1, l2, some (.int x)], .int x :: st, mem, 0) := q_s (.ok (.iload_n 3, 1)) (by decide +kernel) rfl
theorem r118_36 : pR X d 118 0 Q (36, L, .int x :: st, mem, 0) = ((0 ≤ x → pR X d 118 0 Q (46, L, st, mem, 0)) ∧ (¬ (0 ≤ x) → pR X d 118 0 Q (39, L, st, mem, 0))) := r_if (c := .ge) (off := 10) (by decide +kernel) (by decide)
theorem r118_39 : pR X d 118 0 Q (39, [some (.ref a), l1, l2, l3], st, mem, 0) = pR X d 118 0 Q (40, [some (.ref a), l1, l2, l3], .ref a :: st, mem, 0) := q_s (.ok (.aload_n 0, 1)) (by decide +kernel) rfl
theorem r118_40 : pR X d 118 0 Q (40, L, st, mem, 0) = pR X d 118 0 Q (42, L, .int (iI (6)) :: st, mem, 0) := q_bi (n := 6) (by decide +kernel) (by decide +kernel)
theorem r118_42 : pR X d 118 0 Q (42, L, .int y0 :: .ref a :: [], mem, 0) = (prcv mem 4 a ∧ Cw X d 8 [.ref a, .int y0] mem (fun r mem => pR X d 118 0 Q (45, L, r.toList ++ [], mem, 0))) := q_virt (ix := 59) (y2 := 8) (as := [.int y0]) (by decide +kernel) (by decide +kernel) rfl rfl rfl (Nat.le_of_ble_eq_true rfl) (by decide)
theorem r118_45 : pR X d 118 0 Q (45, L, [.int x], mem, 0) = Q (some (.int x)) mem := q_reti (by decide +kernel) rfl
theorem r118_46 : pR X d 118 0 Q (46, [l0, l1, l2, some (.int x)], st, mem, 0) = pR X d 118 0 Q (47, [l0, l1, l2, some (.int x)], .int x :: st, mem, 0) := q_s (.ok (.iload_n 3, 1)) (by decide +kernel) rfl
theorem r118_47 : pR X d 118 0 Q (47, L, st, mem, 0) = pR X d 118 0 Q (49, L, .int (iI (40)) :: st, mem, 0) := q_bi (n := 40) (by decide +kernel) (by decide +kernel)
theorem r118_49 : pR X d 118 0 Q (49, L, .int z :: .int x :: st, mem, 0) = ((x ≤ z → pR X d 118 0 Q (58, L, st, mem, 0)) ∧ (¬ (x ≤ z) → pR X d 118 0 Q (52, L, st, mem, 0))) := r_ic (c := .le) (off := 9) (by decide +kernel) (by decide)
theorem r118_52 : pR X d 118 0 Q (52, [some (.ref a), l1, l2, l3], st, mem, 0) = pR X d 118 0 Q (53, [some (.ref a), l1, l2, l3], .ref a :: st, mem, 0) := q_s (.ok (.aload_n 0, 1)) (by decide +kernel) rfl
theorem r118_53 : pR X d 118 0 Q (53, L, st, mem, 0) = pR X d 118 0 Q (54, L, .int (iI (0)) :: st, mem, 0) := q_ic (by decide +kernel)
theorem r118_54 : pR X d 118 0 Q (54, L, .int y0 :: .ref a :: [], mem, 0) = (prcv mem 4 a ∧ Cw X d 8 [.ref a, .int y0] mem (fun r mem => pR X d 118 0 Q (57, L, r.toList ++ [], mem, 0))) := q_virt (ix := 59) (y2 := 8) (as := [.int y0]) (by decide +kernel) (by decide +kernel) rfl rfl rfl (Nat.le_of_ble_eq_true rfl) (by decide)
theorem r118_57 : pR X d 118 0 Q (57, L, [.int x], mem, 0) = Q (some (.int x)) mem := q_reti (by decide +kernel) rfl
theorem r118_58 : pR X d 118 0 Q (58, [some (.ref a), l1, l2, l3], st, mem, 0) = pR X d 118 0 Q (59, [some (.ref a), l1, l2, l3], .ref a :: st, mem, 0) := q_s (.ok (.aload_n 0, 1)) (by decide +kernel) rfl
theorem r118_59 : pR X d 118 0 Q (59, L, .ref a :: st, mem, 0) = gf mem a 4 5 (fun p => pR X d 118 0 Q (62, L, p :: st, mem, 0)) := q_get (ix := 35) (by decide +kernel) (by decide +kernel)
theorem r118_62 : pR X d 118 0 Q (62, [l0, some (.int x), l2, l3], st, mem, 0) = pR X d 118 0 Q (63, [l0, some (.int x), l2, l3], .int x :: st, mem, 0) := q_s (.ok (.iload_n 1, 1)) (by decide +kernel) rfl
theorem r118_63 : pR X d 118 0 Q (63, L, .int x :: .ref a :: st, mem, 0) = ra mem a x (fun b => pR X d 118 0 Q (64, L, .ref b :: st, mem, 0)) := q_ra (by decide +kernel)
theorem r118_64 : pR X d 118 0 Q (64, [l0, l1, some (.int x), l3], st, mem, 0) = pR X d 118 0 Q (65, [l0, l1, some (.int x), l3], .int x :: st, mem, 0) := q_s (.ok (.iload_n 2, 1)) (by decide +kernel) rfl
theorem r118_65 : pR X d 118 0 Q (65, [l0, l1, l2, some (.int x)], st, mem, 0) = pR X d 118 0 Q (66, [l0, l1, l2, some (.int x)], .int x :: st, mem, 0) := q_s (.ok (.iload_n 3, 1)) (by decide +kernel) rfl
theorem r118_66 : pR X d 118 0 Q (66, L, .int y1 :: .int y0 :: .ref a :: [], mem, 0) = (prcv mem 1 a ∧ Cw X d 119 [.ref a, .int y0, .int y1] mem (fun r mem => pR X d 118 0 Q (69, L, r.toList ++ [], mem, 0))) := q_virt (ix := 227) (y2 := 119) (as := [.int y1, .int y0]) (by decide +kernel) (by decide +kernel) rfl rfl rfl (Nat.le_of_ble_eq_true rfl) (by decide)
theorem r118_69 : pR X d 118 0 Q (69, [some (.ref a), l1, l2, l3], st, mem, 0) = pR X d 118 0 Q (70, [some (.ref a), l1, l2, l3], .ref a :: st, mem, 0) := q_s (.ok (.aload_n 0, 1)) (by decide +kernel) rfl
theorem r118_70 : pR X d 118 0 Q (70, L, .ref a :: st, mem, 0) = gf mem a 4 5 (fun p => pR X d 118 0 Q (73, L, p :: st, mem, 0)) := q_get (ix := 35) (by decide +kernel) (by decide +kernel)
theorem r118_73 : pR X d 118 0 Q (73, [l0, some (.int x), l2, l3], st, mem, 0) = pR X d 118 0 Q (74, [l0, some (.int x), l2, l3], .int x :: st, mem, 0) := q_s (.ok (.iload_n 1, 1)) (by decide +kernel) rfl
theorem r118_74 : pR X d 118 0 Q (74, L, .int x :: .ref a :: st, mem, 0) = ra mem a x (fun b => pR X d 118 0 Q (75, L, .ref b :: st, mem, 0)) := q_ra (by decide +kernel)
theorem r118_75 : pR X d 118 0 Q (75, L, .ref a :: st, mem, 0) = gf mem a 1 1 (fun p => pR X d 118 0 Q (78, L, p :: st, mem, 0)) := q_get (ix := 230) (by decide +kernel) (by decide +kernel)
theorem r118_78 : pR X d 118 0 Q (78, L, [.int x], mem, 0) = Q (some (.int x)) mem := q_reti (by decide +kernel) rfl
theorem r119_0 : pR X d 119 0 Q (0, [some (.ref a), l1, l2, l3], st, mem, 0) = pR X d 119 0 Q (1, [some (.ref a), l1, l2, l3], .ref a :: st, mem, 0) := q_s (.ok (.aload_n 0, 1)) (by decide +kernel) rfl
theorem r119_1 : pR X d 119 0 Q (1, [l0, some (.int x), l2, l3], st, mem, 0) = pR X d 119 0 Q (2, [l0, some (.int x), l2, l3], .int x :: st, mem, 0) := q_s (.ok (.iload_n 1, 1)) (by decide +kernel) rfl
theorem r119_2 : pR X d 119 0 Q (2, L, p :: .ref a :: st, mem, 0) = pf 119 mem a 1 0 p (fun mem => pR X d 119 0 Q (5, L, st, mem, 0)) := q_put (ix := 9) (by decide +kernel) (by decide +kernel) (by decide)
theorem r119_5 : pR X d 119 0 Q (5, [some (.ref a), l1, l2, l3], st, mem, 0) = pR X d 119 0 Q (6, [some (.ref a), l1, l2, l3], .ref a :: st, mem, 0) := q_s (.ok (.aload_n 0, 1)) (by decide +kernel) rfl
theorem r119_6 : pR X d 119 0 Q (6, [l0, some (.int x), l2, l3], st, mem, 0) = pR X d 119 0 Q (7, [l0, some (.int x), l2, l3], .int x :: st, mem, 0) := q_s (.ok (.iload_n 1, 1)) (by decide +kernel) rfl
theorem r119_7 : pR X d 119 0 Q (7, L, .int x :: st, mem, 0) = ((¬ x = 0 → pR X d 119 0 Q (14, L, st, mem, 0)) ∧ (¬ (¬ x = 0) → pR X d 119 0 Q (10, L, st, mem, 0))) := r_if (c := .ne) (off := 7) (by decide +kernel) (by decide)
theorem r119_10 : pR X d 119 0 Q (10, L, st, mem, 0) = pR X d 119 0 Q (11, L, .int (iI (0)) :: st, mem, 0) := q_ic (by decide +kernel)
theorem r119_11 : pR X d 119 0 Q (11, L, st, mem, 0) = pR X d 119 0 Q (15, L, st, mem, 0) := q_s (.ok (.goto (4), 3)) (by decide +kernel) rfl
theorem r119_14 : pR X d 119 0 Q (14, [l0, l1, some (.int x), l3], st, mem, 0) = pR X d 119 0 Q (15, [l0, l1, some (.int x), l3], .int x :: st, mem, 0) := q_s (.ok (.iload_n 2, 1)) (by decide +kernel) rfl
theorem r119_15 : pR X d 119 0 Q (15, L, p :: .ref a :: st, mem, 0) = pf 119 mem a 1 1 p (fun mem => pR X d 119 0 Q (18, L, st, mem, 0)) := q_put (ix := 15) (by decide +kernel) (by decide +kernel) (by decide)
theorem r119_18 : pR X d 119 0 Q (18, L, st, mem, 0) = pR X d 119 0 Q (19, L, .int (iI (0)) :: st, mem, 0) := q_ic (by decide +kernel)
theorem r119_19 : pR X d 119 0 Q (19, [l0, l1, l2, l3], .int x :: st, mem, 0) = pR X d 119 0 Q (20, [l0, l1, cl1 l2, some (.int x)], st, mem, 0) := q_s (.ok (.istore_n 3, 1)) (by decide +kernel) rfl
theorem r119_20 : pR X d 119 0 Q (20, [l0, l1, l2, some (.int x)], st, mem, 0) = pR X d 119 0 Q (21, [l0, l1, l2, some (.int x)], .int x :: st, mem, 0) := q_s (.ok (.iload_n 3, 1)) (by decide +kernel) rfl
theorem r119_21 : pR X d 119 0 Q (21, [some (.ref a), l1, l2, l3], st, mem, 0) = pR X d 119 0 Q (22, [some (.ref a), l1, l2, l3], .ref a :: st, mem, 0) := q_s (.ok (.aload_n 0, 1)) (by decide +kernel) rfl
theorem r119_22 : pR X d 119 0 Q (22, L, .ref a :: st, mem, 0) = gf mem a 1 1 (fun p => pR X d 119 0 Q (25, L, p :: st, mem, 0)) := q_get (ix := 15) (by decide +kernel) (by decide +kernel)
theorem r119_25 : pR X d 119 0 Q (25, L, .int z :: .int x :: st, mem, 0) = ((z ≤ x → pR X d 119 0 Q (41, L, st, mem, 0)) ∧ (¬ (z ≤ x) → pR X d 119 0 Q (28, L, st, mem, 0))) := r_ic (c := .ge) (off := 16) (by decide +kernel) (by decide)
theorem r119_28 : pR X d 119 0 Q (28, [some (.ref a), l1, l2, l3], st, mem, 0) = pR X d 119 0 Q (29, [some (.ref a), l1, l2, l3], .ref a :: st, mem, 0) := q_s (.ok (.aload_n 0, 1)) (by decide +kernel) rfl
theorem r119_29 : pR X d 119 0 Q (29, L, .ref a :: st, mem, 0) = gf mem a 1 2 (fun p => pR X d 119 0 Q (32, L, p :: st, mem, 0)) := q_get (ix := 18) (by decide +kernel) (by decide +kernel)
theorem r119_32 : pR X d 119 0 Q (32, [l0, l1, l2, some (.int x)], st, mem, 0) = pR X d 119 0 Q (33, [l0, l1, l2, some (.int x)], .int x :: st, mem, 0) := q_s (.ok (.iload_n 3, 1)) (by decide +kernel) rfl
theorem r119_33 : pR X d 119 0 Q (33, L, st, mem, 0) = pR X d 119 0 Q (34, L, .int (iI (0)) :: st, mem, 0) := q_ic (by decide +kernel)
theorem r119_34 : pR X d 119 0 Q (34, L, .int z :: .int x :: .ref a :: st, mem, 0) = wi mem a x z (fun mem => pR X d 119 0 Q (35, L, st, mem, 0)) := q_wi (by decide +kernel)
theorem r119_35 : pR X d 119 0 Q (35, [l0, l1, l2, some (.int x)], st, mem, 0) = pR X d 119 0 Q (38, [l0, l1, cl1 l2, some (.int (x + iI (1)))], st, mem, 0) := q_s (.ok (.iinc 3 (1), 3)) (by decide +kernel) rfl
theorem r119_38 : pR X d 119 0 Q (38, L, st, mem, 0) = pR X d 119 0 Q (20, L, st, mem, 0) := q_s (.ok (.goto (-18), 3)) (by decide +kernel) rfl
theorem r119_41 : pR X d 119 0 Q (41, L, [], mem, 0) = Q none mem := q_retv (by decide +kernel) rfl
theorem r120_0 : pR X d 120 0 Q (0, [some (.ref a), l1, l2, l3, l4], st, mem, 0) = pR X d 120 0 Q (1, [some (.ref a), l1, l2, l3, l4], .ref a :: st, mem, 0) := q_s (.ok (.aload_n 0, 1)) (by decide +kernel) rfl
theorem r120_1 : pR X d 120 0 Q (1, [l0, some (.int x), l2, l3, l4], st, mem, 0) = pR X d 120 0 Q (2, [l0, some (.int x), l2, l3, l4], .int x :: st, mem, 0) := q_s (.ok (.iload_n 1, 1)) (by decide +kernel) rfl
theorem r120_2 : pR X d 120 0 Q (2, L, .int y0 :: .ref a :: [], mem, 0) = (prcv mem 4 a ∧ Cw X d 74 [.ref a, .int y0] mem (fun r mem => pR X d 120 0 Q (5, L, r.toList ++ [], mem, 0))) := q_virt (ix := 233) (y2 := 74) (as := [.int y0]) (by decide +kernel) (by decide +kernel) rfl rfl rfl (Nat.le_of_ble_eq_true rfl) (by decide)
theorem r120_5 : pR X d 120 0 Q (5, [l0, l1, l2, l3, l4], .int x :: st, mem, 0) = pR X d 120 0 Q (7, [l0, l1, l2, cl1 l3, some (.int x)], st, mem, 0) := q_s (.ok (.istore 4, 2)) (by decide +kernel) rfl
theorem r120_7 : pR X d 120 0 Q (7, [l0, l1, l2, l3, some (.int x)], st, mem, 0) = pR X d 120 0 Q (9, [l0, l1, l2, l3, some (.int x)], .int x :: st, mem, 0) := q_s (.ok (.iload 4, 2)) (by decide +kernel) rfl
theorem r120_9 : pR X d 120 0 Q (9, L, st, mem, 0) = pR X d 120 0 Q (10, L, .int (iI (-1)) :: st, mem, 0) := q_ic (by decide +kernel)
theorem r120_10 : pR X d 120 0 Q (10, L, .int z :: .int x :: st, mem, 0) = ((x = z → pR X d 120 0 Q (20, L, st, mem, 0)) ∧ (¬ (x = z) → pR X d 120 0 Q (13, L, st, mem, 0))) := r_ic (c := .eq) (off := 10) (by decide +kernel) (by decide)
theorem r120_13 : pR X d 120 0 Q (13, [some (.ref a), l1, l2, l3, l4], st, mem, 0) = pR X d 120 0 Q (14, [some (.ref a), l1, l2, l3, l4], .ref a :: st, mem, 0) := q_s (.ok (.aload_n 0, 1)) (by decide +kernel) rfl
theorem r120_14 : pR X d 120 0 Q (14, [l0, l1, l2, l3, some (.int x)], st, mem, 0) = pR X d 120 0 Q (16, [l0, l1, l2, l3, some (.int x)], .int x :: st, mem, 0) := q_s (.ok (.iload 4, 2)) (by decide +kernel) rfl
theorem r120_16 : pR X d 120 0 Q (16, L, .int y0 :: .ref a :: [], mem, 0) = (prcv mem 4 a ∧ Cw X d 8 [.ref a, .int y0] mem (fun r mem => pR X d 120 0 Q (19, L, r.toList ++ [], mem, 0))) := q_virt (ix := 59) (y2 := 8) (as := [.int y0]) (by decide +kernel) (by decide +kernel) rfl rfl rfl (Nat.le_of_ble_eq_true rfl) (by decide)
theorem r120_19 : pR X d 120 0 Q (19, L, [.int x], mem, 0) = Q (some (.int x)) mem := q_reti (by decide +kernel) rfl
theorem r120_20 : pR X d 120 0 Q (20, [l0, l1, some (.int x), l3, l4], st, mem, 0) = pR X d 120 0 Q (21, [l0, l1, some (.int x), l3, l4], .int x :: st, mem, 0) := q_s (.ok (.iload_n 2, 1)) (by decide +kernel) rfl
theorem r120_21 : pR X d 120 0 Q (21, L, st, mem, 0) = pR X d 120 0 Q (22, L, .int (iI (0)) :: st, mem, 0) := q_ic (by decide +kernel)
theorem r120_22 : pR X d 120 0 Q (22, [some (.ref a), l1, l2, l3, l4], st, mem, 0) = pR X d 120 0 Q (23, [some (.ref a), l1, l2, l3, l4], .ref a :: st, mem, 0) := q_s (.ok (.aload_n 0, 1)) (by decide +kernel) rfl
theorem r120_23 : pR X d 120 0 Q (23, L, .ref a :: st, mem, 0) = gf mem a 4 5 (fun p => pR X d 120 0 Q (26, L, p :: st, mem, 0)) := q_get (ix := 35) (by decide +kernel) (by decide +kernel)
theorem r120_26 : pR X d 120 0 Q (26, [l0, some (.int x), l2, l3, l4], st, mem, 0) = pR X d 120 0 Q (27, [l0, some (.int x), l2, l3, l4], .int x :: st, mem, 0) := q_s (.ok (.iload_n 1, 1)) (by decide +kernel) rfl
theorem r120_27 : pR X d 120 0 Q (27, L, .int x :: .ref a :: st, mem, 0) = ra mem a x (fun b => pR X d 120 0 Q (28, L, .ref b :: st, mem, 0)) := q_ra (by decide +kernel)
theorem r120_28 : pR X d 120 0 Q (28, L, .ref a :: st, mem, 0) = gf mem a 1 1 (fun p => pR X d 120 0 Q (31, L, p :: st, mem, 0)) := q_get (ix := 230) (by decide +kernel) (by decide +kernel)
theorem r120_31 : pR X d 120 0 Q (31, L, st, mem, 0) = pR X d 120 0 Q (32, L, .int (iI (1)) :: st, mem, 0) := q_ic (by decide +kernel)
theorem r120_32 : pR X d 120 0 Q (32, L, .int z :: .int x :: st, mem, 0) = pR X d 120 0 Q (33, L, .int (x - z) :: st, mem, 0) := q_s (.ok (.isub, 1)) (by decide +kernel) rfl
theorem r120_33 : pR X d 120 0 Q (33, L, .int y2 :: .int y1 :: .int y0 :: [], mem, 0) = Cw X d 7 [.int y0, .int y1, .int y2] mem (fun r mem => pR X d 120 0 Q (36, L, r.toList ++ [], mem, 0)) := q_stat (ix := 52) (kd := 1) (y2 := 7) (as := [.int y2, .int y1, .int y0]) (by decide +kernel) (by decide +kernel) (by decide) rfl rfl rfl (Nat.le_of_ble_eq_true rfl) (by decide)
theorem r120_36 : pR X d 120 0 Q (36, L, .int x :: st, mem, 0) = ((¬ x = 0 → pR X d 120 0 Q (45, L, st, mem, 0)) ∧ (¬ (¬ x = 0) → pR X d 120 0 Q (39, L, st, mem, 0))) := r_if (c := .ne) (off := 9) (by decide +kernel) (by decide)
theorem r120_39 : pR X d 120 0 Q (39, [some (.ref a), l1, l2, l3, l4], st, mem, 0) = pR X d 120 0 Q (40, [some (.ref a), l1, l2, l3, l4], .ref a :: st, mem, 0) := q_s (.ok (.aload_n 0, 1)) (by decide +kernel) rfl
theorem r120_40 : pR X d 120 0 Q (40, L, st, mem, 0) = pR X d 120 0 Q (41, L, .int (iI (0)) :: st, mem, 0) := q_ic (by decide +kernel)
theorem r120_41 : pR X d 120 0 Q (41, L, .int y0 :: .ref a :: [], mem, 0) = (prcv mem 4 a ∧ Cw X d 8 [.ref a, .int y0] mem (fun r mem => pR X d 120 0 Q (44, L, r.toList ++ [], mem, 0))) := q_virt (ix := 59) (y2 := 8) (as := [.int y0]) (by decide +kernel) (by decide +kernel) rfl rfl rfl (Nat.le_of_ble_eq_true rfl) (by decide)
theorem r120_44 : pR X d 120 0 Q (44, L, [.int x], mem, 0) = Q (some (.int x)) mem := q_reti (by decide +kernel) rfl
theorem r120_45 : pR X d 120 0 Q (45, [some (.ref a), l1, l2, l3, l4], st, mem, 0) = pR X d 120 0 Q (46, [some (.ref a), l1, l2, l3, l4], .ref a :: st, mem, 0) := q_s (.ok (.aload_n 0, 1)) (by decide +kernel) rfl
theorem r120_46 : pR X d 120 0 Q (46, L, .ref a :: st, mem, 0) = gf mem a 4 5 (fun p => pR X d 120 0 Q (49, L, p :: st, mem, 0)) := q_get (ix := 35) (by decide +kernel) (by decide +kernel)
theorem r120_49 : pR X d 120 0 Q (49, [l0, some (.int x), l2, l3, l4], st, mem, 0) = pR X d 120 0 Q (50, [l0, some (.int x), l2, l3, l4], .int x :: st, mem, 0) := q_s (.ok (.iload_n 1, 1)) (by decide +kernel) rfl
theorem r120_50 : pR X d 120 0 Q (50, L, .int x :: .ref a :: st, mem, 0) = ra mem a x (fun b => pR X d 120 0 Q (51, L, .ref b :: st, mem, 0)) := q_ra (by decide +kernel)
theorem r120_51 : pR X d 120 0 Q (51, [l0, l1, some (.int x), l3, l4], st, mem, 0) = pR X d 120 0 Q (52, [l0, l1, some (.int x), l3, l4], .int x :: st, mem, 0) := q_s (.ok (.iload_n 2, 1)) (by decide +kernel) rfl
theorem r120_52 : pR X d 120 0 Q (52, [l0, l1, l2, some (.int x), l4], st, mem, 0) = pR X d 120 0 Q (53, [l0, l1, l2, some (.int x), l4], .int x :: st, mem, 0) := q_s (.ok (.iload_n 3, 1)) (by decide +kernel) rfl
theorem r120_53 : pR X d 120 0 Q (53, L, .int y1 :: .int y0 :: .ref a :: [], mem, 0) = (prcv mem 1 a ∧ Cw X d 121 [.ref a, .int y0, .int y1] mem (fun r mem => pR X d 120 0 Q (56, L, r.toList ++ [], mem, 0))) := q_virt (ix := 236) (y2 := 121) (as := [.int y1, .int y0]) (by decide +kernel) (by decide +kernel) rfl rfl rfl (Nat.le_of_ble_eq_true rfl) (by decide)
theorem r120_56 : pR X d 120 0 Q (56, L, st, mem, 0) = pR X d 120 0 Q (57, L, .int (iI (1)) :: st, mem, 0) := q_ic (by decide +kernel)
theorem r120_57 : pR X d 120 0 Q (57, L, [.int x], mem, 0) = Q (some (.int x)) mem := q_reti (by decide +kernel) rfl
theorem r121_0 : pR X d 121 0 Q (0, [some (.ref a), l1, l2], st, mem, 0) = pR X d 121 0 Q (1, [some (.ref a), l1, l2], .ref a :: st, mem, 0) := q_s (.ok (.aload_n 0, 1)) (by decide +kernel) rfl
theorem r121_1 : pR X d 121 0 Q (1, L, .ref a :: st, mem, 0) = gf mem a 1 0 (fun p => pR X d 121 0 Q (4, L, p :: st, mem, 0)) := q_get (ix := 9) (by decide +kernel) (by decide +kernel)
theorem r121_4_d : decode (yB 121) 4 = .ok (.lookupswitch (50) #[(8, 28), (16, 39)], 28) := (by decide +kernel)
theorem r121_32 : pR X d 121 0 Q (32, [some (.ref a), l1, l2], st, mem, 0) = pR X d 121 0 Q (33, [some (.ref a), l1, l2], .ref a :: st, mem, 0) := q_s (.ok (.aload_n 0, 1)) (by decide +kernel) rfl
theorem r121_33 : pR X d 121 0 Q (33, L, .ref a :: st, mem, 0) = gf mem a 1 2 (fun p => pR X d 121 0 Q (36, L, p :: st, mem, 0)) := q_get (ix := 18) (by decide +kernel) (by decide +kernel)
theorem r121_36 : pR X d 121 0 Q (36, [l0, some (.int x), l2], st, mem, 0) = pR X d 121 0 Q (37, [l0, some (.int x), l2], .int x :: st, mem, 0) := q_s (.ok (.iload_n 1, 1)) (by decide +kernel) rfl
theorem r121_37 : pR X d 121 0 Q (37, [l0, l1, some (.int x)], st, mem, 0) = pR X d 121 0 Q (38, [l0, l1, some (.int x)], .int x :: st, mem, 0) := q_s (.ok (.iload_n 2, 1)) (by decide +kernel) rfl
theorem r121_38 : pR X d 121 0 Q (38, L, .int x :: st, mem, 0) = pR X d 121 0 Q (39, L, .int x.toInt8.toInt32 :: st, mem, 0) := q_s (.ok (.i2b, 1)) (by decide +kernel) rfl
theorem r121_39 : pR X d 121 0 Q (39, L, .int z :: .int x :: .ref a :: st, mem, 0) = wi mem a x z (fun mem => pR X d 121 0 Q (40, L, st, mem, 0)) := q_wi (by decide +kernel)
theorem r121_40 : pR X d 121 0 Q (40, L, st, mem, 0) = pR X d 121 0 Q (61, L, st, mem, 0) := q_s (.ok (.goto (21), 3)) (by decide +kernel) rfl
theorem r121_43 : pR X d 121 0 Q (43, [some (.ref a), l1, l2], st, mem, 0) = pR X d 121 0 Q (44, [some (.ref a), l1, l2], .ref a :: st, mem, 0) := q_s (.ok (.aload_n 0, 1)) (by decide +kernel) rfl
theorem r121_44 : pR X d 121 0 Q (44, L, .ref a :: st, mem, 0) = gf mem a 1 2 (fun p => pR X d 121 0 Q (47, L, p :: st, mem, 0)) := q_get (ix := 18) (by decide +kernel) (by decide +kernel)
theorem r121_47 : pR X d 121 0 Q (47, [l0, some (.int x), l2], st, mem, 0) = pR X d 121 0 Q (48, [l0, some (.int x), l2], .int x :: st, mem, 0) := q_s (.ok (.iload_n 1, 1)) (by decide +kernel) rfl
theorem r121_48 : pR X d 121 0 Q (48, [l0, l1, some (.int x)], st, mem, 0) = pR X d 121 0 Q (49, [l0, l1, some (.int x)], .int x :: st, mem, 0) := q_s (.ok (.iload_n 2, 1)) (by decide +kernel) rfl
theorem r121_49 : pR X d 121 0 Q (49, L, .int x :: st, mem, 0) = pR X d 121 0 Q (50, L, .int x.toInt16.toInt32 :: st, mem, 0) := q_s (.ok (.i2s, 1)) (by decide +kernel) rfl
theorem r121_50 : pR X d 121 0 Q (50, L, .int z :: .int x :: .ref a :: st, mem, 0) = wi mem a x z (fun mem => pR X d 121 0 Q (51, L, st, mem, 0)) := q_wi (by decide +kernel)
theorem r121_51 : pR X d 121 0 Q (51, L, st, mem, 0) = pR X d 121 0 Q (61, L, st, mem, 0) := q_s (.ok (.goto (10), 3)) (by decide +kernel) rfl
theorem r121_54 : pR X d 121 0 Q (54, [some (.ref a), l1, l2], st, mem, 0) = pR X d 121 0 Q (55, [some (.ref a), l1, l2], .ref a :: st, mem, 0) := q_s (.ok (.aload_n 0, 1)) (by decide +kernel) rfl
theorem r121_55 : pR X d 121 0 Q (55, L, .ref a :: st, mem, 0) = gf mem a 1 2 (fun p => pR X d 121 0 Q (58, L, p :: st, mem, 0)) := q_get (ix := 18) (by decide +kernel) (by decide +kernel)
theorem r121_58 : pR X d 121 0 Q (58, [l0, some (.int x), l2], st, mem, 0) = pR X d 121 0 Q (59, [l0, some (.int x), l2], .int x :: st, mem, 0) := q_s (.ok (.iload_n 1, 1)) (by decide +kernel) rfl
theorem r121_59 : pR X d 121 0 Q (59, [l0, l1, some (.int x)], st, mem, 0) = pR X d 121 0 Q (60, [l0, l1, some (.int x)], .int x :: st, mem, 0) := q_s (.ok (.iload_n 2, 1)) (by decide +kernel) rfl
theorem r121_60 : pR X d 121 0 Q (60, L, .int z :: .int x :: .ref a :: st, mem, 0) = wi mem a x z (fun mem => pR X d 121 0 Q (61, L, st, mem, 0)) := q_wi (by decide +kernel)
theorem r121_61 : pR X d 121 0 Q (61, L, [], mem, 0) = Q none mem := q_retv (by decide +kernel) rfl
theorem r122_0 : pR X d 122 0 Q (0, [l0, some (.int x), l2, l3, l4, l5], st, mem, 0) = pR X d 122 0 Q (1, [l0, some (.int x), l2, l3, l4, l5], .int x :: st, mem, 0) := q_s (.ok (.iload_n 1, 1)) (by decide +kernel) rfl
theorem r122_1 : pR X d 122 0 Q (1, L, .int y0 :: [], mem, 0) = Cw X d 75 [.int y0] mem (fun r mem => pR X d 122 0 Q (4, L, r.toList ++ [], mem, 0)) := q_stat (ix := 224) (kd := 1) (y2 := 75) (as := [.int y0]) (by decide +kernel) (by decide +kernel) (by decide) rfl rfl rfl (Nat.le_of_ble_eq_true rfl) (by decide)
theorem r122_4 : pR X d 122 0 Q (4, L, .int x :: st, mem, 0) = ((x = 0 → pR X d 122 0 Q (14, L, st, mem, 0)) ∧ (¬ (x = 0) → pR X d 122 0 Q (7, L, st, mem, 0))) := r_if (c := .eq) (off := 10) (by decide +kernel) (by decide)
theorem r122_7 : pR X d 122 0 Q (7, [l0, l1, l2, some (.int x), l4, l5], st, mem, 0) = pR X d 122 0 Q (8, [l0, l1, l2, some (.int x), l4, l5], .int x :: st, mem, 0) := q_s (.ok (.iload_n 3, 1)) (by decide +kernel) rfl
theorem r122_8 : pR X d 122 0 Q (8, L, .int y0 :: [], mem, 0) = Cw X d 75 [.int y0] mem (fun r mem => pR X d 122 0 Q (11, L, r.toList ++ [], mem, 0)) := q_stat (ix := 224) (kd := 1) (y2 := 75) (as := [.int y0]) (by decide +kernel) (by decide +kernel) (by decide) rfl rfl rfl (Nat.le_of_ble_eq_true rfl) (by decide)
theorem r122_11 : pR X d 122 0 Q (11, L, .int x :: st, mem, 0) = ((¬ x = 0 → pR X d 122 0 Q (20, L, st, mem, 0)) ∧ (¬ (¬ x = 0) → pR X d 122 0 Q (14, L, st, mem, 0))) := r_if (c := .ne) (off := 9) (by decide +kernel) (by decide)
theorem r122_14 : pR X d 122 0 Q (14, [some (.ref a), l1, l2, l3, l4, l5], st, mem, 0) = pR X d 122 0 Q (15, [some (.ref a), l1, l2, l3, l4, l5], .ref a :: st, mem, 0) := q_s (.ok (.aload_n 0, 1)) (by decide +kernel) rfl
theorem r122_15 : pR X d 122 0 Q (15, L, st, mem, 0) = pR X d 122 0 Q (16, L, .int (iI (0)) :: st, mem, 0) := q_ic (by decide +kernel)
theorem r122_16 : pR X d 122 0 Q (16, L, .int y0 :: .ref a :: [], mem, 0) = (prcv mem 4 a ∧ Cw X d 8 [.ref a, .int y0] mem (fun r mem => pR X d 122 0 Q (19, L, r.toList ++ [], mem, 0))) := q_virt (ix := 59) (y2 := 8) (as := [.int y0]) (by decide +kernel) (by decide +kernel) rfl rfl rfl (Nat.le_of_ble_eq_true rfl) (by decide)
theorem r122_19 : pR X d 122 0 Q (19, L, [.int x], mem, 0) = Q (some (.int x)) mem := q_reti (by decide +kernel) rfl
theorem r122_20 : pR X d 122 0 Q (20, [some (.ref a), l1, l2, l3, l4, l5], st, mem, 0) = pR X d 122 0 Q (21, [some (.ref a), l1, l2, l3, l4, l5], .ref a :: st, mem, 0) := q_s (.ok (.aload_n 0, 1)) (by decide +kernel) rfl
theorem r122_21 : pR X d 122 0 Q (21, L, .ref a :: st, mem, 0) = gf mem a 4 5 (fun p => pR X d 122 0 Q (24, L, p :: st, mem, 0)) := q_get (ix := 35) (by decide +kernel) (by decide +kernel)
theorem r122_24 : pR X d 122 0 Q (24, [l0, some (.int x), l2, l3, l4, l5], st, mem, 0) = pR X d 122 0 Q (25, [l0, some (.int x), l2, l3, l4, l5], .int x :: st, mem, 0) := q_s (.ok (.iload_n 1, 1)) (by decide +kernel) rfl
theorem r122_25 : pR X d 122 0 Q (25, L, .int x :: .ref a :: st, mem, 0) = ra mem a x (fun b => pR X d 122 0 Q (26, L, .ref b :: st, mem, 0)) := q_ra (by decide +kernel)
theorem r122_26 : pR X d 122 0 Q (26, L, .ref a :: [], mem, 0) = (prcv mem 1 a ∧ Cw X d 76 [.ref a] mem (fun r mem => pR X d 122 0 Q (29, L, r.toList ++ [], mem, 0))) := q_virt (ix := 239) (y2 := 76) (as := []) (by decide +kernel) (by decide +kernel) rfl rfl rfl (Nat.le_of_ble_eq_true rfl) (by decide)
theorem r122_29 : pR X d 122 0 Q (29, L, .int x :: st, mem, 0) = ((¬ x = 0 → pR X d 122 0 Q (44, L, st, mem, 0)) ∧ (¬ (¬ x = 0) → pR X d 122 0 Q (32, L, st, mem, 0))) := r_if (c := .ne) (off := 15) (by decide +kernel) (by decide)
theorem r122_32 : pR X d 122 0 Q (32, [some (.ref a), l1, l2, l3, l4, l5], st, mem, 0) = pR X d 122 0 Q (33, [some (.ref a), l1, l2, l3, l4, l5], .ref a :: st, mem, 0) := q_s (.ok (.aload_n 0, 1)) (by decide +kernel) rfl
theorem r122_33 : pR X d 122 0 Q (33, L, .ref a :: st, mem, 0) = gf mem a 4 5 (fun p => pR X d 122 0 Q (36, L, p :: st, mem, 0)) := q_get (ix := 35) (by decide +kernel) (by decide +kernel)
theorem r122_36 : pR X d 122 0 Q (36, [l0, l1, l2, some (.int x), l4, l5], st, mem, 0) = pR X d 122 0 Q (37, [l0, l1, l2, some (.int x), l4, l5], .int x :: st, mem, 0) := q_s (.ok (.iload_n 3, 1)) (by decide +kernel) rfl
theorem r122_37 : pR X d 122 0 Q (37, L, .int x :: .ref a :: st, mem, 0) = ra mem a x (fun b => pR X d 122 0 Q (38, L, .ref b :: st, mem, 0)) := q_ra (by decide +kernel)
theorem r122_38 : pR X d 122 0 Q (38, L, .ref a :: [], mem, 0) = (prcv mem 1 a ∧ Cw X d 76 [.ref a] mem (fun r mem => pR X d 122 0 Q (41, L, r.toList ++ [], mem, 0))) := q_virt (ix := 239) (y2 := 76) (as := []) (by decide +kernel) (by decide +kernel) rfl rfl rfl (Nat.le_of_ble_eq_true rfl) (by decide)
theorem r122_41 : pR X d 122 0 Q (41, L, .int x :: st, mem, 0) = ((x = 0 → pR X d 122 0 Q (50, L, st, mem, 0)) ∧ (¬ (x = 0) → pR X d 122 0 Q (44, L, st, mem, 0))) := r_if (c := .eq) (off := 9) (by decide +kernel) (by decide)
theorem r122_44 : pR X d 122 0 Q (44, [some (.ref a), l1, l2, l3, l4, l5], st, mem, 0) = pR X d 122 0 Q (45, [some (.ref a), l1, l2, l3, l4, l5], .ref a :: st, mem, 0) := q_s (.ok (.aload_n 0, 1)) (by decide +kernel) rfl
theorem r122_45 : pR X d 122 0 Q (45, L, st, mem, 0) = pR X d 122 0 Q (46, L, .int (iI (5)) :: st, mem, 0) := q_ic (by decide +kernel)
theorem r122_46 : pR X d 122 0 Q (46, L, .int y0 :: .ref a :: [], mem, 0) = (prcv mem 4 a ∧ Cw X d 8 [.ref a, .int y0] mem (fun r mem => pR X d 122 0 Q (49, L, r.toList ++ [], mem, 0))) := q_virt (ix := 59) (y2 := 8) (as := [.int y0]) (by decide +kernel) (by decide +kernel) rfl rfl rfl (Nat.le_of_ble_eq_true rfl) (by decide)
theorem r122_49 : pR X d 122 0 Q (49, L, [.int x], mem, 0) = Q (some (.int x)) mem := q_reti (by decide +kernel) rfl
theorem r122_50 : pR X d 122 0 Q (50, [some (.ref a), l1, l2, l3, l4, l5], st, mem, 0) = pR X d 122 0 Q (51, [some (.ref a), l1, l2, l3, l4, l5], .ref a :: st, mem, 0) := q_s (.ok (.aload_n 0, 1)) (by decide +kernel) rfl
theorem r122_51 : pR X d 122 0 Q (51, L, .ref a :: st, mem, 0) = gf mem a 4 5 (fun p => pR X d 122 0 Q (54, L, p :: st, mem, 0)) := q_get (ix := 35) (by decide +kernel) (by decide +kernel)
theorem r122_54 : pR X d 122 0 Q (54, [l0, some (.int x), l2, l3, l4, l5], st, mem, 0) = pR X d 122 0 Q (55, [l0, some (.int x), l2, l3, l4, l5], .int x :: st, mem, 0) := q_s (.ok (.iload_n 1, 1)) (by decide +kernel) rfl
theorem r122_55 : pR X d 122 0 Q (55, L, .int x :: .ref a :: st, mem, 0) = ra mem a x (fun b => pR X d 122 0 Q (56, L, .ref b :: st, mem, 0)) := q_ra (by decide +kernel)
theorem r122_56 : pR X d 122 0 Q (56, L, .ref a :: st, mem, 0) = gf mem a 1 0 (fun p => pR X d 122 0 Q (59, L, p :: st, mem, 0)) := q_get (ix := 242) (by decide +kernel) (by decide +kernel)
theorem r122_59 : pR X d 122 0 Q (59, [some (.ref a), l1, l2, l3, l4, l5], st, mem, 0) = pR X d 122 0 Q (60, [some (.ref a), l1, l2, l3, l4, l5], .ref a :: st, mem, 0) := q_s (.ok (.aload_n 0, 1)) (by decide +kernel) rfl
theorem r122_60 : pR X d 122 0 Q (60, L, .ref a :: st, mem, 0) = gf mem a 4 5 (fun p => pR X d 122 0 Q (63, L, p :: st, mem, 0)) := q_get (ix := 35) (by decide +kernel) (by decide +kernel)
theorem r122_63 : pR X d 122 0 Q (63, [l0, l1, l2, some (.int x), l4, l5], st, mem, 0) = pR X d 122 0 Q (64, [l0, l1, l2, some (.int x), l4, l5], .int x :: st, mem, 0) := q_s (.ok (.iload_n 3, 1)) (by decide +kernel) rfl
theorem r122_64 : pR X d 122 0 Q (64, L, .int x :: .ref a :: st, mem, 0) = ra mem a x (fun b => pR X d 122 0 Q (65, L, .ref b :: st, mem, 0)) := q_ra (by decide +kernel)
theorem r122_65 : pR X d 122 0 Q (65, L, .ref a :: st, mem, 0) = gf mem a 1 0 (fun p => pR X d 122 0 Q (68, L, p :: st, mem, 0)) := q_get (ix := 242) (by decide +kernel) (by decide +kernel)
theorem r122_68 : pR X d 122 0 Q (68, L, .int z :: .int x :: st, mem, 0) = ((x = z → pR X d 122 0 Q (77, L, st, mem, 0)) ∧ (¬ (x = z) → pR X d 122 0 Q (71, L, st, mem, 0))) := r_ic (c := .eq) (off := 9) (by decide +kernel) (by decide)
theorem r122_71 : pR X d 122 0 Q (71, [some (.ref a), l1, l2, l3, l4, l5], st, mem, 0) = pR X d 122 0 Q (72, [some (.ref a), l1, l2, l3, l4, l5], .ref a :: st, mem, 0) := q_s (.ok (.aload_n 0, 1)) (by decide +kernel) rfl
theorem r122_72 : pR X d 122 0 Q (72, L, st, mem, 0) = pR X d 122 0 Q (73, L, .int (iI (2)) :: st, mem, 0) := q_ic (by decide +kernel)
theorem r122_73 : pR X d 122 0 Q (73, L, .int y0 :: .ref a :: [], mem, 0) = (prcv mem 4 a ∧ Cw X d 8 [.ref a, .int y0] mem (fun r mem => pR X d 122 0 Q (76, L, r.toList ++ [], mem, 0))) := q_virt (ix := 59) (y2 := 8) (as := [.int y0]) (by decide +kernel) (by decide +kernel) rfl rfl rfl (Nat.le_of_ble_eq_true rfl) (by decide)
theorem r122_76 : pR X d 122 0 Q (76, L, [.int x], mem, 0) = Q (some (.int x)) mem := q_reti (by decide +kernel) rfl
theorem r122_77 : pR X d 122 0 Q (77, [some (.ref a), l1, l2, l3, l4, l5], st, mem, 0) = pR X d 122 0 Q (78, [some (.ref a), l1, l2, l3, l4, l5], .ref a :: st, mem, 0) := q_s (.ok (.aload_n 0, 1)) (by decide +kernel) rfl
theorem r122_78 : pR X d 122 0 Q (78, L, .ref a :: st, mem, 0) = gf mem a 4 5 (fun p => pR X d 122 0 Q (81, L, p :: st, mem, 0)) := q_get (ix := 35) (by decide +kernel) (by decide +kernel)
theorem r122_81 : pR X d 122 0 Q (81, [l0, some (.int x), l2, l3, l4, l5], st, mem, 0) = pR X d 122 0 Q (82, [l0, some (.int x), l2, l3, l4, l5], .int x :: st, mem, 0) := q_s (.ok (.iload_n 1, 1)) (by decide +kernel) rfl
theorem r122_82 : pR X d 122 0 Q (82, L, .int x :: .ref a :: st, mem, 0) = ra mem a x (fun b => pR X d 122 0 Q (83, L, .ref b :: st, mem, 0)) := q_ra (by decide +kernel)
theorem r122_83 : pR X d 122 0 Q (83, [l0, l1, some (.int x), l3, l4, l5], st, mem, 0) = pR X d 122 0 Q (84, [l0, l1, some (.int x), l3, l4, l5], .int x :: st, mem, 0) := q_s (.ok (.iload_n 2, 1)) (by decide +kernel) rfl
theorem r122_84 : pR X d 122 0 Q (84, [l0, l1, l2, l3, l4, some (.int x)], st, mem, 0) = pR X d 122 0 Q (86, [l0, l1, l2, l3, l4, some (.int x)], .int x :: st, mem, 0) := q_s (.ok (.iload 5, 2)) (by decide +kernel) rfl
theorem r122_86 : pR X d 122 0 Q (86, L, .int y1 :: .int y0 :: .ref a :: [], mem, 0) = (prcv mem 1 a ∧ Cw X d 123 [.ref a, .int y0, .int y1] mem (fun r mem => pR X d 122 0 Q (89, L, r.toList ++ [], mem, 0))) := q_virt (ix := 245) (y2 := 123) (as := [.int y1, .int y0]) (by decide +kernel) (by decide +kernel) rfl rfl rfl (Nat.le_of_ble_eq_true rfl) (by decide)
theorem r122_89 : pR X d 122 0 Q (89, L, .int x :: st, mem, 0) = ((x = 0 → pR X d 122 0 Q (108, L, st, mem, 0)) ∧ (¬ (x = 0) → pR X d 122 0 Q (92, L, st, mem, 0))) := r_if (c := .eq) (off := 19) (by decide +kernel) (by decide)
theorem r122_92 : pR X d 122 0 Q (92, [some (.ref a), l1, l2, l3, l4, l5], st, mem, 0) = pR X d 122 0 Q (93, [some (.ref a), l1, l2, l3, l4, l5], .ref a :: st, mem, 0) := q_s (.ok (.aload_n 0, 1)) (by decide +kernel) rfl
theorem r122_93 : pR X d 122 0 Q (93, L, .ref a :: st, mem, 0) = gf mem a 4 5 (fun p => pR X d 122 0 Q (96, L, p :: st, mem, 0)) := q_get (ix := 35) (by decide +kernel) (by decide +kernel)
theorem r122_96 : pR X d 122 0 Q (96, [l0, l1, l2, some (.int x), l4, l5], st, mem, 0) = pR X d 122 0 Q (97, [l0, l1, l2, some (.int x), l4, l5], .int x :: st, mem, 0) := q_s (.ok (.iload_n 3, 1)) (by decide +kernel) rfl
theorem r122_97 : pR X d 122 0 Q (97, L, .int x :: .ref a :: st, mem, 0) = ra mem a x (fun b => pR X d 122 0 Q (98, L, .ref b :: st, mem, 0)) := q_ra (by decide +kernel)
theorem r122_98 : pR X d 122 0 Q (98, [l0, l1, l2, l3, some (.int x), l5], st, mem, 0) = pR X d 122 0 Q (100, [l0, l1, l2, l3, some (.int x), l5], .int x :: st, mem, 0) := q_s (.ok (.iload 4, 2)) (by decide +kernel) rfl
theorem r122_100 : pR X d 122 0 Q (100, [l0, l1, l2, l3, l4, some (.int x)], st, mem, 0) = pR X d 122 0 Q (102, [l0, l1, l2, l3, l4, some (.int x)], .int x :: st, mem, 0) := q_s (.ok (.iload 5, 2)) (by decide +kernel) rfl
theorem r122_102 : pR X d 122 0 Q (102, L, .int y1 :: .int y0 :: .ref a :: [], mem, 0) = (prcv mem 1 a ∧ Cw X d 123 [.ref a, .int y0, .int y1] mem (fun r mem => pR X d 122 0 Q (105, L, r.toList ++ [], mem, 0))) := q_virt (ix := 245) (y2 := 123) (as := [.int y1, .int y0]) (by decide +kernel) (by decide +kernel) rfl rfl rfl (Nat.le_of_ble_eq_true rfl) (by decide)
theorem r122_105 : pR X d 122 0 Q (105, L, .int x :: st, mem, 0) = ((¬ x = 0 → pR X d 122 0 Q (114, L, st, mem, 0)) ∧ (¬ (¬ x = 0) → pR X d 122 0 Q (108, L, st, mem, 0))) := r_if (c := .ne) (off := 9) (by decide +kernel) (by decide)
theorem r122_108 : pR X d 122 0 Q (108, [some (.ref a), l1, l2, l3, l4, l5], st, mem, 0) = pR X d 122 0 Q (109, [some (.ref a), l1, l2, l3, l4, l5], .ref a :: st, mem, 0) := q_s (.ok (.aload_n 0, 1)) (by decide +kernel) rfl
theorem r122_109 : pR X d 122 0 Q (109, L, st, mem, 0) = pR X d 122 0 Q (110, L, .int (iI (0)) :: st, mem, 0) := q_ic (by decide +kernel)
theorem r122_110 : pR X d 122 0 Q (110, L, .int y0 :: .ref a :: [], mem, 0) = (prcv mem 4 a ∧ Cw X d 8 [.ref a, .int y0] mem (fun r mem => pR X d 122 0 Q (113, L, r.toList ++ [], mem, 0))) := q_virt (ix := 59) (y2 := 8) (as := [.int y0]) (by decide +kernel) (by decide +kernel) rfl rfl rfl (Nat.le_of_ble_eq_true rfl) (by decide)
theorem r122_113 : pR X d 122 0 Q (113, L, [.int x], mem, 0) = Q (some (.int x)) mem := q_reti (by decide +kernel) rfl
theorem r122_114 : pR X d 122 0 Q (114, [some (.ref a), l1, l2, l3, l4, l5], st, mem, 0) = pR X d 122 0 Q (115, [some (.ref a), l1, l2, l3, l4, l5], .ref a :: st, mem, 0) := q_s (.ok (.aload_n 0, 1)) (by decide +kernel) rfl
theorem r122_115 : pR X d 122 0 Q (115, L, .ref a :: st, mem, 0) = gf mem a 4 5 (fun p => pR X d 122 0 Q (118, L, p :: st, mem, 0)) := q_get (ix := 35) (by decide +kernel) (by decide +kernel)
theorem r122_118 : pR X d 122 0 Q (118, [l0, some (.int x), l2, l3, l4, l5], st, mem, 0) = pR X d 122 0 Q (119, [l0, some (.int x), l2, l3, l4, l5], .int x :: st, mem, 0) := q_s (.ok (.iload_n 1, 1)) (by decide +kernel) rfl
theorem r122_119 : pR X d 122 0 Q (119, L, .int x :: .ref a :: st, mem, 0) = ra mem a x (fun b => pR X d 122 0 Q (120, L, .ref b :: st, mem, 0)) := q_ra (by decide +kernel)
theorem r122_120 : pR X d 122 0 Q (120, L, .ref a :: st, mem, 0) = gf mem a 1 2 (fun p => pR X d 122 0 Q (123, L, p :: st, mem, 0)) := q_get (ix := 248) (by decide +kernel) (by decide +kernel)
theorem r122_123 : pR X d 122 0 Q (123, [l0, l1, some (.int x), l3, l4, l5], st, mem, 0) = pR X d 122 0 Q (124, [l0, l1, some (.int x), l3, l4, l5], .int x :: st, mem, 0) := q_s (.ok (.iload_n 2, 1)) (by decide +kernel) rfl
theorem r122_124 : pR X d 122 0 Q (124, [some (.ref a), l1, l2, l3, l4, l5], st, mem, 0) = pR X d 122 0 Q (125, [some (.ref a), l1, l2, l3, l4, l5], .ref a :: st, mem, 0) := q_s (.ok (.aload_n 0, 1)) (by decide +kernel) rfl
theorem r122_125 : pR X d 122 0 Q (125, L, .ref a :: st, mem, 0) = gf mem a 4 5 (fun p => pR X d 122 0 Q (128, L, p :: st, mem, 0)) := q_get (ix := 35) (by decide +kernel) (by decide +kernel)
theorem r122_128 : pR X d 122 0 Q (128, [l0, l1, l2, some (.int x), l4, l5], st, mem, 0) = pR X d 122 0 Q (129, [l0, l1, l2, some (.int x), l4, l5], .int x :: st, mem, 0) := q_s (.ok (.iload_n 3, 1)) (by decide +kernel) rfl
theorem r122_129 : pR X d 122 0 Q (129, L, .int x :: .ref a :: st, mem, 0) = ra mem a x (fun b => pR X d 122 0 Q (130, L, .ref b :: st, mem, 0)) := q_ra (by decide +kernel)
theorem r122_130 : pR X d 122 0 Q (130, L, .ref a :: st, mem, 0) = gf mem a 1 2 (fun p => pR X d 122 0 Q (133, L, p :: st, mem, 0)) := q_get (ix := 248) (by decide +kernel) (by decide +kernel)
theorem r122_133 : pR X d 122 0 Q (133, [l0, l1, l2, l3, some (.int x), l5], st, mem, 0) = pR X d 122 0 Q (135, [l0, l1, l2, l3, some (.int x), l5], .int x :: st, mem, 0) := q_s (.ok (.iload 4, 2)) (by decide +kernel) rfl
theorem r122_135 : pR X d 122 0 Q (135, [l0, l1, l2, l3, l4, some (.int x)], st, mem, 0) = pR X d 122 0 Q (137, [l0, l1, l2, l3, l4, some (.int x)], .int x :: st, mem, 0) := q_s (.ok (.iload 5, 2)) (by decide +kernel) rfl
theorem r122_137 (h1 : 1 ≤ d) : pR X d 122 0 Q (137, L, .int z3 :: .int z2 :: .ref b :: .int z1 :: .ref a :: [], mem, 0) = cpy mem a b z1 z2 z3 (fun mem => pR X d 122 0 Q (140, L, [], mem, 0)) := q_cpy (ix := 251) (yy := 0) (by decide +kernel) (by decide +kernel) (Nat.le_of_ble_eq_true rfl) h1
theorem r122_140 : pR X d 122 0 Q (140, [l0, l1, l2, l3, l4, some (.int x)], st, mem, 0) = pR X d 122 0 Q (142, [l0, l1, l2, l3, l4, some (.int x)], .int x :: st, mem, 0) := q_s (.ok (.iload 5, 2)) (by decide +kernel) rfl
theorem r122_142 : pR X d 122 0 Q (142, L, [.int x], mem, 0) = Q (some (.int x)) mem := q_reti (by decide +kernel) rfl
theorem r123_0 : pR X d 123 0 Q (0, [l0, some (.int x), l2], st, mem, 0) = pR X d 123 0 Q (1, [l0, some (.int x), l2], .int x :: st, mem, 0) := q_s (.ok (.iload_n 1, 1)) (by decide +kernel) rfl
theorem r123_1 : pR X d 123 0 Q (1, L, .int x :: st, mem, 0) = ((x < 0 → pR X d 123 0 Q (22, L, st, mem, 0)) ∧ (¬ (x < 0) → pR X d 123 0 Q (4, L, st, mem, 0))) := r_if (c := .lt) (off := 21) (by decide +kernel) (by decide)
theorem r123_4 : pR X d 123 0 Q (4, [l0, l1, some (.int x)], st, mem, 0) = pR X d 123 0 Q (5, [l0, l1, some (.int x)], .int x :: st, mem, 0) := q_s (.ok (.iload_n 2, 1)) (by decide +kernel) rfl
theorem r123_5 : pR X d 123 0 Q (5, L, .int x :: st, mem, 0) = ((x < 0 → pR X d 123 0 Q (22, L, st, mem, 0)) ∧ (¬ (x < 0) → pR X d 123 0 Q (8, L, st, mem, 0))) := r_if (c := .lt) (off := 17) (by decide +kernel) (by decide)
theorem r123_8 : pR X d 123 0 Q (8, [l0, some (.int x), l2], st, mem, 0) = pR X d 123 0 Q (9, [l0, some (.int x), l2], .int x :: st, mem, 0) := q_s (.ok (.iload_n 1, 1)) (by decide +kernel) rfl
theorem r123_9 : pR X d 123 0 Q (9, [some (.ref a), l1, l2], st, mem, 0) = pR X d 123 0 Q (10, [some (.ref a), l1, l2], .ref a :: st, mem, 0) := q_s (.ok (.aload_n 0, 1)) (by decide +kernel) rfl
theorem r123_10 : pR X d 123 0 Q (10, L, .ref a :: st, mem, 0) = gf mem a 1 1 (fun p => pR X d 123 0 Q (13, L, p :: st, mem, 0)) := q_get (ix := 15) (by decide +kernel) (by decide +kernel)
theorem r123_13 : pR X d 123 0 Q (13, [l0, l1, some (.int x)], st, mem, 0) = pR X d 123 0 Q (14, [l0, l1, some (.int x)], .int x :: st, mem, 0) := q_s (.ok (.iload_n 2, 1)) (by decide +kernel) rfl
theorem r123_14 : pR X d 123 0 Q (14, L, .int z :: .int x :: st, mem, 0) = pR X d 123 0 Q (15, L, .int (x - z) :: st, mem, 0) := q_s (.ok (.isub, 1)) (by decide +kernel) rfl
theorem r123_15 : pR X d 123 0 Q (15, L, .int z :: .int x :: st, mem, 0) = ((z < x → pR X d 123 0 Q (22, L, st, mem, 0)) ∧ (¬ (z < x) → pR X d 123 0 Q (18, L, st, mem, 0))) := r_ic (c := .gt) (off := 7) (by decide +kernel) (by decide)
theorem r123_18 : pR X d 123 0 Q (18, L, st, mem, 0) = pR X d 123 0 Q (19, L, .int (iI (1)) :: st, mem, 0) := q_ic (by decide +kernel)
theorem r123_19 : pR X d 123 0 Q (19, L, st, mem, 0) = pR X d 123 0 Q (23, L, st, mem, 0) := q_s (.ok (.goto (4), 3)) (by decide +kernel) rfl
theorem r123_22 : pR X d 123 0 Q (22, L, st, mem, 0) = pR X d 123 0 Q (23, L, .int (iI (0)) :: st, mem, 0) := q_ic (by decide +kernel)
theorem r123_23 : pR X d 123 0 Q (23, L, [.int x], mem, 0) = (zb .boolean x ∧ Q (some (.int x)) mem) := q_retz (by decide +kernel) rfl (by decide)
theorem r124_0 : pR X d 124 0 Q (0, [some (.ref a), l1, l2, l3, l4, l5], st, mem, 0) = pR X d 124 0 Q (1, [some (.ref a), l1, l2, l3, l4, l5], .ref a :: st, mem, 0) := q_s (.ok (.aload_n 0, 1)) (by decide +kernel) rfl
theorem r124_1 : pR X d 124 0 Q (1, [l0, some (.int x), l2, l3, l4, l5], st, mem, 0) = pR X d 124 0 Q (2, [l0, some (.int x), l2, l3, l4, l5], .int x :: st, mem, 0) := q_s (.ok (.iload_n 1, 1)) (by decide +kernel) rfl
theorem r124_2 : pR X d 124 0 Q (2, L, .int y0 :: .ref a :: [], mem, 0) = (prcv mem 4 a ∧ Cw X d 74 [.ref a, .int y0] mem (fun r mem => pR X d 124 0 Q (5, L, r.toList ++ [], mem, 0))) := q_virt (ix := 233) (y2 := 74) (as := [.int y0]) (by decide +kernel) (by decide +kernel) rfl rfl rfl (Nat.le_of_ble_eq_true rfl) (by decide)
theorem r124_5 : pR X d 124 0 Q (5, [l0, l1, l2, l3, l4, l5], .int x :: st, mem, 0) = pR X d 124 0 Q (6, [l0, cl1 l1, some (.int x), l3, l4, l5], st, mem, 0) := q_s (.ok (.istore_n 2, 1)) (by decide +kernel) rfl
theorem r124_6 : pR X d 124 0 Q (6, [l0, l1, some (.int x), l3, l4, l5], st, mem, 0) = pR X d 124 0 Q (7, [l0, l1, some (.int x), l3, l4, l5], .int x :: st, mem, 0) := q_s (.ok (.iload_n 2, 1)) (by decide +kernel) rfl
theorem r124_7 : pR X d 124 0 Q (7, L, st, mem, 0) = pR X d 124 0 Q (8, L, .int (iI (-1)) :: st, mem, 0) := q_ic (by decide +kernel)
theorem r124_8 : pR X d 124 0 Q (8, L, .int z :: .int x :: st, mem, 0) = ((x = z → pR X d 124 0 Q (17, L, st, mem, 0)) ∧ (¬ (x = z) → pR X d 124 0 Q (11, L, st, mem, 0))) := r_ic (c := .eq) (off := 9) (by decide +kernel) (by decide)
theorem r124_11 : pR X d 124 0 Q (11, [some (.ref a), l1, l2, l3, l4, l5], st, mem, 0) = pR X d 124 0 Q (12, [some (.ref a), l1, l2, l3, l4, l5], .ref a :: st, mem, 0) := q_s (.ok (.aload_n 0, 1)) (by decide +kernel) rfl
theorem r124_12 : pR X d 124 0 Q (12, [l0, l1, some (.int x), l3, l4, l5], st, mem, 0) = pR X d 124 0 Q (13, [l0, l1, some (.int x), l3, l4, l5], .int x :: st, mem, 0) := q_s (.ok (.iload_n 2, 1)) (by decide +kernel) rfl
theorem r124_13 : pR X d 124 0 Q (13, L, .int y0 :: .ref a :: [], mem, 0) = (prcv mem 4 a ∧ Cw X d 8 [.ref a, .int y0] mem (fun r mem => pR X d 124 0 Q (16, L, r.toList ++ [], mem, 0))) := q_virt (ix := 59) (y2 := 8) (as := [.int y0]) (by decide +kernel) (by decide +kernel) rfl rfl rfl (Nat.le_of_ble_eq_true rfl) (by decide)
theorem r124_16 : pR X d 124 0 Q (16, L, [.int x], mem, 0) = Q (some (.int x)) mem := q_reti (by decide +kernel) rfl
theorem r124_17 : pR X d 124 0 Q (17, [some (.ref a), l1, l2, l3, l4, l5], st, mem, 0) = pR X d 124 0 Q (18, [some (.ref a), l1, l2, l3, l4, l5], .ref a :: st, mem, 0) := q_s (.ok (.aload_n 0, 1)) (by decide +kernel) rfl
theorem r124_18 : pR X d 124 0 Q (18, L, .ref a :: st, mem, 0) = gf mem a 4 5 (fun p => pR X d 124 0 Q (21, L, p :: st, mem, 0)) := q_get (ix := 35) (by decide +kernel) (by decide +kernel)
theorem r124_21 : pR X d 124 0 Q (21, [l0, some (.int x), l2, l3, l4, l5], st, mem, 0) = pR X d 124 0 Q (22, [l0, some (.int x), l2, l3, l4, l5], .int x :: st, mem, 0) := q_s (.ok (.iload_n 1, 1)) (by decide +kernel) rfl
theorem r124_22 : pR X d 124 0 Q (22, L, .int x :: .ref a :: st, mem, 0) = ra mem a x (fun b => pR X d 124 0 Q (23, L, .ref b :: st, mem, 0)) := q_ra (by decide +kernel)
theorem r124_23 : pR X d 124 0 Q (23, L, .ref a :: st, mem, 0) = gf mem a 1 1 (fun p => pR X d 124 0 Q (26, L, p :: st, mem, 0)) := q_get (ix := 230) (by decide +kernel) (by decide +kernel)
theorem r124_26 : pR X d 124 0 Q (26, L, st, mem, 0) = pR X d 124 0 Q (28, L, .int (iI (6)) :: st, mem, 0) := q_bi (n := 6) (by decide +kernel) (by decide +kernel)
theorem r124_28 (h1 : 1 ≤ d) : pR X d 124 0 Q (28, L, .int z :: .int x :: [], mem, 0) = pR X d 124 0 Q (31, L, .int (if z < x then z else x) :: [], mem, 0) := q_mn (ix := 257) (yy := 0) (by decide +kernel) (by decide +kernel) (Nat.le_of_ble_eq_true rfl) h1
theorem r124_31 : pR X d 124 0 Q (31, [l0, l1, l2, l3, l4, l5], .int x :: st, mem, 0) = pR X d 124 0 Q (32, [l0, l1, cl1 l2, some (.int x), l4, l5], st, mem, 0) := q_s (.ok (.istore_n 3, 1)) (by decide +kernel) rfl
theorem r124_32 : pR X d 124 0 Q (32, L, st, mem, 0) = pR X d 124 0 Q (33, L, .int (iI (0)) :: st, mem, 0) := q_ic (by decide +kernel)
theorem r124_33 : pR X d 124 0 Q (33, [l0, l1, l2, l3, l4, l5], .int x :: st, mem, 0) = pR X d 124 0 Q (35, [l0, l1, l2, cl1 l3, some (.int x), l5], st, mem, 0) := q_s (.ok (.istore 4, 2)) (by decide +kernel) rfl
theorem r124_35 : pR X d 124 0 Q (35, [l0, l1, l2, l3, some (.int x), l5], st, mem, 0) = pR X d 124 0 Q (37, [l0, l1, l2, l3, some (.int x), l5], .int x :: st, mem, 0) := q_s (.ok (.iload 4, 2)) (by decide +kernel) rfl
theorem r124_37 : pR X d 124 0 Q (37, [l0, l1, l2, some (.int x), l4, l5], st, mem, 0) = pR X d 124 0 Q (38, [l0, l1, l2, some (.int x), l4, l5], .int x :: st, mem, 0) := q_s (.ok (.iload_n 3, 1)) (by decide +kernel) rfl
theorem r124_38 : pR X d 124 0 Q (38, L, .int z :: .int x :: st, mem, 0) = ((z ≤ x → pR X d 124 0 Q (84, L, st, mem, 0)) ∧ (¬ (z ≤ x) → pR X d 124 0 Q (41, L, st, mem, 0))) := r_ic (c := .ge) (off := 46) (by decide +kernel) (by decide)
theorem r124_41 : pR X d 124 0 Q (41, [some (.ref a), l1, l2, l3, l4, l5], st, mem, 0) = pR X d 124 0 Q (42, [some (.ref a), l1, l2, l3, l4, l5], .ref a :: st, mem, 0) := q_s (.ok (.aload_n 0, 1)) (by decide +kernel) rfl
theorem r124_42 : pR X d 124 0 Q (42, L, .ref a :: st, mem, 0) = gf mem a 4 5 (fun p => pR X d 124 0 Q (45, L, p :: st, mem, 0)) := q_get (ix := 35) (by decide +kernel) (by decide +kernel)
theorem r124_45 : pR X d 124 0 Q (45, [l0, some (.int x), l2, l3, l4, l5], st, mem, 0) = pR X d 124 0 Q (46, [l0, some (.int x), l2, l3, l4, l5], .int x :: st, mem, 0) := q_s (.ok (.iload_n 1, 1)) (by decide +kernel) rfl
theorem r124_46 : pR X d 124 0 Q (46, L, .int x :: .ref a :: st, mem, 0) = ra mem a x (fun b => pR X d 124 0 Q (47, L, .ref b :: st, mem, 0)) := q_ra (by decide +kernel)
theorem r124_47 : pR X d 124 0 Q (47, L, .ref a :: st, mem, 0) = gf mem a 1 2 (fun p => pR X d 124 0 Q (50, L, p :: st, mem, 0)) := q_get (ix := 248) (by decide +kernel) (by decide +kernel)
theorem r124_50 : pR X d 124 0 Q (50, [l0, l1, l2, l3, some (.int x), l5], st, mem, 0) = pR X d 124 0 Q (52, [l0, l1, l2, l3, some (.int x), l5], .int x :: st, mem, 0) := q_s (.ok (.iload 4, 2)) (by decide +kernel) rfl
theorem r124_52 : pR X d 124 0 Q (52, L, .int x :: .ref a :: st, mem, 0) = ri X mem a x (fun z => pR X d 124 0 Q (53, L, .int z :: st, mem, 0)) := q_ri (by decide +kernel)
theorem r124_53 : pR X d 124 0 Q (53, [l0, l1, l2, l3, l4, l5], .int x :: st, mem, 0) = pR X d 124 0 Q (55, [l0, l1, l2, l3, cl1 l4, some (.int x)], st, mem, 0) := q_s (.ok (.istore 5, 2)) (by decide +kernel) rfl
theorem r124_55 : pR X d 124 0 Q (55, [l0, l1, l2, l3, l4, some (.int x)], st, mem, 0) = pR X d 124 0 Q (57, [l0, l1, l2, l3, l4, some (.int x)], .int x :: st, mem, 0) := q_s (.ok (.iload 5, 2)) (by decide +kernel) rfl
theorem r124_57 : pR X d 124 0 Q (57, L, .int y0 :: [], mem, 0) = Cw X d 11 [.int y0] mem (fun r mem => pR X d 124 0 Q (60, L, r.toList ++ [], mem, 0)) := q_stat (ix := 66) (kd := 1) (y2 := 11) (as := [.int y0]) (by decide +kernel) (by decide +kernel) (by decide) rfl rfl rfl (Nat.le_of_ble_eq_true rfl) (by decide)
theorem r124_60 : pR X d 124 0 Q (60, L, .int x :: st, mem, 0) = ((¬ x = 0 → pR X d 124 0 Q (66, L, st, mem, 0)) ∧ (¬ (¬ x = 0) → pR X d 124 0 Q (63, L, st, mem, 0))) := r_if (c := .ne) (off := 6) (by decide +kernel) (by decide)
theorem r124_63 : pR X d 124 0 Q (63, [l0, l1, l2, l3, some (.int x), l5], st, mem, 0) = pR X d 124 0 Q (65, [l0, l1, l2, l3, some (.int x), l5], .int x :: st, mem, 0) := q_s (.ok (.iload 4, 2)) (by decide +kernel) rfl
theorem r124_65 : pR X d 124 0 Q (65, L, [.int x], mem, 0) = Q (some (.int x)) mem := q_reti (by decide +kernel) rfl
theorem r124_66 : pR X d 124 0 Q (66, [some (.ref a), l1, l2, l3, l4, l5], st, mem, 0) = pR X d 124 0 Q (67, [some (.ref a), l1, l2, l3, l4, l5], .ref a :: st, mem, 0) := q_s (.ok (.aload_n 0, 1)) (by decide +kernel) rfl
theorem r124_67 : pR X d 124 0 Q (67, L, .ref a :: st, mem, 0) = gf mem a 4 0 (fun p => pR X d 124 0 Q (70, L, p :: st, mem, 0)) := q_get (ix := 10) (by decide +kernel) (by decide +kernel)
theorem r124_70 : pR X d 124 0 Q (70, L, .ref a :: st, mem, 0) = gf mem a 3 6 (fun p => pR X d 124 0 Q (73, L, p :: st, mem, 0)) := q_get (ix := 69) (by decide +kernel) (by decide +kernel)
theorem r124_73 : pR X d 124 0 Q (73, [l0, l1, l2, l3, some (.int x), l5], st, mem, 0) = pR X d 124 0 Q (75, [l0, l1, l2, l3, some (.int x), l5], .int x :: st, mem, 0) := q_s (.ok (.iload 4, 2)) (by decide +kernel) rfl
theorem r124_75 : pR X d 124 0 Q (75, [l0, l1, l2, l3, l4, some (.int x)], st, mem, 0) = pR X d 124 0 Q (77, [l0, l1, l2, l3, l4, some (.int x)], .int x :: st, mem, 0) := q_s (.ok (.iload 5, 2)) (by decide +kernel) rfl
theorem r124_77 : pR X d 124 0 Q (77, L, .int z :: .int x :: .ref a :: st, mem, 0) = wi mem a x z (fun mem => pR X d 124 0 Q (78, L, st, mem, 0)) := q_wi (by decide +kernel)
theorem r124_78 : pR X d 124 0 Q (78, [l0, l1, l2, l3, some (.int x), l5], st, mem, 0) = pR X d 124 0 Q (81, [l0, l1, l2, cl1 l3, some (.int (x + iI (1))), l5], st, mem, 0) := q_s (.ok (.iinc 4 (1), 3)) (by decide +kernel) rfl
theorem r124_81 : pR X d 124 0 Q (81, L, st, mem, 0) = pR X d 124 0 Q (35, L, st, mem, 0) := q_s (.ok (.goto (-46), 3)) (by decide +kernel) rfl
theorem r124_84 : pR X d 124 0 Q (84, [l0, l1, l2, some (.int x), l4, l5], st, mem, 0) = pR X d 124 0 Q (85, [l0, l1, l2, some (.int x), l4, l5], .int x :: st, mem, 0) := q_s (.ok (.iload_n 3, 1)) (by decide +kernel) rfl
theorem r124_85 : pR X d 124 0 Q (85, L, [.int x], mem, 0) = Q (some (.int x)) mem := q_reti (by decide +kernel) rfl
theorem r125_0 : pR X d 125 0 Q (0, [some (.ref a), l1, l2, l3], st, mem, 0) = pR X d 125 0 Q (1, [some (.ref a), l1, l2, l3], .ref a :: st, mem, 0) := q_s (.ok (.aload_n 0, 1)) (by decide +kernel) rfl
theorem r125_1 : pR X d 125 0 Q (1, [l0, some (.int x), l2, l3], st, mem, 0) = pR X d 125 0 Q (2, [l0, some (.int x), l2, l3], .int x :: st, mem, 0) := q_s (.ok (.iload_n 1, 1)) (by decide +kernel) rfl
theorem r125_2 : pR X d 125 0 Q (2, L, .int y0 :: .ref a :: [], mem, 0) = (prcv mem 4 a ∧ Cw X d 74 [.ref a, .int y0] mem (fun r mem => pR X d 125 0 Q (5, L, r.toList ++ [], mem, 0))) := q_virt (ix := 233) (y2 := 74) (as := [.int y0]) (by decide +kernel) (by decide +kernel) rfl rfl rfl (Nat.le_of_ble_eq_true rfl) (by decide)
theorem r125_5 : pR X d 125 0 Q (5, [l0, l1, l2, l3], .int x :: st, mem, 0) = pR X d 125 0 Q (6, [l0, cl1 l1, some (.int x), l3], st, mem, 0) := q_s (.ok (.istore_n 2, 1)) (by decide +kernel) rfl
theorem r125_6 : pR X d 125 0 Q (6, [l0, l1, some (.int x), l3], st, mem, 0) = pR X d 125 0 Q (7, [l0, l1, some (.int x), l3], .int x :: st, mem, 0) := q_s (.ok (.iload_n 2, 1)) (by decide +kernel) rfl
theorem r125_7 : pR X d 125 0 Q (7, L, st, mem, 0) = pR X d 125 0 Q (8, L, .int (iI (-1)) :: st, mem, 0) := q_ic (by decide +kernel)
theorem r125_8 : pR X d 125 0 Q (8, L, .int z :: .int x :: st, mem, 0) = ((x = z → pR X d 125 0 Q (17, L, st, mem, 0)) ∧ (¬ (x = z) → pR X d 125 0 Q (11, L, st, mem, 0))) := r_ic (c := .eq) (off := 9) (by decide +kernel) (by decide)
theorem r125_11 : pR X d 125 0 Q (11, [some (.ref a), l1, l2, l3], st, mem, 0) = pR X d 125 0 Q (12, [some (.ref a), l1, l2, l3], .ref a :: st, mem, 0) := q_s (.ok (.aload_n 0, 1)) (by decide +kernel) rfl
theorem r125_12 : pR X d 125 0 Q (12, [l0, l1, some (.int x), l3], st, mem, 0) = pR X d 125 0 Q (13, [l0, l1, some (.int x), l3], .int x :: st, mem, 0) := q_s (.ok (.iload_n 2, 1)) (by decide +kernel) rfl
theorem r125_13 : pR X d 125 0 Q (13, L, .int y0 :: .ref a :: [], mem, 0) = (prcv mem 4 a ∧ Cw X d 8 [.ref a, .int y0] mem (fun r mem => pR X d 125 0 Q (16, L, r.toList ++ [], mem, 0))) := q_virt (ix := 59) (y2 := 8) (as := [.int y0]) (by decide +kernel) (by decide +kernel) rfl rfl rfl (Nat.le_of_ble_eq_true rfl) (by decide)
theorem r125_16 : pR X d 125 0 Q (16, L, [.int x], mem, 0) = Q (some (.int x)) mem := q_reti (by decide +kernel) rfl
theorem r125_17 : pR X d 125 0 Q (17, L, st, mem, 0) = pR X d 125 0 Q (18, L, .int (iI (0)) :: st, mem, 0) := q_ic (by decide +kernel)
theorem r125_18 : pR X d 125 0 Q (18, [l0, l1, l2, l3], .int x :: st, mem, 0) = pR X d 125 0 Q (19, [l0, l1, cl1 l2, some (.int x)], st, mem, 0) := q_s (.ok (.istore_n 3, 1)) (by decide +kernel) rfl
theorem r125_19 : pR X d 125 0 Q (19, [l0, l1, l2, some (.int x)], st, mem, 0) = pR X d 125 0 Q (20, [l0, l1, l2, some (.int x)], .int x :: st, mem, 0) := q_s (.ok (.iload_n 3, 1)) (by decide +kernel) rfl
theorem r125_20 : pR X d 125 0 Q (20, [some (.ref a), l1, l2, l3], st, mem, 0) = pR X d 125 0 Q (21, [some (.ref a), l1, l2, l3], .ref a :: st, mem, 0) := q_s (.ok (.aload_n 0, 1)) (by decide +kernel) rfl
theorem r125_21 : pR X d 125 0 Q (21, L, .ref a :: st, mem, 0) = gf mem a 4 5 (fun p => pR X d 125 0 Q (24, L, p :: st, mem, 0)) := q_get (ix := 35) (by decide +kernel) (by decide +kernel)
theorem r125_24 : pR X d 125 0 Q (24, [l0, some (.int x), l2, l3], st, mem, 0) = pR X d 125 0 Q (25, [l0, some (.int x), l2, l3], .int x :: st, mem, 0) := q_s (.ok (.iload_n 1, 1)) (by decide +kernel) rfl
theorem r125_25 : pR X d 125 0 Q (25, L, .int x :: .ref a :: st, mem, 0) = ra mem a x (fun b => pR X d 125 0 Q (26, L, .ref b :: st, mem, 0)) := q_ra (by decide +kernel)
theorem r125_26 : pR X d 125 0 Q (26, L, .ref a :: st, mem, 0) = gf mem a 1 1 (fun p => pR X d 125 0 Q (29, L, p :: st, mem, 0)) := q_get (ix := 230) (by decide +kernel) (by decide +kernel)
theorem r125_29 : pR X d 125 0 Q (29, L, .int z :: .int x :: st, mem, 0) = ((z ≤ x → pR X d 125 0 Q (79, L, st, mem, 0)) ∧ (¬ (z ≤ x) → pR X d 125 0 Q (32, L, st, mem, 0))) := r_ic (c := .ge) (off := 50) (by decide +kernel) (by decide)
theorem r125_32 : pR X d 125 0 Q (32, [some (.ref a), l1, l2, l3], st, mem, 0) = pR X d 125 0 Q (33, [some (.ref a), l1, l2, l3], .ref a :: st, mem, 0) := q_s (.ok (.aload_n 0, 1)) (by decide +kernel) rfl
theorem r125_33 : pR X d 125 0 Q (33, L, .ref a :: st, mem, 0) = gf mem a 4 0 (fun p => pR X d 125 0 Q (36, L, p :: st, mem, 0)) := q_get (ix := 10) (by decide +kernel) (by decide +kernel)
theorem r125_36 : pR X d 125 0 Q (36, [l0, l1, l2, some (.int x)], st, mem, 0) = pR X d 125 0 Q (37, [l0, l1, l2, some (.int x)], .int x :: st, mem, 0) := q_s (.ok (.iload_n 3, 1)) (by decide +kernel) rfl
theorem r125_37 : pR X d 125 0 Q (37, L, .int y0 :: .ref a :: [], mem, 0) = (prcv mem 3 a ∧ Cw X d 20 [.ref a, .int y0] mem (fun r mem => pR X d 125 0 Q (40, L, r.toList ++ [], mem, 0))) := q_virt (ix := 83) (y2 := 20) (as := [.int y0]) (by decide +kernel) (by decide +kernel) rfl rfl rfl (Nat.le_of_ble_eq_true rfl) (by decide)
theorem r125_40 : pR X d 125 0 Q (40, L, .int x :: st, mem, 0) = ((x = 0 → pR X d 125 0 Q (69, L, st, mem, 0)) ∧ (¬ (x = 0) → pR X d 125 0 Q (43, L, st, mem, 0))) := r_if (c := .eq) (off := 29) (by decide +kernel) (by decide)
theorem r125_43 : pR X d 125 0 Q (43, [some (.ref a), l1, l2, l3], st, mem, 0) = pR X d 125 0 Q (44, [some (.ref a), l1, l2, l3], .ref a :: st, mem, 0) := q_s (.ok (.aload_n 0, 1)) (by decide +kernel) rfl
theorem r125_44 : pR X d 125 0 Q (44, L, .ref a :: st, mem, 0) = gf mem a 4 0 (fun p => pR X d 125 0 Q (47, L, p :: st, mem, 0)) := q_get (ix := 10) (by decide +kernel) (by decide +kernel)
theorem r125_47 : pR X d 125 0 Q (47, L, .ref a :: st, mem, 0) = gf mem a 3 5 (fun p => pR X d 125 0 Q (50, L, p :: st, mem, 0)) := q_get (ix := 92) (by decide +kernel) (by decide +kernel)
theorem r125_50 : pR X d 125 0 Q (50, [l0, l1, l2, some (.int x)], st, mem, 0) = pR X d 125 0 Q (51, [l0, l1, l2, some (.int x)], .int x :: st, mem, 0) := q_s (.ok (.iload_n 3, 1)) (by decide +kernel) rfl
theorem r125_51 : pR X d 125 0 Q (51, L, .int x :: .ref a :: st, mem, 0) = ra mem a x (fun b => pR X d 125 0 Q (52, L, .ref b :: st, mem, 0)) := q_ra (by decide +kernel)
theorem r125_52 : pR X d 125 0 Q (52, L, .ref a :: st, mem, 0) = gf mem a 0 1 (fun p => pR X d 125 0 Q (55, L, p :: st, mem, 0)) := q_get (ix := 159) (by decide +kernel) (by decide +kernel)
theorem r125_55 : pR X d 125 0 Q (55, [some (.ref a), l1, l2, l3], st, mem, 0) = pR X d 125 0 Q (56, [some (.ref a), l1, l2, l3], .ref a :: st, mem, 0) := q_s (.ok (.aload_n 0, 1)) (by decide +kernel) rfl
theorem r125_56 : pR X d 125 0 Q (56, L, .ref a :: st, mem, 0) = gf mem a 4 5 (fun p => pR X d 125 0 Q (59, L, p :: st, mem, 0)) := q_get (ix := 35) (by decide +kernel) (by decide +kernel)
theorem r125_59 : pR X d 125 0 Q (59, [l0, some (.int x), l2, l3], st, mem, 0) = pR X d 125 0 Q (60, [l0, some (.int x), l2, l3], .int x :: st, mem, 0) := q_s (.ok (.iload_n 1, 1)) (by decide +kernel) rfl
theorem r125_60 : pR X d 125 0 Q (60, L, .int x :: .ref a :: st, mem, 0) = ra mem a x (fun b => pR X d 125 0 Q (61, L, .ref b :: st, mem, 0)) := q_ra (by decide +kernel)
theorem r125_61 : pR X d 125 0 Q (61, L, .ref a :: st, mem, 0) = gf mem a 1 2 (fun p => pR X d 125 0 Q (64, L, p :: st, mem, 0)) := q_get (ix := 248) (by decide +kernel) (by decide +kernel)
theorem r125_64 : pR X d 125 0 Q (64, [l0, l1, l2, some (.int x)], st, mem, 0) = pR X d 125 0 Q (65, [l0, l1, l2, some (.int x)], .int x :: st, mem, 0) := q_s (.ok (.iload_n 3, 1)) (by decide +kernel) rfl
theorem r125_65 : pR X d 125 0 Q (65, L, .int x :: .ref a :: st, mem, 0) = ri X mem a x (fun z => pR X d 125 0 Q (66, L, .int z :: st, mem, 0)) := q_ri (by decide +kernel)
theorem r125_66 : pR X d 125 0 Q (66, L, .int z :: .int x :: st, mem, 0) = ((x = z → pR X d 125 0 Q (73, L, st, mem, 0)) ∧ (¬ (x = z) → pR X d 125 0 Q (69, L, st, mem, 0))) := r_ic (c := .eq) (off := 7) (by decide +kernel) (by decide)
theorem r125_69 : pR X d 125 0 Q (69, L, st, mem, 0) = pR X d 125 0 Q (70, L, .int (iI (1)) :: st, mem, 0) := q_ic (by decide +kernel)
theorem r125_70 : pR X d 125 0 Q (70, [l0, l1, l2, some (.int x)], st, mem, 0) = pR X d 125 0 Q (71, [l0, l1, l2, some (.int x)], .int x :: st, mem, 0) := q_s (.ok (.iload_n 3, 1)) (by decide +kernel) rfl
theorem r125_71 : pR X d 125 0 Q (71, L, .int z :: .int x :: st, mem, 0) = pR X d 125 0 Q (72, L, .int (x + z) :: st, mem, 0) := q_s (.ok (.iadd, 1)) (by decide +kernel) rfl
theorem r125_72 : pR X d 125 0 Q (72, L, [.int x], mem, 0) = Q (some (.int x)) mem := q_reti (by decide +kernel) rfl
theorem r125_73 : pR X d 125 0 Q (73, [l0, l1, l2, some (.int x)], st, mem, 0) = pR X d 125 0 Q (76, [l0, l1, cl1 l2, some (.int (x + iI (1)))], st, mem, 0) := q_s (.ok (.iinc 3 (1), 3)) (by decide +kernel) rfl
theorem r125_76 : pR X d 125 0 Q (76, L, st, mem, 0) = pR X d 125 0 Q (19, L, st, mem, 0) := q_s (.ok (.goto (-57), 3)) (by decide +kernel) rfl
theorem r125_79 : pR X d 125 0 Q (79, L, st, mem, 0) = pR X d 125 0 Q (80, L, .int (iI (0)) :: st, mem, 0) := q_ic (by decide +kernel)
theorem r125_80 : pR X d 125 0 Q (80, L, [.int x], mem, 0) = Q (some (.int x)) mem := q_reti (by decide +kernel) rfl
theorem r126_0 : pR X d 126 0 Q (0, [some (.ref a)], st, mem, 0) = pR X d 126 0 Q (1, [some (.ref a)], .ref a :: st, mem, 0) := q_s (.ok (.aload_n 0, 1)) (by decide +kernel) rfl
theorem r126_1 : pR X d 126 0 Q (1, L, .ref a :: st, mem, 0) = gf mem a 4 2 (fun p => pR X d 126 0 Q (4, L, p :: st, mem, 0)) := q_get (ix := 19) (by decide +kernel) (by decide +kernel)
theorem r126_4 : pR X d 126 0 Q (4, [some (.ref a)], st, mem, 0) = pR X d 126 0 Q (5, [some (.ref a)], .ref a :: st, mem, 0) := q_s (.ok (.aload_n 0, 1)) (by decide +kernel) rfl
theorem r126_5 : pR X d 126 0 Q (5, L, .ref a :: st, mem, 0) = gf mem a 4 0 (fun p => pR X d 126 0 Q (8, L, p :: st, mem, 0)) := q_get (ix := 10) (by decide +kernel) (by decide +kernel)
theorem r126_8 : pR X d 126 0 Q (8, L, .ref b0 :: .ref a :: [], mem, 0) = (prcv mem 3 a ∧ Cw X d 53 [.ref a, .ref b0] mem (fun r mem => pR X d 126 0 Q (11, L, r.toList ++ [], mem, 0))) := q_virt (ix := 143) (y2 := 53) (as := [.ref b0]) (by decide +kernel) (by decide +kernel) rfl rfl rfl (Nat.le_of_ble_eq_true rfl) (by decide)
theorem r126_11 : pR X d 126 0 Q (11, [some (.ref a)], st, mem, 0) = pR X d 126 0 Q (12, [some (.ref a)], .ref a :: st, mem, 0) := q_s (.ok (.aload_n 0, 1)) (by decide +kernel) rfl
theorem r126_12 : pR X d 126 0 Q (12, L, st, mem, 0) = pR X d 126 0 Q (13, L, .int (iI (1)) :: st, mem, 0) := q_ic (by decide +kernel)
theorem r126_13 : pR X d 126 0 Q (13, L, p :: .ref a :: st, mem, 0) = pf 126 mem a 4 3 p (fun mem => pR X d 126 0 Q (16, L, st, mem, 0)) := q_put (ix := 22) (by decide +kernel) (by decide +kernel) (by decide)
theorem r126_16 : pR X d 126 0 Q (16, L, st, mem, 0) = pR X d 126 0 Q (17, L, .int (iI (1)) :: st, mem, 0) := q_ic (by decide +kernel)
theorem r126_17 : pR X d 126 0 Q (17, L, [.int x], mem, 0) = Q (some (.int x)) mem := q_reti (by decide +kernel) rfl
theorem r127_0 : pR X d 127 0 Q (0, [some (.ref a)], st, mem, 0) = pR X d 127 0 Q (1, [some (.ref a)], .ref a :: st, mem, 0) := q_s (.ok (.aload_n 0, 1)) (by decide +kernel) rfl
theorem r127_1 : pR X d 127 0 Q (1, L, .ref a :: st, mem, 0) = gf mem a 4 3 (fun p => pR X d 127 0 Q (4, L, p :: st, mem, 0)) := q_get (ix := 22) (by decide +kernel) (by decide +kernel)
theorem r127_4 : pR X d 127 0 Q (4, L, .int x :: st, mem, 0) = ((¬ x = 0 → pR X d 127 0 Q (13, L, st, mem, 0)) ∧ (¬ (¬ x = 0) → pR X d 127 0 Q (7, L, st, mem, 0))) := r_if (c := .ne) (off := 9) (by decide +kernel) (by decide)
theorem r127_7 : pR X d 127 0 Q (7, [some (.ref a)], st, mem, 0) = pR X d 127 0 Q (8, [some (.ref a)], .ref a :: st, mem, 0) := q_s (.ok (.aload_n 0, 1)) (by decide +kernel) rfl
theorem r127_8 : pR X d 127 0 Q (8, L, st, mem, 0) = pR X d 127 0 Q (9, L, .int (iI (3)) :: st, mem, 0) := q_ic (by decide +kernel)
theorem r127_9 : pR X d 127 0 Q (9, L, .int y0 :: .ref a :: [], mem, 0) = (prcv mem 4 a ∧ Cw X d 8 [.ref a, .int y0] mem (fun r mem => pR X d 127 0 Q (12, L, r.toList ++ [], mem, 0))) := q_virt (ix := 59) (y2 := 8) (as := [.int y0]) (by decide +kernel) (by decide +kernel) rfl rfl rfl (Nat.le_of_ble_eq_true rfl) (by decide)
theorem r127_12 : pR X d 127 0 Q (12, L, [.int x], mem, 0) = Q (some (.int x)) mem := q_reti (by decide +kernel) rfl
theorem r127_13 : pR X d 127 0 Q (13, [some (.ref a)], st, mem, 0) = pR X d 127 0 Q (14, [some (.ref a)], .ref a :: st, mem, 0) := q_s (.ok (.aload_n 0, 1)) (by decide +kernel) rfl
theorem r127_14 : pR X d 127 0 Q (14, L, .ref a :: st, mem, 0) = gf mem a 4 0 (fun p => pR X d 127 0 Q (17, L, p :: st, mem, 0)) := q_get (ix := 10) (by decide +kernel) (by decide +kernel)
theorem r127_17 : pR X d 127 0 Q (17, [some (.ref a)], st, mem, 0) = pR X d 127 0 Q (18, [some (.ref a)], .ref a :: st, mem, 0) := q_s (.ok (.aload_n 0, 1)) (by decide +kernel) rfl
theorem r127_18 : pR X d 127 0 Q (18, L, .ref a :: st, mem, 0) = gf mem a 4 2 (fun p => pR X d 127 0 Q (21, L, p :: st, mem, 0)) := q_get (ix := 19) (by decide +kernel) (by decide +kernel)
theorem r127_21 : pR X d 127 0 Q (21, L, .ref b0 :: .ref a :: [], mem, 0) = (prcv mem 3 a ∧ Cw X d 53 [.ref a, .ref b0] mem (fun r mem => pR X d 127 0 Q (24, L, r.toList ++ [], mem, 0))) := q_virt (ix := 143) (y2 := 53) (as := [.ref b0]) (by decide +kernel) (by decide +kernel) rfl rfl rfl (Nat.le_of_ble_eq_true rfl) (by decide)
theorem r127_24 : pR X d 127 0 Q (24, [some (.ref a)], st, mem, 0) = pR X d 127 0 Q (25, [some (.ref a)], .ref a :: st, mem, 0) := q_s (.ok (.aload_n 0, 1)) (by decide +kernel) rfl
theorem r127_25 : pR X d 127 0 Q (25, L, .ref a :: st, mem, 0) = gf mem a 4 0 (fun p => pR X d 127 0 Q (28, L, p :: st, mem, 0)) := q_get (ix := 10) (by decide +kernel) (by decide +kernel)
theorem r127_28 : pR X d 127 0 Q (28, L, .ref a :: st, mem, 0) = gf mem a 3 2 (fun p => pR X d 127 0 Q (31, L, p :: st, mem, 0)) := q_get (ix := 122) (by decide +kernel) (by decide +kernel)
theorem r127_31 : pR X d 127 0 Q (31, L, [.int x], mem, 0) = Q (some (.int x)) mem := q_reti (by decide +kernel) rfl
theorem r128_0 : pR X d 128 0 Q (0, [some (.ref a), l1], st, mem, 0) = pR X d 128 0 Q (1, [some (.ref a), l1], .ref a :: st, mem, 0) := q_s (.ok (.aload_n 0, 1)) (by decide +kernel) rfl
theorem r128_1 : pR X d 128 0 Q (1, L, .ref a :: st, mem, 0) = gf mem a 4 3 (fun p => pR X d 128 0 Q (4, L, p :: st, mem, 0)) := q_get (ix := 22) (by decide +kernel) (by decide +kernel)
theorem r128_4 : pR X d 128 0 Q (4, L, .int x :: st, mem, 0) = ((x = 0 → pR X d 128 0 Q (11, L, st, mem, 0)) ∧ (¬ (x = 0) → pR X d 128 0 Q (7, L, st, mem, 0))) := r_if (c := .eq) (off := 7) (by decide +kernel) (by decide)
theorem r128_7 : pR X d 128 0 Q (7, L, st, mem, 0) = pR X d 128 0 Q (8, L, .int (iI (1)) :: st, mem, 0) := q_ic (by decide +kernel)
theorem r128_8 : pR X d 128 0 Q (8, L, st, mem, 0) = pR X d 128 0 Q (12, L, st, mem, 0) := q_s (.ok (.goto (4), 3)) (by decide +kernel) rfl
theorem r128_11 : pR X d 128 0 Q (11, L, st, mem, 0) = pR X d 128 0 Q (12, L, .int (iI (0)) :: st, mem, 0) := q_ic (by decide +kernel)
theorem r128_12 : pR X d 128 0 Q (12, [l0, l1], .int x :: st, mem, 0) = pR X d 128 0 Q (13, [cl1 l0, some (.int x)], st, mem, 0) := q_s (.ok (.istore_n 1, 1)) (by decide +kernel) rfl
theorem r128_13 : pR X d 128 0 Q (13, [some (.ref a), l1], st, mem, 0) = pR X d 128 0 Q (14, [some (.ref a), l1], .ref a :: st, mem, 0) := q_s (.ok (.aload_n 0, 1)) (by decide +kernel) rfl
theorem r128_14 : pR X d 128 0 Q (14, L, st, mem, 0) = pR X d 128 0 Q (15, L, .int (iI (0)) :: st, mem, 0) := q_ic (by decide +kernel)
theorem r128_15 : pR X d 128 0 Q (15, L, p :: .ref a :: st, mem, 0) = pf 128 mem a 4 3 p (fun mem => pR X d 128 0 Q (18, L, st, mem, 0)) := q_put (ix := 22) (by decide +kernel) (by decide +kernel) (by decide)
theorem r128_18 : pR X d 128 0 Q (18, [l0, some (.int x)], st, mem, 0) = pR X d 128 0 Q (19, [l0, some (.int x)], .int x :: st, mem, 0) := q_s (.ok (.iload_n 1, 1)) (by decide +kernel) rfl
theorem r128_19 : pR X d 128 0 Q (19, L, [.int x], mem, 0) = Q (some (.int x)) mem := q_reti (by decide +kernel) rfl
theorem r129_0 : pR X d 129 0 Q (0, [l0, some (.int x)], st, mem, 0) = pR X d 129 0 Q (1, [l0, some (.int x)], .int x :: st, mem, 0) := q_s (.ok (.iload_n 1, 1)) (by decide +kernel) rfl
theorem r129_1 : pR X d 129 0 Q (1, L, .int x :: st, mem, 0) = (((x.toInt < 0 ∨ 7 < x.toInt) → pR X d 129 0 Q (113, L, st, mem, 0)) ∧ (x.toInt = 0 → pR X d 129 0 Q (48, L, st, mem, 0)) ∧ (x.toInt = 1 → pR X d 129 0 Q (56, L, st, mem, 0)) ∧ (x.toInt = 2 → pR X d 129 0 Q (64, L, st, mem, 0)) ∧ (x.toInt = 3 → pR X d 129 0 Q (72, L, st, mem, 0)) ∧ (x.toInt = 4 → pR X d 129 0 Q (81, L, st, mem, 0)) ∧ (x.toInt = 5 → pR X d 129 0 Q (89, L, st, mem, 0)) ∧ (x.toInt = 6 → pR X d 129 0 Q (97, L, st, mem, 0)) ∧ (x.toInt = 7 → pR X d 129 0 Q (105, L, st, mem, 0)) ∧ True) := q_tsl (dflt := 112) (lo := 0) (hi := 7) (offs := #[47, 55, 63, 71, 80, 88, 96, 104]) (ll := 47) (by decide +kernel) (by decide) (by decide) (by decide)
theorem r129_48 : pR X d 129 0 Q (48, [some (.ref a), l1], st, mem, 0) = pR X d 129 0 Q (49, [some (.ref a), l1], .ref a :: st, mem, 0) := q_s (.ok (.aload_n 0, 1)) (by decide +kernel) rfl
theorem r129_49 : pR X d 129 0 Q (49, L, .ref a :: st, mem, 0) = gf mem a 4 0 (fun p => pR X d 129 0 Q (52, L, p :: st, mem, 0)) := q_get (ix := 10) (by decide +kernel) (by decide +kernel)
theorem r129_52 : pR X d 129 0 Q (52, L, .ref a :: st, mem, 0) = gf mem a 3 2 (fun p => pR X d 129 0 Q (55, L, p :: st, mem, 0)) := q_get (ix := 122) (by decide +kernel) (by decide +kernel)
theorem r129_55 : pR X d 129 0 Q (55, L, [.int x], mem, 0) = Q (some (.int x)) mem := q_reti (by decide +kernel) rfl
theorem r129_56 : pR X d 129 0 Q (56, [some (.ref a), l1], st, mem, 0) = pR X d 129 0 Q (57, [some (.ref a), l1], .ref a :: st, mem, 0) := q_s (.ok (.aload_n 0, 1)) (by decide +kernel) rfl
theorem r129_57 : pR X d 129 0 Q (57, L, .ref a :: st, mem, 0) = gf mem a 4 0 (fun p => pR X d 129 0 Q (60, L, p :: st, mem, 0)) := q_get (ix := 10) (by decide +kernel) (by decide +kernel)
theorem r129_60 : pR X d 129 0 Q (60, L, .ref a :: st, mem, 0) = gf mem a 3 4 (fun p => pR X d 129 0 Q (63, L, p :: st, mem, 0)) := q_get (ix := 165) (by decide +kernel) (by decide +kernel)
theorem r129_63 : pR X d 129 0 Q (63, L, [.int x], mem, 0) = Q (some (.int x)) mem := q_reti (by decide +kernel) rfl
theorem r129_64 : pR X d 129 0 Q (64, [some (.ref a), l1], st, mem, 0) = pR X d 129 0 Q (65, [some (.ref a), l1], .ref a :: st, mem, 0) := q_s (.ok (.aload_n 0, 1)) (by decide +kernel) rfl
theorem r129_65 : pR X d 129 0 Q (65, L, .ref a :: st, mem, 0) = gf mem a 4 0 (fun p => pR X d 129 0 Q (68, L, p :: st, mem, 0)) := q_get (ix := 10) (by decide +kernel) (by decide +kernel)
theorem r129_68 : pR X d 129 0 Q (68, L, .ref a :: [], mem, 0) = (prcv mem 3 a ∧ Cw X d 47 [.ref a] mem (fun r mem => pR X d 129 0 Q (71, L, r.toList ++ [], mem, 0))) := q_virt (ix := 130) (y2 := 47) (as := []) (by decide +kernel) (by decide +kernel) rfl rfl rfl (Nat.le_of_ble_eq_true rfl) (by decide)
theorem r129_71 : pR X d 129 0 Q (71, L, [.int x], mem, 0) = Q (some (.int x)) mem := q_reti (by decide +kernel) rfl
theorem r129_72 : pR X d 129 0 Q (72, [some (.ref a), l1], st, mem, 0) = pR X d 129 0 Q (73, [some (.ref a), l1], .ref a :: st, mem, 0) := q_s (.ok (.aload_n 0, 1)) (by decide +kernel) rfl
theorem r129_73 : pR X d 129 0 Q (73, L, .ref a :: st, mem, 0) = gf mem a 4 0 (fun p => pR X d 129 0 Q (76, L, p :: st, mem, 0)) := q_get (ix := 10) (by decide +kernel) (by decide +kernel)
theorem r129_76 : pR X d 129 0 Q (76, L, st, mem, 0) = pR X d 129 0 Q (77, L, .int (iI (3)) :: st, mem, 0) := q_ic (by decide +kernel)
theorem r129_77 : pR X d 129 0 Q (77, L, .int y0 :: .ref a :: [], mem, 0) = (prcv mem 3 a ∧ Cw X d 48 [.ref a, .int y0] mem (fun r mem => pR X d 129 0 Q (80, L, r.toList ++ [], mem, 0))) := q_virt (ix := 134) (y2 := 48) (as := [.int y0]) (by decide +kernel) (by decide +kernel) rfl rfl rfl (Nat.le_of_ble_eq_true rfl) (by decide)
theorem r129_80 : pR X d 129 0 Q (80, L, [.int x], mem, 0) = Q (some (.int x)) mem := q_reti (by decide +kernel) rfl
theorem r129_81 : pR X d 129 0 Q (81, [some (.ref a), l1], st, mem, 0) = pR X d 129 0 Q (82, [some (.ref a), l1], .ref a :: st, mem, 0) := q_s (.ok (.aload_n 0, 1)) (by decide +kernel) rfl
theorem r129_82 : pR X d 129 0 Q (82, L, .ref a :: st, mem, 0) = gf mem a 4 0 (fun p => pR X d 129 0 Q (85, L, p :: st, mem, 0)) := q_get (ix := 10) (by decide +kernel) (by decide +kernel)
theorem r129_85 : pR X d 129 0 Q (85, L, .ref a :: st, mem, 0) = gf mem a 3 1 (fun p => pR X d 129 0 Q (88, L, p :: st, mem, 0)) := q_get (ix := 56) (by decide +kernel) (by decide +kernel)
theorem r129_88 : pR X d 129 0 Q (88, L, [.int x], mem, 0) = Q (some (.int x)) mem := q_reti (by decide +kernel) rfl
theorem r129_89 : pR X d 129 0 Q (89, [some (.ref a), l1], st, mem, 0) = pR X d 129 0 Q (90, [some (.ref a), l1], .ref a :: st, mem, 0) := q_s (.ok (.aload_n 0, 1)) (by decide +kernel) rfl
theorem r129_90 : pR X d 129 0 Q (90, L, .ref a :: st, mem, 0) = gf mem a 4 4 (fun p => pR X d 129 0 Q (93, L, p :: st, mem, 0)) := q_get (ix := 29) (by decide +kernel) (by decide +kernel)
theorem r129_93 : pR X d 129 0 Q (93, L, .ref a :: st, mem, 0) = gf mem a 2 1 (fun p => pR X d 129 0 Q (96, L, p :: st, mem, 0)) := q_get (ix := 205) (by decide +kernel) (by decide +kernel)
theorem r129_96 : pR X d 129 0 Q (96, L, [.int x], mem, 0) = Q (some (.int x)) mem := q_reti (by decide +kernel) rfl
theorem r129_97 : pR X d 129 0 Q (97, [some (.ref a), l1], st, mem, 0) = pR X d 129 0 Q (98, [some (.ref a), l1], .ref a :: st, mem, 0) := q_s (.ok (.aload_n 0, 1)) (by decide +kernel) rfl
theorem r129_98 : pR X d 129 0 Q (98, L, .ref a :: st, mem, 0) = gf mem a 4 0 (fun p => pR X d 129 0 Q (101, L, p :: st, mem, 0)) := q_get (ix := 10) (by decide +kernel) (by decide +kernel)
theorem r129_101 : pR X d 129 0 Q (101, L, .ref a :: st, mem, 0) = gf mem a 3 3 (fun p => pR X d 129 0 Q (104, L, p :: st, mem, 0)) := q_get (ix := 202) (by decide +kernel) (by decide +kernel)
theorem r129_104 : pR X d 129 0 Q (104, L, [.int x], mem, 0) = Q (some (.int x)) mem := q_reti (by decide +kernel) rfl
theorem r129_105 : pR X d 129 0 Q (105, [some (.ref a), l1], st, mem, 0) = pR X d 129 0 Q (106, [some (.ref a), l1], .ref a :: st, mem, 0) := q_s (.ok (.aload_n 0, 1)) (by decide +kernel) rfl
theorem r129_106 : pR X d 129 0 Q (106, L, .ref a :: st, mem, 0) = gf mem a 4 0 (fun p => pR X d 129 0 Q (109, L, p :: st, mem, 0)) := q_get (ix := 10) (by decide +kernel) (by decide +kernel)
theorem r129_109 : pR X d 129 0 Q (109, L, .ref a :: [], mem, 0) = (prcv mem 3 a ∧ Cw X d 130 [.ref a] mem (fun r mem => pR X d 129 0 Q (112, L, r.toList ++ [], mem, 0))) := q_virt (ix := 262) (y2 := 130) (as := []) (by decide +kernel) (by decide +kernel) rfl rfl rfl (Nat.le_of_ble_eq_true rfl) (by decide)
theorem r129_112 : pR X d 129 0 Q (112, L, [.int x], mem, 0) = Q (some (.int x)) mem := q_reti (by decide +kernel) rfl
theorem r129_113 : pR X d 129 0 Q (113, [some (.ref a), l1], st, mem, 0) = pR X d 129 0 Q (114, [some (.ref a), l1], .ref a :: st, mem, 0) := q_s (.ok (.aload_n 0, 1)) (by decide +kernel) rfl
theorem r129_114 : pR X d 129 0 Q (114, L, st, mem, 0) = pR X d 129 0 Q (115, L, .int (iI (0)) :: st, mem, 0) := q_ic (by decide +kernel)
theorem r129_115 : pR X d 129 0 Q (115, L, .int y0 :: .ref a :: [], mem, 0) = (prcv mem 4 a ∧ Cw X d 8 [.ref a, .int y0] mem (fun r mem => pR X d 129 0 Q (118, L, r.toList ++ [], mem, 0))) := q_virt (ix := 59) (y2 := 8) (as := [.int y0]) (by decide +kernel) (by decide +kernel) rfl rfl rfl (Nat.le_of_ble_eq_true rfl) (by decide)
theorem r129_118 : pR X d 129 0 Q (118, L, [.int x], mem, 0) = Q (some (.int x)) mem := q_reti (by decide +kernel) rfl
theorem r130_0 : pR X d 130 0 Q (0, L, st, mem, 0) = pR X d 130 0 Q (1, L, .int (iI (0)) :: st, mem, 0) := q_ic (by decide +kernel)
theorem r130_1 : pR X d 130 0 Q (1, [l0, l1, l2], .int x :: st, mem, 0) = pR X d 130 0 Q (2, [cl1 l0, some (.int x), l2], st, mem, 0) := q_s (.ok (.istore_n 1, 1)) (by decide +kernel) rfl
theorem r130_2 : pR X d 130 0 Q (2, L, st, mem, 0) = pR X d 130 0 Q (3, L, .int (iI (0)) :: st, mem, 0) := q_ic (by decide +kernel)
theorem r130_3 : pR X d 130 0 Q (3, [l0, l1, l2], .int x :: st, mem, 0) = pR X d 130 0 Q (4, [l0, cl1 l1, some (.int x)], st, mem, 0) := q_s (.ok (.istore_n 2, 1)) (by decide +kernel) rfl
theorem r130_4 : pR X d 130 0 Q (4, [l0, l1, some (.int x)], st, mem, 0) = pR X d 130 0 Q (5, [l0, l1, some (.int x)], .int x :: st, mem, 0) := q_s (.ok (.iload_n 2, 1)) (by decide +kernel) rfl
theorem r130_5 : pR X d 130 0 Q (5, L, st, mem, 0) = pR X d 130 0 Q (7, L, .int (iI (10)) :: st, mem, 0) := q_bi (n := 10) (by decide +kernel) (by decide +kernel)
theorem r130_7 : pR X d 130 0 Q (7, L, .int z :: .int x :: st, mem, 0) = ((z ≤ x → pR X d 130 0 Q (28, L, st, mem, 0)) ∧ (¬ (z ≤ x) → pR X d 130 0 Q (10, L, st, mem, 0))) := r_ic (c := .ge) (off := 21) (by decide +kernel) (by decide)
theorem r130_10 : pR X d 130 0 Q (10, [some (.ref a), l1, l2], st, mem, 0) = pR X d 130 0 Q (11, [some (.ref a), l1, l2], .ref a :: st, mem, 0) := q_s (.ok (.aload_n 0, 1)) (by decide +kernel) rfl
theorem r130_11 : pR X d 130 0 Q (11, L, .ref a :: st, mem, 0) = gf mem a 3 7 (fun p => pR X d 130 0 Q (14, L, p :: st, mem, 0)) := q_get (ix := 37) (by decide +kernel) (by decide +kernel)
theorem r130_14 : pR X d 130 0 Q (14, [l0, l1, some (.int x)], st, mem, 0) = pR X d 130 0 Q (15, [l0, l1, some (.int x)], .int x :: st, mem, 0) := q_s (.ok (.iload_n 2, 1)) (by decide +kernel) rfl
theorem r130_15 : pR X d 130 0 Q (15, L, .int x :: .ref a :: st, mem, 0) = ri X mem a x (fun z => pR X d 130 0 Q (16, L, .int z :: st, mem, 0)) := q_ri (by decide +kernel)
theorem r130_16 : pR X d 130 0 Q (16, L, .int x :: st, mem, 0) = ((x < 0 → pR X d 130 0 Q (22, L, st, mem, 0)) ∧ (¬ (x < 0) → pR X d 130 0 Q (19, L, st, mem, 0))) := r_if (c := .lt) (off := 6) (by decide +kernel) (by decide)
theorem r130_19 : pR X d 130 0 Q (19, [l0, some (.int x), l2], st, mem, 0) = pR X d 130 0 Q (22, [cl1 l0, some (.int (x + iI (1))), l2], st, mem, 0) := q_s (.ok (.iinc 1 (1), 3)) (by decide +kernel) rfl
theorem r130_22 : pR X d 130 0 Q (22, [l0, l1, some (.int x)], st, mem, 0) = pR X d 130 0 Q (25, [l0, cl1 l1, some (.int (x + iI (1)))], st, mem, 0) := q_s (.ok (.iinc 2 (1), 3)) (by decide +kernel) rfl
theorem r130_25 : pR X d 130 0 Q (25, L, st, mem, 0) = pR X d 130 0 Q (4, L, st, mem, 0) := q_s (.ok (.goto (-21), 3)) (by decide +kernel) rfl
theorem r130_28 : pR X d 130 0 Q (28, [l0, some (.int x), l2], st, mem, 0) = pR X d 130 0 Q (29, [l0, some (.int x), l2], .int x :: st, mem, 0) := q_s (.ok (.iload_n 1, 1)) (by decide +kernel) rfl
theorem r130_29 : pR X d 130 0 Q (29, L, [.int x], mem, 0) = Q (some (.int x)) mem := q_reti (by decide +kernel) rfl
theorem r131_0 : pR X d 131 0 Q (0, [l0, some (.int x)], st, mem, 0) = pR X d 131 0 Q (1, [l0, some (.int x)], .int x :: st, mem, 0) := q_s (.ok (.iload_n 1, 1)) (by decide +kernel) rfl
theorem r131_1 : pR X d 131 0 Q (1, L, st, mem, 0) = pR X d 131 0 Q (2, L, .int (iI (-1)) :: st, mem, 0) := q_ic (by decide +kernel)
theorem r131_2 : pR X d 131 0 Q (2, L, .int z :: .int x :: st, mem, 0) = ((¬ x = z → pR X d 131 0 Q (10, L, st, mem, 0)) ∧ (¬ (¬ x = z) → pR X d 131 0 Q (5, L, st, mem, 0))) := r_ic (c := .ne) (off := 8) (by decide +kernel) (by decide)
theorem r131_5 : pR X d 131 0 Q (5, [some (.ref a), l1], st, mem, 0) = pR X d 131 0 Q (6, [some (.ref a), l1], .ref a :: st, mem, 0) := q_s (.ok (.aload_n 0, 1)) (by decide +kernel) rfl
theorem r131_6 : pR X d 131 0 Q (6, L, .ref a :: [], mem, 0) = (prcv mem 4 a ∧ Cw X d 132 [.ref a] mem (fun r mem => pR X d 131 0 Q (9, L, r.toList ++ [], mem, 0))) := q_virt (ix := 265) (y2 := 132) (as := []) (by decide +kernel) (by decide +kernel) rfl rfl rfl (Nat.le_of_ble_eq_true rfl) (by decide)
theorem r131_9 : pR X d 131 0 Q (9, L, [.int x], mem, 0) = Q (some (.int x)) mem := q_reti (by decide +kernel) rfl
theorem r131_10 : pR X d 131 0 Q (10, [l0, some (.int x)], st, mem, 0) = pR X d 131 0 Q (11, [l0, some (.int x)], .int x :: st, mem, 0) := q_s (.ok (.iload_n 1, 1)) (by decide +kernel) rfl
theorem r131_11 : pR X d 131 0 Q (11, L, st, mem, 0) = pR X d 131 0 Q (12, L, .int (iI (0)) :: st, mem, 0) := q_ic (by decide +kernel)
theorem r131_12 : pR X d 131 0 Q (12, L, st, mem, 0) = pR X d 131 0 Q (14, L, .int (iI (6)) :: st, mem, 0) := q_bi (n := 6) (by decide +kernel) (by decide +kernel)
theorem r131_14 : pR X d 131 0 Q (14, L, .int y2 :: .int y1 :: .int y0 :: [], mem, 0) = Cw X d 7 [.int y0, .int y1, .int y2] mem (fun r mem => pR X d 131 0 Q (17, L, r.toList ++ [], mem, 0)) := q_stat (ix := 52) (kd := 1) (y2 := 7) (as := [.int y2, .int y1, .int y0]) (by decide +kernel) (by decide +kernel) (by decide) rfl rfl rfl (Nat.le_of_ble_eq_true rfl) (by decide)
theorem r131_17 : pR X d 131 0 Q (17, L, .int x :: st, mem, 0) = ((x = 0 → pR X d 131 0 Q (29, L, st, mem, 0)) ∧ (¬ (x = 0) → pR X d 131 0 Q (20, L, st, mem, 0))) := r_if (c := .eq) (off := 12) (by decide +kernel) (by decide)
theorem r131_20 : pR X d 131 0 Q (20, [some (.ref a), l1], st, mem, 0) = pR X d 131 0 Q (21, [some (.ref a), l1], .ref a :: st, mem, 0) := q_s (.ok (.aload_n 0, 1)) (by decide +kernel) rfl
theorem r131_21 : pR X d 131 0 Q (21, L, .ref a :: st, mem, 0) = gf mem a 4 6 (fun p => pR X d 131 0 Q (24, L, p :: st, mem, 0)) := q_get (ix := 39) (by decide +kernel) (by decide +kernel)
theorem r131_24 : pR X d 131 0 Q (24, [l0, some (.int x)], st, mem, 0) = pR X d 131 0 Q (25, [l0, some (.int x)], .int x :: st, mem, 0) := q_s (.ok (.iload_n 1, 1)) (by decide +kernel) rfl
theorem r131_25 : pR X d 131 0 Q (25, L, .int x :: .ref a :: st, mem, 0) = ri X mem a x (fun z => pR X d 131 0 Q (26, L, .int z :: st, mem, 0)) := q_ri (by decide +kernel)
theorem r131_26 : pR X d 131 0 Q (26, L, st, mem, 0) = pR X d 131 0 Q (34, L, st, mem, 0) := q_s (.ok (.goto (8), 3)) (by decide +kernel) rfl
theorem r131_29 : pR X d 131 0 Q (29, [some (.ref a), l1], st, mem, 0) = pR X d 131 0 Q (30, [some (.ref a), l1], .ref a :: st, mem, 0) := q_s (.ok (.aload_n 0, 1)) (by decide +kernel) rfl
theorem r131_30 : pR X d 131 0 Q (30, L, st, mem, 0) = pR X d 131 0 Q (31, L, .int (iI (0)) :: st, mem, 0) := q_ic (by decide +kernel)
theorem r131_31 : pR X d 131 0 Q (31, L, .int y0 :: .ref a :: [], mem, 0) = (prcv mem 4 a ∧ Cw X d 8 [.ref a, .int y0] mem (fun r mem => pR X d 131 0 Q (34, L, r.toList ++ [], mem, 0))) := q_virt (ix := 59) (y2 := 8) (as := [.int y0]) (by decide +kernel) (by decide +kernel) rfl rfl rfl (Nat.le_of_ble_eq_true rfl) (by decide)
theorem r131_34 : pR X d 131 0 Q (34, L, [.int x], mem, 0) = Q (some (.int x)) mem := q_reti (by decide +kernel) rfl
theorem r132_0 : pR X d 132 0 Q (0, L, st, mem, 0) = pR X d 132 0 Q (1, L, .int (iI (0)) :: st, mem, 0) := q_ic (by decide +kernel)
theorem r132_1 : pR X d 132 0 Q (1, [l0, l1, l2], .int x :: st, mem, 0) = pR X d 132 0 Q (2, [cl1 l0, some (.int x), l2], st, mem, 0) := q_s (.ok (.istore_n 1, 1)) (by decide +kernel) rfl
theorem r132_2 : pR X d 132 0 Q (2, L, st, mem, 0) = pR X d 132 0 Q (3, L, .int (iI (0)) :: st, mem, 0) := q_ic (by decide +kernel)
theorem r132_3 : pR X d 132 0 Q (3, [l0, l1, l2], .int x :: st, mem, 0) = pR X d 132 0 Q (4, [l0, cl1 l1, some (.int x)], st, mem, 0) := q_s (.ok (.istore_n 2, 1)) (by decide +kernel) rfl
theorem r132_4 : pR X d 132 0 Q (4, [l0, l1, some (.int x)], st, mem, 0) = pR X d 132 0 Q (5, [l0, l1, some (.int x)], .int x :: st, mem, 0) := q_s (.ok (.iload_n 2, 1)) (by decide +kernel) rfl
theorem r132_5 : pR X d 132 0 Q (5, L, st, mem, 0) = pR X d 132 0 Q (7, L, .int (iI (7)) :: st, mem, 0) := q_bi (n := 7) (by decide +kernel) (by decide +kernel)
theorem r132_7 : pR X d 132 0 Q (7, L, .int z :: .int x :: st, mem, 0) = ((z ≤ x → pR X d 132 0 Q (25, L, st, mem, 0)) ∧ (¬ (z ≤ x) → pR X d 132 0 Q (10, L, st, mem, 0))) := r_ic (c := .ge) (off := 18) (by decide +kernel) (by decide)
theorem r132_10 : pR X d 132 0 Q (10, [l0, some (.int x), l2], st, mem, 0) = pR X d 132 0 Q (11, [l0, some (.int x), l2], .int x :: st, mem, 0) := q_s (.ok (.iload_n 1, 1)) (by decide +kernel) rfl
theorem r132_11 : pR X d 132 0 Q (11, [some (.ref a), l1, l2], st, mem, 0) = pR X d 132 0 Q (12, [some (.ref a), l1, l2], .ref a :: st, mem, 0) := q_s (.ok (.aload_n 0, 1)) (by decide +kernel) rfl
theorem r132_12 : pR X d 132 0 Q (12, L, .ref a :: st, mem, 0) = gf mem a 4 6 (fun p => pR X d 132 0 Q (15, L, p :: st, mem, 0)) := q_get (ix := 39) (by decide +kernel) (by decide +kernel)
theorem r132_15 : pR X d 132 0 Q (15, [l0, l1, some (.int x)], st, mem, 0) = pR X d 132 0 Q (16, [l0, l1, some (.int x)], .int x :: st, mem, 0) := q_s (.ok (.iload_n 2, 1)) (by decide +kernel) rfl
theorem r132_16 : pR X d 132 0 Q (16, L, .int x :: .ref a :: st, mem, 0) = ri X mem a x (fun z => pR X d 132 0 Q (17, L, .int z :: st, mem, 0)) := q_ri (by decide +kernel)
theorem r132_17 : pR X d 132 0 Q (17, L, .int z :: .int x :: st, mem, 0) = pR X d 132 0 Q (18, L, .int (x + z) :: st, mem, 0) := q_s (.ok (.iadd, 1)) (by decide +kernel) rfl
theorem r132_18 : pR X d 132 0 Q (18, [l0, l1, l2], .int x :: st, mem, 0) = pR X d 132 0 Q (19, [cl1 l0, some (.int x), l2], st, mem, 0) := q_s (.ok (.istore_n 1, 1)) (by decide +kernel) rfl
theorem r132_19 : pR X d 132 0 Q (19, [l0, l1, some (.int x)], st, mem, 0) = pR X d 132 0 Q (22, [l0, cl1 l1, some (.int (x + iI (1)))], st, mem, 0) := q_s (.ok (.iinc 2 (1), 3)) (by decide +kernel) rfl
theorem r132_22 : pR X d 132 0 Q (22, L, st, mem, 0) = pR X d 132 0 Q (4, L, st, mem, 0) := q_s (.ok (.goto (-18), 3)) (by decide +kernel) rfl
theorem r132_25 : pR X d 132 0 Q (25, [l0, some (.int x), l2], st, mem, 0) = pR X d 132 0 Q (26, [l0, some (.int x), l2], .int x :: st, mem, 0) := q_s (.ok (.iload_n 1, 1)) (by decide +kernel) rfl
theorem r132_26 : pR X d 132 0 Q (26, L, [.int x], mem, 0) = Q (some (.int x)) mem := q_reti (by decide +kernel) rfl
theorem r133_0 : pR X d 133 lim Q (0, [some (.ref a), l1], st, mem, u) = pR X d 133 lim Q (1, [some (.ref a), l1], .ref a :: st, mem, u) := q_s (.ok (.aload_n 0, 1)) (by decide +kernel) rfl
theorem r133_1 (h1 : 1 ≤ d) : pR X d 133 lim Q (1, L, .ref a :: [], mem, u) = pR X d 133 lim Q (4, L, [], mem, u) := q_obj (ix := 1) (yy := 0) (by decide +kernel) (by decide +kernel) (Nat.le_of_ble_eq_true rfl) h1
theorem r133_4 : pR X d 133 lim Q (4, [some (.ref a), l1], st, mem, u) = pR X d 133 lim Q (5, [some (.ref a), l1], .ref a :: st, mem, u) := q_s (.ok (.aload_n 0, 1)) (by decide +kernel) rfl
theorem r133_5 : pR X d 133 lim Q (5, L, st, mem, u) = pR X d 133 lim Q (7, L, .int (iI (69)) :: st, mem, u) := q_bi (n := 69) (by decide +kernel) (by decide +kernel)
theorem r133_7_d : decode (yB 133) 7 = .ok (.newarray .int, 2) := (by decide +kernel)
theorem r133_9 : pR X d 133 lim Q (9, L, p :: .ref a :: st, mem, u) = pf 133 mem a 5 0 p (fun mem => pR X d 133 lim Q (12, L, st, mem, u)) := q_put (ix := 7) (by decide +kernel) (by decide +kernel) (by decide)
theorem r133_12 : pR X d 133 lim Q (12, [some (.ref a), l1], st, mem, u) = pR X d 133 lim Q (13, [some (.ref a), l1], .ref a :: st, mem, u) := q_s (.ok (.aload_n 0, 1)) (by decide +kernel) rfl
theorem r133_13 : pR X d 133 lim Q (13, L, st, mem, u) = pR X d 133 lim Q (15, L, .int (iI (69)) :: st, mem, u) := q_bi (n := 69) (by decide +kernel) (by decide +kernel)
theorem r133_15_d : decode (yB 133) 15 = .ok (.newarray .int, 2) := (by decide +kernel)
theorem r133_17 : pR X d 133 lim Q (17, L, p :: .ref a :: st, mem, u) = pf 133 mem a 5 1 p (fun mem => pR X d 133 lim Q (20, L, st, mem, u)) := q_put (ix := 13) (by decide +kernel) (by decide +kernel) (by decide)
theorem r133_20 : pR X d 133 lim Q (20, [some (.ref a), l1], st, mem, u) = pR X d 133 lim Q (21, [some (.ref a), l1], .ref a :: st, mem, u) := q_s (.ok (.aload_n 0, 1)) (by decide +kernel) rfl
theorem r133_21 : pR X d 133 lim Q (21, L, st, mem, u) = pR X d 133 lim Q (23, L, .int (iI (69)) :: st, mem, u) := q_bi (n := 69) (by decide +kernel) (by decide +kernel)
theorem r133_23_d : decode (yB 133) 23 = .ok (.newarray .int, 2) := (by decide +kernel)
theorem r133_25 : pR X d 133 lim Q (25, L, p :: .ref a :: st, mem, u) = pf 133 mem a 5 2 p (fun mem => pR X d 133 lim Q (28, L, st, mem, u)) := q_put (ix := 16) (by decide +kernel) (by decide +kernel) (by decide)
theorem r133_28 : pR X d 133 lim Q (28, [some (.ref a), l1], st, mem, u) = pR X d 133 lim Q (29, [some (.ref a), l1], .ref a :: st, mem, u) := q_s (.ok (.aload_n 0, 1)) (by decide +kernel) rfl
theorem r133_29 : pR X d 133 lim Q (29, L, st, mem, u) = pR X d 133 lim Q (31, L, .int (iI (69)) :: st, mem, u) := q_bi (n := 69) (by decide +kernel) (by decide +kernel)
theorem r133_31_d : decode (yB 133) 31 = .ok (.newarray .int, 2) := (by decide +kernel)
theorem r133_33 : pR X d 133 lim Q (33, L, p :: .ref a :: st, mem, u) = pf 133 mem a 5 3 p (fun mem => pR X d 133 lim Q (36, L, st, mem, u)) := q_put (ix := 19) (by decide +kernel) (by decide +kernel) (by decide)
theorem r133_36 : pR X d 133 lim Q (36, [some (.ref a), l1], st, mem, u) = pR X d 133 lim Q (37, [some (.ref a), l1], .ref a :: st, mem, u) := q_s (.ok (.aload_n 0, 1)) (by decide +kernel) rfl
theorem r133_37 : pR X d 133 lim Q (37, L, st, mem, u) = pR X d 133 lim Q (39, L, .int (iI (7)) :: st, mem, u) := q_bi (n := 7) (by decide +kernel) (by decide +kernel)
theorem r133_39_d : decode (yB 133) 39 = .ok (.newarray .int, 2) := (by decide +kernel)
theorem r133_41 : pR X d 133 lim Q (41, L, p :: .ref a :: st, mem, u) = pf 133 mem a 5 5 p (fun mem => pR X d 133 lim Q (44, L, st, mem, u)) := q_put (ix := 22) (by decide +kernel) (by decide +kernel) (by decide)
theorem r133_44 : pR X d 133 lim Q (44, [some (.ref a), l1], st, mem, u) = pR X d 133 lim Q (45, [some (.ref a), l1], .ref a :: st, mem, u) := q_s (.ok (.aload_n 0, 1)) (by decide +kernel) rfl
theorem r133_45 : pR X d 133 lim Q (45, L, st, mem, u) = pR X d 133 lim Q (47, L, .int (iI (120)) :: st, mem, u) := q_bi (n := 120) (by decide +kernel) (by decide +kernel)
theorem r133_47_d : decode (yB 133) 47 = .ok (.newarray .byte, 2) := (by decide +kernel)
theorem r133_49 : pR X d 133 lim Q (49, L, p :: .ref a :: st, mem, u) = pf 133 mem a 5 6 p (fun mem => pR X d 133 lim Q (52, L, st, mem, u)) := q_put (ix := 25) (by decide +kernel) (by decide +kernel) (by decide)
theorem r133_52 : pR X d 133 lim Q (52, [some (.ref a), l1], st, mem, u) = pR X d 133 lim Q (53, [some (.ref a), l1], .ref a :: st, mem, u) := q_s (.ok (.aload_n 0, 1)) (by decide +kernel) rfl
theorem r133_53 : pR X d 133 lim Q (53, L, st, mem, u) = pR X d 133 lim Q (54, L, .int (iI (4)) :: st, mem, u) := q_ic (by decide +kernel)
theorem r133_54_d : decode (yB 133) 54 = .ok (.newarray .int, 2) := (by decide +kernel)
theorem r133_56 : pR X d 133 lim Q (56, L, p :: .ref a :: st, mem, u) = pf 133 mem a 5 14 p (fun mem => pR X d 133 lim Q (59, L, st, mem, u)) := q_put (ix := 29) (by decide +kernel) (by decide +kernel) (by decide)
theorem r133_59 : pR X d 133 lim Q (59, [some (.ref a), l1], st, mem, u) = pR X d 133 lim Q (60, [some (.ref a), l1], .ref a :: st, mem, u) := q_s (.ok (.aload_n 0, 1)) (by decide +kernel) rfl
theorem r133_60 : pR X d 133 lim Q (60, L, st, mem, u) = pR X d 133 lim Q (61, L, .int (iI (4)) :: st, mem, u) := q_ic (by decide +kernel)
theorem r133_61_d : decode (yB 133) 61 = .ok (.newarray .int, 2) := (by decide +kernel)
theorem r133_63 : pR X d 133 lim Q (63, L, p :: .ref a :: st, mem, u) = pf 133 mem a 5 15 p (fun mem => pR X d 133 lim Q (66, L, st, mem, u)) := q_put (ix := 32) (by decide +kernel) (by decide +kernel) (by decide)
theorem r133_66 : pR X d 133 lim Q (66, [some (.ref a), l1], st, mem, u) = pR X d 133 lim Q (67, [some (.ref a), l1], .ref a :: st, mem, u) := q_s (.ok (.aload_n 0, 1)) (by decide +kernel) rfl
theorem r133_67 : pR X d 133 lim Q (67, L, st, mem, u) = pR X d 133 lim Q (70, L, .int (iI (160)) :: st, mem, u) := q_si (n := 160) (by decide +kernel) (by decide +kernel)
theorem r133_70_d : decode (yB 133) 70 = .ok (.newarray .int, 2) := (by decide +kernel)
theorem r133_72 : pR X d 133 lim Q (72, L, p :: .ref a :: st, mem, u) = pf 133 mem a 5 16 p (fun mem => pR X d 133 lim Q (75, L, st, mem, u)) := q_put (ix := 35) (by decide +kernel) (by decide +kernel) (by decide)
theorem r133_75 : pR X d 133 lim Q (75, [some (.ref a), l1], st, mem, u) = pR X d 133 lim Q (76, [some (.ref a), l1], .ref a :: st, mem, u) := q_s (.ok (.aload_n 0, 1)) (by decide +kernel) rfl
theorem r133_76 : pR X d 133 lim Q (76, L, st, mem, u) = pR X d 133 lim Q (78, L, .int (iI (40)) :: st, mem, u) := q_bi (n := 40) (by decide +kernel) (by decide +kernel)
theorem r133_78_d : decode (yB 133) 78 = .ok (.newarray .int, 2) := (by decide +kernel)
theorem r133_80 : pR X d 133 lim Q (80, L, p :: .ref a :: st, mem, u) = pf 133 mem a 5 17 p (fun mem => pR X d 133 lim Q (83, L, st, mem, u)) := q_put (ix := 38) (by decide +kernel) (by decide +kernel) (by decide)
theorem r133_83 : pR X d 133 lim Q (83, [some (.ref a), l1], st, mem, u) = pR X d 133 lim Q (84, [some (.ref a), l1], .ref a :: st, mem, u) := q_s (.ok (.aload_n 0, 1)) (by decide +kernel) rfl
theorem r133_84 : pR X d 133 lim Q (84, L, .ref a :: st, mem, u) = gf mem a 5 0 (fun p => pR X d 133 lim Q (87, L, p :: st, mem, u)) := q_get (ix := 7) (by decide +kernel) (by decide +kernel)
theorem r133_87 : pR X d 133 lim Q (87, L, st, mem, u) = pR X d 133 lim Q (88, L, .int (iI (2)) :: st, mem, u) := q_ic (by decide +kernel)
theorem r133_88 : pR X d 133 lim Q (88, L, st, mem, u) = pR X d 133 lim Q (89, L, .int (iI (1)) :: st, mem, u) := q_ic (by decide +kernel)
theorem r133_89 : pR X d 133 lim Q (89, L, .int z :: .int x :: .ref a :: st, mem, u) = wi mem a x z (fun mem => pR X d 133 lim Q (90, L, st, mem, u)) := q_wi (by decide +kernel)
theorem r133_90 : pR X d 133 lim Q (90, [some (.ref a), l1], st, mem, u) = pR X d 133 lim Q (91, [some (.ref a), l1], .ref a :: st, mem, u) := q_s (.ok (.aload_n 0, 1)) (by decide +kernel) rfl
theorem r133_91 : pR X d 133 lim Q (91, L, .ref a :: st, mem, u) = gf mem a 5 0 (fun p => pR X d 133 lim Q (94, L, p :: st, mem, u)) := q_get (ix := 7) (by decide +kernel) (by decide +kernel)
theorem r133_94 : pR X d 133 lim Q (94, L, st, mem, u) = pR X d 133 lim Q (95, L, .int (iI (3)) :: st, mem, u) := q_ic (by decide +kernel)
theorem r133_95 : pR X d 133 lim Q (95, L, st, mem, u) = pR X d 133 lim Q (97, L, .int (iI (19)) :: st, mem, u) := q_bi (n := 19) (by decide +kernel) (by decide +kernel)
theorem r133_97 : pR X d 133 lim Q (97, L, .int z :: .int x :: .ref a :: st, mem, u) = wi mem a x z (fun mem => pR X d 133 lim Q (98, L, st, mem, u)) := q_wi (by decide +kernel)
theorem r133_98 : pR X d 133 lim Q (98, L, st, mem, u) = pR X d 133 lim Q (99, L, .int (iI (0)) :: st, mem, u) := q_ic (by decide +kernel)
theorem r133_99 : pR X d 133 lim Q (99, [l0, l1], .int x :: st, mem, u) = pR X d 133 lim Q (100, [cl1 l0, some (.int x)], st, mem, u) := q_s (.ok (.istore_n 1, 1)) (by decide +kernel) rfl
theorem r133_100 : pR X d 133 lim Q (100, [l0, some (.int x)], st, mem, u) = pR X d 133 lim Q (101, [l0, some (.int x)], .int x :: st, mem, u) := q_s (.ok (.iload_n 1, 1)) (by decide +kernel) rfl
theorem r133_101 : pR X d 133 lim Q (101, L, st, mem, u) = pR X d 133 lim Q (103, L, .int (iI (6)) :: st, mem, u) := q_bi (n := 6) (by decide +kernel) (by decide +kernel)
theorem r133_103 : pR X d 133 lim Q (103, L, .int z :: .int x :: st, mem, u) = ((z ≤ x → pR X d 133 lim Q (122, L, st, mem, u)) ∧ (¬ (z ≤ x) → pR X d 133 lim Q (106, L, st, mem, u))) := r_ic (c := .ge) (off := 19) (by decide +kernel) (by decide)
theorem r133_106 : pR X d 133 lim Q (106, [some (.ref a), l1], st, mem, u) = pR X d 133 lim Q (107, [some (.ref a), l1], .ref a :: st, mem, u) := q_s (.ok (.aload_n 0, 1)) (by decide +kernel) rfl
theorem r133_107 : pR X d 133 lim Q (107, L, .ref a :: st, mem, u) = gf mem a 5 0 (fun p => pR X d 133 lim Q (110, L, p :: st, mem, u)) := q_get (ix := 7) (by decide +kernel) (by decide +kernel)
theorem r133_110 : pR X d 133 lim Q (110, L, st, mem, u) = pR X d 133 lim Q (111, L, .int (iI (5)) :: st, mem, u) := q_ic (by decide +kernel)
theorem r133_111 : pR X d 133 lim Q (111, [l0, some (.int x)], st, mem, u) = pR X d 133 lim Q (112, [l0, some (.int x)], .int x :: st, mem, u) := q_s (.ok (.iload_n 1, 1)) (by decide +kernel) rfl
theorem r133_112 : pR X d 133 lim Q (112, L, .int z :: .int x :: st, mem, u) = pR X d 133 lim Q (113, L, .int (x + z) :: st, mem, u) := q_s (.ok (.iadd, 1)) (by decide +kernel) rfl
theorem r133_113 : pR X d 133 lim Q (113, L, st, mem, u) = pR X d 133 lim Q (115, L, .int (iI (100)) :: st, mem, u) := q_bi (n := 100) (by decide +kernel) (by decide +kernel)
theorem r133_115 : pR X d 133 lim Q (115, L, .int z :: .int x :: .ref a :: st, mem, u) = wi mem a x z (fun mem => pR X d 133 lim Q (116, L, st, mem, u)) := q_wi (by decide +kernel)
theorem r133_116 : pR X d 133 lim Q (116, [l0, some (.int x)], st, mem, u) = pR X d 133 lim Q (119, [cl1 l0, some (.int (x + iI (1)))], st, mem, u) := q_s (.ok (.iinc 1 (1), 3)) (by decide +kernel) rfl
theorem r133_119 : pR X d 133 lim Q (119, L, st, mem, u) = pR X d 133 lim Q (100, L, st, mem, u) := q_s (.ok (.goto (-19), 3)) (by decide +kernel) rfl
theorem r133_122 : pR X d 133 lim Q (122, L, [], mem, lim) = Q none mem := q_retv (by decide +kernel) rfl
theorem r134_0 : pR X d 134 0 Q (0, [l0, some (.int x), l2], st, mem, 0) = pR X d 134 0 Q (1, [l0, some (.int x), l2], .int x :: st, mem, 0) := q_s (.ok (.iload_n 1, 1)) (by decide +kernel) rfl
theorem r134_1 : pR X d 134 0 Q (1, L, .int x :: st, mem, 0) = ((¬ x = 0 → pR X d 134 0 Q (18, L, st, mem, 0)) ∧ (¬ (¬ x = 0) → pR X d 134 0 Q (4, L, st, mem, 0))) := r_if (c := .ne) (off := 17) (by decide +kernel) (by decide)
theorem r134_4 : pR X d 134 0 Q (4, [l0, l1, some (.int x)], st, mem, 0) = pR X d 134 0 Q (5, [l0, l1, some (.int x)], .int x :: st, mem, 0) := q_s (.ok (.iload_n 2, 1)) (by decide +kernel) rfl
theorem r134_5 : pR X d 134 0 Q (5, L, .int x :: st, mem, 0) = pR X d 134 0 Q (6, L, .long x.toInt64 :: st, mem, 0) := q_s (.ok (.i2l, 1)) (by decide +kernel) rfl
theorem r134_6 : pR X d 134 0 Q (6, L, st, mem, 0) = pR X d 134 0 Q (9, L, .long (lI (2)) :: st, mem, 0) := q_ldc2 (k := 97) (by decide +kernel) (by decide +kernel)
theorem r134_9 : pR X d 134 0 Q (9, L, st, mem, 0) = pR X d 134 0 Q (12, L, .long (lI (30)) :: st, mem, 0) := q_ldc2 (k := 99) (by decide +kernel) (by decide +kernel)
theorem r134_12 : pR X d 134 0 Q (12, L, .long v2 :: .long v1 :: .long v0 :: [], mem, 0) = Cw X d 135 [.long v0, .long v1, .long v2] mem (fun r mem => pR X d 134 0 Q (15, L, r.toList ++ [], mem, 0)) := q_stat (ix := 42) (kd := 1) (y2 := 135) (as := [.long v2, .long v1, .long v0]) (by decide +kernel) (by decide +kernel) (by decide) rfl rfl rfl (Nat.le_of_ble_eq_true rfl) (by decide)
theorem r134_15 : pR X d 134 0 Q (15, L, .int x :: st, mem, 0) = ((¬ x = 0 → pR X d 134 0 Q (35, L, st, mem, 0)) ∧ (¬ (¬ x = 0) → pR X d 134 0 Q (18, L, st, mem, 0))) := r_if (c := .ne) (off := 20) (by decide +kernel) (by decide)
theorem r134_18 : pR X d 134 0 Q (18, [l0, some (.int x), l2], st, mem, 0) = pR X d 134 0 Q (19, [l0, some (.int x), l2], .int x :: st, mem, 0) := q_s (.ok (.iload_n 1, 1)) (by decide +kernel) rfl
theorem r134_19 : pR X d 134 0 Q (19, L, st, mem, 0) = pR X d 134 0 Q (20, L, .int (iI (1)) :: st, mem, 0) := q_ic (by decide +kernel)
theorem r134_20 : pR X d 134 0 Q (20, L, .int z :: .int x :: st, mem, 0) = ((¬ x = z → pR X d 134 0 Q (46, L, st, mem, 0)) ∧ (¬ (¬ x = z) → pR X d 134 0 Q (23, L, st, mem, 0))) := r_ic (c := .ne) (off := 26) (by decide +kernel) (by decide)
theorem r134_23 : pR X d 134 0 Q (23, [l0, l1, some (.int x)], st, mem, 0) = pR X d 134 0 Q (24, [l0, l1, some (.int x)], .int x :: st, mem, 0) := q_s (.ok (.iload_n 2, 1)) (by decide +kernel) rfl
theorem r134_24 : pR X d 134 0 Q (24, L, .int x :: st, mem, 0) = pR X d 134 0 Q (25, L, .long x.toInt64 :: st, mem, 0) := q_s (.ok (.i2l, 1)) (by decide +kernel) rfl
theorem r134_25 : pR X d 134 0 Q (25, L, st, mem, 0) = pR X d 134 0 Q (26, L, .long (lI (0)) :: st, mem, 0) := q_lc (n := 0) (by decide +kernel) (by decide +kernel)
theorem r134_26 : pR X d 134 0 Q (26, L, st, mem, 0) = pR X d 134 0 Q (29, L, .long (lI (9999)) :: st, mem, 0) := q_ldc2 (k := 101) (by decide +kernel) (by decide +kernel)
theorem r134_29 : pR X d 134 0 Q (29, L, .long v2 :: .long v1 :: .long v0 :: [], mem, 0) = Cw X d 135 [.long v0, .long v1, .long v2] mem (fun r mem => pR X d 134 0 Q (32, L, r.toList ++ [], mem, 0)) := q_stat (ix := 42) (kd := 1) (y2 := 135) (as := [.long v2, .long v1, .long v0]) (by decide +kernel) (by decide +kernel) (by decide) rfl rfl rfl (Nat.le_of_ble_eq_true rfl) (by decide)
theorem r134_32 : pR X d 134 0 Q (32, L, .int x :: st, mem, 0) = ((x = 0 → pR X d 134 0 Q (46, L, st, mem, 0)) ∧ (¬ (x = 0) → pR X d 134 0 Q (35, L, st, mem, 0))) := r_if (c := .eq) (off := 14) (by decide +kernel) (by decide)
theorem r134_35 : pR X d 134 0 Q (35, [some (.ref a), l1, l2], st, mem, 0) = pR X d 134 0 Q (36, [some (.ref a), l1, l2], .ref a :: st, mem, 0) := q_s (.ok (.aload_n 0, 1)) (by decide +kernel) rfl
theorem r134_36 : pR X d 134 0 Q (36, L, st, mem, 0) = pR X d 134 0 Q (37, L, .int (iI (3)) :: st, mem, 0) := q_ic (by decide +kernel)
theorem r134_37 : pR X d 134 0 Q (37, [l0, some (.int x), l2], st, mem, 0) = pR X d 134 0 Q (38, [l0, some (.int x), l2], .int x :: st, mem, 0) := q_s (.ok (.iload_n 1, 1)) (by decide +kernel) rfl
theorem r134_38 : pR X d 134 0 Q (38, L, .int z :: .int x :: st, mem, 0) = pR X d 134 0 Q (39, L, .int (x + z) :: st, mem, 0) := q_s (.ok (.iadd, 1)) (by decide +kernel) rfl
theorem r134_39 : pR X d 134 0 Q (39, [l0, l1, some (.int x)], st, mem, 0) = pR X d 134 0 Q (40, [l0, l1, some (.int x)], .int x :: st, mem, 0) := q_s (.ok (.iload_n 2, 1)) (by decide +kernel) rfl
theorem r134_40 : pR X d 134 0 Q (40, L, .int y1 :: .int y0 :: .ref a :: [], mem, 0) = (prcv mem 5 a ∧ Cw X d 136 [.ref a, .int y0, .int y1] mem (fun r mem => pR X d 134 0 Q (43, L, r.toList ++ [], mem, 0))) := q_virt (ix := 103) (y2 := 136) (as := [.int y1, .int y0]) (by decide +kernel) (by decide +kernel) rfl rfl rfl (Nat.le_of_ble_eq_true rfl) (by decide)
theorem r134_43 : pR X d 134 0 Q (43, L, st, mem, 0) = pR X d 134 0 Q (51, L, st, mem, 0) := q_s (.ok (.goto (8), 3)) (by decide +kernel) rfl
theorem r134_46 : pR X d 134 0 Q (46, [some (.ref a), l1, l2], st, mem, 0) = pR X d 134 0 Q (47, [some (.ref a), l1, l2], .ref a :: st, mem, 0) := q_s (.ok (.aload_n 0, 1)) (by decide +kernel) rfl
theorem r134_47 : pR X d 134 0 Q (47, L, st, mem, 0) = pR X d 134 0 Q (48, L, .int (iI (0)) :: st, mem, 0) := q_ic (by decide +kernel)
theorem r134_48 : pR X d 134 0 Q (48, L, .int y0 :: .ref a :: [], mem, 0) = (prcv mem 5 a ∧ Cw X d 137 [.ref a, .int y0] mem (fun r mem => pR X d 134 0 Q (51, L, r.toList ++ [], mem, 0))) := q_virt (ix := 106) (y2 := 137) (as := [.int y0]) (by decide +kernel) (by decide +kernel) rfl rfl rfl (Nat.le_of_ble_eq_true rfl) (by decide)
theorem r134_51 : pR X d 134 0 Q (51, L, [.int x], mem, 0) = Q (some (.int x)) mem := q_reti (by decide +kernel) rfl
theorem r135_0 : pR X d 135 0 Q (0, [some (.long v), l1, l2, l3, l4, l5], st, mem, 0) = pR X d 135 0 Q (1, [some (.long v), l1, l2, l3, l4, l5], .long v :: st, mem, 0) := q_s (.ok (.lload_n 0, 1)) (by decide +kernel) rfl
theorem r135_1 : pR X d 135 0 Q (1, [l0, l1, some (.long v), l3, l4, l5], st, mem, 0) = pR X d 135 0 Q (2, [l0, l1, some (.long v), l3, l4, l5], .long v :: st, mem, 0) := q_s (.ok (.lload_n 2, 1)) (by decide +kernel) rfl
theorem r135_2 : pR X d 135 0 Q (2, L, .long w :: .long v :: st, mem, 0) = pR X d 135 0 Q (3, L, .int (lg_cmp v w) :: st, mem, 0) := q_s (.ok (.lcmp, 1)) (by decide +kernel) rfl
theorem r135_3 : pR X d 135 0 Q (3, L, .int x :: st, mem, 0) = ((x < 0 → pR X d 135 0 Q (17, L, st, mem, 0)) ∧ (¬ (x < 0) → pR X d 135 0 Q (6, L, st, mem, 0))) := r_if (c := .lt) (off := 14) (by decide +kernel) (by decide)
theorem r135_6 : pR X d 135 0 Q (6, [some (.long v), l1, l2, l3, l4, l5], st, mem, 0) = pR X d 135 0 Q (7, [some (.long v), l1, l2, l3, l4, l5], .long v :: st, mem, 0) := q_s (.ok (.lload_n 0, 1)) (by decide +kernel) rfl
theorem r135_7 : pR X d 135 0 Q (7, [l0, l1, l2, l3, some (.long v), l5], st, mem, 0) = pR X d 135 0 Q (9, [l0, l1, l2, l3, some (.long v), l5], .long v :: st, mem, 0) := q_s (.ok (.lload 4, 2)) (by decide +kernel) rfl
theorem r135_9 : pR X d 135 0 Q (9, L, .long w :: .long v :: st, mem, 0) = pR X d 135 0 Q (10, L, .int (lg_cmp v w) :: st, mem, 0) := q_s (.ok (.lcmp, 1)) (by decide +kernel) rfl
theorem r135_10 : pR X d 135 0 Q (10, L, .int x :: st, mem, 0) = ((0 < x → pR X d 135 0 Q (17, L, st, mem, 0)) ∧ (¬ (0 < x) → pR X d 135 0 Q (13, L, st, mem, 0))) := r_if (c := .gt) (off := 7) (by decide +kernel) (by decide)
theorem r135_13 : pR X d 135 0 Q (13, L, st, mem, 0) = pR X d 135 0 Q (14, L, .int (iI (1)) :: st, mem, 0) := q_ic (by decide +kernel)
theorem r135_14 : pR X d 135 0 Q (14, L, st, mem, 0) = pR X d 135 0 Q (18, L, st, mem, 0) := q_s (.ok (.goto (4), 3)) (by decide +kernel) rfl
theorem r135_17 : pR X d 135 0 Q (17, L, st, mem, 0) = pR X d 135 0 Q (18, L, .int (iI (0)) :: st, mem, 0) := q_ic (by decide +kernel)
theorem r135_18 : pR X d 135 0 Q (18, L, [.int x], mem, 0) = (zb .boolean x ∧ Q (some (.int x)) mem) := q_retz (by decide +kernel) rfl (by decide)
theorem r136_0 : pR X d 136 0 Q (0, [some (.ref a), l1, l2, l3], st, mem, 0) = pR X d 136 0 Q (1, [some (.ref a), l1, l2, l3], .ref a :: st, mem, 0) := q_s (.ok (.aload_n 0, 1)) (by decide +kernel) rfl
theorem r136_1 : pR X d 136 0 Q (1, L, .ref a :: st, mem, 0) = gf mem a 5 0 (fun p => pR X d 136 0 Q (4, L, p :: st, mem, 0)) := q_get (ix := 7) (by decide +kernel) (by decide +kernel)
theorem r136_4 : pR X d 136 0 Q (4, [l0, some (.int x), l2, l3], st, mem, 0) = pR X d 136 0 Q (5, [l0, some (.int x), l2, l3], .int x :: st, mem, 0) := q_s (.ok (.iload_n 1, 1)) (by decide +kernel) rfl
theorem r136_5 : pR X d 136 0 Q (5, L, .int x :: .ref a :: st, mem, 0) = ri X mem a x (fun z => pR X d 136 0 Q (6, L, .int z :: st, mem, 0)) := q_ri (by decide +kernel)
theorem r136_6 : pR X d 136 0 Q (6, [l0, l1, l2, l3], .int x :: st, mem, 0) = pR X d 136 0 Q (7, [l0, l1, cl1 l2, some (.int x)], st, mem, 0) := q_s (.ok (.istore_n 3, 1)) (by decide +kernel) rfl
theorem r136_7 : pR X d 136 0 Q (7, [some (.ref a), l1, l2, l3], st, mem, 0) = pR X d 136 0 Q (8, [some (.ref a), l1, l2, l3], .ref a :: st, mem, 0) := q_s (.ok (.aload_n 0, 1)) (by decide +kernel) rfl
theorem r136_8 : pR X d 136 0 Q (8, L, .ref a :: st, mem, 0) = gf mem a 5 0 (fun p => pR X d 136 0 Q (11, L, p :: st, mem, 0)) := q_get (ix := 7) (by decide +kernel) (by decide +kernel)
theorem r136_11 : pR X d 136 0 Q (11, [l0, some (.int x), l2, l3], st, mem, 0) = pR X d 136 0 Q (12, [l0, some (.int x), l2, l3], .int x :: st, mem, 0) := q_s (.ok (.iload_n 1, 1)) (by decide +kernel) rfl
theorem r136_12 : pR X d 136 0 Q (12, [l0, l1, some (.int x), l3], st, mem, 0) = pR X d 136 0 Q (13, [l0, l1, some (.int x), l3], .int x :: st, mem, 0) := q_s (.ok (.iload_n 2, 1)) (by decide +kernel) rfl
theorem r136_13 : pR X d 136 0 Q (13, L, .int z :: .int x :: .ref a :: st, mem, 0) = wi mem a x z (fun mem => pR X d 136 0 Q (14, L, st, mem, 0)) := q_wi (by decide +kernel)
theorem r136_14 : pR X d 136 0 Q (14, [l0, l1, l2, some (.int x)], st, mem, 0) = pR X d 136 0 Q (15, [l0, l1, l2, some (.int x)], .int x :: st, mem, 0) := q_s (.ok (.iload_n 3, 1)) (by decide +kernel) rfl
theorem r136_15 : pR X d 136 0 Q (15, L, [.int x], mem, 0) = Q (some (.int x)) mem := q_reti (by decide +kernel) rfl
theorem r137_0 : pR X d 137 0 Q (0, [some (.ref a), l1], st, mem, 0) = pR X d 137 0 Q (1, [some (.ref a), l1], .ref a :: st, mem, 0) := q_s (.ok (.aload_n 0, 1)) (by decide +kernel) rfl
theorem r137_1 : pR X d 137 0 Q (1, L, .ref a :: st, mem, 0) = gf mem a 5 5 (fun p => pR X d 137 0 Q (4, L, p :: st, mem, 0)) := q_get (ix := 22) (by decide +kernel) (by decide +kernel)
theorem r137_4 : pR X d 137 0 Q (4, [l0, some (.int x)], st, mem, 0) = pR X d 137 0 Q (5, [l0, some (.int x)], .int x :: st, mem, 0) := q_s (.ok (.iload_n 1, 1)) (by decide +kernel) rfl
theorem r137_5 : pR X d 137 0 Q (5, L, .int x :: .ref b :: st, mem, 0) = pR X d 137 0 Q (6, L, .int x :: .ref b :: .int x :: .ref b :: st, mem, 0) := q_s (.ok (.dup2, 1)) (by decide +kernel) rfl
theorem r137_6 : pR X d 137 0 Q (6, L, .int x :: .ref a :: st, mem, 0) = ri X mem a x (fun z => pR X d 137 0 Q (7, L, .int z :: st, mem, 0)) := q_ri (by decide +kernel)
theorem r137_7 : pR X d 137 0 Q (7, L, st, mem, 0) = pR X d 137 0 Q (8, L, .int (iI (1)) :: st, mem, 0) := q_ic (by decide +kernel)
theorem r137_8 : pR X d 137 0 Q (8, L, .int z :: .int x :: st, mem, 0) = pR X d 137 0 Q (9, L, .int (x + z) :: st, mem, 0) := q_s (.ok (.iadd, 1)) (by decide +kernel) rfl
theorem r137_9 : pR X d 137 0 Q (9, L, .int z :: .int x :: .ref a :: st, mem, 0) = wi mem a x z (fun mem => pR X d 137 0 Q (10, L, st, mem, 0)) := q_wi (by decide +kernel)
theorem r137_10 : pR X d 137 0 Q (10, L, st, mem, 0) = pR X d 137 0 Q (12, L, .int (iI (-1000001)) :: st, mem, 0) := q_ldc (k := 41) (by decide +kernel) (by decide +kernel)
theorem r137_12 : pR X d 137 0 Q (12, [l0, some (.int x)], st, mem, 0) = pR X d 137 0 Q (13, [l0, some (.int x)], .int x :: st, mem, 0) := q_s (.ok (.iload_n 1, 1)) (by decide +kernel) rfl
theorem r137_13 : pR X d 137 0 Q (13, L, .int z :: .int x :: st, mem, 0) = pR X d 137 0 Q (14, L, .int (x - z) :: st, mem, 0) := q_s (.ok (.isub, 1)) (by decide +kernel) rfl
theorem r137_14 : pR X d 137 0 Q (14, L, [.int x], mem, 0) = Q (some (.int x)) mem := q_reti (by decide +kernel) rfl
theorem r138_0 : pR X d 138 0 Q (0, [l0, some (.int x), l2], st, mem, 0) = pR X d 138 0 Q (1, [l0, some (.int x), l2], .int x :: st, mem, 0) := q_s (.ok (.iload_n 1, 1)) (by decide +kernel) rfl
theorem r138_1 : pR X d 138 0 Q (1, L, .int y0 :: [], mem, 0) = Cw X d 139 [.int y0] mem (fun r mem => pR X d 138 0 Q (4, L, r.toList ++ [], mem, 0)) := q_stat (ix := 109) (kd := 1) (y2 := 139) (as := [.int y0]) (by decide +kernel) (by decide +kernel) (by decide) rfl rfl rfl (Nat.le_of_ble_eq_true rfl) (by decide)
theorem r138_4 : pR X d 138 0 Q (4, L, .int x :: st, mem, 0) = ((x = 0 → pR X d 138 0 Q (25, L, st, mem, 0)) ∧ (¬ (x = 0) → pR X d 138 0 Q (7, L, st, mem, 0))) := r_if (c := .eq) (off := 21) (by decide +kernel) (by decide)
theorem r138_7 : pR X d 138 0 Q (7, [l0, l1, some (.int x)], st, mem, 0) = pR X d 138 0 Q (8, [l0, l1, some (.int x)], .int x :: st, mem, 0) := q_s (.ok (.iload_n 2, 1)) (by decide +kernel) rfl
theorem r138_8 : pR X d 138 0 Q (8, L, .int y0 :: [], mem, 0) = Cw X d 140 [.int y0] mem (fun r mem => pR X d 138 0 Q (11, L, r.toList ++ [], mem, 0)) := q_stat (ix := 112) (kd := 1) (y2 := 140) (as := [.int y0]) (by decide +kernel) (by decide +kernel) (by decide) rfl rfl rfl (Nat.le_of_ble_eq_true rfl) (by decide)
theorem r138_11 : pR X d 138 0 Q (11, L, .int x :: st, mem, 0) = ((x = 0 → pR X d 138 0 Q (25, L, st, mem, 0)) ∧ (¬ (x = 0) → pR X d 138 0 Q (14, L, st, mem, 0))) := r_if (c := .eq) (off := 14) (by decide +kernel) (by decide)
theorem r138_14 : pR X d 138 0 Q (14, [some (.ref a), l1, l2], st, mem, 0) = pR X d 138 0 Q (15, [some (.ref a), l1, l2], .ref a :: st, mem, 0) := q_s (.ok (.aload_n 0, 1)) (by decide +kernel) rfl
theorem r138_15 : pR X d 138 0 Q (15, L, st, mem, 0) = pR X d 138 0 Q (16, L, .int (iI (5)) :: st, mem, 0) := q_ic (by decide +kernel)
theorem r138_16 : pR X d 138 0 Q (16, [l0, some (.int x), l2], st, mem, 0) = pR X d 138 0 Q (17, [l0, some (.int x), l2], .int x :: st, mem, 0) := q_s (.ok (.iload_n 1, 1)) (by decide +kernel) rfl
theorem r138_17 : pR X d 138 0 Q (17, L, .int z :: .int x :: st, mem, 0) = pR X d 138 0 Q (18, L, .int (x + z) :: st, mem, 0) := q_s (.ok (.iadd, 1)) (by decide +kernel) rfl
theorem r138_18 : pR X d 138 0 Q (18, [l0, l1, some (.int x)], st, mem, 0) = pR X d 138 0 Q (19, [l0, l1, some (.int x)], .int x :: st, mem, 0) := q_s (.ok (.iload_n 2, 1)) (by decide +kernel) rfl
theorem r138_19 : pR X d 138 0 Q (19, L, .int y1 :: .int y0 :: .ref a :: [], mem, 0) = (prcv mem 5 a ∧ Cw X d 136 [.ref a, .int y0, .int y1] mem (fun r mem => pR X d 138 0 Q (22, L, r.toList ++ [], mem, 0))) := q_virt (ix := 103) (y2 := 136) (as := [.int y1, .int y0]) (by decide +kernel) (by decide +kernel) rfl rfl rfl (Nat.le_of_ble_eq_true rfl) (by decide)
theorem r138_22 : pR X d 138 0 Q (22, L, st, mem, 0) = pR X d 138 0 Q (30, L, st, mem, 0) := q_s (.ok (.goto (8), 3)) (by decide +kernel) rfl
theorem r138_25 : pR X d 138 0 Q (25, [some (.ref a), l1, l2], st, mem, 0) = pR X d 138 0 Q (26, [some (.ref a), l1, l2], .ref a :: st, mem, 0) := q_s (.ok (.aload_n 0, 1)) (by decide +kernel) rfl
theorem r138_26 : pR X d 138 0 Q (26, L, st, mem, 0) = pR X d 138 0 Q (27, L, .int (iI (0)) :: st, mem, 0) := q_ic (by decide +kernel)
theorem r138_27 : pR X d 138 0 Q (27, L, .int y0 :: .ref a :: [], mem, 0) = (prcv mem 5 a ∧ Cw X d 137 [.ref a, .int y0] mem (fun r mem => pR X d 138 0 Q (30, L, r.toList ++ [], mem, 0))) := q_virt (ix := 106) (y2 := 137) (as := [.int y0]) (by decide +kernel) (by decide +kernel) rfl rfl rfl (Nat.le_of_ble_eq_true rfl) (by decide)
theorem r138_30 : pR X d 138 0 Q (30, L, [.int x], mem, 0) = Q (some (.int x)) mem := q_reti (by decide +kernel) rfl
theorem r139_0 : pR X d 139 0 Q (0, [some (.int x)], st, mem, 0) = pR X d 139 0 Q (1, [some (.int x)], .int x :: st, mem, 0) := q_s (.ok (.iload_n 0, 1)) (by decide +kernel) rfl
theorem r139_1 : pR X d 139 0 Q (1, L, .int x :: st, mem, 0) = pR X d 139 0 Q (2, L, .long x.toInt64 :: st, mem, 0) := q_s (.ok (.i2l, 1)) (by decide +kernel) rfl
theorem r139_2 : pR X d 139 0 Q (2, L, st, mem, 0) = pR X d 139 0 Q (3, L, .long (lI (0)) :: st, mem, 0) := q_lc (n := 0) (by decide +kernel) (by decide +kernel)
theorem r139_3 : pR X d 139 0 Q (3, L, st, mem, 0) = pR X d 139 0 Q (6, L, .long (lI (5)) :: st, mem, 0) := q_ldc2 (k := 46) (by decide +kernel) (by decide +kernel)
theorem r139_6 : pR X d 139 0 Q (6, L, .long v2 :: .long v1 :: .long v0 :: [], mem, 0) = Cw X d 135 [.long v0, .long v1, .long v2] mem (fun r mem => pR X d 139 0 Q (9, L, r.toList ++ [], mem, 0)) := q_stat (ix := 42) (kd := 1) (y2 := 135) (as := [.long v2, .long v1, .long v0]) (by decide +kernel) (by decide +kernel) (by decide) rfl rfl rfl (Nat.le_of_ble_eq_true rfl) (by decide)
theorem r139_9 : pR X d 139 0 Q (9, L, [.int x], mem, 0) = (zb .boolean x ∧ Q (some (.int x)) mem) := q_retz (by decide +kernel) rfl (by decide)
end

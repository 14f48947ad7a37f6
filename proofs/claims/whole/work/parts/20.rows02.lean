section
variable {X : pXX} {d lim u : Nat} {Q : Option Value → List pME → Prop} {L : List (Option Value)} {st : List Value} {mem : List pME} {x z z1 z2 z3 y0 y1 y2 y3 y4 k0 k1 k2 k3 k4 k5 k6 : Int32} {v w v0 v1 v2 w0 w1 w2 : Int64} {a b b0 b1 b2 b3 c0 c1 c2 c3 c4 c5 : Nat} {p : Value} {l0 l1 l2 l3 l4 l5 l6 l7 l8 l9 : Option Value}
theorem r61_0 : pR X d 61 0 Q (0, [l0, some (.int x), l2, l3], st, mem, 0) = pR X d 61 0 Q (1, [l0, some (.int x), l2, l3], .int x :: st, mem, 0) := q_s (.ok (.iload_n 1, 1)) (by decide +kernel) rfl
theorem r61_1 : pR X d 61 0 Q (1, L, .int y0 :: [], mem, 0) = Cw X d 10 [.int y0] mem (fun r mem => pR X d 61 0 Q (4, L, r.toList ++ [], mem, 0)) := q_stat (ix := 63) (kd := 1) (y2 := 10) (as := [.int y0]) (by decide +kernel) (by decide +kernel) (by decide) rfl rfl rfl (Nat.le_of_ble_eq_true rfl) (by decide)
theorem r61_4 : pR X d 61 0 Q (4, L, .int x :: st, mem, 0) = ((x = 0 → pR X d 61 0 Q (17, L, st, mem, 0)) ∧ (¬ (x = 0) → pR X d 61 0 Q (7, L, st, mem, 0))) := r_if (c := .eq) (off := 13) (by decide +kernel) (by decide)
theorem r61_7 : pR X d 61 0 Q (7, [l0, l1, some (.int x), l3], st, mem, 0) = pR X d 61 0 Q (8, [l0, l1, some (.int x), l3], .int x :: st, mem, 0) := q_s (.ok (.iload_n 2, 1)) (by decide +kernel) rfl
theorem r61_8 : pR X d 61 0 Q (8, L, st, mem, 0) = pR X d 61 0 Q (9, L, .int (iI (0)) :: st, mem, 0) := q_ic (by decide +kernel)
theorem r61_9 : pR X d 61 0 Q (9, L, st, mem, 0) = pR X d 61 0 Q (11, L, .int (iI (60)) :: st, mem, 0) := q_bi (n := 60) (by decide +kernel) (by decide +kernel)
theorem r61_11 : pR X d 61 0 Q (11, L, .int y2 :: .int y1 :: .int y0 :: [], mem, 0) = Cw X d 7 [.int y0, .int y1, .int y2] mem (fun r mem => pR X d 61 0 Q (14, L, r.toList ++ [], mem, 0)) := q_stat (ix := 52) (kd := 1) (y2 := 7) (as := [.int y2, .int y1, .int y0]) (by decide +kernel) (by decide +kernel) (by decide) rfl rfl rfl (Nat.le_of_ble_eq_true rfl) (by decide)
theorem r61_14 : pR X d 61 0 Q (14, L, .int x :: st, mem, 0) = ((¬ x = 0 → pR X d 61 0 Q (23, L, st, mem, 0)) ∧ (¬ (¬ x = 0) → pR X d 61 0 Q (17, L, st, mem, 0))) := r_if (c := .ne) (off := 9) (by decide +kernel) (by decide)
theorem r61_17 : pR X d 61 0 Q (17, [some (.ref a), l1, l2, l3], st, mem, 0) = pR X d 61 0 Q (18, [some (.ref a), l1, l2, l3], .ref a :: st, mem, 0) := q_s (.ok (.aload_n 0, 1)) (by decide +kernel) rfl
theorem r61_18 : pR X d 61 0 Q (18, L, st, mem, 0) = pR X d 61 0 Q (19, L, .int (iI (0)) :: st, mem, 0) := q_ic (by decide +kernel)
theorem r61_19 : pR X d 61 0 Q (19, L, .int y0 :: .ref a :: [], mem, 0) = (prcv mem 4 a ∧ Cw X d 8 [.ref a, .int y0] mem (fun r mem => pR X d 61 0 Q (22, L, r.toList ++ [], mem, 0))) := q_virt (ix := 59) (y2 := 8) (as := [.int y0]) (by decide +kernel) (by decide +kernel) rfl rfl rfl (Nat.le_of_ble_eq_true rfl) (by decide)
theorem r61_22 : pR X d 61 0 Q (22, L, [.int x], mem, 0) = Q (some (.int x)) mem := q_reti (by decide +kernel) rfl
theorem r61_23 : pR X d 61 0 Q (23, L, st, mem, 0) = pR X d 61 0 Q (25, L, .int (iI (99)) :: st, mem, 0) := q_bi (n := 99) (by decide +kernel) (by decide +kernel)
theorem r61_25 : pR X d 61 0 Q (25, [l0, l1, l2, l3], .int x :: st, mem, 0) = pR X d 61 0 Q (26, [l0, l1, cl1 l2, some (.int x)], st, mem, 0) := q_s (.ok (.istore_n 3, 1)) (by decide +kernel) rfl
theorem r61_26 : pR X d 61 0 Q (26, [l0, l1, l2, some (.int x)], st, mem, 0) = pR X d 61 0 Q (27, [l0, l1, l2, some (.int x)], .int x :: st, mem, 0) := q_s (.ok (.iload_n 3, 1)) (by decide +kernel) rfl
theorem r61_27 : pR X d 61 0 Q (27, L, .int x :: st, mem, 0) = ((x < 0 → pR X d 61 0 Q (76, L, st, mem, 0)) ∧ (¬ (x < 0) → pR X d 61 0 Q (30, L, st, mem, 0))) := r_if (c := .lt) (off := 49) (by decide +kernel) (by decide)
theorem r61_30 : pR X d 61 0 Q (30, [some (.ref a), l1, l2, l3], st, mem, 0) = pR X d 61 0 Q (31, [some (.ref a), l1, l2, l3], .ref a :: st, mem, 0) := q_s (.ok (.aload_n 0, 1)) (by decide +kernel) rfl
theorem r61_31 : pR X d 61 0 Q (31, L, .ref a :: st, mem, 0) = gf mem a 4 1 (fun p => pR X d 61 0 Q (34, L, p :: st, mem, 0)) := q_get (ix := 16) (by decide +kernel) (by decide +kernel)
theorem r61_34 : pR X d 61 0 Q (34, [some (.ref a), l1, l2, l3], st, mem, 0) = pR X d 61 0 Q (35, [some (.ref a), l1, l2, l3], .ref a :: st, mem, 0) := q_s (.ok (.aload_n 0, 1)) (by decide +kernel) rfl
theorem r61_35 : pR X d 61 0 Q (35, L, .ref a :: st, mem, 0) = gf mem a 4 0 (fun p => pR X d 61 0 Q (38, L, p :: st, mem, 0)) := q_get (ix := 10) (by decide +kernel) (by decide +kernel)
theorem r61_38 : pR X d 61 0 Q (38, L, .ref b0 :: .ref a :: [], mem, 0) = (prcv mem 3 a ∧ Cw X d 53 [.ref a, .ref b0] mem (fun r mem => pR X d 61 0 Q (41, L, r.toList ++ [], mem, 0))) := q_virt (ix := 143) (y2 := 53) (as := [.ref b0]) (by decide +kernel) (by decide +kernel) rfl rfl rfl (Nat.le_of_ble_eq_true rfl) (by decide)
theorem r61_41 : pR X d 61 0 Q (41, [some (.ref a), l1, l2, l3], st, mem, 0) = pR X d 61 0 Q (42, [some (.ref a), l1, l2, l3], .ref a :: st, mem, 0) := q_s (.ok (.aload_n 0, 1)) (by decide +kernel) rfl
theorem r61_42 : pR X d 61 0 Q (42, L, .ref a :: st, mem, 0) = gf mem a 4 1 (fun p => pR X d 61 0 Q (45, L, p :: st, mem, 0)) := q_get (ix := 16) (by decide +kernel) (by decide +kernel)
theorem r61_45 : pR X d 61 0 Q (45, [l0, some (.int x), l2, l3], st, mem, 0) = pR X d 61 0 Q (46, [l0, some (.int x), l2, l3], .int x :: st, mem, 0) := q_s (.ok (.iload_n 1, 1)) (by decide +kernel) rfl
theorem r61_46 : pR X d 61 0 Q (46, [l0, l1, l2, some (.int x)], st, mem, 0) = pR X d 61 0 Q (47, [l0, l1, l2, some (.int x)], .int x :: st, mem, 0) := q_s (.ok (.iload_n 3, 1)) (by decide +kernel) rfl
theorem r61_47 : pR X d 61 0 Q (47, L, .int y1 :: .int y0 :: .ref a :: [], mem, 0) = (prcv mem 3 a ∧ Cw X d 62 [.ref a, .int y0, .int y1] mem (fun r mem => pR X d 61 0 Q (50, L, r.toList ++ [], mem, 0))) := q_virt (ix := 150) (y2 := 62) (as := [.int y1, .int y0]) (by decide +kernel) (by decide +kernel) rfl rfl rfl (Nat.le_of_ble_eq_true rfl) (by decide)
theorem r61_50 : pR X d 61 0 Q (50, [some (.ref a), l1, l2, l3], st, mem, 0) = pR X d 61 0 Q (51, [some (.ref a), l1, l2, l3], .ref a :: st, mem, 0) := q_s (.ok (.aload_n 0, 1)) (by decide +kernel) rfl
theorem r61_51 : pR X d 61 0 Q (51, L, .ref a :: st, mem, 0) = gf mem a 4 1 (fun p => pR X d 61 0 Q (54, L, p :: st, mem, 0)) := q_get (ix := 16) (by decide +kernel) (by decide +kernel)
theorem r61_54 : pR X d 61 0 Q (54, [l0, l1, some (.int x), l3], st, mem, 0) = pR X d 61 0 Q (55, [l0, l1, some (.int x), l3], .int x :: st, mem, 0) := q_s (.ok (.iload_n 2, 1)) (by decide +kernel) rfl
theorem r61_55 : pR X d 61 0 Q (55, L, .int y0 :: .ref a :: [], mem, 0) = (prcv mem 3 a ∧ Cw X d 40 [.ref a, .int y0] mem (fun r mem => pR X d 61 0 Q (58, L, r.toList ++ [], mem, 0))) := q_virt (ix := 126) (y2 := 40) (as := [.int y0]) (by decide +kernel) (by decide +kernel) rfl rfl rfl (Nat.le_of_ble_eq_true rfl) (by decide)
theorem r61_58 : pR X d 61 0 Q (58, [some (.ref a), l1, l2, l3], st, mem, 0) = pR X d 61 0 Q (59, [some (.ref a), l1, l2, l3], .ref a :: st, mem, 0) := q_s (.ok (.aload_n 0, 1)) (by decide +kernel) rfl
theorem r61_59 : pR X d 61 0 Q (59, L, .ref a :: st, mem, 0) = gf mem a 4 1 (fun p => pR X d 61 0 Q (62, L, p :: st, mem, 0)) := q_get (ix := 16) (by decide +kernel) (by decide +kernel)
theorem r61_62 : pR X d 61 0 Q (62, L, .ref a :: [], mem, 0) = (prcv mem 3 a ∧ Cw X d 50 [.ref a] mem (fun r mem => pR X d 61 0 Q (65, L, r.toList ++ [], mem, 0))) := q_virt (ix := 137) (y2 := 50) (as := []) (by decide +kernel) (by decide +kernel) rfl rfl rfl (Nat.le_of_ble_eq_true rfl) (by decide)
theorem r61_65 : pR X d 61 0 Q (65, L, .int x :: st, mem, 0) = ((¬ x = 0 → pR X d 61 0 Q (70, L, st, mem, 0)) ∧ (¬ (¬ x = 0) → pR X d 61 0 Q (68, L, st, mem, 0))) := r_if (c := .ne) (off := 5) (by decide +kernel) (by decide)
theorem r61_68 : pR X d 61 0 Q (68, [l0, l1, l2, some (.int x)], st, mem, 0) = pR X d 61 0 Q (69, [l0, l1, l2, some (.int x)], .int x :: st, mem, 0) := q_s (.ok (.iload_n 3, 1)) (by decide +kernel) rfl
theorem r61_69 : pR X d 61 0 Q (69, L, [.int x], mem, 0) = Q (some (.int x)) mem := q_reti (by decide +kernel) rfl
theorem r61_70 : pR X d 61 0 Q (70, [l0, l1, l2, some (.int x)], st, mem, 0) = pR X d 61 0 Q (73, [l0, l1, cl1 l2, some (.int (x + iI (-1)))], st, mem, 0) := q_s (.ok (.iinc 3 (-1), 3)) (by decide +kernel) rfl
theorem r61_73 : pR X d 61 0 Q (73, L, st, mem, 0) = pR X d 61 0 Q (26, L, st, mem, 0) := q_s (.ok (.goto (-47), 3)) (by decide +kernel) rfl
theorem r61_76 : pR X d 61 0 Q (76, [some (.ref a), l1, l2, l3], st, mem, 0) = pR X d 61 0 Q (77, [some (.ref a), l1, l2, l3], .ref a :: st, mem, 0) := q_s (.ok (.aload_n 0, 1)) (by decide +kernel) rfl
theorem r61_77 : pR X d 61 0 Q (77, L, st, mem, 0) = pR X d 61 0 Q (78, L, .int (iI (3)) :: st, mem, 0) := q_ic (by decide +kernel)
theorem r61_78 : pR X d 61 0 Q (78, L, .int y0 :: .ref a :: [], mem, 0) = (prcv mem 4 a ∧ Cw X d 8 [.ref a, .int y0] mem (fun r mem => pR X d 61 0 Q (81, L, r.toList ++ [], mem, 0))) := q_virt (ix := 59) (y2 := 8) (as := [.int y0]) (by decide +kernel) (by decide +kernel) rfl rfl rfl (Nat.le_of_ble_eq_true rfl) (by decide)
theorem r61_81 : pR X d 61 0 Q (81, L, [.int x], mem, 0) = Q (some (.int x)) mem := q_reti (by decide +kernel) rfl
theorem r62_0 : pR X d 62 0 Q (0, [some (.ref a), l1, l2, l3], st, mem, 0) = pR X d 62 0 Q (1, [some (.ref a), l1, l2, l3], .ref a :: st, mem, 0) := q_s (.ok (.aload_n 0, 1)) (by decide +kernel) rfl
theorem r62_1 : pR X d 62 0 Q (1, L, .ref a :: st, mem, 0) = gf mem a 3 6 (fun p => pR X d 62 0 Q (4, L, p :: st, mem, 0)) := q_get (ix := 33) (by decide +kernel) (by decide +kernel)
theorem r62_4 : pR X d 62 0 Q (4, [l0, some (.int x), l2, l3], st, mem, 0) = pR X d 62 0 Q (5, [l0, some (.int x), l2, l3], .int x :: st, mem, 0) := q_s (.ok (.iload_n 1, 1)) (by decide +kernel) rfl
theorem r62_5 : pR X d 62 0 Q (5, L, .int x :: .ref a :: st, mem, 0) = ri X mem a x (fun z => pR X d 62 0 Q (6, L, .int z :: st, mem, 0)) := q_ri (by decide +kernel)
theorem r62_6 : pR X d 62 0 Q (6, [l0, l1, l2, l3], .int x :: st, mem, 0) = pR X d 62 0 Q (7, [l0, l1, cl1 l2, some (.int x)], st, mem, 0) := q_s (.ok (.istore_n 3, 1)) (by decide +kernel) rfl
theorem r62_7 : pR X d 62 0 Q (7, [some (.ref a), l1, l2, l3], st, mem, 0) = pR X d 62 0 Q (8, [some (.ref a), l1, l2, l3], .ref a :: st, mem, 0) := q_s (.ok (.aload_n 0, 1)) (by decide +kernel) rfl
theorem r62_8 : pR X d 62 0 Q (8, L, .ref a :: st, mem, 0) = gf mem a 3 6 (fun p => pR X d 62 0 Q (11, L, p :: st, mem, 0)) := q_get (ix := 33) (by decide +kernel) (by decide +kernel)
theorem r62_11 : pR X d 62 0 Q (11, [l0, some (.int x), l2, l3], st, mem, 0) = pR X d 62 0 Q (12, [l0, some (.int x), l2, l3], .int x :: st, mem, 0) := q_s (.ok (.iload_n 1, 1)) (by decide +kernel) rfl
theorem r62_12 : pR X d 62 0 Q (12, [l0, l1, l2, some (.int x)], st, mem, 0) = pR X d 62 0 Q (13, [l0, l1, l2, some (.int x)], .int x :: st, mem, 0) := q_s (.ok (.iload_n 3, 1)) (by decide +kernel) rfl
theorem r62_13 : pR X d 62 0 Q (13, [l0, l1, l2, some (.int x)], st, mem, 0) = pR X d 62 0 Q (14, [l0, l1, l2, some (.int x)], .int x :: st, mem, 0) := q_s (.ok (.iload_n 3, 1)) (by decide +kernel) rfl
theorem r62_14 : pR X d 62 0 Q (14, L, .int y0 :: [.int k0, .int k1, .ref c2], mem, 0) = Cw X d 44 [.int y0] mem (fun r mem => pR X d 62 0 Q (17, L, r.toList ++ [.int k0, .int k1, .ref c2], mem, 0)) := q_stat (ix := 82) (kd := 2) (y2 := 44) (as := [.int y0]) (by decide +kernel) (by decide +kernel) (by decide) rfl rfl rfl (Nat.le_of_ble_eq_true rfl) (by decide)
theorem r62_17 : pR X d 62 0 Q (17, L, .int z :: .int x :: st, mem, 0) = pR X d 62 0 Q (18, L, .int (x - z) :: st, mem, 0) := q_s (.ok (.isub, 1)) (by decide +kernel) rfl
theorem r62_18 : pR X d 62 0 Q (18, [l0, l1, some (.int x), l3], st, mem, 0) = pR X d 62 0 Q (19, [l0, l1, some (.int x), l3], .int x :: st, mem, 0) := q_s (.ok (.iload_n 2, 1)) (by decide +kernel) rfl
theorem r62_19 : pR X d 62 0 Q (19, L, .int z :: .int x :: st, mem, 0) = pR X d 62 0 Q (20, L, .int (x + z) :: st, mem, 0) := q_s (.ok (.iadd, 1)) (by decide +kernel) rfl
theorem r62_20 : pR X d 62 0 Q (20, L, .int z :: .int x :: .ref a :: st, mem, 0) = wi mem a x z (fun mem => pR X d 62 0 Q (21, L, st, mem, 0)) := q_wi (by decide +kernel)
theorem r62_21 : pR X d 62 0 Q (21, L, [], mem, 0) = Q none mem := q_retv (by decide +kernel) rfl
theorem r63_0 : pR X d 63 0 Q (0, [l0, some (.int x), l2, l3, l4], st, mem, 0) = pR X d 63 0 Q (1, [l0, some (.int x), l2, l3, l4], .int x :: st, mem, 0) := q_s (.ok (.iload_n 1, 1)) (by decide +kernel) rfl
theorem r63_1 : pR X d 63 0 Q (1, L, st, mem, 0) = pR X d 63 0 Q (2, L, .int (iI (0)) :: st, mem, 0) := q_ic (by decide +kernel)
theorem r63_2 : pR X d 63 0 Q (2, L, st, mem, 0) = pR X d 63 0 Q (4, L, .int (iI (60)) :: st, mem, 0) := q_bi (n := 60) (by decide +kernel) (by decide +kernel)
theorem r63_4 : pR X d 63 0 Q (4, L, .int y2 :: .int y1 :: .int y0 :: [], mem, 0) = Cw X d 7 [.int y0, .int y1, .int y2] mem (fun r mem => pR X d 63 0 Q (7, L, r.toList ++ [], mem, 0)) := q_stat (ix := 52) (kd := 1) (y2 := 7) (as := [.int y2, .int y1, .int y0]) (by decide +kernel) (by decide +kernel) (by decide) rfl rfl rfl (Nat.le_of_ble_eq_true rfl) (by decide)
theorem r63_7 : pR X d 63 0 Q (7, L, .int x :: st, mem, 0) = ((¬ x = 0 → pR X d 63 0 Q (16, L, st, mem, 0)) ∧ (¬ (¬ x = 0) → pR X d 63 0 Q (10, L, st, mem, 0))) := r_if (c := .ne) (off := 9) (by decide +kernel) (by decide)
theorem r63_10 : pR X d 63 0 Q (10, [some (.ref a), l1, l2, l3, l4], st, mem, 0) = pR X d 63 0 Q (11, [some (.ref a), l1, l2, l3, l4], .ref a :: st, mem, 0) := q_s (.ok (.aload_n 0, 1)) (by decide +kernel) rfl
theorem r63_11 : pR X d 63 0 Q (11, L, st, mem, 0) = pR X d 63 0 Q (12, L, .int (iI (0)) :: st, mem, 0) := q_ic (by decide +kernel)
theorem r63_12 : pR X d 63 0 Q (12, L, .int y0 :: .ref a :: [], mem, 0) = (prcv mem 4 a ∧ Cw X d 8 [.ref a, .int y0] mem (fun r mem => pR X d 63 0 Q (15, L, r.toList ++ [], mem, 0))) := q_virt (ix := 59) (y2 := 8) (as := [.int y0]) (by decide +kernel) (by decide +kernel) rfl rfl rfl (Nat.le_of_ble_eq_true rfl) (by decide)
theorem r63_15 : pR X d 63 0 Q (15, L, [.int x], mem, 0) = Q (some (.int x)) mem := q_reti (by decide +kernel) rfl
theorem r63_16 : pR X d 63 0 Q (16, L, st, mem, 0) = pR X d 63 0 Q (17, L, .int (iI (2)) :: st, mem, 0) := q_ic (by decide +kernel)
theorem r63_17 : pR X d 63 0 Q (17, [l0, l1, l2, l3, l4], .int x :: st, mem, 0) = pR X d 63 0 Q (18, [l0, cl1 l1, some (.int x), l3, l4], st, mem, 0) := q_s (.ok (.istore_n 2, 1)) (by decide +kernel) rfl
theorem r63_18 : pR X d 63 0 Q (18, L, st, mem, 0) = pR X d 63 0 Q (19, L, .int (iI (-1)) :: st, mem, 0) := q_ic (by decide +kernel)
theorem r63_19 : pR X d 63 0 Q (19, [l0, l1, l2, l3, l4], .int x :: st, mem, 0) = pR X d 63 0 Q (20, [l0, l1, cl1 l2, some (.int x), l4], st, mem, 0) := q_s (.ok (.istore_n 3, 1)) (by decide +kernel) rfl
theorem r63_20 : pR X d 63 0 Q (20, L, st, mem, 0) = pR X d 63 0 Q (21, L, .int (iI (2)) :: st, mem, 0) := q_ic (by decide +kernel)
theorem r63_21 : pR X d 63 0 Q (21, [l0, l1, l2, l3, l4], .int x :: st, mem, 0) = pR X d 63 0 Q (23, [l0, l1, l2, cl1 l3, some (.int x)], st, mem, 0) := q_s (.ok (.istore 4, 2)) (by decide +kernel) rfl
theorem r63_23 : pR X d 63 0 Q (23, [l0, l1, l2, l3, some (.int x)], st, mem, 0) = pR X d 63 0 Q (25, [l0, l1, l2, l3, some (.int x)], .int x :: st, mem, 0) := q_s (.ok (.iload 4, 2)) (by decide +kernel) rfl
theorem r63_25 : pR X d 63 0 Q (25, L, st, mem, 0) = pR X d 63 0 Q (27, L, .int (iI (30)) :: st, mem, 0) := q_bi (n := 30) (by decide +kernel) (by decide +kernel)
theorem r63_27 : pR X d 63 0 Q (27, L, .int z :: .int x :: st, mem, 0) = ((z < x → pR X d 63 0 Q (86, L, st, mem, 0)) ∧ (¬ (z < x) → pR X d 63 0 Q (30, L, st, mem, 0))) := r_ic (c := .gt) (off := 59) (by decide +kernel) (by decide)
theorem r63_30 : pR X d 63 0 Q (30, [some (.ref a), l1, l2, l3, l4], st, mem, 0) = pR X d 63 0 Q (31, [some (.ref a), l1, l2, l3, l4], .ref a :: st, mem, 0) := q_s (.ok (.aload_n 0, 1)) (by decide +kernel) rfl
theorem r63_31 : pR X d 63 0 Q (31, L, .ref a :: st, mem, 0) = gf mem a 4 1 (fun p => pR X d 63 0 Q (34, L, p :: st, mem, 0)) := q_get (ix := 16) (by decide +kernel) (by decide +kernel)
theorem r63_34 : pR X d 63 0 Q (34, [some (.ref a), l1, l2, l3, l4], st, mem, 0) = pR X d 63 0 Q (35, [some (.ref a), l1, l2, l3, l4], .ref a :: st, mem, 0) := q_s (.ok (.aload_n 0, 1)) (by decide +kernel) rfl
theorem r63_35 : pR X d 63 0 Q (35, L, .ref a :: st, mem, 0) = gf mem a 4 0 (fun p => pR X d 63 0 Q (38, L, p :: st, mem, 0)) := q_get (ix := 10) (by decide +kernel) (by decide +kernel)
theorem r63_38 : pR X d 63 0 Q (38, L, .ref b0 :: .ref a :: [], mem, 0) = (prcv mem 3 a ∧ Cw X d 53 [.ref a, .ref b0] mem (fun r mem => pR X d 63 0 Q (41, L, r.toList ++ [], mem, 0))) := q_virt (ix := 143) (y2 := 53) (as := [.ref b0]) (by decide +kernel) (by decide +kernel) rfl rfl rfl (Nat.le_of_ble_eq_true rfl) (by decide)
theorem r63_41 : pR X d 63 0 Q (41, [some (.ref a), l1, l2, l3, l4], st, mem, 0) = pR X d 63 0 Q (42, [some (.ref a), l1, l2, l3, l4], .ref a :: st, mem, 0) := q_s (.ok (.aload_n 0, 1)) (by decide +kernel) rfl
theorem r63_42 : pR X d 63 0 Q (42, L, .ref a :: st, mem, 0) = gf mem a 4 1 (fun p => pR X d 63 0 Q (45, L, p :: st, mem, 0)) := q_get (ix := 16) (by decide +kernel) (by decide +kernel)
theorem r63_45 : pR X d 63 0 Q (45, [l0, l1, l2, l3, some (.int x)], st, mem, 0) = pR X d 63 0 Q (47, [l0, l1, l2, l3, some (.int x)], .int x :: st, mem, 0) := q_s (.ok (.iload 4, 2)) (by decide +kernel) rfl
theorem r63_47 : pR X d 63 0 Q (47, L, p :: .ref a :: st, mem, 0) = pf 63 mem a 3 0 p (fun mem => pR X d 63 0 Q (50, L, st, mem, 0)) := q_put (ix := 48) (by decide +kernel) (by decide +kernel) (by decide)
theorem r63_50 : pR X d 63 0 Q (50, [some (.ref a), l1, l2, l3, l4], st, mem, 0) = pR X d 63 0 Q (51, [some (.ref a), l1, l2, l3, l4], .ref a :: st, mem, 0) := q_s (.ok (.aload_n 0, 1)) (by decide +kernel) rfl
theorem r63_51 : pR X d 63 0 Q (51, L, .ref a :: st, mem, 0) = gf mem a 4 1 (fun p => pR X d 63 0 Q (54, L, p :: st, mem, 0)) := q_get (ix := 16) (by decide +kernel) (by decide +kernel)
theorem r63_54 : pR X d 63 0 Q (54, [l0, some (.int x), l2, l3, l4], st, mem, 0) = pR X d 63 0 Q (55, [l0, some (.int x), l2, l3, l4], .int x :: st, mem, 0) := q_s (.ok (.iload_n 1, 1)) (by decide +kernel) rfl
theorem r63_55 : pR X d 63 0 Q (55, L, .int y0 :: .ref a :: [], mem, 0) = (prcv mem 3 a ∧ Cw X d 40 [.ref a, .int y0] mem (fun r mem => pR X d 63 0 Q (58, L, r.toList ++ [], mem, 0))) := q_virt (ix := 126) (y2 := 40) (as := [.int y0]) (by decide +kernel) (by decide +kernel) rfl rfl rfl (Nat.le_of_ble_eq_true rfl) (by decide)
theorem r63_58 : pR X d 63 0 Q (58, [some (.ref a), l1, l2, l3, l4], st, mem, 0) = pR X d 63 0 Q (59, [some (.ref a), l1, l2, l3, l4], .ref a :: st, mem, 0) := q_s (.ok (.aload_n 0, 1)) (by decide +kernel) rfl
theorem r63_59 : pR X d 63 0 Q (59, L, .ref a :: st, mem, 0) = gf mem a 4 1 (fun p => pR X d 63 0 Q (62, L, p :: st, mem, 0)) := q_get (ix := 16) (by decide +kernel) (by decide +kernel)
theorem r63_62 : pR X d 63 0 Q (62, L, .ref a :: [], mem, 0) = (prcv mem 3 a ∧ Cw X d 47 [.ref a] mem (fun r mem => pR X d 63 0 Q (65, L, r.toList ++ [], mem, 0))) := q_virt (ix := 130) (y2 := 47) (as := []) (by decide +kernel) (by decide +kernel) rfl rfl rfl (Nat.le_of_ble_eq_true rfl) (by decide)
theorem r63_65 : pR X d 63 0 Q (65, [l0, l1, l2, some (.int x), l4], st, mem, 0) = pR X d 63 0 Q (66, [l0, l1, l2, some (.int x), l4], .int x :: st, mem, 0) := q_s (.ok (.iload_n 3, 1)) (by decide +kernel) rfl
theorem r63_66 : pR X d 63 0 Q (66, L, .int z :: .int x :: st, mem, 0) = ((x ≤ z → pR X d 63 0 Q (80, L, st, mem, 0)) ∧ (¬ (x ≤ z) → pR X d 63 0 Q (69, L, st, mem, 0))) := r_ic (c := .le) (off := 14) (by decide +kernel) (by decide)
theorem r63_69 : pR X d 63 0 Q (69, [some (.ref a), l1, l2, l3, l4], st, mem, 0) = pR X d 63 0 Q (70, [some (.ref a), l1, l2, l3, l4], .ref a :: st, mem, 0) := q_s (.ok (.aload_n 0, 1)) (by decide +kernel) rfl
theorem r63_70 : pR X d 63 0 Q (70, L, .ref a :: st, mem, 0) = gf mem a 4 1 (fun p => pR X d 63 0 Q (73, L, p :: st, mem, 0)) := q_get (ix := 16) (by decide +kernel) (by decide +kernel)
theorem r63_73 : pR X d 63 0 Q (73, L, .ref a :: [], mem, 0) = (prcv mem 3 a ∧ Cw X d 47 [.ref a] mem (fun r mem => pR X d 63 0 Q (76, L, r.toList ++ [], mem, 0))) := q_virt (ix := 130) (y2 := 47) (as := []) (by decide +kernel) (by decide +kernel) rfl rfl rfl (Nat.le_of_ble_eq_true rfl) (by decide)
theorem r63_76 : pR X d 63 0 Q (76, [l0, l1, l2, l3, l4], .int x :: st, mem, 0) = pR X d 63 0 Q (77, [l0, l1, cl1 l2, some (.int x), l4], st, mem, 0) := q_s (.ok (.istore_n 3, 1)) (by decide +kernel) rfl
theorem r63_77 : pR X d 63 0 Q (77, [l0, l1, l2, l3, some (.int x)], st, mem, 0) = pR X d 63 0 Q (79, [l0, l1, l2, l3, some (.int x)], .int x :: st, mem, 0) := q_s (.ok (.iload 4, 2)) (by decide +kernel) rfl
theorem r63_79 : pR X d 63 0 Q (79, [l0, l1, l2, l3, l4], .int x :: st, mem, 0) = pR X d 63 0 Q (80, [l0, cl1 l1, some (.int x), l3, l4], st, mem, 0) := q_s (.ok (.istore_n 2, 1)) (by decide +kernel) rfl
theorem r63_80 : pR X d 63 0 Q (80, [l0, l1, l2, l3, some (.int x)], st, mem, 0) = pR X d 63 0 Q (83, [l0, l1, l2, cl1 l3, some (.int (x + iI (1)))], st, mem, 0) := q_s (.ok (.iinc 4 (1), 3)) (by decide +kernel) rfl
theorem r63_83 : pR X d 63 0 Q (83, L, st, mem, 0) = pR X d 63 0 Q (23, L, st, mem, 0) := q_s (.ok (.goto (-60), 3)) (by decide +kernel) rfl
theorem r63_86 : pR X d 63 0 Q (86, [l0, l1, some (.int x), l3, l4], st, mem, 0) = pR X d 63 0 Q (87, [l0, l1, some (.int x), l3, l4], .int x :: st, mem, 0) := q_s (.ok (.iload_n 2, 1)) (by decide +kernel) rfl
theorem r63_87 : pR X d 63 0 Q (87, L, [.int x], mem, 0) = Q (some (.int x)) mem := q_reti (by decide +kernel) rfl
theorem r64_0 : pR X d 64 0 Q (0, [some (.ref a), l1, l2, l3, l4, l5], st, mem, 0) = pR X d 64 0 Q (1, [some (.ref a), l1, l2, l3, l4, l5], .ref a :: st, mem, 0) := q_s (.ok (.aload_n 0, 1)) (by decide +kernel) rfl
theorem r64_1 : pR X d 64 0 Q (1, L, .ref a :: st, mem, 0) = gf mem a 4 0 (fun p => pR X d 64 0 Q (4, L, p :: st, mem, 0)) := q_get (ix := 10) (by decide +kernel) (by decide +kernel)
theorem r64_4 : pR X d 64 0 Q (4, [l0, some (.int x), l2, l3, l4, l5], st, mem, 0) = pR X d 64 0 Q (5, [l0, some (.int x), l2, l3, l4, l5], .int x :: st, mem, 0) := q_s (.ok (.iload_n 1, 1)) (by decide +kernel) rfl
theorem r64_5 : pR X d 64 0 Q (5, L, .int y0 :: .ref a :: [], mem, 0) = (prcv mem 3 a ∧ Cw X d 20 [.ref a, .int y0] mem (fun r mem => pR X d 64 0 Q (8, L, r.toList ++ [], mem, 0))) := q_virt (ix := 83) (y2 := 20) (as := [.int y0]) (by decide +kernel) (by decide +kernel) rfl rfl rfl (Nat.le_of_ble_eq_true rfl) (by decide)
theorem r64_8 : pR X d 64 0 Q (8, L, .int x :: st, mem, 0) = ((x = 0 → pR X d 64 0 Q (21, L, st, mem, 0)) ∧ (¬ (x = 0) → pR X d 64 0 Q (11, L, st, mem, 0))) := r_if (c := .eq) (off := 13) (by decide +kernel) (by decide)
theorem r64_11 : pR X d 64 0 Q (11, [l0, l1, some (.int x), l3, l4, l5], st, mem, 0) = pR X d 64 0 Q (12, [l0, l1, some (.int x), l3, l4, l5], .int x :: st, mem, 0) := q_s (.ok (.iload_n 2, 1)) (by decide +kernel) rfl
theorem r64_12 : pR X d 64 0 Q (12, L, st, mem, 0) = pR X d 64 0 Q (13, L, .int (iI (0)) :: st, mem, 0) := q_ic (by decide +kernel)
theorem r64_13 : pR X d 64 0 Q (13, L, st, mem, 0) = pR X d 64 0 Q (15, L, .int (iI (60)) :: st, mem, 0) := q_bi (n := 60) (by decide +kernel) (by decide +kernel)
theorem r64_15 : pR X d 64 0 Q (15, L, .int y2 :: .int y1 :: .int y0 :: [], mem, 0) = Cw X d 7 [.int y0, .int y1, .int y2] mem (fun r mem => pR X d 64 0 Q (18, L, r.toList ++ [], mem, 0)) := q_stat (ix := 52) (kd := 1) (y2 := 7) (as := [.int y2, .int y1, .int y0]) (by decide +kernel) (by decide +kernel) (by decide) rfl rfl rfl (Nat.le_of_ble_eq_true rfl) (by decide)
theorem r64_18 : pR X d 64 0 Q (18, L, .int x :: st, mem, 0) = ((¬ x = 0 → pR X d 64 0 Q (27, L, st, mem, 0)) ∧ (¬ (¬ x = 0) → pR X d 64 0 Q (21, L, st, mem, 0))) := r_if (c := .ne) (off := 9) (by decide +kernel) (by decide)
theorem r64_21 : pR X d 64 0 Q (21, [some (.ref a), l1, l2, l3, l4, l5], st, mem, 0) = pR X d 64 0 Q (22, [some (.ref a), l1, l2, l3, l4, l5], .ref a :: st, mem, 0) := q_s (.ok (.aload_n 0, 1)) (by decide +kernel) rfl
theorem r64_22 : pR X d 64 0 Q (22, L, st, mem, 0) = pR X d 64 0 Q (23, L, .int (iI (0)) :: st, mem, 0) := q_ic (by decide +kernel)
theorem r64_23 : pR X d 64 0 Q (23, L, .int y0 :: .ref a :: [], mem, 0) = (prcv mem 4 a ∧ Cw X d 8 [.ref a, .int y0] mem (fun r mem => pR X d 64 0 Q (26, L, r.toList ++ [], mem, 0))) := q_virt (ix := 59) (y2 := 8) (as := [.int y0]) (by decide +kernel) (by decide +kernel) rfl rfl rfl (Nat.le_of_ble_eq_true rfl) (by decide)
theorem r64_26 : pR X d 64 0 Q (26, L, [.int x], mem, 0) = Q (some (.int x)) mem := q_reti (by decide +kernel) rfl
theorem r64_27 : pR X d 64 0 Q (27, L, st, mem, 0) = pR X d 64 0 Q (28, L, .int (iI (0)) :: st, mem, 0) := q_ic (by decide +kernel)
theorem r64_28 : pR X d 64 0 Q (28, [l0, l1, l2, l3, l4, l5], .int x :: st, mem, 0) = pR X d 64 0 Q (29, [l0, l1, cl1 l2, some (.int x), l4, l5], st, mem, 0) := q_s (.ok (.istore_n 3, 1)) (by decide +kernel) rfl
theorem r64_29 : pR X d 64 0 Q (29, L, st, mem, 0) = pR X d 64 0 Q (30, L, .int (iI (-1)) :: st, mem, 0) := q_ic (by decide +kernel)
theorem r64_30 : pR X d 64 0 Q (30, [l0, l1, l2, l3, l4, l5], .int x :: st, mem, 0) = pR X d 64 0 Q (32, [l0, l1, l2, cl1 l3, some (.int x), l5], st, mem, 0) := q_s (.ok (.istore 4, 2)) (by decide +kernel) rfl
theorem r64_32 : pR X d 64 0 Q (32, L, st, mem, 0) = pR X d 64 0 Q (33, L, .int (iI (0)) :: st, mem, 0) := q_ic (by decide +kernel)
theorem r64_33 : pR X d 64 0 Q (33, [l0, l1, l2, l3, l4, l5], .int x :: st, mem, 0) = pR X d 64 0 Q (35, [l0, l1, l2, l3, cl1 l4, some (.int x)], st, mem, 0) := q_s (.ok (.istore 5, 2)) (by decide +kernel) rfl
theorem r64_35 : pR X d 64 0 Q (35, [l0, l1, l2, l3, l4, some (.int x)], st, mem, 0) = pR X d 64 0 Q (37, [l0, l1, l2, l3, l4, some (.int x)], .int x :: st, mem, 0) := q_s (.ok (.iload 5, 2)) (by decide +kernel) rfl
theorem r64_37 : pR X d 64 0 Q (37, L, st, mem, 0) = pR X d 64 0 Q (39, L, .int (iI (7)) :: st, mem, 0) := q_bi (n := 7) (by decide +kernel) (by decide +kernel)
theorem r64_39 : pR X d 64 0 Q (39, L, .int z :: .int x :: st, mem, 0) = ((z ≤ x → pR X d 64 0 Q (107, L, st, mem, 0)) ∧ (¬ (z ≤ x) → pR X d 64 0 Q (42, L, st, mem, 0))) := r_ic (c := .ge) (off := 68) (by decide +kernel) (by decide)
theorem r64_42 : pR X d 64 0 Q (42, [some (.ref a), l1, l2, l3, l4, l5], st, mem, 0) = pR X d 64 0 Q (43, [some (.ref a), l1, l2, l3, l4, l5], .ref a :: st, mem, 0) := q_s (.ok (.aload_n 0, 1)) (by decide +kernel) rfl
theorem r64_43 : pR X d 64 0 Q (43, L, .ref a :: st, mem, 0) = gf mem a 4 1 (fun p => pR X d 64 0 Q (46, L, p :: st, mem, 0)) := q_get (ix := 16) (by decide +kernel) (by decide +kernel)
theorem r64_46 : pR X d 64 0 Q (46, [some (.ref a), l1, l2, l3, l4, l5], st, mem, 0) = pR X d 64 0 Q (47, [some (.ref a), l1, l2, l3, l4, l5], .ref a :: st, mem, 0) := q_s (.ok (.aload_n 0, 1)) (by decide +kernel) rfl
theorem r64_47 : pR X d 64 0 Q (47, L, .ref a :: st, mem, 0) = gf mem a 4 0 (fun p => pR X d 64 0 Q (50, L, p :: st, mem, 0)) := q_get (ix := 10) (by decide +kernel) (by decide +kernel)
theorem r64_50 : pR X d 64 0 Q (50, L, .ref b0 :: .ref a :: [], mem, 0) = (prcv mem 3 a ∧ Cw X d 53 [.ref a, .ref b0] mem (fun r mem => pR X d 64 0 Q (53, L, r.toList ++ [], mem, 0))) := q_virt (ix := 143) (y2 := 53) (as := [.ref b0]) (by decide +kernel) (by decide +kernel) rfl rfl rfl (Nat.le_of_ble_eq_true rfl) (by decide)
theorem r64_53 : pR X d 64 0 Q (53, [some (.ref a), l1, l2, l3, l4, l5], st, mem, 0) = pR X d 64 0 Q (54, [some (.ref a), l1, l2, l3, l4, l5], .ref a :: st, mem, 0) := q_s (.ok (.aload_n 0, 1)) (by decide +kernel) rfl
theorem r64_54 : pR X d 64 0 Q (54, L, .ref a :: st, mem, 0) = gf mem a 4 1 (fun p => pR X d 64 0 Q (57, L, p :: st, mem, 0)) := q_get (ix := 16) (by decide +kernel) (by decide +kernel)
theorem r64_57 : pR X d 64 0 Q (57, L, .ref a :: st, mem, 0) = gf mem a 3 5 (fun p => pR X d 64 0 Q (60, L, p :: st, mem, 0)) := q_get (ix := 92) (by decide +kernel) (by decide +kernel)
theorem r64_60 : pR X d 64 0 Q (60, [l0, some (.int x), l2, l3, l4, l5], st, mem, 0) = pR X d 64 0 Q (61, [l0, some (.int x), l2, l3, l4, l5], .int x :: st, mem, 0) := q_s (.ok (.iload_n 1, 1)) (by decide +kernel) rfl
theorem r64_61 : pR X d 64 0 Q (61, L, .int x :: .ref a :: st, mem, 0) = ra mem a x (fun b => pR X d 64 0 Q (62, L, .ref b :: st, mem, 0)) := q_ra (by decide +kernel)
theorem r64_62 : pR X d 64 0 Q (62, [l0, l1, l2, l3, l4, some (.int x)], st, mem, 0) = pR X d 64 0 Q (64, [l0, l1, l2, l3, l4, some (.int x)], .int x :: st, mem, 0) := q_s (.ok (.iload 5, 2)) (by decide +kernel) rfl
theorem r64_64 : pR X d 64 0 Q (64, L, p :: .ref a :: st, mem, 0) = pf 64 mem a 0 0 p (fun mem => pR X d 64 0 Q (67, L, st, mem, 0)) := q_put (ix := 153) (by decide +kernel) (by decide +kernel) (by decide)
theorem r64_67 : pR X d 64 0 Q (67, [some (.ref a), l1, l2, l3, l4, l5], st, mem, 0) = pR X d 64 0 Q (68, [some (.ref a), l1, l2, l3, l4, l5], .ref a :: st, mem, 0) := q_s (.ok (.aload_n 0, 1)) (by decide +kernel) rfl
theorem r64_68 : pR X d 64 0 Q (68, L, .ref a :: st, mem, 0) = gf mem a 4 1 (fun p => pR X d 64 0 Q (71, L, p :: st, mem, 0)) := q_get (ix := 16) (by decide +kernel) (by decide +kernel)
theorem r64_71 : pR X d 64 0 Q (71, [l0, l1, some (.int x), l3, l4, l5], st, mem, 0) = pR X d 64 0 Q (72, [l0, l1, some (.int x), l3, l4, l5], .int x :: st, mem, 0) := q_s (.ok (.iload_n 2, 1)) (by decide +kernel) rfl
theorem r64_72 : pR X d 64 0 Q (72, L, .int y0 :: .ref a :: [], mem, 0) = (prcv mem 3 a ∧ Cw X d 40 [.ref a, .int y0] mem (fun r mem => pR X d 64 0 Q (75, L, r.toList ++ [], mem, 0))) := q_virt (ix := 126) (y2 := 40) (as := [.int y0]) (by decide +kernel) (by decide +kernel) rfl rfl rfl (Nat.le_of_ble_eq_true rfl) (by decide)
theorem r64_75 : pR X d 64 0 Q (75, [some (.ref a), l1, l2, l3, l4, l5], st, mem, 0) = pR X d 64 0 Q (76, [some (.ref a), l1, l2, l3, l4, l5], .ref a :: st, mem, 0) := q_s (.ok (.aload_n 0, 1)) (by decide +kernel) rfl
theorem r64_76 : pR X d 64 0 Q (76, L, .ref a :: st, mem, 0) = gf mem a 4 1 (fun p => pR X d 64 0 Q (79, L, p :: st, mem, 0)) := q_get (ix := 16) (by decide +kernel) (by decide +kernel)
theorem r64_79 : pR X d 64 0 Q (79, [l0, some (.int x), l2, l3, l4, l5], st, mem, 0) = pR X d 64 0 Q (80, [l0, some (.int x), l2, l3, l4, l5], .int x :: st, mem, 0) := q_s (.ok (.iload_n 1, 1)) (by decide +kernel) rfl
theorem r64_80 : pR X d 64 0 Q (80, L, .int y0 :: .ref a :: [], mem, 0) = (prcv mem 3 a ∧ Cw X d 22 [.ref a, .int y0] mem (fun r mem => pR X d 64 0 Q (83, L, r.toList ++ [], mem, 0))) := q_virt (ix := 156) (y2 := 22) (as := [.int y0]) (by decide +kernel) (by decide +kernel) rfl rfl rfl (Nat.le_of_ble_eq_true rfl) (by decide)
theorem r64_83 : pR X d 64 0 Q (83, [l0, l1, l2, l3, some (.int x), l5], st, mem, 0) = pR X d 64 0 Q (85, [l0, l1, l2, l3, some (.int x), l5], .int x :: st, mem, 0) := q_s (.ok (.iload 4, 2)) (by decide +kernel) rfl
theorem r64_85 : pR X d 64 0 Q (85, L, .int z :: .int x :: st, mem, 0) = ((x ≤ z → pR X d 64 0 Q (101, L, st, mem, 0)) ∧ (¬ (x ≤ z) → pR X d 64 0 Q (88, L, st, mem, 0))) := r_ic (c := .le) (off := 16) (by decide +kernel) (by decide)
theorem r64_88 : pR X d 64 0 Q (88, [some (.ref a), l1, l2, l3, l4, l5], st, mem, 0) = pR X d 64 0 Q (89, [some (.ref a), l1, l2, l3, l4, l5], .ref a :: st, mem, 0) := q_s (.ok (.aload_n 0, 1)) (by decide +kernel) rfl
theorem r64_89 : pR X d 64 0 Q (89, L, .ref a :: st, mem, 0) = gf mem a 4 1 (fun p => pR X d 64 0 Q (92, L, p :: st, mem, 0)) := q_get (ix := 16) (by decide +kernel) (by decide +kernel)
theorem r64_92 : pR X d 64 0 Q (92, [l0, some (.int x), l2, l3, l4, l5], st, mem, 0) = pR X d 64 0 Q (93, [l0, some (.int x), l2, l3, l4, l5], .int x :: st, mem, 0) := q_s (.ok (.iload_n 1, 1)) (by decide +kernel) rfl
theorem r64_93 : pR X d 64 0 Q (93, L, .int y0 :: .ref a :: [], mem, 0) = (prcv mem 3 a ∧ Cw X d 22 [.ref a, .int y0] mem (fun r mem => pR X d 64 0 Q (96, L, r.toList ++ [], mem, 0))) := q_virt (ix := 156) (y2 := 22) (as := [.int y0]) (by decide +kernel) (by decide +kernel) rfl rfl rfl (Nat.le_of_ble_eq_true rfl) (by decide)
theorem r64_96 : pR X d 64 0 Q (96, [l0, l1, l2, l3, l4, l5], .int x :: st, mem, 0) = pR X d 64 0 Q (98, [l0, l1, l2, cl1 l3, some (.int x), l5], st, mem, 0) := q_s (.ok (.istore 4, 2)) (by decide +kernel) rfl
theorem r64_98 : pR X d 64 0 Q (98, [l0, l1, l2, l3, l4, some (.int x)], st, mem, 0) = pR X d 64 0 Q (100, [l0, l1, l2, l3, l4, some (.int x)], .int x :: st, mem, 0) := q_s (.ok (.iload 5, 2)) (by decide +kernel) rfl
theorem r64_100 : pR X d 64 0 Q (100, [l0, l1, l2, l3, l4, l5], .int x :: st, mem, 0) = pR X d 64 0 Q (101, [l0, l1, cl1 l2, some (.int x), l4, l5], st, mem, 0) := q_s (.ok (.istore_n 3, 1)) (by decide +kernel) rfl
theorem r64_101 : pR X d 64 0 Q (101, [l0, l1, l2, l3, l4, some (.int x)], st, mem, 0) = pR X d 64 0 Q (104, [l0, l1, l2, l3, cl1 l4, some (.int (x + iI (1)))], st, mem, 0) := q_s (.ok (.iinc 5 (1), 3)) (by decide +kernel) rfl
theorem r64_104 : pR X d 64 0 Q (104, L, st, mem, 0) = pR X d 64 0 Q (35, L, st, mem, 0) := q_s (.ok (.goto (-69), 3)) (by decide +kernel) rfl
theorem r64_107 : pR X d 64 0 Q (107, [l0, l1, l2, some (.int x), l4, l5], st, mem, 0) = pR X d 64 0 Q (108, [l0, l1, l2, some (.int x), l4, l5], .int x :: st, mem, 0) := q_s (.ok (.iload_n 3, 1)) (by decide +kernel) rfl
theorem r64_108 : pR X d 64 0 Q (108, L, [.int x], mem, 0) = Q (some (.int x)) mem := q_reti (by decide +kernel) rfl
theorem r65_0 : pR X d 65 0 Q (0, [some (.ref a), l1, l2, l3], st, mem, 0) = pR X d 65 0 Q (1, [some (.ref a), l1, l2, l3], .ref a :: st, mem, 0) := q_s (.ok (.aload_n 0, 1)) (by decide +kernel) rfl
theorem r65_1 : pR X d 65 0 Q (1, L, .ref a :: st, mem, 0) = gf mem a 4 0 (fun p => pR X d 65 0 Q (4, L, p :: st, mem, 0)) := q_get (ix := 10) (by decide +kernel) (by decide +kernel)
theorem r65_4 : pR X d 65 0 Q (4, [l0, some (.int x), l2, l3], st, mem, 0) = pR X d 65 0 Q (5, [l0, some (.int x), l2, l3], .int x :: st, mem, 0) := q_s (.ok (.iload_n 1, 1)) (by decide +kernel) rfl
theorem r65_5 : pR X d 65 0 Q (5, L, .int y0 :: .ref a :: [], mem, 0) = (prcv mem 3 a ∧ Cw X d 20 [.ref a, .int y0] mem (fun r mem => pR X d 65 0 Q (8, L, r.toList ++ [], mem, 0))) := q_virt (ix := 83) (y2 := 20) (as := [.int y0]) (by decide +kernel) (by decide +kernel) rfl rfl rfl (Nat.le_of_ble_eq_true rfl) (by decide)
theorem r65_8 : pR X d 65 0 Q (8, L, .int x :: st, mem, 0) = ((x = 0 → pR X d 65 0 Q (21, L, st, mem, 0)) ∧ (¬ (x = 0) → pR X d 65 0 Q (11, L, st, mem, 0))) := r_if (c := .eq) (off := 13) (by decide +kernel) (by decide)
theorem r65_11 : pR X d 65 0 Q (11, [l0, l1, some (.int x), l3], st, mem, 0) = pR X d 65 0 Q (12, [l0, l1, some (.int x), l3], .int x :: st, mem, 0) := q_s (.ok (.iload_n 2, 1)) (by decide +kernel) rfl
theorem r65_12 : pR X d 65 0 Q (12, L, st, mem, 0) = pR X d 65 0 Q (13, L, .int (iI (0)) :: st, mem, 0) := q_ic (by decide +kernel)
theorem r65_13 : pR X d 65 0 Q (13, L, st, mem, 0) = pR X d 65 0 Q (15, L, .int (iI (40)) :: st, mem, 0) := q_bi (n := 40) (by decide +kernel) (by decide +kernel)
theorem r65_15 : pR X d 65 0 Q (15, L, .int y2 :: .int y1 :: .int y0 :: [], mem, 0) = Cw X d 7 [.int y0, .int y1, .int y2] mem (fun r mem => pR X d 65 0 Q (18, L, r.toList ++ [], mem, 0)) := q_stat (ix := 52) (kd := 1) (y2 := 7) (as := [.int y2, .int y1, .int y0]) (by decide +kernel) (by decide +kernel) (by decide) rfl rfl rfl (Nat.le_of_ble_eq_true rfl) (by decide)
theorem r65_18 : pR X d 65 0 Q (18, L, .int x :: st, mem, 0) = ((¬ x = 0 → pR X d 65 0 Q (27, L, st, mem, 0)) ∧ (¬ (¬ x = 0) → pR X d 65 0 Q (21, L, st, mem, 0))) := r_if (c := .ne) (off := 9) (by decide +kernel) (by decide)
theorem r65_21 : pR X d 65 0 Q (21, [some (.ref a), l1, l2, l3], st, mem, 0) = pR X d 65 0 Q (22, [some (.ref a), l1, l2, l3], .ref a :: st, mem, 0) := q_s (.ok (.aload_n 0, 1)) (by decide +kernel) rfl
theorem r65_22 : pR X d 65 0 Q (22, L, st, mem, 0) = pR X d 65 0 Q (23, L, .int (iI (0)) :: st, mem, 0) := q_ic (by decide +kernel)
theorem r65_23 : pR X d 65 0 Q (23, L, .int y0 :: .ref a :: [], mem, 0) = (prcv mem 4 a ∧ Cw X d 8 [.ref a, .int y0] mem (fun r mem => pR X d 65 0 Q (26, L, r.toList ++ [], mem, 0))) := q_virt (ix := 59) (y2 := 8) (as := [.int y0]) (by decide +kernel) (by decide +kernel) rfl rfl rfl (Nat.le_of_ble_eq_true rfl) (by decide)
theorem r65_26 : pR X d 65 0 Q (26, L, [.int x], mem, 0) = Q (some (.int x)) mem := q_reti (by decide +kernel) rfl
theorem r65_27 : pR X d 65 0 Q (27, L, st, mem, 0) = pR X d 65 0 Q (28, L, .int (iI (0)) :: st, mem, 0) := q_ic (by decide +kernel)
theorem r65_28 : pR X d 65 0 Q (28, [l0, l1, l2, l3], .int x :: st, mem, 0) = pR X d 65 0 Q (29, [l0, l1, cl1 l2, some (.int x)], st, mem, 0) := q_s (.ok (.istore_n 3, 1)) (by decide +kernel) rfl
theorem r65_29 : pR X d 65 0 Q (29, [l0, l1, l2, some (.int x)], st, mem, 0) = pR X d 65 0 Q (30, [l0, l1, l2, some (.int x)], .int x :: st, mem, 0) := q_s (.ok (.iload_n 3, 1)) (by decide +kernel) rfl
theorem r65_30 : pR X d 65 0 Q (30, L, st, mem, 0) = pR X d 65 0 Q (33, L, .int (iI (999)) :: st, mem, 0) := q_si (n := 999) (by decide +kernel) (by decide +kernel)
theorem r65_33 : pR X d 65 0 Q (33, L, .int z :: .int x :: st, mem, 0) = ((z < x → pR X d 65 0 Q (91, L, st, mem, 0)) ∧ (¬ (z < x) → pR X d 65 0 Q (36, L, st, mem, 0))) := r_ic (c := .gt) (off := 58) (by decide +kernel) (by decide)
theorem r65_36 : pR X d 65 0 Q (36, [some (.ref a), l1, l2, l3], st, mem, 0) = pR X d 65 0 Q (37, [some (.ref a), l1, l2, l3], .ref a :: st, mem, 0) := q_s (.ok (.aload_n 0, 1)) (by decide +kernel) rfl
theorem r65_37 : pR X d 65 0 Q (37, L, .ref a :: st, mem, 0) = gf mem a 4 1 (fun p => pR X d 65 0 Q (40, L, p :: st, mem, 0)) := q_get (ix := 16) (by decide +kernel) (by decide +kernel)
theorem r65_40 : pR X d 65 0 Q (40, [some (.ref a), l1, l2, l3], st, mem, 0) = pR X d 65 0 Q (41, [some (.ref a), l1, l2, l3], .ref a :: st, mem, 0) := q_s (.ok (.aload_n 0, 1)) (by decide +kernel) rfl
theorem r65_41 : pR X d 65 0 Q (41, L, .ref a :: st, mem, 0) = gf mem a 4 0 (fun p => pR X d 65 0 Q (44, L, p :: st, mem, 0)) := q_get (ix := 10) (by decide +kernel) (by decide +kernel)
theorem r65_44 : pR X d 65 0 Q (44, L, .ref b0 :: .ref a :: [], mem, 0) = (prcv mem 3 a ∧ Cw X d 53 [.ref a, .ref b0] mem (fun r mem => pR X d 65 0 Q (47, L, r.toList ++ [], mem, 0))) := q_virt (ix := 143) (y2 := 53) (as := [.ref b0]) (by decide +kernel) (by decide +kernel) rfl rfl rfl (Nat.le_of_ble_eq_true rfl) (by decide)
theorem r65_47 : pR X d 65 0 Q (47, [some (.ref a), l1, l2, l3], st, mem, 0) = pR X d 65 0 Q (48, [some (.ref a), l1, l2, l3], .ref a :: st, mem, 0) := q_s (.ok (.aload_n 0, 1)) (by decide +kernel) rfl
theorem r65_48 : pR X d 65 0 Q (48, L, .ref a :: st, mem, 0) = gf mem a 4 1 (fun p => pR X d 65 0 Q (51, L, p :: st, mem, 0)) := q_get (ix := 16) (by decide +kernel) (by decide +kernel)
theorem r65_51 : pR X d 65 0 Q (51, L, .ref a :: st, mem, 0) = gf mem a 3 5 (fun p => pR X d 65 0 Q (54, L, p :: st, mem, 0)) := q_get (ix := 92) (by decide +kernel) (by decide +kernel)
theorem r65_54 : pR X d 65 0 Q (54, [l0, some (.int x), l2, l3], st, mem, 0) = pR X d 65 0 Q (55, [l0, some (.int x), l2, l3], .int x :: st, mem, 0) := q_s (.ok (.iload_n 1, 1)) (by decide +kernel) rfl
theorem r65_55 : pR X d 65 0 Q (55, L, .int x :: .ref a :: st, mem, 0) = ra mem a x (fun b => pR X d 65 0 Q (56, L, .ref b :: st, mem, 0)) := q_ra (by decide +kernel)
theorem r65_56 : pR X d 65 0 Q (56, [l0, l1, l2, some (.int x)], st, mem, 0) = pR X d 65 0 Q (57, [l0, l1, l2, some (.int x)], .int x :: st, mem, 0) := q_s (.ok (.iload_n 3, 1)) (by decide +kernel) rfl
theorem r65_57 : pR X d 65 0 Q (57, L, p :: .ref a :: st, mem, 0) = pf 65 mem a 0 1 p (fun mem => pR X d 65 0 Q (60, L, st, mem, 0)) := q_put (ix := 159) (by decide +kernel) (by decide +kernel) (by decide)
theorem r65_60 : pR X d 65 0 Q (60, [some (.ref a), l1, l2, l3], st, mem, 0) = pR X d 65 0 Q (61, [some (.ref a), l1, l2, l3], .ref a :: st, mem, 0) := q_s (.ok (.aload_n 0, 1)) (by decide +kernel) rfl
theorem r65_61 : pR X d 65 0 Q (61, L, .ref a :: st, mem, 0) = gf mem a 4 1 (fun p => pR X d 65 0 Q (64, L, p :: st, mem, 0)) := q_get (ix := 16) (by decide +kernel) (by decide +kernel)
theorem r65_64 : pR X d 65 0 Q (64, [l0, l1, some (.int x), l3], st, mem, 0) = pR X d 65 0 Q (65, [l0, l1, some (.int x), l3], .int x :: st, mem, 0) := q_s (.ok (.iload_n 2, 1)) (by decide +kernel) rfl
theorem r65_65 : pR X d 65 0 Q (65, L, .int y0 :: .ref a :: [], mem, 0) = (prcv mem 3 a ∧ Cw X d 40 [.ref a, .int y0] mem (fun r mem => pR X d 65 0 Q (68, L, r.toList ++ [], mem, 0))) := q_virt (ix := 126) (y2 := 40) (as := [.int y0]) (by decide +kernel) (by decide +kernel) rfl rfl rfl (Nat.le_of_ble_eq_true rfl) (by decide)
theorem r65_68 : pR X d 65 0 Q (68, [some (.ref a), l1, l2, l3], st, mem, 0) = pR X d 65 0 Q (69, [some (.ref a), l1, l2, l3], .ref a :: st, mem, 0) := q_s (.ok (.aload_n 0, 1)) (by decide +kernel) rfl
theorem r65_69 : pR X d 65 0 Q (69, L, .ref a :: st, mem, 0) = gf mem a 4 1 (fun p => pR X d 65 0 Q (72, L, p :: st, mem, 0)) := q_get (ix := 16) (by decide +kernel) (by decide +kernel)
theorem r65_72 : pR X d 65 0 Q (72, L, .ref a :: st, mem, 0) = gf mem a 3 5 (fun p => pR X d 65 0 Q (75, L, p :: st, mem, 0)) := q_get (ix := 92) (by decide +kernel) (by decide +kernel)
theorem r65_75 : pR X d 65 0 Q (75, [l0, some (.int x), l2, l3], st, mem, 0) = pR X d 65 0 Q (76, [l0, some (.int x), l2, l3], .int x :: st, mem, 0) := q_s (.ok (.iload_n 1, 1)) (by decide +kernel) rfl
theorem r65_76 : pR X d 65 0 Q (76, L, .int x :: .ref a :: st, mem, 0) = ra mem a x (fun b => pR X d 65 0 Q (77, L, .ref b :: st, mem, 0)) := q_ra (by decide +kernel)
theorem r65_77 : pR X d 65 0 Q (77, L, .ref a :: st, mem, 0) = gf mem a 0 3 (fun p => pR X d 65 0 Q (80, L, p :: st, mem, 0)) := q_get (ix := 162) (by decide +kernel) (by decide +kernel)
theorem r65_80 : pR X d 65 0 Q (80, L, .int x :: st, mem, 0) = ((¬ x = 0 → pR X d 65 0 Q (85, L, st, mem, 0)) ∧ (¬ (¬ x = 0) → pR X d 65 0 Q (83, L, st, mem, 0))) := r_if (c := .ne) (off := 5) (by decide +kernel) (by decide)
theorem r65_83 : pR X d 65 0 Q (83, [l0, l1, l2, some (.int x)], st, mem, 0) = pR X d 65 0 Q (84, [l0, l1, l2, some (.int x)], .int x :: st, mem, 0) := q_s (.ok (.iload_n 3, 1)) (by decide +kernel) rfl
theorem r65_84 : pR X d 65 0 Q (84, L, [.int x], mem, 0) = Q (some (.int x)) mem := q_reti (by decide +kernel) rfl
theorem r65_85 : pR X d 65 0 Q (85, [l0, l1, l2, some (.int x)], st, mem, 0) = pR X d 65 0 Q (88, [l0, l1, cl1 l2, some (.int (x + iI (1)))], st, mem, 0) := q_s (.ok (.iinc 3 (1), 3)) (by decide +kernel) rfl
theorem r65_88 : pR X d 65 0 Q (88, L, st, mem, 0) = pR X d 65 0 Q (29, L, st, mem, 0) := q_s (.ok (.goto (-59), 3)) (by decide +kernel) rfl
theorem r65_91 : pR X d 65 0 Q (91, [some (.ref a), l1, l2, l3], st, mem, 0) = pR X d 65 0 Q (92, [some (.ref a), l1, l2, l3], .ref a :: st, mem, 0) := q_s (.ok (.aload_n 0, 1)) (by decide +kernel) rfl
theorem r65_92 : pR X d 65 0 Q (92, L, st, mem, 0) = pR X d 65 0 Q (93, L, .int (iI (3)) :: st, mem, 0) := q_ic (by decide +kernel)
theorem r65_93 : pR X d 65 0 Q (93, L, .int y0 :: .ref a :: [], mem, 0) = (prcv mem 4 a ∧ Cw X d 8 [.ref a, .int y0] mem (fun r mem => pR X d 65 0 Q (96, L, r.toList ++ [], mem, 0))) := q_virt (ix := 59) (y2 := 8) (as := [.int y0]) (by decide +kernel) (by decide +kernel) rfl rfl rfl (Nat.le_of_ble_eq_true rfl) (by decide)
theorem r65_96 : pR X d 65 0 Q (96, L, [.int x], mem, 0) = Q (some (.int x)) mem := q_reti (by decide +kernel) rfl
theorem r66_0 : pR X d 66 0 Q (0, [l0, some (.int x), l2, l3], st, mem, 0) = pR X d 66 0 Q (1, [l0, some (.int x), l2, l3], .int x :: st, mem, 0) := q_s (.ok (.iload_n 1, 1)) (by decide +kernel) rfl
theorem r66_1 : pR X d 66 0 Q (1, L, st, mem, 0) = pR X d 66 0 Q (2, L, .int (iI (0)) :: st, mem, 0) := q_ic (by decide +kernel)
theorem r66_2 : pR X d 66 0 Q (2, L, st, mem, 0) = pR X d 66 0 Q (4, L, .int (iI (20)) :: st, mem, 0) := q_bi (n := 20) (by decide +kernel) (by decide +kernel)
theorem r66_4 : pR X d 66 0 Q (4, L, .int y2 :: .int y1 :: .int y0 :: [], mem, 0) = Cw X d 7 [.int y0, .int y1, .int y2] mem (fun r mem => pR X d 66 0 Q (7, L, r.toList ++ [], mem, 0)) := q_stat (ix := 52) (kd := 1) (y2 := 7) (as := [.int y2, .int y1, .int y0]) (by decide +kernel) (by decide +kernel) (by decide) rfl rfl rfl (Nat.le_of_ble_eq_true rfl) (by decide)
theorem r66_7 : pR X d 66 0 Q (7, L, .int x :: st, mem, 0) = ((¬ x = 0 → pR X d 66 0 Q (16, L, st, mem, 0)) ∧ (¬ (¬ x = 0) → pR X d 66 0 Q (10, L, st, mem, 0))) := r_if (c := .ne) (off := 9) (by decide +kernel) (by decide)
theorem r66_10 : pR X d 66 0 Q (10, [some (.ref a), l1, l2, l3], st, mem, 0) = pR X d 66 0 Q (11, [some (.ref a), l1, l2, l3], .ref a :: st, mem, 0) := q_s (.ok (.aload_n 0, 1)) (by decide +kernel) rfl
theorem r66_11 : pR X d 66 0 Q (11, L, st, mem, 0) = pR X d 66 0 Q (12, L, .int (iI (0)) :: st, mem, 0) := q_ic (by decide +kernel)
theorem r66_12 : pR X d 66 0 Q (12, L, .int y0 :: .ref a :: [], mem, 0) = (prcv mem 4 a ∧ Cw X d 8 [.ref a, .int y0] mem (fun r mem => pR X d 66 0 Q (15, L, r.toList ++ [], mem, 0))) := q_virt (ix := 59) (y2 := 8) (as := [.int y0]) (by decide +kernel) (by decide +kernel) rfl rfl rfl (Nat.le_of_ble_eq_true rfl) (by decide)
theorem r66_15 : pR X d 66 0 Q (15, L, [.int x], mem, 0) = Q (some (.int x)) mem := q_reti (by decide +kernel) rfl
theorem r66_16 : pR X d 66 0 Q (16, L, st, mem, 0) = pR X d 66 0 Q (17, L, .int (iI (0)) :: st, mem, 0) := q_ic (by decide +kernel)
theorem r66_17 : pR X d 66 0 Q (17, [l0, l1, l2, l3], .int x :: st, mem, 0) = pR X d 66 0 Q (18, [l0, cl1 l1, some (.int x), l3], st, mem, 0) := q_s (.ok (.istore_n 2, 1)) (by decide +kernel) rfl
theorem r66_18 : pR X d 66 0 Q (18, [l0, l1, some (.int x), l3], st, mem, 0) = pR X d 66 0 Q (19, [l0, l1, some (.int x), l3], .int x :: st, mem, 0) := q_s (.ok (.iload_n 2, 1)) (by decide +kernel) rfl
theorem r66_19 : pR X d 66 0 Q (19, [some (.ref a), l1, l2, l3], st, mem, 0) = pR X d 66 0 Q (20, [some (.ref a), l1, l2, l3], .ref a :: st, mem, 0) := q_s (.ok (.aload_n 0, 1)) (by decide +kernel) rfl
theorem r66_20 : pR X d 66 0 Q (20, L, .ref a :: st, mem, 0) = gf mem a 4 0 (fun p => pR X d 66 0 Q (23, L, p :: st, mem, 0)) := q_get (ix := 10) (by decide +kernel) (by decide +kernel)
theorem r66_23 : pR X d 66 0 Q (23, L, .ref a :: st, mem, 0) = gf mem a 3 4 (fun p => pR X d 66 0 Q (26, L, p :: st, mem, 0)) := q_get (ix := 165) (by decide +kernel) (by decide +kernel)
theorem r66_26 : pR X d 66 0 Q (26, L, .int z :: .int x :: st, mem, 0) = ((z < x → pR X d 66 0 Q (75, L, st, mem, 0)) ∧ (¬ (z < x) → pR X d 66 0 Q (29, L, st, mem, 0))) := r_ic (c := .gt) (off := 49) (by decide +kernel) (by decide)
theorem r66_29 : pR X d 66 0 Q (29, L, st, mem, 0) = pR X d 66 0 Q (30, L, .int (iI (0)) :: st, mem, 0) := q_ic (by decide +kernel)
theorem r66_30 : pR X d 66 0 Q (30, [l0, l1, l2, l3], .int x :: st, mem, 0) = pR X d 66 0 Q (31, [l0, l1, cl1 l2, some (.int x)], st, mem, 0) := q_s (.ok (.istore_n 3, 1)) (by decide +kernel) rfl
theorem r66_31 : pR X d 66 0 Q (31, [l0, l1, l2, some (.int x)], st, mem, 0) = pR X d 66 0 Q (32, [l0, l1, l2, some (.int x)], .int x :: st, mem, 0) := q_s (.ok (.iload_n 3, 1)) (by decide +kernel) rfl
theorem r66_32 : pR X d 66 0 Q (32, L, st, mem, 0) = pR X d 66 0 Q (33, L, .int (iI (1)) :: st, mem, 0) := q_ic (by decide +kernel)
theorem r66_33 : pR X d 66 0 Q (33, [some (.ref a), l1, l2, l3], st, mem, 0) = pR X d 66 0 Q (34, [some (.ref a), l1, l2, l3], .ref a :: st, mem, 0) := q_s (.ok (.aload_n 0, 1)) (by decide +kernel) rfl
theorem r66_34 : pR X d 66 0 Q (34, L, .ref a :: st, mem, 0) = gf mem a 4 0 (fun p => pR X d 66 0 Q (37, L, p :: st, mem, 0)) := q_get (ix := 10) (by decide +kernel) (by decide +kernel)
theorem r66_37 : pR X d 66 0 Q (37, L, .ref a :: st, mem, 0) = gf mem a 3 4 (fun p => pR X d 66 0 Q (40, L, p :: st, mem, 0)) := q_get (ix := 165) (by decide +kernel) (by decide +kernel)
theorem r66_40 : pR X d 66 0 Q (40, L, .int z :: .int x :: st, mem, 0) = pR X d 66 0 Q (41, L, .int (x <<< (z &&& 31)) :: st, mem, 0) := q_s (.ok (.ishl, 1)) (by decide +kernel) rfl
theorem r66_41 : pR X d 66 0 Q (41, L, .int z :: .int x :: st, mem, 0) = ((z ≤ x → pR X d 66 0 Q (69, L, st, mem, 0)) ∧ (¬ (z ≤ x) → pR X d 66 0 Q (44, L, st, mem, 0))) := r_ic (c := .ge) (off := 28) (by decide +kernel) (by decide)
theorem r66_44 : pR X d 66 0 Q (44, [l0, l1, l2, some (.int x)], st, mem, 0) = pR X d 66 0 Q (45, [l0, l1, l2, some (.int x)], .int x :: st, mem, 0) := q_s (.ok (.iload_n 3, 1)) (by decide +kernel) rfl
theorem r66_45 : pR X d 66 0 Q (45, L, .int y0 :: [], mem, 0) = Cw X d 67 [.int y0] mem (fun r mem => pR X d 66 0 Q (48, L, r.toList ++ [], mem, 0)) := q_stat (ix := 168) (kd := 1) (y2 := 67) (as := [.int y0]) (by decide +kernel) (by decide +kernel) (by decide) rfl rfl rfl (Nat.le_of_ble_eq_true rfl) (by decide)
theorem r66_48 : pR X d 66 0 Q (48, [l0, l1, some (.int x), l3], st, mem, 0) = pR X d 66 0 Q (49, [l0, l1, some (.int x), l3], .int x :: st, mem, 0) := q_s (.ok (.iload_n 2, 1)) (by decide +kernel) rfl
theorem r66_49 : pR X d 66 0 Q (49, L, .int z :: .int x :: st, mem, 0) = ((¬ x = z → pR X d 66 0 Q (63, L, st, mem, 0)) ∧ (¬ (¬ x = z) → pR X d 66 0 Q (52, L, st, mem, 0))) := r_ic (c := .ne) (off := 14) (by decide +kernel) (by decide)
theorem r66_52 : pR X d 66 0 Q (52, [some (.ref a), l1, l2, l3], st, mem, 0) = pR X d 66 0 Q (53, [some (.ref a), l1, l2, l3], .ref a :: st, mem, 0) := q_s (.ok (.aload_n 0, 1)) (by decide +kernel) rfl
theorem r66_53 : pR X d 66 0 Q (53, [l0, l1, l2, some (.int x)], st, mem, 0) = pR X d 66 0 Q (54, [l0, l1, l2, some (.int x)], .int x :: st, mem, 0) := q_s (.ok (.iload_n 3, 1)) (by decide +kernel) rfl
theorem r66_54 : pR X d 66 0 Q (54, [l0, some (.int x), l2, l3], st, mem, 0) = pR X d 66 0 Q (55, [l0, some (.int x), l2, l3], .int x :: st, mem, 0) := q_s (.ok (.iload_n 1, 1)) (by decide +kernel) rfl
theorem r66_55 : pR X d 66 0 Q (55, L, .int y1 :: .int y0 :: .ref a :: [], mem, 0) = (prcv mem 4 a ∧ Cw X d 68 [.ref a, .int y0, .int y1] mem (fun r mem => pR X d 66 0 Q (58, L, r.toList ++ [], mem, 0))) := q_virt (ix := 173) (y2 := 68) (as := [.int y1, .int y0]) (by decide +kernel) (by decide +kernel) rfl rfl rfl (Nat.le_of_ble_eq_true rfl) (by decide)
theorem r66_58 : pR X d 66 0 Q (58, L, .int x :: st, mem, 0) = ((x = 0 → pR X d 66 0 Q (63, L, st, mem, 0)) ∧ (¬ (x = 0) → pR X d 66 0 Q (61, L, st, mem, 0))) := r_if (c := .eq) (off := 5) (by decide +kernel) (by decide)
theorem r66_61 : pR X d 66 0 Q (61, [l0, l1, l2, some (.int x)], st, mem, 0) = pR X d 66 0 Q (62, [l0, l1, l2, some (.int x)], .int x :: st, mem, 0) := q_s (.ok (.iload_n 3, 1)) (by decide +kernel) rfl
theorem r66_62 : pR X d 66 0 Q (62, L, [.int x], mem, 0) = Q (some (.int x)) mem := q_reti (by decide +kernel) rfl
theorem r66_63 : pR X d 66 0 Q (63, [l0, l1, l2, some (.int x)], st, mem, 0) = pR X d 66 0 Q (66, [l0, l1, cl1 l2, some (.int (x + iI (1)))], st, mem, 0) := q_s (.ok (.iinc 3 (1), 3)) (by decide +kernel) rfl
theorem r66_66 : pR X d 66 0 Q (66, L, st, mem, 0) = pR X d 66 0 Q (31, L, st, mem, 0) := q_s (.ok (.goto (-35), 3)) (by decide +kernel) rfl
theorem r66_69 : pR X d 66 0 Q (69, [l0, l1, some (.int x), l3], st, mem, 0) = pR X d 66 0 Q (72, [l0, cl1 l1, some (.int (x + iI (1))), l3], st, mem, 0) := q_s (.ok (.iinc 2 (1), 3)) (by decide +kernel) rfl
theorem r66_72 : pR X d 66 0 Q (72, L, st, mem, 0) = pR X d 66 0 Q (18, L, st, mem, 0) := q_s (.ok (.goto (-54), 3)) (by decide +kernel) rfl
theorem r66_75 : pR X d 66 0 Q (75, [some (.ref a), l1, l2, l3], st, mem, 0) = pR X d 66 0 Q (76, [some (.ref a), l1, l2, l3], .ref a :: st, mem, 0) := q_s (.ok (.aload_n 0, 1)) (by decide +kernel) rfl
theorem r66_76 : pR X d 66 0 Q (76, L, st, mem, 0) = pR X d 66 0 Q (77, L, .int (iI (3)) :: st, mem, 0) := q_ic (by decide +kernel)
theorem r66_77 : pR X d 66 0 Q (77, L, .int y0 :: .ref a :: [], mem, 0) = (prcv mem 4 a ∧ Cw X d 8 [.ref a, .int y0] mem (fun r mem => pR X d 66 0 Q (80, L, r.toList ++ [], mem, 0))) := q_virt (ix := 59) (y2 := 8) (as := [.int y0]) (by decide +kernel) (by decide +kernel) rfl rfl rfl (Nat.le_of_ble_eq_true rfl) (by decide)
theorem r66_80 : pR X d 66 0 Q (80, L, [.int x], mem, 0) = Q (some (.int x)) mem := q_reti (by decide +kernel) rfl
theorem r67_0 : pR X d 67 0 Q (0, [some (.int x)], st, mem, 0) = pR X d 67 0 Q (1, [some (.int x)], .int x :: st, mem, 0) := q_s (.ok (.iload_n 0, 1)) (by decide +kernel) rfl
theorem r67_1 : pR X d 67 0 Q (1, [some (.int x)], st, mem, 0) = pR X d 67 0 Q (2, [some (.int x)], .int x :: st, mem, 0) := q_s (.ok (.iload_n 0, 1)) (by decide +kernel) rfl
theorem r67_2 : pR X d 67 0 Q (2, L, st, mem, 0) = pR X d 67 0 Q (3, L, .int (iI (1)) :: st, mem, 0) := q_ic (by decide +kernel)
theorem r67_3 : pR X d 67 0 Q (3, L, .int z :: .int x :: st, mem, 0) = pR X d 67 0 Q (4, L, .int ((x.toUInt32 >>> (z.toUInt32 &&& Int32.toUInt32 31)).toInt32) :: st, mem, 0) := q_s (.ok (.iushr, 1)) (by decide +kernel) rfl
theorem r67_4 : pR X d 67 0 Q (4, L, st, mem, 0) = pR X d 67 0 Q (7, L, .int (iI (1431655765)) :: st, mem, 0) := q_ldcw (k := 265) (by decide +kernel) (by decide +kernel)
theorem r67_7 : pR X d 67 0 Q (7, L, .int z :: .int x :: st, mem, 0) = pR X d 67 0 Q (8, L, .int (x &&& z) :: st, mem, 0) := q_s (.ok (.iand, 1)) (by decide +kernel) rfl
theorem r67_8 : pR X d 67 0 Q (8, L, .int z :: .int x :: st, mem, 0) = pR X d 67 0 Q (9, L, .int (x - z) :: st, mem, 0) := q_s (.ok (.isub, 1)) (by decide +kernel) rfl
theorem r67_9 : pR X d 67 0 Q (9, [l0], .int x :: st, mem, 0) = pR X d 67 0 Q (10, [some (.int x)], st, mem, 0) := q_s (.ok (.istore_n 0, 1)) (by decide +kernel) rfl
theorem r67_10 : pR X d 67 0 Q (10, [some (.int x)], st, mem, 0) = pR X d 67 0 Q (11, [some (.int x)], .int x :: st, mem, 0) := q_s (.ok (.iload_n 0, 1)) (by decide +kernel) rfl
theorem r67_11 : pR X d 67 0 Q (11, L, st, mem, 0) = pR X d 67 0 Q (14, L, .int (iI (858993459)) :: st, mem, 0) := q_ldcw (k := 266) (by decide +kernel) (by decide +kernel)
theorem r67_14 : pR X d 67 0 Q (14, L, .int z :: .int x :: st, mem, 0) = pR X d 67 0 Q (15, L, .int (x &&& z) :: st, mem, 0) := q_s (.ok (.iand, 1)) (by decide +kernel) rfl
theorem r67_15 : pR X d 67 0 Q (15, [some (.int x)], st, mem, 0) = pR X d 67 0 Q (16, [some (.int x)], .int x :: st, mem, 0) := q_s (.ok (.iload_n 0, 1)) (by decide +kernel) rfl
theorem r67_16 : pR X d 67 0 Q (16, L, st, mem, 0) = pR X d 67 0 Q (17, L, .int (iI (2)) :: st, mem, 0) := q_ic (by decide +kernel)
theorem r67_17 : pR X d 67 0 Q (17, L, .int z :: .int x :: st, mem, 0) = pR X d 67 0 Q (18, L, .int ((x.toUInt32 >>> (z.toUInt32 &&& Int32.toUInt32 31)).toInt32) :: st, mem, 0) := q_s (.ok (.iushr, 1)) (by decide +kernel) rfl
theorem r67_18 : pR X d 67 0 Q (18, L, st, mem, 0) = pR X d 67 0 Q (21, L, .int (iI (858993459)) :: st, mem, 0) := q_ldcw (k := 266) (by decide +kernel) (by decide +kernel)
theorem r67_21 : pR X d 67 0 Q (21, L, .int z :: .int x :: st, mem, 0) = pR X d 67 0 Q (22, L, .int (x &&& z) :: st, mem, 0) := q_s (.ok (.iand, 1)) (by decide +kernel) rfl
theorem r67_22 : pR X d 67 0 Q (22, L, .int z :: .int x :: st, mem, 0) = pR X d 67 0 Q (23, L, .int (x + z) :: st, mem, 0) := q_s (.ok (.iadd, 1)) (by decide +kernel) rfl
theorem r67_23 : pR X d 67 0 Q (23, [l0], .int x :: st, mem, 0) = pR X d 67 0 Q (24, [some (.int x)], st, mem, 0) := q_s (.ok (.istore_n 0, 1)) (by decide +kernel) rfl
theorem r67_24 : pR X d 67 0 Q (24, [some (.int x)], st, mem, 0) = pR X d 67 0 Q (25, [some (.int x)], .int x :: st, mem, 0) := q_s (.ok (.iload_n 0, 1)) (by decide +kernel) rfl
theorem r67_25 : pR X d 67 0 Q (25, [some (.int x)], st, mem, 0) = pR X d 67 0 Q (26, [some (.int x)], .int x :: st, mem, 0) := q_s (.ok (.iload_n 0, 1)) (by decide +kernel) rfl
theorem r67_26 : pR X d 67 0 Q (26, L, st, mem, 0) = pR X d 67 0 Q (27, L, .int (iI (4)) :: st, mem, 0) := q_ic (by decide +kernel)
theorem r67_27 : pR X d 67 0 Q (27, L, .int z :: .int x :: st, mem, 0) = pR X d 67 0 Q (28, L, .int ((x.toUInt32 >>> (z.toUInt32 &&& Int32.toUInt32 31)).toInt32) :: st, mem, 0) := q_s (.ok (.iushr, 1)) (by decide +kernel) rfl
theorem r67_28 : pR X d 67 0 Q (28, L, .int z :: .int x :: st, mem, 0) = pR X d 67 0 Q (29, L, .int (x + z) :: st, mem, 0) := q_s (.ok (.iadd, 1)) (by decide +kernel) rfl
theorem r67_29 : pR X d 67 0 Q (29, L, st, mem, 0) = pR X d 67 0 Q (32, L, .int (iI (252645135)) :: st, mem, 0) := q_ldcw (k := 267) (by decide +kernel) (by decide +kernel)
theorem r67_32 : pR X d 67 0 Q (32, L, .int z :: .int x :: st, mem, 0) = pR X d 67 0 Q (33, L, .int (x &&& z) :: st, mem, 0) := q_s (.ok (.iand, 1)) (by decide +kernel) rfl
theorem r67_33 : pR X d 67 0 Q (33, [l0], .int x :: st, mem, 0) = pR X d 67 0 Q (34, [some (.int x)], st, mem, 0) := q_s (.ok (.istore_n 0, 1)) (by decide +kernel) rfl
theorem r67_34 : pR X d 67 0 Q (34, [some (.int x)], st, mem, 0) = pR X d 67 0 Q (35, [some (.int x)], .int x :: st, mem, 0) := q_s (.ok (.iload_n 0, 1)) (by decide +kernel) rfl
theorem r67_35 : pR X d 67 0 Q (35, [some (.int x)], st, mem, 0) = pR X d 67 0 Q (36, [some (.int x)], .int x :: st, mem, 0) := q_s (.ok (.iload_n 0, 1)) (by decide +kernel) rfl
theorem r67_36 : pR X d 67 0 Q (36, L, st, mem, 0) = pR X d 67 0 Q (38, L, .int (iI (8)) :: st, mem, 0) := q_bi (n := 8) (by decide +kernel) (by decide +kernel)
theorem r67_38 : pR X d 67 0 Q (38, L, .int z :: .int x :: st, mem, 0) = pR X d 67 0 Q (39, L, .int ((x.toUInt32 >>> (z.toUInt32 &&& Int32.toUInt32 31)).toInt32) :: st, mem, 0) := q_s (.ok (.iushr, 1)) (by decide +kernel) rfl
theorem r67_39 : pR X d 67 0 Q (39, L, .int z :: .int x :: st, mem, 0) = pR X d 67 0 Q (40, L, .int (x + z) :: st, mem, 0) := q_s (.ok (.iadd, 1)) (by decide +kernel) rfl
theorem r67_40 : pR X d 67 0 Q (40, [l0], .int x :: st, mem, 0) = pR X d 67 0 Q (41, [some (.int x)], st, mem, 0) := q_s (.ok (.istore_n 0, 1)) (by decide +kernel) rfl
theorem r67_41 : pR X d 67 0 Q (41, [some (.int x)], st, mem, 0) = pR X d 67 0 Q (42, [some (.int x)], .int x :: st, mem, 0) := q_s (.ok (.iload_n 0, 1)) (by decide +kernel) rfl
theorem r67_42 : pR X d 67 0 Q (42, [some (.int x)], st, mem, 0) = pR X d 67 0 Q (43, [some (.int x)], .int x :: st, mem, 0) := q_s (.ok (.iload_n 0, 1)) (by decide +kernel) rfl
theorem r67_43 : pR X d 67 0 Q (43, L, st, mem, 0) = pR X d 67 0 Q (45, L, .int (iI (16)) :: st, mem, 0) := q_bi (n := 16) (by decide +kernel) (by decide +kernel)
theorem r67_45 : pR X d 67 0 Q (45, L, .int z :: .int x :: st, mem, 0) = pR X d 67 0 Q (46, L, .int ((x.toUInt32 >>> (z.toUInt32 &&& Int32.toUInt32 31)).toInt32) :: st, mem, 0) := q_s (.ok (.iushr, 1)) (by decide +kernel) rfl
theorem r67_46 : pR X d 67 0 Q (46, L, .int z :: .int x :: st, mem, 0) = pR X d 67 0 Q (47, L, .int (x + z) :: st, mem, 0) := q_s (.ok (.iadd, 1)) (by decide +kernel) rfl
theorem r67_47 : pR X d 67 0 Q (47, [l0], .int x :: st, mem, 0) = pR X d 67 0 Q (48, [some (.int x)], st, mem, 0) := q_s (.ok (.istore_n 0, 1)) (by decide +kernel) rfl
theorem r67_48 : pR X d 67 0 Q (48, [some (.int x)], st, mem, 0) = pR X d 67 0 Q (49, [some (.int x)], .int x :: st, mem, 0) := q_s (.ok (.iload_n 0, 1)) (by decide +kernel) rfl
theorem r67_49 : pR X d 67 0 Q (49, L, st, mem, 0) = pR X d 67 0 Q (51, L, .int (iI (63)) :: st, mem, 0) := q_bi (n := 63) (by decide +kernel) (by decide +kernel)
theorem r67_51 : pR X d 67 0 Q (51, L, .int z :: .int x :: st, mem, 0) = pR X d 67 0 Q (52, L, .int (x &&& z) :: st, mem, 0) := q_s (.ok (.iand, 1)) (by decide +kernel) rfl
theorem r67_52 : pR X d 67 0 Q (52, L, [.int x], mem, 0) = Q (some (.int x)) mem := q_reti (by decide +kernel) rfl
theorem r68_0 : pR X d 68 0 Q (0, [some (.ref a), l1, l2], st, mem, 0) = pR X d 68 0 Q (1, [some (.ref a), l1, l2], .ref a :: st, mem, 0) := q_s (.ok (.aload_n 0, 1)) (by decide +kernel) rfl
theorem r68_1 : pR X d 68 0 Q (1, L, .ref a :: st, mem, 0) = gf mem a 4 1 (fun p => pR X d 68 0 Q (4, L, p :: st, mem, 0)) := q_get (ix := 16) (by decide +kernel) (by decide +kernel)
theorem r68_4 : pR X d 68 0 Q (4, [some (.ref a), l1, l2], st, mem, 0) = pR X d 68 0 Q (5, [some (.ref a), l1, l2], .ref a :: st, mem, 0) := q_s (.ok (.aload_n 0, 1)) (by decide +kernel) rfl
theorem r68_5 : pR X d 68 0 Q (5, L, .ref a :: st, mem, 0) = gf mem a 4 0 (fun p => pR X d 68 0 Q (8, L, p :: st, mem, 0)) := q_get (ix := 10) (by decide +kernel) (by decide +kernel)
theorem r68_8 : pR X d 68 0 Q (8, L, .ref b0 :: .ref a :: [], mem, 0) = (prcv mem 3 a ∧ Cw X d 53 [.ref a, .ref b0] mem (fun r mem => pR X d 68 0 Q (11, L, r.toList ++ [], mem, 0))) := q_virt (ix := 143) (y2 := 53) (as := [.ref b0]) (by decide +kernel) (by decide +kernel) rfl rfl rfl (Nat.le_of_ble_eq_true rfl) (by decide)
theorem r68_11 : pR X d 68 0 Q (11, [some (.ref a), l1, l2], st, mem, 0) = pR X d 68 0 Q (12, [some (.ref a), l1, l2], .ref a :: st, mem, 0) := q_s (.ok (.aload_n 0, 1)) (by decide +kernel) rfl
theorem r68_12 : pR X d 68 0 Q (12, L, .ref a :: st, mem, 0) = gf mem a 4 1 (fun p => pR X d 68 0 Q (15, L, p :: st, mem, 0)) := q_get (ix := 16) (by decide +kernel) (by decide +kernel)
theorem r68_15 : pR X d 68 0 Q (15, [l0, some (.int x), l2], st, mem, 0) = pR X d 68 0 Q (16, [l0, some (.int x), l2], .int x :: st, mem, 0) := q_s (.ok (.iload_n 1, 1)) (by decide +kernel) rfl
theorem r68_16 : pR X d 68 0 Q (16, L, .int y0 :: .ref a :: [], mem, 0) = (prcv mem 3 a ∧ Cw X d 69 [.ref a, .int y0] mem (fun r mem => pR X d 68 0 Q (19, L, r.toList ++ [], mem, 0))) := q_virt (ix := 272) (y2 := 69) (as := [.int y0]) (by decide +kernel) (by decide +kernel) rfl rfl rfl (Nat.le_of_ble_eq_true rfl) (by decide)
theorem r68_19 : pR X d 68 0 Q (19, [some (.ref a), l1, l2], st, mem, 0) = pR X d 68 0 Q (20, [some (.ref a), l1, l2], .ref a :: st, mem, 0) := q_s (.ok (.aload_n 0, 1)) (by decide +kernel) rfl
theorem r68_20 : pR X d 68 0 Q (20, L, .ref a :: st, mem, 0) = gf mem a 4 1 (fun p => pR X d 68 0 Q (23, L, p :: st, mem, 0)) := q_get (ix := 16) (by decide +kernel) (by decide +kernel)
theorem r68_23 : pR X d 68 0 Q (23, [l0, l1, some (.int x)], st, mem, 0) = pR X d 68 0 Q (24, [l0, l1, some (.int x)], .int x :: st, mem, 0) := q_s (.ok (.iload_n 2, 1)) (by decide +kernel) rfl
theorem r68_24 : pR X d 68 0 Q (24, L, .int y0 :: .ref a :: [], mem, 0) = (prcv mem 3 a ∧ Cw X d 40 [.ref a, .int y0] mem (fun r mem => pR X d 68 0 Q (27, L, r.toList ++ [], mem, 0))) := q_virt (ix := 126) (y2 := 40) (as := [.int y0]) (by decide +kernel) (by decide +kernel) rfl rfl rfl (Nat.le_of_ble_eq_true rfl) (by decide)
theorem r68_27 : pR X d 68 0 Q (27, [some (.ref a), l1, l2], st, mem, 0) = pR X d 68 0 Q (28, [some (.ref a), l1, l2], .ref a :: st, mem, 0) := q_s (.ok (.aload_n 0, 1)) (by decide +kernel) rfl
theorem r68_28 : pR X d 68 0 Q (28, L, .ref a :: st, mem, 0) = gf mem a 4 1 (fun p => pR X d 68 0 Q (31, L, p :: st, mem, 0)) := q_get (ix := 16) (by decide +kernel) (by decide +kernel)
theorem r68_31 : pR X d 68 0 Q (31, L, .ref a :: [], mem, 0) = (prcv mem 3 a ∧ Cw X d 50 [.ref a] mem (fun r mem => pR X d 68 0 Q (34, L, r.toList ++ [], mem, 0))) := q_virt (ix := 137) (y2 := 50) (as := []) (by decide +kernel) (by decide +kernel) rfl rfl rfl (Nat.le_of_ble_eq_true rfl) (by decide)
theorem r68_34 : pR X d 68 0 Q (34, L, .int x :: st, mem, 0) = ((¬ x = 0 → pR X d 68 0 Q (41, L, st, mem, 0)) ∧ (¬ (¬ x = 0) → pR X d 68 0 Q (37, L, st, mem, 0))) := r_if (c := .ne) (off := 7) (by decide +kernel) (by decide)
theorem r68_37 : pR X d 68 0 Q (37, L, st, mem, 0) = pR X d 68 0 Q (38, L, .int (iI (1)) :: st, mem, 0) := q_ic (by decide +kernel)
theorem r68_38 : pR X d 68 0 Q (38, L, st, mem, 0) = pR X d 68 0 Q (42, L, st, mem, 0) := q_s (.ok (.goto (4), 3)) (by decide +kernel) rfl
theorem r68_41 : pR X d 68 0 Q (41, L, st, mem, 0) = pR X d 68 0 Q (42, L, .int (iI (0)) :: st, mem, 0) := q_ic (by decide +kernel)
theorem r68_42 : pR X d 68 0 Q (42, L, [.int x], mem, 0) = (zb .boolean x ∧ Q (some (.int x)) mem) := q_retz (by decide +kernel) rfl (by decide)
theorem r69_0 : pR X d 69 0 Q (0, L, st, mem, 0) = pR X d 69 0 Q (1, L, .int (iI (0)) :: st, mem, 0) := q_ic (by decide +kernel)
theorem r69_1 : pR X d 69 0 Q (1, [l0, l1, l2], .int x :: st, mem, 0) = pR X d 69 0 Q (2, [l0, cl1 l1, some (.int x)], st, mem, 0) := q_s (.ok (.istore_n 2, 1)) (by decide +kernel) rfl
theorem r69_2 : pR X d 69 0 Q (2, [l0, l1, some (.int x)], st, mem, 0) = pR X d 69 0 Q (3, [l0, l1, some (.int x)], .int x :: st, mem, 0) := q_s (.ok (.iload_n 2, 1)) (by decide +kernel) rfl
theorem r69_3 : pR X d 69 0 Q (3, L, st, mem, 0) = pR X d 69 0 Q (5, L, .int (iI (6)) :: st, mem, 0) := q_bi (n := 6) (by decide +kernel) (by decide +kernel)
theorem r69_5 : pR X d 69 0 Q (5, L, .int z :: .int x :: st, mem, 0) = ((z ≤ x → pR X d 69 0 Q (37, L, st, mem, 0)) ∧ (¬ (z ≤ x) → pR X d 69 0 Q (8, L, st, mem, 0))) := r_ic (c := .ge) (off := 32) (by decide +kernel) (by decide)
theorem r69_8 : pR X d 69 0 Q (8, [l0, some (.int x), l2], st, mem, 0) = pR X d 69 0 Q (9, [l0, some (.int x), l2], .int x :: st, mem, 0) := q_s (.ok (.iload_n 1, 1)) (by decide +kernel) rfl
theorem r69_9 : pR X d 69 0 Q (9, [some (.ref a), l1, l2], st, mem, 0) = pR X d 69 0 Q (10, [some (.ref a), l1, l2], .ref a :: st, mem, 0) := q_s (.ok (.aload_n 0, 1)) (by decide +kernel) rfl
theorem r69_10 : pR X d 69 0 Q (10, L, .ref a :: st, mem, 0) = gf mem a 3 6 (fun p => pR X d 69 0 Q (13, L, p :: st, mem, 0)) := q_get (ix := 33) (by decide +kernel) (by decide +kernel)
theorem r69_13 : pR X d 69 0 Q (13, [l0, l1, some (.int x)], st, mem, 0) = pR X d 69 0 Q (14, [l0, l1, some (.int x)], .int x :: st, mem, 0) := q_s (.ok (.iload_n 2, 1)) (by decide +kernel) rfl
theorem r69_14 : pR X d 69 0 Q (14, L, .int x :: .ref a :: st, mem, 0) = ri X mem a x (fun z => pR X d 69 0 Q (15, L, .int z :: st, mem, 0)) := q_ri (by decide +kernel)
theorem r69_15 : pR X d 69 0 Q (15, L, .int y0 :: [.int k0], mem, 0) = Cw X d 43 [.int y0] mem (fun r mem => pR X d 69 0 Q (18, L, r.toList ++ [.int k0], mem, 0)) := q_stat (ix := 105) (kd := 2) (y2 := 43) (as := [.int y0]) (by decide +kernel) (by decide +kernel) (by decide) rfl rfl rfl (Nat.le_of_ble_eq_true rfl) (by decide)
theorem r69_18 : pR X d 69 0 Q (18, L, .int z :: .int x :: st, mem, 0) = pR X d 69 0 Q (19, L, .int (x >>> (z &&& 31)) :: st, mem, 0) := q_s (.ok (.ishr, 1)) (by decide +kernel) rfl
theorem r69_19 : pR X d 69 0 Q (19, L, st, mem, 0) = pR X d 69 0 Q (20, L, .int (iI (1)) :: st, mem, 0) := q_ic (by decide +kernel)
theorem r69_20 : pR X d 69 0 Q (20, L, .int z :: .int x :: st, mem, 0) = pR X d 69 0 Q (21, L, .int (x &&& z) :: st, mem, 0) := q_s (.ok (.iand, 1)) (by decide +kernel) rfl
theorem r69_21 : pR X d 69 0 Q (21, L, st, mem, 0) = pR X d 69 0 Q (22, L, .int (iI (1)) :: st, mem, 0) := q_ic (by decide +kernel)
theorem r69_22 : pR X d 69 0 Q (22, L, .int z :: .int x :: st, mem, 0) = ((¬ x = z → pR X d 69 0 Q (31, L, st, mem, 0)) ∧ (¬ (¬ x = z) → pR X d 69 0 Q (25, L, st, mem, 0))) := r_ic (c := .ne) (off := 9) (by decide +kernel) (by decide)
theorem r69_25 : pR X d 69 0 Q (25, [some (.ref a), l1, l2], st, mem, 0) = pR X d 69 0 Q (26, [some (.ref a), l1, l2], .ref a :: st, mem, 0) := q_s (.ok (.aload_n 0, 1)) (by decide +kernel) rfl
theorem r69_26 : pR X d 69 0 Q (26, [l0, l1, some (.int x)], st, mem, 0) = pR X d 69 0 Q (27, [l0, l1, some (.int x)], .int x :: st, mem, 0) := q_s (.ok (.iload_n 2, 1)) (by decide +kernel) rfl
theorem r69_27 : pR X d 69 0 Q (27, L, st, mem, 0) = pR X d 69 0 Q (28, L, .int (iI (0)) :: st, mem, 0) := q_ic (by decide +kernel)
theorem r69_28 : pR X d 69 0 Q (28, L, .int y1 :: .int y0 :: .ref a :: [], mem, 0) = (prcv mem 3 a ∧ Cw X d 62 [.ref a, .int y0, .int y1] mem (fun r mem => pR X d 69 0 Q (31, L, r.toList ++ [], mem, 0))) := q_virt (ix := 135) (y2 := 62) (as := [.int y1, .int y0]) (by decide +kernel) (by decide +kernel) rfl rfl rfl (Nat.le_of_ble_eq_true rfl) (by decide)
theorem r69_31 : pR X d 69 0 Q (31, [l0, l1, some (.int x)], st, mem, 0) = pR X d 69 0 Q (34, [l0, cl1 l1, some (.int (x + iI (1)))], st, mem, 0) := q_s (.ok (.iinc 2 (1), 3)) (by decide +kernel) rfl
theorem r69_34 : pR X d 69 0 Q (34, L, st, mem, 0) = pR X d 69 0 Q (2, L, st, mem, 0) := q_s (.ok (.goto (-32), 3)) (by decide +kernel) rfl
theorem r69_37 : pR X d 69 0 Q (37, L, [], mem, 0) = Q none mem := q_retv (by decide +kernel) rfl
theorem r70_0 : pR X d 70 0 Q (0, [l0, some (.int x)], st, mem, 0) = pR X d 70 0 Q (1, [l0, some (.int x)], .int x :: st, mem, 0) := q_s (.ok (.iload_n 1, 1)) (by decide +kernel) rfl
theorem r70_1 : pR X d 70 0 Q (1, L, st, mem, 0) = pR X d 70 0 Q (2, L, .int (iI (0)) :: st, mem, 0) := q_ic (by decide +kernel)
theorem r70_2 : pR X d 70 0 Q (2, L, st, mem, 0) = pR X d 70 0 Q (5, L, .int (iI (9999)) :: st, mem, 0) := q_si (n := 9999) (by decide +kernel) (by decide +kernel)
theorem r70_5 : pR X d 70 0 Q (5, L, .int y2 :: .int y1 :: .int y0 :: [], mem, 0) = Cw X d 7 [.int y0, .int y1, .int y2] mem (fun r mem => pR X d 70 0 Q (8, L, r.toList ++ [], mem, 0)) := q_stat (ix := 52) (kd := 1) (y2 := 7) (as := [.int y2, .int y1, .int y0]) (by decide +kernel) (by decide +kernel) (by decide) rfl rfl rfl (Nat.le_of_ble_eq_true rfl) (by decide)
theorem r70_8 : pR X d 70 0 Q (8, L, .int x :: st, mem, 0) = ((x = 0 → pR X d 70 0 Q (22, L, st, mem, 0)) ∧ (¬ (x = 0) → pR X d 70 0 Q (11, L, st, mem, 0))) := r_if (c := .eq) (off := 14) (by decide +kernel) (by decide)
theorem r70_11 : pR X d 70 0 Q (11, [some (.ref a), l1], st, mem, 0) = pR X d 70 0 Q (12, [some (.ref a), l1], .ref a :: st, mem, 0) := q_s (.ok (.aload_n 0, 1)) (by decide +kernel) rfl
theorem r70_12 : pR X d 70 0 Q (12, L, .ref a :: st, mem, 0) = gf mem a 4 0 (fun p => pR X d 70 0 Q (15, L, p :: st, mem, 0)) := q_get (ix := 10) (by decide +kernel) (by decide +kernel)
theorem r70_15 : pR X d 70 0 Q (15, [l0, some (.int x)], st, mem, 0) = pR X d 70 0 Q (16, [l0, some (.int x)], .int x :: st, mem, 0) := q_s (.ok (.iload_n 1, 1)) (by decide +kernel) rfl
theorem r70_16 : pR X d 70 0 Q (16, L, .int y0 :: .ref a :: [], mem, 0) = (prcv mem 3 a ∧ Cw X d 71 [.ref a, .int y0] mem (fun r mem => pR X d 70 0 Q (19, L, r.toList ++ [], mem, 0))) := q_virt (ix := 176) (y2 := 71) (as := [.int y0]) (by decide +kernel) (by decide +kernel) rfl rfl rfl (Nat.le_of_ble_eq_true rfl) (by decide)
theorem r70_19 : pR X d 70 0 Q (19, L, st, mem, 0) = pR X d 70 0 Q (27, L, st, mem, 0) := q_s (.ok (.goto (8), 3)) (by decide +kernel) rfl
theorem r70_22 : pR X d 70 0 Q (22, [some (.ref a), l1], st, mem, 0) = pR X d 70 0 Q (23, [some (.ref a), l1], .ref a :: st, mem, 0) := q_s (.ok (.aload_n 0, 1)) (by decide +kernel) rfl
theorem r70_23 : pR X d 70 0 Q (23, L, st, mem, 0) = pR X d 70 0 Q (24, L, .int (iI (0)) :: st, mem, 0) := q_ic (by decide +kernel)
theorem r70_24 : pR X d 70 0 Q (24, L, .int y0 :: .ref a :: [], mem, 0) = (prcv mem 4 a ∧ Cw X d 8 [.ref a, .int y0] mem (fun r mem => pR X d 70 0 Q (27, L, r.toList ++ [], mem, 0))) := q_virt (ix := 59) (y2 := 8) (as := [.int y0]) (by decide +kernel) (by decide +kernel) rfl rfl rfl (Nat.le_of_ble_eq_true rfl) (by decide)
theorem r70_27 : pR X d 70 0 Q (27, L, [.int x], mem, 0) = Q (some (.int x)) mem := q_reti (by decide +kernel) rfl
theorem r71_0 : pR X d 71 0 Q (0, [some (.ref a), l1], st, mem, 0) = pR X d 71 0 Q (1, [some (.ref a), l1], .ref a :: st, mem, 0) := q_s (.ok (.aload_n 0, 1)) (by decide +kernel) rfl
theorem r71_1 : pR X d 71 0 Q (1, L, .ref a :: st, mem, 0) = gf mem a 3 0 (fun p => pR X d 71 0 Q (4, L, p :: st, mem, 0)) := q_get (ix := 9) (by decide +kernel) (by decide +kernel)
theorem r71_4 : pR X d 71 0 Q (4, L, .int x :: st, mem, 0) = ((x ≤ 0 → pR X d 71 0 Q (23, L, st, mem, 0)) ∧ (¬ (x ≤ 0) → pR X d 71 0 Q (7, L, st, mem, 0))) := r_if (c := .le) (off := 19) (by decide +kernel) (by decide)
theorem r71_7 : pR X d 71 0 Q (7, [l0, some (.int x)], st, mem, 0) = pR X d 71 0 Q (8, [l0, some (.int x)], .int x :: st, mem, 0) := q_s (.ok (.iload_n 1, 1)) (by decide +kernel) rfl
theorem r71_8 : pR X d 71 0 Q (8, [some (.ref a), l1], st, mem, 0) = pR X d 71 0 Q (9, [some (.ref a), l1], .ref a :: st, mem, 0) := q_s (.ok (.aload_n 0, 1)) (by decide +kernel) rfl
theorem r71_9 : pR X d 71 0 Q (9, L, .ref a :: st, mem, 0) = gf mem a 3 0 (fun p => pR X d 71 0 Q (12, L, p :: st, mem, 0)) := q_get (ix := 9) (by decide +kernel) (by decide +kernel)
theorem r71_12 : pR X d 71 0 Q (12, L, .int z :: .int x :: st, mem, 0) = (¬ z = 0 ∧ pR X d 71 0 Q (13, L, .int (x / z) :: st, mem, 0)) := q_div (by decide +kernel)
theorem r71_13 : pR X d 71 0 Q (13, [l0, some (.int x)], st, mem, 0) = pR X d 71 0 Q (14, [l0, some (.int x)], .int x :: st, mem, 0) := q_s (.ok (.iload_n 1, 1)) (by decide +kernel) rfl
theorem r71_14 : pR X d 71 0 Q (14, [some (.ref a), l1], st, mem, 0) = pR X d 71 0 Q (15, [some (.ref a), l1], .ref a :: st, mem, 0) := q_s (.ok (.aload_n 0, 1)) (by decide +kernel) rfl
theorem r71_15 : pR X d 71 0 Q (15, L, .ref a :: st, mem, 0) = gf mem a 3 0 (fun p => pR X d 71 0 Q (18, L, p :: st, mem, 0)) := q_get (ix := 9) (by decide +kernel) (by decide +kernel)
theorem r71_18 : pR X d 71 0 Q (18, L, .int z :: .int x :: st, mem, 0) = (¬ z = 0 ∧ pR X d 71 0 Q (19, L, .int (x - x / z * z) :: st, mem, 0)) := q_rem (by decide +kernel)
theorem r71_19 : pR X d 71 0 Q (19, L, .int z :: .int x :: st, mem, 0) = pR X d 71 0 Q (20, L, .int (x + z) :: st, mem, 0) := q_s (.ok (.iadd, 1)) (by decide +kernel) rfl
theorem r71_20 : pR X d 71 0 Q (20, L, st, mem, 0) = pR X d 71 0 Q (24, L, st, mem, 0) := q_s (.ok (.goto (4), 3)) (by decide +kernel) rfl
theorem r71_23 : pR X d 71 0 Q (23, [l0, some (.int x)], st, mem, 0) = pR X d 71 0 Q (24, [l0, some (.int x)], .int x :: st, mem, 0) := q_s (.ok (.iload_n 1, 1)) (by decide +kernel) rfl
theorem r71_24 : pR X d 71 0 Q (24, L, [.int x], mem, 0) = Q (some (.int x)) mem := q_reti (by decide +kernel) rfl
theorem r72_0 : pR X d 72 0 Q (0, [some (.ref a), l1, l2, l3, l4, l5], st, mem, 0) = pR X d 72 0 Q (1, [some (.ref a), l1, l2, l3, l4, l5], .ref a :: st, mem, 0) := q_s (.ok (.aload_n 0, 1)) (by decide +kernel) rfl
theorem r72_1 : pR X d 72 0 Q (1, [l0, some (.int x), l2, l3, l4, l5], st, mem, 0) = pR X d 72 0 Q (2, [l0, some (.int x), l2, l3, l4, l5], .int x :: st, mem, 0) := q_s (.ok (.iload_n 1, 1)) (by decide +kernel) rfl
theorem r72_2 : pR X d 72 0 Q (2, [l0, l1, some (.int x), l3, l4, l5], st, mem, 0) = pR X d 72 0 Q (3, [l0, l1, some (.int x), l3, l4, l5], .int x :: st, mem, 0) := q_s (.ok (.iload_n 2, 1)) (by decide +kernel) rfl
theorem r72_3 : pR X d 72 0 Q (3, L, .int y1 :: .int y0 :: .ref a :: [], mem, 0) = (prcv mem 4 a ∧ Cw X d 73 [.ref a, .int y0, .int y1] mem (fun r mem => pR X d 72 0 Q (6, L, r.toList ++ [], mem, 0))) := q_virt (ix := 179) (y2 := 73) (as := [.int y1, .int y0]) (by decide +kernel) (by decide +kernel) rfl rfl rfl (Nat.le_of_ble_eq_true rfl) (by decide)
theorem r72_6 : pR X d 72 0 Q (6, [l0, l1, l2, l3, l4, l5], .int x :: st, mem, 0) = pR X d 72 0 Q (7, [l0, l1, cl1 l2, some (.int x), l4, l5], st, mem, 0) := q_s (.ok (.istore_n 3, 1)) (by decide +kernel) rfl
theorem r72_7 : pR X d 72 0 Q (7, [l0, l1, l2, some (.int x), l4, l5], st, mem, 0) = pR X d 72 0 Q (8, [l0, l1, l2, some (.int x), l4, l5], .int x :: st, mem, 0) := q_s (.ok (.iload_n 3, 1)) (by decide +kernel) rfl
theorem r72_8 : pR X d 72 0 Q (8, L, st, mem, 0) = pR X d 72 0 Q (9, L, .int (iI (-1)) :: st, mem, 0) := q_ic (by decide +kernel)
theorem r72_9 : pR X d 72 0 Q (9, L, .int z :: .int x :: st, mem, 0) = ((x = z → pR X d 72 0 Q (18, L, st, mem, 0)) ∧ (¬ (x = z) → pR X d 72 0 Q (12, L, st, mem, 0))) := r_ic (c := .eq) (off := 9) (by decide +kernel) (by decide)
theorem r72_12 : pR X d 72 0 Q (12, [some (.ref a), l1, l2, l3, l4, l5], st, mem, 0) = pR X d 72 0 Q (13, [some (.ref a), l1, l2, l3, l4, l5], .ref a :: st, mem, 0) := q_s (.ok (.aload_n 0, 1)) (by decide +kernel) rfl
theorem r72_13 : pR X d 72 0 Q (13, [l0, l1, l2, some (.int x), l4, l5], st, mem, 0) = pR X d 72 0 Q (14, [l0, l1, l2, some (.int x), l4, l5], .int x :: st, mem, 0) := q_s (.ok (.iload_n 3, 1)) (by decide +kernel) rfl
theorem r72_14 : pR X d 72 0 Q (14, L, .int y0 :: .ref a :: [], mem, 0) = (prcv mem 4 a ∧ Cw X d 8 [.ref a, .int y0] mem (fun r mem => pR X d 72 0 Q (17, L, r.toList ++ [], mem, 0))) := q_virt (ix := 59) (y2 := 8) (as := [.int y0]) (by decide +kernel) (by decide +kernel) rfl rfl rfl (Nat.le_of_ble_eq_true rfl) (by decide)
theorem r72_17 : pR X d 72 0 Q (17, L, [.int x], mem, 0) = Q (some (.int x)) mem := q_reti (by decide +kernel) rfl
theorem r72_18 : pR X d 72 0 Q (18, L, st, mem, 0) = pR X d 72 0 Q (19, L, .int (iI (0)) :: st, mem, 0) := q_ic (by decide +kernel)
theorem r72_19 : pR X d 72 0 Q (19, [l0, l1, l2, l3, l4, l5], .int x :: st, mem, 0) = pR X d 72 0 Q (21, [l0, l1, l2, cl1 l3, some (.int x), l5], st, mem, 0) := q_s (.ok (.istore 4, 2)) (by decide +kernel) rfl
theorem r72_21 : pR X d 72 0 Q (21, L, st, mem, 0) = pR X d 72 0 Q (22, L, .int (iI (0)) :: st, mem, 0) := q_ic (by decide +kernel)
theorem r72_22 : pR X d 72 0 Q (22, [l0, l1, l2, l3, l4, l5], .int x :: st, mem, 0) = pR X d 72 0 Q (24, [l0, l1, l2, l3, cl1 l4, some (.int x)], st, mem, 0) := q_s (.ok (.istore 5, 2)) (by decide +kernel) rfl
theorem r72_24 : pR X d 72 0 Q (24, [l0, l1, l2, l3, l4, some (.int x)], st, mem, 0) = pR X d 72 0 Q (26, [l0, l1, l2, l3, l4, some (.int x)], .int x :: st, mem, 0) := q_s (.ok (.iload 5, 2)) (by decide +kernel) rfl
theorem r72_26 : pR X d 72 0 Q (26, L, st, mem, 0) = pR X d 72 0 Q (28, L, .int (iI (100)) :: st, mem, 0) := q_bi (n := 100) (by decide +kernel) (by decide +kernel)
theorem r72_28 : pR X d 72 0 Q (28, L, .int z :: .int x :: st, mem, 0) = ((z ≤ x → pR X d 72 0 Q (56, L, st, mem, 0)) ∧ (¬ (z ≤ x) → pR X d 72 0 Q (31, L, st, mem, 0))) := r_ic (c := .ge) (off := 28) (by decide +kernel) (by decide)
theorem r72_31 : pR X d 72 0 Q (31, [some (.ref a), l1, l2, l3, l4, l5], st, mem, 0) = pR X d 72 0 Q (32, [some (.ref a), l1, l2, l3, l4, l5], .ref a :: st, mem, 0) := q_s (.ok (.aload_n 0, 1)) (by decide +kernel) rfl
theorem r72_32 : pR X d 72 0 Q (32, [some (.ref a), l1, l2, l3, l4, l5], st, mem, 0) = pR X d 72 0 Q (33, [some (.ref a), l1, l2, l3, l4, l5], .ref a :: st, mem, 0) := q_s (.ok (.aload_n 0, 1)) (by decide +kernel) rfl
theorem r72_33 : pR X d 72 0 Q (33, L, .ref a :: st, mem, 0) = gf mem a 4 5 (fun p => pR X d 72 0 Q (36, L, p :: st, mem, 0)) := q_get (ix := 35) (by decide +kernel) (by decide +kernel)
theorem r72_36 : pR X d 72 0 Q (36, [l0, some (.int x), l2, l3, l4, l5], st, mem, 0) = pR X d 72 0 Q (37, [l0, some (.int x), l2, l3, l4, l5], .int x :: st, mem, 0) := q_s (.ok (.iload_n 1, 1)) (by decide +kernel) rfl
theorem r72_37 : pR X d 72 0 Q (37, L, .int x :: .ref a :: st, mem, 0) = ra mem a x (fun b => pR X d 72 0 Q (38, L, .ref b :: st, mem, 0)) := q_ra (by decide +kernel)
theorem r72_38 : pR X d 72 0 Q (38, [l0, l1, some (.int x), l3, l4, l5], st, mem, 0) = pR X d 72 0 Q (39, [l0, l1, some (.int x), l3, l4, l5], .int x :: st, mem, 0) := q_s (.ok (.iload_n 2, 1)) (by decide +kernel) rfl
theorem r72_39 : pR X d 72 0 Q (39, [l0, l1, l2, l3, l4, some (.int x)], st, mem, 0) = pR X d 72 0 Q (41, [l0, l1, l2, l3, l4, some (.int x)], .int x :: st, mem, 0) := q_s (.ok (.iload 5, 2)) (by decide +kernel) rfl
theorem r72_41 : pR X d 72 0 Q (41, L, .int y2 :: .int y1 :: .ref b0 :: .ref a :: [], mem, 0) = (prcv mem 4 a ∧ Cw X d 77 [.ref a, .ref b0, .int y1, .int y2] mem (fun r mem => pR X d 72 0 Q (44, L, r.toList ++ [], mem, 0))) := q_virt (ix := 182) (y2 := 77) (as := [.int y2, .int y1, .ref b0]) (by decide +kernel) (by decide +kernel) rfl rfl rfl (Nat.le_of_ble_eq_true rfl) (by decide)
theorem r72_44 : pR X d 72 0 Q (44, L, .int x :: st, mem, 0) = ((x = 0 → pR X d 72 0 Q (50, L, st, mem, 0)) ∧ (¬ (x = 0) → pR X d 72 0 Q (47, L, st, mem, 0))) := r_if (c := .eq) (off := 6) (by decide +kernel) (by decide)
theorem r72_47 : pR X d 72 0 Q (47, [l0, l1, l2, l3, some (.int x), l5], st, mem, 0) = pR X d 72 0 Q (50, [l0, l1, l2, cl1 l3, some (.int (x + iI (1))), l5], st, mem, 0) := q_s (.ok (.iinc 4 (1), 3)) (by decide +kernel) rfl
theorem r72_50 : pR X d 72 0 Q (50, [l0, l1, l2, l3, l4, some (.int x)], st, mem, 0) = pR X d 72 0 Q (53, [l0, l1, l2, l3, cl1 l4, some (.int (x + iI (1)))], st, mem, 0) := q_s (.ok (.iinc 5 (1), 3)) (by decide +kernel) rfl
theorem r72_53 : pR X d 72 0 Q (53, L, st, mem, 0) = pR X d 72 0 Q (24, L, st, mem, 0) := q_s (.ok (.goto (-29), 3)) (by decide +kernel) rfl
theorem r72_56 : pR X d 72 0 Q (56, [l0, l1, l2, l3, some (.int x), l5], st, mem, 0) = pR X d 72 0 Q (58, [l0, l1, l2, l3, some (.int x), l5], .int x :: st, mem, 0) := q_s (.ok (.iload 4, 2)) (by decide +kernel) rfl
theorem r72_58 : pR X d 72 0 Q (58, L, [.int x], mem, 0) = Q (some (.int x)) mem := q_reti (by decide +kernel) rfl
theorem r73_0 : pR X d 73 0 Q (0, [some (.ref a), l1, l2, l3], st, mem, 0) = pR X d 73 0 Q (1, [some (.ref a), l1, l2, l3], .ref a :: st, mem, 0) := q_s (.ok (.aload_n 0, 1)) (by decide +kernel) rfl
theorem r73_1 : pR X d 73 0 Q (1, [l0, some (.int x), l2, l3], st, mem, 0) = pR X d 73 0 Q (2, [l0, some (.int x), l2, l3], .int x :: st, mem, 0) := q_s (.ok (.iload_n 1, 1)) (by decide +kernel) rfl
theorem r73_2 : pR X d 73 0 Q (2, L, .int y0 :: .ref a :: [], mem, 0) = (prcv mem 4 a ∧ Cw X d 74 [.ref a, .int y0] mem (fun r mem => pR X d 73 0 Q (5, L, r.toList ++ [], mem, 0))) := q_virt (ix := 233) (y2 := 74) (as := [.int y0]) (by decide +kernel) (by decide +kernel) rfl rfl rfl (Nat.le_of_ble_eq_true rfl) (by decide)
theorem r73_5 : pR X d 73 0 Q (5, [l0, l1, l2, l3], .int x :: st, mem, 0) = pR X d 73 0 Q (6, [l0, l1, cl1 l2, some (.int x)], st, mem, 0) := q_s (.ok (.istore_n 3, 1)) (by decide +kernel) rfl
theorem r73_6 : pR X d 73 0 Q (6, [l0, l1, l2, some (.int x)], st, mem, 0) = pR X d 73 0 Q (7, [l0, l1, l2, some (.int x)], .int x :: st, mem, 0) := q_s (.ok (.iload_n 3, 1)) (by decide +kernel) rfl
theorem r73_7 : pR X d 73 0 Q (7, L, st, mem, 0) = pR X d 73 0 Q (8, L, .int (iI (-1)) :: st, mem, 0) := q_ic (by decide +kernel)
theorem r73_8 : pR X d 73 0 Q (8, L, .int z :: .int x :: st, mem, 0) = ((x = z → pR X d 73 0 Q (13, L, st, mem, 0)) ∧ (¬ (x = z) → pR X d 73 0 Q (11, L, st, mem, 0))) := r_ic (c := .eq) (off := 5) (by decide +kernel) (by decide)
theorem r73_11 : pR X d 73 0 Q (11, [l0, l1, l2, some (.int x)], st, mem, 0) = pR X d 73 0 Q (12, [l0, l1, l2, some (.int x)], .int x :: st, mem, 0) := q_s (.ok (.iload_n 3, 1)) (by decide +kernel) rfl
theorem r73_12 : pR X d 73 0 Q (12, L, [.int x], mem, 0) = Q (some (.int x)) mem := q_reti (by decide +kernel) rfl
theorem r73_13 : pR X d 73 0 Q (13, [some (.ref a), l1, l2, l3], st, mem, 0) = pR X d 73 0 Q (14, [some (.ref a), l1, l2, l3], .ref a :: st, mem, 0) := q_s (.ok (.aload_n 0, 1)) (by decide +kernel) rfl
theorem r73_14 : pR X d 73 0 Q (14, L, .ref a :: st, mem, 0) = gf mem a 4 0 (fun p => pR X d 73 0 Q (17, L, p :: st, mem, 0)) := q_get (ix := 10) (by decide +kernel) (by decide +kernel)
theorem r73_17 : pR X d 73 0 Q (17, [l0, l1, some (.int x), l3], st, mem, 0) = pR X d 73 0 Q (18, [l0, l1, some (.int x), l3], .int x :: st, mem, 0) := q_s (.ok (.iload_n 2, 1)) (by decide +kernel) rfl
theorem r73_18 : pR X d 73 0 Q (18, L, .int y0 :: .ref a :: [], mem, 0) = (prcv mem 3 a ∧ Cw X d 20 [.ref a, .int y0] mem (fun r mem => pR X d 73 0 Q (21, L, r.toList ++ [], mem, 0))) := q_virt (ix := 83) (y2 := 20) (as := [.int y0]) (by decide +kernel) (by decide +kernel) rfl rfl rfl (Nat.le_of_ble_eq_true rfl) (by decide)
theorem r73_21 : pR X d 73 0 Q (21, L, .int x :: st, mem, 0) = ((x = 0 → pR X d 73 0 Q (28, L, st, mem, 0)) ∧ (¬ (x = 0) → pR X d 73 0 Q (24, L, st, mem, 0))) := r_if (c := .eq) (off := 7) (by decide +kernel) (by decide)
theorem r73_24 : pR X d 73 0 Q (24, L, st, mem, 0) = pR X d 73 0 Q (25, L, .int (iI (-1)) :: st, mem, 0) := q_ic (by decide +kernel)
theorem r73_25 : pR X d 73 0 Q (25, L, st, mem, 0) = pR X d 73 0 Q (29, L, st, mem, 0) := q_s (.ok (.goto (4), 3)) (by decide +kernel) rfl
theorem r73_28 : pR X d 73 0 Q (28, L, st, mem, 0) = pR X d 73 0 Q (29, L, .int (iI (0)) :: st, mem, 0) := q_ic (by decide +kernel)
theorem r73_29 : pR X d 73 0 Q (29, L, [.int x], mem, 0) = Q (some (.int x)) mem := q_reti (by decide +kernel) rfl
theorem r74_0 : pR X d 74 0 Q (0, [l0, some (.int x)], st, mem, 0) = pR X d 74 0 Q (1, [l0, some (.int x)], .int x :: st, mem, 0) := q_s (.ok (.iload_n 1, 1)) (by decide +kernel) rfl
theorem r74_1 : pR X d 74 0 Q (1, L, .int y0 :: [], mem, 0) = Cw X d 75 [.int y0] mem (fun r mem => pR X d 74 0 Q (4, L, r.toList ++ [], mem, 0)) := q_stat (ix := 224) (kd := 1) (y2 := 75) (as := [.int y0]) (by decide +kernel) (by decide +kernel) (by decide) rfl rfl rfl (Nat.le_of_ble_eq_true rfl) (by decide)
theorem r74_4 : pR X d 74 0 Q (4, L, .int x :: st, mem, 0) = ((¬ x = 0 → pR X d 74 0 Q (9, L, st, mem, 0)) ∧ (¬ (¬ x = 0) → pR X d 74 0 Q (7, L, st, mem, 0))) := r_if (c := .ne) (off := 5) (by decide +kernel) (by decide)
theorem r74_7 : pR X d 74 0 Q (7, L, st, mem, 0) = pR X d 74 0 Q (8, L, .int (iI (0)) :: st, mem, 0) := q_ic (by decide +kernel)
theorem r74_8 : pR X d 74 0 Q (8, L, [.int x], mem, 0) = Q (some (.int x)) mem := q_reti (by decide +kernel) rfl
theorem r74_9 : pR X d 74 0 Q (9, [some (.ref a), l1], st, mem, 0) = pR X d 74 0 Q (10, [some (.ref a), l1], .ref a :: st, mem, 0) := q_s (.ok (.aload_n 0, 1)) (by decide +kernel) rfl
theorem r74_10 : pR X d 74 0 Q (10, L, .ref a :: st, mem, 0) = gf mem a 4 5 (fun p => pR X d 74 0 Q (13, L, p :: st, mem, 0)) := q_get (ix := 35) (by decide +kernel) (by decide +kernel)
theorem r74_13 : pR X d 74 0 Q (13, [l0, some (.int x)], st, mem, 0) = pR X d 74 0 Q (14, [l0, some (.int x)], .int x :: st, mem, 0) := q_s (.ok (.iload_n 1, 1)) (by decide +kernel) rfl
theorem r74_14 : pR X d 74 0 Q (14, L, .int x :: .ref a :: st, mem, 0) = ra mem a x (fun b => pR X d 74 0 Q (15, L, .ref b :: st, mem, 0)) := q_ra (by decide +kernel)
theorem r74_15 : pR X d 74 0 Q (15, L, .ref a :: [], mem, 0) = (prcv mem 1 a ∧ Cw X d 76 [.ref a] mem (fun r mem => pR X d 74 0 Q (18, L, r.toList ++ [], mem, 0))) := q_virt (ix := 239) (y2 := 76) (as := []) (by decide +kernel) (by decide +kernel) rfl rfl rfl (Nat.le_of_ble_eq_true rfl) (by decide)
theorem r74_18 : pR X d 74 0 Q (18, L, .int x :: st, mem, 0) = ((x = 0 → pR X d 74 0 Q (25, L, st, mem, 0)) ∧ (¬ (x = 0) → pR X d 74 0 Q (21, L, st, mem, 0))) := r_if (c := .eq) (off := 7) (by decide +kernel) (by decide)
theorem r74_21 : pR X d 74 0 Q (21, L, st, mem, 0) = pR X d 74 0 Q (22, L, .int (iI (5)) :: st, mem, 0) := q_ic (by decide +kernel)
theorem r74_22 : pR X d 74 0 Q (22, L, st, mem, 0) = pR X d 74 0 Q (26, L, st, mem, 0) := q_s (.ok (.goto (4), 3)) (by decide +kernel) rfl
theorem r74_25 : pR X d 74 0 Q (25, L, st, mem, 0) = pR X d 74 0 Q (26, L, .int (iI (-1)) :: st, mem, 0) := q_ic (by decide +kernel)
theorem r74_26 : pR X d 74 0 Q (26, L, [.int x], mem, 0) = Q (some (.int x)) mem := q_reti (by decide +kernel) rfl
theorem r75_0 : pR X d 75 0 Q (0, [some (.int x)], st, mem, 0) = pR X d 75 0 Q (1, [some (.int x)], .int x :: st, mem, 0) := q_s (.ok (.iload_n 0, 1)) (by decide +kernel) rfl
theorem r75_1 : pR X d 75 0 Q (1, L, st, mem, 0) = pR X d 75 0 Q (2, L, .int (iI (0)) :: st, mem, 0) := q_ic (by decide +kernel)
theorem r75_2 : pR X d 75 0 Q (2, L, st, mem, 0) = pR X d 75 0 Q (3, L, .int (iI (3)) :: st, mem, 0) := q_ic (by decide +kernel)
theorem r75_3 : pR X d 75 0 Q (3, L, .int y2 :: .int y1 :: .int y0 :: [], mem, 0) = Cw X d 7 [.int y0, .int y1, .int y2] mem (fun r mem => pR X d 75 0 Q (6, L, r.toList ++ [], mem, 0)) := q_stat (ix := 52) (kd := 1) (y2 := 7) (as := [.int y2, .int y1, .int y0]) (by decide +kernel) (by decide +kernel) (by decide) rfl rfl rfl (Nat.le_of_ble_eq_true rfl) (by decide)
theorem r75_6 : pR X d 75 0 Q (6, L, [.int x], mem, 0) = (zb .boolean x ∧ Q (some (.int x)) mem) := q_retz (by decide +kernel) rfl (by decide)
theorem r76_0 : pR X d 76 0 Q (0, [some (.ref a)], st, mem, 0) = pR X d 76 0 Q (1, [some (.ref a)], .ref a :: st, mem, 0) := q_s (.ok (.aload_n 0, 1)) (by decide +kernel) rfl
theorem r76_1 : pR X d 76 0 Q (1, L, .ref a :: st, mem, 0) = gf mem a 1 0 (fun p => pR X d 76 0 Q (4, L, p :: st, mem, 0)) := q_get (ix := 9) (by decide +kernel) (by decide +kernel)
theorem r76_4 : pR X d 76 0 Q (4, L, .int x :: st, mem, 0) = ((¬ x = 0 → pR X d 76 0 Q (11, L, st, mem, 0)) ∧ (¬ (¬ x = 0) → pR X d 76 0 Q (7, L, st, mem, 0))) := r_if (c := .ne) (off := 7) (by decide +kernel) (by decide)
theorem r76_7 : pR X d 76 0 Q (7, L, st, mem, 0) = pR X d 76 0 Q (8, L, .int (iI (1)) :: st, mem, 0) := q_ic (by decide +kernel)
theorem r76_8 : pR X d 76 0 Q (8, L, st, mem, 0) = pR X d 76 0 Q (12, L, st, mem, 0) := q_s (.ok (.goto (4), 3)) (by decide +kernel) rfl
theorem r76_11 : pR X d 76 0 Q (11, L, st, mem, 0) = pR X d 76 0 Q (12, L, .int (iI (0)) :: st, mem, 0) := q_ic (by decide +kernel)
theorem r76_12 : pR X d 76 0 Q (12, L, [.int x], mem, 0) = (zb .boolean x ∧ Q (some (.int x)) mem) := q_retz (by decide +kernel) rfl (by decide)
theorem r77_0 : pR X d 77 0 Q (0, [some (.ref a), l1, l2, l3], st, mem, 0) = pR X d 77 0 Q (1, [some (.ref a), l1, l2, l3], .ref a :: st, mem, 0) := q_s (.ok (.aload_n 0, 1)) (by decide +kernel) rfl
theorem r77_1 : pR X d 77 0 Q (1, L, .ref a :: st, mem, 0) = gf mem a 4 1 (fun p => pR X d 77 0 Q (4, L, p :: st, mem, 0)) := q_get (ix := 16) (by decide +kernel) (by decide +kernel)
theorem r77_4 : pR X d 77 0 Q (4, [some (.ref a), l1, l2, l3], st, mem, 0) = pR X d 77 0 Q (5, [some (.ref a), l1, l2, l3], .ref a :: st, mem, 0) := q_s (.ok (.aload_n 0, 1)) (by decide +kernel) rfl
theorem r77_5 : pR X d 77 0 Q (5, L, .ref a :: st, mem, 0) = gf mem a 4 0 (fun p => pR X d 77 0 Q (8, L, p :: st, mem, 0)) := q_get (ix := 10) (by decide +kernel) (by decide +kernel)
theorem r77_8 : pR X d 77 0 Q (8, L, .ref b0 :: .ref a :: [], mem, 0) = (prcv mem 3 a ∧ Cw X d 53 [.ref a, .ref b0] mem (fun r mem => pR X d 77 0 Q (11, L, r.toList ++ [], mem, 0))) := q_virt (ix := 143) (y2 := 53) (as := [.ref b0]) (by decide +kernel) (by decide +kernel) rfl rfl rfl (Nat.le_of_ble_eq_true rfl) (by decide)
theorem r77_11 : pR X d 77 0 Q (11, [some (.ref a), l1, l2, l3], st, mem, 0) = pR X d 77 0 Q (12, [some (.ref a), l1, l2, l3], .ref a :: st, mem, 0) := q_s (.ok (.aload_n 0, 1)) (by decide +kernel) rfl
theorem r77_12 : pR X d 77 0 Q (12, L, .ref a :: st, mem, 0) = gf mem a 4 1 (fun p => pR X d 77 0 Q (15, L, p :: st, mem, 0)) := q_get (ix := 16) (by decide +kernel) (by decide +kernel)
theorem r77_15 : pR X d 77 0 Q (15, [some (.ref a), l1, l2, l3], st, mem, 0) = pR X d 77 0 Q (16, [some (.ref a), l1, l2, l3], .ref a :: st, mem, 0) := q_s (.ok (.aload_n 0, 1)) (by decide +kernel) rfl
theorem r77_16 : pR X d 77 0 Q (16, L, .ref a :: st, mem, 0) = gf mem a 4 1 (fun p => pR X d 77 0 Q (19, L, p :: st, mem, 0)) := q_get (ix := 16) (by decide +kernel) (by decide +kernel)
theorem r77_19 : pR X d 77 0 Q (19, L, .ref a :: [.ref c0], mem, 0) = (prcv mem 3 a ∧ Cw X d 42 [.ref a] mem (fun r mem => pR X d 77 0 Q (22, L, r.toList ++ [.ref c0], mem, 0))) := q_virt (ix := 275) (y2 := 42) (as := []) (by decide +kernel) (by decide +kernel) rfl rfl rfl (Nat.le_of_ble_eq_true rfl) (by decide)
theorem r77_22 : pR X d 77 0 Q (22, [l0, l1, l2, some (.int x)], st, mem, 0) = pR X d 77 0 Q (23, [l0, l1, l2, some (.int x)], .int x :: st, mem, 0) := q_s (.ok (.iload_n 3, 1)) (by decide +kernel) rfl
theorem r77_23 : pR X d 77 0 Q (23, L, .int y1 :: .int y0 :: .ref a :: [], mem, 0) = (prcv mem 3 a ∧ Cw X d 62 [.ref a, .int y0, .int y1] mem (fun r mem => pR X d 77 0 Q (26, L, r.toList ++ [], mem, 0))) := q_virt (ix := 150) (y2 := 62) (as := [.int y1, .int y0]) (by decide +kernel) (by decide +kernel) rfl rfl rfl (Nat.le_of_ble_eq_true rfl) (by decide)
theorem r77_26 : pR X d 77 0 Q (26, [some (.ref a), l1, l2, l3], st, mem, 0) = pR X d 77 0 Q (27, [some (.ref a), l1, l2, l3], .ref a :: st, mem, 0) := q_s (.ok (.aload_n 0, 1)) (by decide +kernel) rfl
theorem r77_27 : pR X d 77 0 Q (27, [l0, some (.ref a), l2, l3], st, mem, 0) = pR X d 77 0 Q (28, [l0, some (.ref a), l2, l3], .ref a :: st, mem, 0) := q_s (.ok (.aload_n 1, 1)) (by decide +kernel) rfl
theorem r77_28 : pR X d 77 0 Q (28, [l0, l1, some (.int x), l3], st, mem, 0) = pR X d 77 0 Q (29, [l0, l1, some (.int x), l3], .int x :: st, mem, 0) := q_s (.ok (.iload_n 2, 1)) (by decide +kernel) rfl
theorem r77_29 : pR X d 77 0 Q (29, L, .int y1 :: .ref b0 :: .ref a :: [], mem, 0) = (prcv mem 4 a ∧ Cw X d 78 [.ref a, .ref b0, .int y1] mem (fun r mem => pR X d 77 0 Q (32, L, r.toList ++ [], mem, 0))) := q_virt (ix := 186) (y2 := 78) (as := [.int y1, .ref b0]) (by decide +kernel) (by decide +kernel) rfl rfl rfl (Nat.le_of_ble_eq_true rfl) (by decide)
theorem r77_32 : pR X d 77 0 Q (32, L, [.int x], mem, 0) = (zb .boolean x ∧ Q (some (.int x)) mem) := q_retz (by decide +kernel) rfl (by decide)
theorem r78_0 : pR X d 78 0 Q (0, L, st, mem, 0) = pR X d 78 0 Q (1, L, .int (iI (0)) :: st, mem, 0) := q_ic (by decide +kernel)
theorem r78_1 : pR X d 78 0 Q (1, [l0, l1, l2, l3], .int x :: st, mem, 0) = pR X d 78 0 Q (2, [l0, l1, cl1 l2, some (.int x)], st, mem, 0) := q_s (.ok (.istore_n 3, 1)) (by decide +kernel) rfl
theorem r78_2 : pR X d 78 0 Q (2, [l0, l1, l2, some (.int x)], st, mem, 0) = pR X d 78 0 Q (3, [l0, l1, l2, some (.int x)], .int x :: st, mem, 0) := q_s (.ok (.iload_n 3, 1)) (by decide +kernel) rfl
theorem r78_3 : pR X d 78 0 Q (3, [l0, some (.ref a), l2, l3], st, mem, 0) = pR X d 78 0 Q (4, [l0, some (.ref a), l2, l3], .ref a :: st, mem, 0) := q_s (.ok (.aload_n 1, 1)) (by decide +kernel) rfl
theorem r78_4 : pR X d 78 0 Q (4, L, .ref a :: st, mem, 0) = gf mem a 1 1 (fun p => pR X d 78 0 Q (7, L, p :: st, mem, 0)) := q_get (ix := 230) (by decide +kernel) (by decide +kernel)
theorem r78_7 : pR X d 78 0 Q (7, L, .int z :: .int x :: st, mem, 0) = ((z ≤ x → pR X d 78 0 Q (56, L, st, mem, 0)) ∧ (¬ (z ≤ x) → pR X d 78 0 Q (10, L, st, mem, 0))) := r_ic (c := .ge) (off := 49) (by decide +kernel) (by decide)
theorem r78_10 : pR X d 78 0 Q (10, [l0, l1, l2, some (.int x)], st, mem, 0) = pR X d 78 0 Q (11, [l0, l1, l2, some (.int x)], .int x :: st, mem, 0) := q_s (.ok (.iload_n 3, 1)) (by decide +kernel) rfl
theorem r78_11 : pR X d 78 0 Q (11, L, .int x :: st, mem, 0) = ((x ≤ 0 → pR X d 78 0 Q (21, L, st, mem, 0)) ∧ (¬ (x ≤ 0) → pR X d 78 0 Q (14, L, st, mem, 0))) := r_if (c := .le) (off := 10) (by decide +kernel) (by decide)
theorem r78_14 : pR X d 78 0 Q (14, [some (.ref a), l1, l2, l3], st, mem, 0) = pR X d 78 0 Q (15, [some (.ref a), l1, l2, l3], .ref a :: st, mem, 0) := q_s (.ok (.aload_n 0, 1)) (by decide +kernel) rfl
theorem r78_15 : pR X d 78 0 Q (15, L, .ref a :: st, mem, 0) = gf mem a 4 1 (fun p => pR X d 78 0 Q (18, L, p :: st, mem, 0)) := q_get (ix := 16) (by decide +kernel) (by decide +kernel)
theorem r78_18 : pR X d 78 0 Q (18, L, .ref a :: [], mem, 0) = (prcv mem 3 a ∧ Cw X d 41 [.ref a] mem (fun r mem => pR X d 78 0 Q (21, L, r.toList ++ [], mem, 0))) := q_virt (ix := 193) (y2 := 41) (as := []) (by decide +kernel) (by decide +kernel) rfl rfl rfl (Nat.le_of_ble_eq_true rfl) (by decide)
theorem r78_21 : pR X d 78 0 Q (21, [l0, some (.ref a), l2, l3], st, mem, 0) = pR X d 78 0 Q (22, [l0, some (.ref a), l2, l3], .ref a :: st, mem, 0) := q_s (.ok (.aload_n 1, 1)) (by decide +kernel) rfl
theorem r78_22 : pR X d 78 0 Q (22, L, .ref a :: st, mem, 0) = gf mem a 1 2 (fun p => pR X d 78 0 Q (25, L, p :: st, mem, 0)) := q_get (ix := 248) (by decide +kernel) (by decide +kernel)
theorem r78_25 : pR X d 78 0 Q (25, [l0, l1, l2, some (.int x)], st, mem, 0) = pR X d 78 0 Q (26, [l0, l1, l2, some (.int x)], .int x :: st, mem, 0) := q_s (.ok (.iload_n 3, 1)) (by decide +kernel) rfl
theorem r78_26 : pR X d 78 0 Q (26, L, .int x :: .ref a :: st, mem, 0) = ri X mem a x (fun z => pR X d 78 0 Q (27, L, .int z :: st, mem, 0)) := q_ri (by decide +kernel)
theorem r78_27 : pR X d 78 0 Q (27, L, st, mem, 0) = pR X d 78 0 Q (28, L, .int (iI (-1)) :: st, mem, 0) := q_ic (by decide +kernel)
theorem r78_28 : pR X d 78 0 Q (28, L, .int z :: .int x :: st, mem, 0) = ((x = z → pR X d 78 0 Q (50, L, st, mem, 0)) ∧ (¬ (x = z) → pR X d 78 0 Q (31, L, st, mem, 0))) := r_ic (c := .eq) (off := 22) (by decide +kernel) (by decide)
theorem r78_31 : pR X d 78 0 Q (31, [l0, some (.ref a), l2, l3], st, mem, 0) = pR X d 78 0 Q (32, [l0, some (.ref a), l2, l3], .ref a :: st, mem, 0) := q_s (.ok (.aload_n 1, 1)) (by decide +kernel) rfl
theorem r78_32 : pR X d 78 0 Q (32, L, .ref a :: st, mem, 0) = gf mem a 1 2 (fun p => pR X d 78 0 Q (35, L, p :: st, mem, 0)) := q_get (ix := 248) (by decide +kernel) (by decide +kernel)
theorem r78_35 : pR X d 78 0 Q (35, [l0, l1, l2, some (.int x)], st, mem, 0) = pR X d 78 0 Q (36, [l0, l1, l2, some (.int x)], .int x :: st, mem, 0) := q_s (.ok (.iload_n 3, 1)) (by decide +kernel) rfl
theorem r78_36 : pR X d 78 0 Q (36, L, .int x :: .ref a :: st, mem, 0) = ri X mem a x (fun z => pR X d 78 0 Q (37, L, .int z :: st, mem, 0)) := q_ri (by decide +kernel)
theorem r78_37 : pR X d 78 0 Q (37, [some (.ref a), l1, l2, l3], st, mem, 0) = pR X d 78 0 Q (38, [some (.ref a), l1, l2, l3], .ref a :: st, mem, 0) := q_s (.ok (.aload_n 0, 1)) (by decide +kernel) rfl
theorem r78_38 : pR X d 78 0 Q (38, L, .ref a :: st, mem, 0) = gf mem a 4 1 (fun p => pR X d 78 0 Q (41, L, p :: st, mem, 0)) := q_get (ix := 16) (by decide +kernel) (by decide +kernel)
theorem r78_41 : pR X d 78 0 Q (41, [l0, l1, some (.int x), l3], st, mem, 0) = pR X d 78 0 Q (42, [l0, l1, some (.int x), l3], .int x :: st, mem, 0) := q_s (.ok (.iload_n 2, 1)) (by decide +kernel) rfl
theorem r78_42 : pR X d 78 0 Q (42, L, .int y0 :: .ref a :: [.int k0], mem, 0) = (prcv mem 3 a ∧ Cw X d 22 [.ref a, .int y0] mem (fun r mem => pR X d 78 0 Q (45, L, r.toList ++ [.int k0], mem, 0))) := q_virt (ix := 156) (y2 := 22) (as := [.int y0]) (by decide +kernel) (by decide +kernel) rfl rfl rfl (Nat.le_of_ble_eq_true rfl) (by decide)
theorem r78_45 : pR X d 78 0 Q (45, L, .int z :: .int x :: st, mem, 0) = ((x = z → pR X d 78 0 Q (50, L, st, mem, 0)) ∧ (¬ (x = z) → pR X d 78 0 Q (48, L, st, mem, 0))) := r_ic (c := .eq) (off := 5) (by decide +kernel) (by decide)
theorem r78_48 : pR X d 78 0 Q (48, L, st, mem, 0) = pR X d 78 0 Q (49, L, .int (iI (0)) :: st, mem, 0) := q_ic (by decide +kernel)
theorem r78_49 : pR X d 78 0 Q (49, L, [.int x], mem, 0) = (zb .boolean x ∧ Q (some (.int x)) mem) := q_retz (by decide +kernel) rfl (by decide)
theorem r78_50 : pR X d 78 0 Q (50, [l0, l1, l2, some (.int x)], st, mem, 0) = pR X d 78 0 Q (53, [l0, l1, cl1 l2, some (.int (x + iI (1)))], st, mem, 0) := q_s (.ok (.iinc 3 (1), 3)) (by decide +kernel) rfl
theorem r78_53 : pR X d 78 0 Q (53, L, st, mem, 0) = pR X d 78 0 Q (2, L, st, mem, 0) := q_s (.ok (.goto (-51), 3)) (by decide +kernel) rfl
theorem r78_56 : pR X d 78 0 Q (56, L, st, mem, 0) = pR X d 78 0 Q (57, L, .int (iI (1)) :: st, mem, 0) := q_ic (by decide +kernel)
theorem r78_57 : pR X d 78 0 Q (57, L, [.int x], mem, 0) = (zb .boolean x ∧ Q (some (.int x)) mem) := q_retz (by decide +kernel) rfl (by decide)
theorem r79_0 : pR X d 79 0 Q (0, [some (.ref a), l1, l2, l3, l4], st, mem, 0) = pR X d 79 0 Q (1, [some (.ref a), l1, l2, l3, l4], .ref a :: st, mem, 0) := q_s (.ok (.aload_n 0, 1)) (by decide +kernel) rfl
theorem r79_1 : pR X d 79 0 Q (1, [l0, some (.int x), l2, l3, l4], st, mem, 0) = pR X d 79 0 Q (2, [l0, some (.int x), l2, l3, l4], .int x :: st, mem, 0) := q_s (.ok (.iload_n 1, 1)) (by decide +kernel) rfl
theorem r79_2 : pR X d 79 0 Q (2, [l0, l1, some (.int x), l3, l4], st, mem, 0) = pR X d 79 0 Q (3, [l0, l1, some (.int x), l3, l4], .int x :: st, mem, 0) := q_s (.ok (.iload_n 2, 1)) (by decide +kernel) rfl
theorem r79_3 : pR X d 79 0 Q (3, L, .int y1 :: .int y0 :: .ref a :: [], mem, 0) = (prcv mem 4 a ∧ Cw X d 73 [.ref a, .int y0, .int y1] mem (fun r mem => pR X d 79 0 Q (6, L, r.toList ++ [], mem, 0))) := q_virt (ix := 179) (y2 := 73) (as := [.int y1, .int y0]) (by decide +kernel) (by decide +kernel) rfl rfl rfl (Nat.le_of_ble_eq_true rfl) (by decide)
theorem r79_6 : pR X d 79 0 Q (6, [l0, l1, l2, l3, l4], .int x :: st, mem, 0) = pR X d 79 0 Q (7, [l0, l1, cl1 l2, some (.int x), l4], st, mem, 0) := q_s (.ok (.istore_n 3, 1)) (by decide +kernel) rfl
theorem r79_7 : pR X d 79 0 Q (7, [l0, l1, l2, some (.int x), l4], st, mem, 0) = pR X d 79 0 Q (8, [l0, l1, l2, some (.int x), l4], .int x :: st, mem, 0) := q_s (.ok (.iload_n 3, 1)) (by decide +kernel) rfl
theorem r79_8 : pR X d 79 0 Q (8, L, st, mem, 0) = pR X d 79 0 Q (9, L, .int (iI (-1)) :: st, mem, 0) := q_ic (by decide +kernel)
theorem r79_9 : pR X d 79 0 Q (9, L, .int z :: .int x :: st, mem, 0) = ((x = z → pR X d 79 0 Q (18, L, st, mem, 0)) ∧ (¬ (x = z) → pR X d 79 0 Q (12, L, st, mem, 0))) := r_ic (c := .eq) (off := 9) (by decide +kernel) (by decide)
theorem r79_12 : pR X d 79 0 Q (12, [some (.ref a), l1, l2, l3, l4], st, mem, 0) = pR X d 79 0 Q (13, [some (.ref a), l1, l2, l3, l4], .ref a :: st, mem, 0) := q_s (.ok (.aload_n 0, 1)) (by decide +kernel) rfl
theorem r79_13 : pR X d 79 0 Q (13, [l0, l1, l2, some (.int x), l4], st, mem, 0) = pR X d 79 0 Q (14, [l0, l1, l2, some (.int x), l4], .int x :: st, mem, 0) := q_s (.ok (.iload_n 3, 1)) (by decide +kernel) rfl
theorem r79_14 : pR X d 79 0 Q (14, L, .int y0 :: .ref a :: [], mem, 0) = (prcv mem 4 a ∧ Cw X d 8 [.ref a, .int y0] mem (fun r mem => pR X d 79 0 Q (17, L, r.toList ++ [], mem, 0))) := q_virt (ix := 59) (y2 := 8) (as := [.int y0]) (by decide +kernel) (by decide +kernel) rfl rfl rfl (Nat.le_of_ble_eq_true rfl) (by decide)
theorem r79_17 : pR X d 79 0 Q (17, L, [.int x], mem, 0) = Q (some (.int x)) mem := q_reti (by decide +kernel) rfl
theorem r79_18 : pR X d 79 0 Q (18, L, st, mem, 0) = pR X d 79 0 Q (19, L, .int (iI (0)) :: st, mem, 0) := q_ic (by decide +kernel)
theorem r79_19 : pR X d 79 0 Q (19, [l0, l1, l2, l3, l4], .int x :: st, mem, 0) = pR X d 79 0 Q (21, [l0, l1, l2, cl1 l3, some (.int x)], st, mem, 0) := q_s (.ok (.istore 4, 2)) (by decide +kernel) rfl
theorem r79_21 : pR X d 79 0 Q (21, [l0, l1, l2, l3, some (.int x)], st, mem, 0) = pR X d 79 0 Q (23, [l0, l1, l2, l3, some (.int x)], .int x :: st, mem, 0) := q_s (.ok (.iload 4, 2)) (by decide +kernel) rfl
theorem r79_23 : pR X d 79 0 Q (23, L, st, mem, 0) = pR X d 79 0 Q (25, L, .int (iI (100)) :: st, mem, 0) := q_bi (n := 100) (by decide +kernel) (by decide +kernel)
theorem r79_25 : pR X d 79 0 Q (25, L, .int z :: .int x :: st, mem, 0) = ((z ≤ x → pR X d 79 0 Q (53, L, st, mem, 0)) ∧ (¬ (z ≤ x) → pR X d 79 0 Q (28, L, st, mem, 0))) := r_ic (c := .ge) (off := 28) (by decide +kernel) (by decide)
theorem r79_28 : pR X d 79 0 Q (28, [some (.ref a), l1, l2, l3, l4], st, mem, 0) = pR X d 79 0 Q (29, [some (.ref a), l1, l2, l3, l4], .ref a :: st, mem, 0) := q_s (.ok (.aload_n 0, 1)) (by decide +kernel) rfl
theorem r79_29 : pR X d 79 0 Q (29, [some (.ref a), l1, l2, l3, l4], st, mem, 0) = pR X d 79 0 Q (30, [some (.ref a), l1, l2, l3, l4], .ref a :: st, mem, 0) := q_s (.ok (.aload_n 0, 1)) (by decide +kernel) rfl
theorem r79_30 : pR X d 79 0 Q (30, L, .ref a :: st, mem, 0) = gf mem a 4 5 (fun p => pR X d 79 0 Q (33, L, p :: st, mem, 0)) := q_get (ix := 35) (by decide +kernel) (by decide +kernel)
theorem r79_33 : pR X d 79 0 Q (33, [l0, some (.int x), l2, l3, l4], st, mem, 0) = pR X d 79 0 Q (34, [l0, some (.int x), l2, l3, l4], .int x :: st, mem, 0) := q_s (.ok (.iload_n 1, 1)) (by decide +kernel) rfl
theorem r79_34 : pR X d 79 0 Q (34, L, .int x :: .ref a :: st, mem, 0) = ra mem a x (fun b => pR X d 79 0 Q (35, L, .ref b :: st, mem, 0)) := q_ra (by decide +kernel)
theorem r79_35 : pR X d 79 0 Q (35, [l0, l1, some (.int x), l3, l4], st, mem, 0) = pR X d 79 0 Q (36, [l0, l1, some (.int x), l3, l4], .int x :: st, mem, 0) := q_s (.ok (.iload_n 2, 1)) (by decide +kernel) rfl
theorem r79_36 : pR X d 79 0 Q (36, [l0, l1, l2, l3, some (.int x)], st, mem, 0) = pR X d 79 0 Q (38, [l0, l1, l2, l3, some (.int x)], .int x :: st, mem, 0) := q_s (.ok (.iload 4, 2)) (by decide +kernel) rfl
theorem r79_38 : pR X d 79 0 Q (38, L, .int y2 :: .int y1 :: .ref b0 :: .ref a :: [], mem, 0) = (prcv mem 4 a ∧ Cw X d 77 [.ref a, .ref b0, .int y1, .int y2] mem (fun r mem => pR X d 79 0 Q (41, L, r.toList ++ [], mem, 0))) := q_virt (ix := 182) (y2 := 77) (as := [.int y2, .int y1, .ref b0]) (by decide +kernel) (by decide +kernel) rfl rfl rfl (Nat.le_of_ble_eq_true rfl) (by decide)
theorem r79_41 : pR X d 79 0 Q (41, L, .int x :: st, mem, 0) = ((x = 0 → pR X d 79 0 Q (47, L, st, mem, 0)) ∧ (¬ (x = 0) → pR X d 79 0 Q (44, L, st, mem, 0))) := r_if (c := .eq) (off := 6) (by decide +kernel) (by decide)
theorem r79_44 : pR X d 79 0 Q (44, [l0, l1, l2, l3, some (.int x)], st, mem, 0) = pR X d 79 0 Q (46, [l0, l1, l2, l3, some (.int x)], .int x :: st, mem, 0) := q_s (.ok (.iload 4, 2)) (by decide +kernel) rfl
theorem r79_46 : pR X d 79 0 Q (46, L, [.int x], mem, 0) = Q (some (.int x)) mem := q_reti (by decide +kernel) rfl
theorem r79_47 : pR X d 79 0 Q (47, [l0, l1, l2, l3, some (.int x)], st, mem, 0) = pR X d 79 0 Q (50, [l0, l1, l2, cl1 l3, some (.int (x + iI (1)))], st, mem, 0) := q_s (.ok (.iinc 4 (1), 3)) (by decide +kernel) rfl
theorem r79_50 : pR X d 79 0 Q (50, L, st, mem, 0) = pR X d 79 0 Q (21, L, st, mem, 0) := q_s (.ok (.goto (-29), 3)) (by decide +kernel) rfl
theorem r79_53 : pR X d 79 0 Q (53, [some (.ref a), l1, l2, l3, l4], st, mem, 0) = pR X d 79 0 Q (54, [some (.ref a), l1, l2, l3, l4], .ref a :: st, mem, 0) := q_s (.ok (.aload_n 0, 1)) (by decide +kernel) rfl
theorem r79_54 : pR X d 79 0 Q (54, L, st, mem, 0) = pR X d 79 0 Q (55, L, .int (iI (3)) :: st, mem, 0) := q_ic (by decide +kernel)
theorem r79_55 : pR X d 79 0 Q (55, L, .int y0 :: .ref a :: [], mem, 0) = (prcv mem 4 a ∧ Cw X d 8 [.ref a, .int y0] mem (fun r mem => pR X d 79 0 Q (58, L, r.toList ++ [], mem, 0))) := q_virt (ix := 59) (y2 := 8) (as := [.int y0]) (by decide +kernel) (by decide +kernel) rfl rfl rfl (Nat.le_of_ble_eq_true rfl) (by decide)
theorem r79_58 : pR X d 79 0 Q (58, L, [.int x], mem, 0) = Q (some (.int x)) mem := q_reti (by decide +kernel) rfl
theorem r80_0 : pR X d 80 0 Q (0, [some (.ref a), l1, l2, l3, l4, l5], st, mem, 0) = pR X d 80 0 Q (1, [some (.ref a), l1, l2, l3, l4, l5], .ref a :: st, mem, 0) := q_s (.ok (.aload_n 0, 1)) (by decide +kernel) rfl
theorem r80_1 : pR X d 80 0 Q (1, [l0, some (.int x), l2, l3, l4, l5], st, mem, 0) = pR X d 80 0 Q (2, [l0, some (.int x), l2, l3, l4, l5], .int x :: st, mem, 0) := q_s (.ok (.iload_n 1, 1)) (by decide +kernel) rfl
theorem r80_2 : pR X d 80 0 Q (2, [l0, l1, some (.int x), l3, l4, l5], st, mem, 0) = pR X d 80 0 Q (3, [l0, l1, some (.int x), l3, l4, l5], .int x :: st, mem, 0) := q_s (.ok (.iload_n 2, 1)) (by decide +kernel) rfl
theorem r80_3 : pR X d 80 0 Q (3, L, .int y1 :: .int y0 :: .ref a :: [], mem, 0) = (prcv mem 4 a ∧ Cw X d 73 [.ref a, .int y0, .int y1] mem (fun r mem => pR X d 80 0 Q (6, L, r.toList ++ [], mem, 0))) := q_virt (ix := 179) (y2 := 73) (as := [.int y1, .int y0]) (by decide +kernel) (by decide +kernel) rfl rfl rfl (Nat.le_of_ble_eq_true rfl) (by decide)
theorem r80_6 : pR X d 80 0 Q (6, [l0, l1, l2, l3, l4, l5], .int x :: st, mem, 0) = pR X d 80 0 Q (7, [l0, l1, cl1 l2, some (.int x), l4, l5], st, mem, 0) := q_s (.ok (.istore_n 3, 1)) (by decide +kernel) rfl
theorem r80_7 : pR X d 80 0 Q (7, [l0, l1, l2, some (.int x), l4, l5], st, mem, 0) = pR X d 80 0 Q (8, [l0, l1, l2, some (.int x), l4, l5], .int x :: st, mem, 0) := q_s (.ok (.iload_n 3, 1)) (by decide +kernel) rfl
theorem r80_8 : pR X d 80 0 Q (8, L, st, mem, 0) = pR X d 80 0 Q (9, L, .int (iI (-1)) :: st, mem, 0) := q_ic (by decide +kernel)
theorem r80_9 : pR X d 80 0 Q (9, L, .int z :: .int x :: st, mem, 0) = ((x = z → pR X d 80 0 Q (18, L, st, mem, 0)) ∧ (¬ (x = z) → pR X d 80 0 Q (12, L, st, mem, 0))) := r_ic (c := .eq) (off := 9) (by decide +kernel) (by decide)
theorem r80_12 : pR X d 80 0 Q (12, [some (.ref a), l1, l2, l3, l4, l5], st, mem, 0) = pR X d 80 0 Q (13, [some (.ref a), l1, l2, l3, l4, l5], .ref a :: st, mem, 0) := q_s (.ok (.aload_n 0, 1)) (by decide +kernel) rfl
theorem r80_13 : pR X d 80 0 Q (13, [l0, l1, l2, some (.int x), l4, l5], st, mem, 0) = pR X d 80 0 Q (14, [l0, l1, l2, some (.int x), l4, l5], .int x :: st, mem, 0) := q_s (.ok (.iload_n 3, 1)) (by decide +kernel) rfl
theorem r80_14 : pR X d 80 0 Q (14, L, .int y0 :: .ref a :: [], mem, 0) = (prcv mem 4 a ∧ Cw X d 8 [.ref a, .int y0] mem (fun r mem => pR X d 80 0 Q (17, L, r.toList ++ [], mem, 0))) := q_virt (ix := 59) (y2 := 8) (as := [.int y0]) (by decide +kernel) (by decide +kernel) rfl rfl rfl (Nat.le_of_ble_eq_true rfl) (by decide)
theorem r80_17 : pR X d 80 0 Q (17, L, [.int x], mem, 0) = Q (some (.int x)) mem := q_reti (by decide +kernel) rfl
theorem r80_18 : pR X d 80 0 Q (18, L, st, mem, 0) = pR X d 80 0 Q (19, L, .int (iI (0)) :: st, mem, 0) := q_ic (by decide +kernel)
theorem r80_19 : pR X d 80 0 Q (19, [l0, l1, l2, l3, l4, l5], .int x :: st, mem, 0) = pR X d 80 0 Q (21, [l0, l1, l2, cl1 l3, some (.int x), l5], st, mem, 0) := q_s (.ok (.istore 4, 2)) (by decide +kernel) rfl
theorem r80_21 : pR X d 80 0 Q (21, L, st, mem, 0) = pR X d 80 0 Q (22, L, .int (iI (0)) :: st, mem, 0) := q_ic (by decide +kernel)
theorem r80_22 : pR X d 80 0 Q (22, [l0, l1, l2, l3, l4, l5], .int x :: st, mem, 0) = pR X d 80 0 Q (24, [l0, l1, l2, l3, cl1 l4, some (.int x)], st, mem, 0) := q_s (.ok (.istore 5, 2)) (by decide +kernel) rfl
theorem r80_24 : pR X d 80 0 Q (24, [l0, l1, l2, l3, l4, some (.int x)], st, mem, 0) = pR X d 80 0 Q (26, [l0, l1, l2, l3, l4, some (.int x)], .int x :: st, mem, 0) := q_s (.ok (.iload 5, 2)) (by decide +kernel) rfl
theorem r80_26 : pR X d 80 0 Q (26, L, st, mem, 0) = pR X d 80 0 Q (28, L, .int (iI (7)) :: st, mem, 0) := q_bi (n := 7) (by decide +kernel) (by decide +kernel)
theorem r80_28 : pR X d 80 0 Q (28, L, .int z :: .int x :: st, mem, 0) = ((z ≤ x → pR X d 80 0 Q (85, L, st, mem, 0)) ∧ (¬ (z ≤ x) → pR X d 80 0 Q (31, L, st, mem, 0))) := r_ic (c := .ge) (off := 57) (by decide +kernel) (by decide)
theorem r80_31 : pR X d 80 0 Q (31, [some (.ref a), l1, l2, l3, l4, l5], st, mem, 0) = pR X d 80 0 Q (32, [some (.ref a), l1, l2, l3, l4, l5], .ref a :: st, mem, 0) := q_s (.ok (.aload_n 0, 1)) (by decide +kernel) rfl
theorem r80_32 : pR X d 80 0 Q (32, L, .ref a :: st, mem, 0) = gf mem a 4 1 (fun p => pR X d 80 0 Q (35, L, p :: st, mem, 0)) := q_get (ix := 16) (by decide +kernel) (by decide +kernel)
theorem r80_35 : pR X d 80 0 Q (35, [some (.ref a), l1, l2, l3, l4, l5], st, mem, 0) = pR X d 80 0 Q (36, [some (.ref a), l1, l2, l3, l4, l5], .ref a :: st, mem, 0) := q_s (.ok (.aload_n 0, 1)) (by decide +kernel) rfl
theorem r80_36 : pR X d 80 0 Q (36, L, .ref a :: st, mem, 0) = gf mem a 4 0 (fun p => pR X d 80 0 Q (39, L, p :: st, mem, 0)) := q_get (ix := 10) (by decide +kernel) (by decide +kernel)
theorem r80_39 : pR X d 80 0 Q (39, L, .ref b0 :: .ref a :: [], mem, 0) = (prcv mem 3 a ∧ Cw X d 53 [.ref a, .ref b0] mem (fun r mem => pR X d 80 0 Q (42, L, r.toList ++ [], mem, 0))) := q_virt (ix := 143) (y2 := 53) (as := [.ref b0]) (by decide +kernel) (by decide +kernel) rfl rfl rfl (Nat.le_of_ble_eq_true rfl) (by decide)
theorem r80_42 : pR X d 80 0 Q (42, [some (.ref a), l1, l2, l3, l4, l5], st, mem, 0) = pR X d 80 0 Q (43, [some (.ref a), l1, l2, l3, l4, l5], .ref a :: st, mem, 0) := q_s (.ok (.aload_n 0, 1)) (by decide +kernel) rfl
theorem r80_43 : pR X d 80 0 Q (43, L, .ref a :: st, mem, 0) = gf mem a 4 1 (fun p => pR X d 80 0 Q (46, L, p :: st, mem, 0)) := q_get (ix := 16) (by decide +kernel) (by decide +kernel)
theorem r80_46 : pR X d 80 0 Q (46, L, .ref a :: st, mem, 0) = gf mem a 3 5 (fun p => pR X d 80 0 Q (49, L, p :: st, mem, 0)) := q_get (ix := 92) (by decide +kernel) (by decide +kernel)
theorem r80_49 : pR X d 80 0 Q (49, [l0, l1, some (.int x), l3, l4, l5], st, mem, 0) = pR X d 80 0 Q (50, [l0, l1, some (.int x), l3, l4, l5], .int x :: st, mem, 0) := q_s (.ok (.iload_n 2, 1)) (by decide +kernel) rfl
theorem r80_50 : pR X d 80 0 Q (50, L, .int x :: .ref a :: st, mem, 0) = ra mem a x (fun b => pR X d 80 0 Q (51, L, .ref b :: st, mem, 0)) := q_ra (by decide +kernel)
theorem r80_51 : pR X d 80 0 Q (51, [l0, l1, l2, l3, l4, some (.int x)], st, mem, 0) = pR X d 80 0 Q (53, [l0, l1, l2, l3, l4, some (.int x)], .int x :: st, mem, 0) := q_s (.ok (.iload 5, 2)) (by decide +kernel) rfl
theorem r80_53 : pR X d 80 0 Q (53, L, p :: .ref a :: st, mem, 0) = pf 80 mem a 0 0 p (fun mem => pR X d 80 0 Q (56, L, st, mem, 0)) := q_put (ix := 153) (by decide +kernel) (by decide +kernel) (by decide)
theorem r80_56 : pR X d 80 0 Q (56, [some (.ref a), l1, l2, l3, l4, l5], st, mem, 0) = pR X d 80 0 Q (57, [some (.ref a), l1, l2, l3, l4, l5], .ref a :: st, mem, 0) := q_s (.ok (.aload_n 0, 1)) (by decide +kernel) rfl
theorem r80_57 : pR X d 80 0 Q (57, [some (.ref a), l1, l2, l3, l4, l5], st, mem, 0) = pR X d 80 0 Q (58, [some (.ref a), l1, l2, l3, l4, l5], .ref a :: st, mem, 0) := q_s (.ok (.aload_n 0, 1)) (by decide +kernel) rfl
theorem r80_58 : pR X d 80 0 Q (58, L, .ref a :: st, mem, 0) = gf mem a 4 5 (fun p => pR X d 80 0 Q (61, L, p :: st, mem, 0)) := q_get (ix := 35) (by decide +kernel) (by decide +kernel)
theorem r80_61 : pR X d 80 0 Q (61, [l0, some (.int x), l2, l3, l4, l5], st, mem, 0) = pR X d 80 0 Q (62, [l0, some (.int x), l2, l3, l4, l5], .int x :: st, mem, 0) := q_s (.ok (.iload_n 1, 1)) (by decide +kernel) rfl
theorem r80_62 : pR X d 80 0 Q (62, L, .int x :: .ref a :: st, mem, 0) = ra mem a x (fun b => pR X d 80 0 Q (63, L, .ref b :: st, mem, 0)) := q_ra (by decide +kernel)
theorem r80_63 : pR X d 80 0 Q (63, [l0, l1, some (.int x), l3, l4, l5], st, mem, 0) = pR X d 80 0 Q (64, [l0, l1, some (.int x), l3, l4, l5], .int x :: st, mem, 0) := q_s (.ok (.iload_n 2, 1)) (by decide +kernel) rfl
theorem r80_64 : pR X d 80 0 Q (64, L, .int y1 :: .ref b0 :: .ref a :: [], mem, 0) = (prcv mem 4 a ∧ Cw X d 78 [.ref a, .ref b0, .int y1] mem (fun r mem => pR X d 80 0 Q (67, L, r.toList ++ [], mem, 0))) := q_virt (ix := 186) (y2 := 78) (as := [.int y1, .ref b0]) (by decide +kernel) (by decide +kernel) rfl rfl rfl (Nat.le_of_ble_eq_true rfl) (by decide)
theorem r80_67 : pR X d 80 0 Q (67, L, .int x :: st, mem, 0) = ((x = 0 → pR X d 80 0 Q (79, L, st, mem, 0)) ∧ (¬ (x = 0) → pR X d 80 0 Q (70, L, st, mem, 0))) := r_if (c := .eq) (off := 12) (by decide +kernel) (by decide)
theorem r80_70 : pR X d 80 0 Q (70, [l0, l1, l2, l3, some (.int x), l5], st, mem, 0) = pR X d 80 0 Q (72, [l0, l1, l2, l3, some (.int x), l5], .int x :: st, mem, 0) := q_s (.ok (.iload 4, 2)) (by decide +kernel) rfl
theorem r80_72 : pR X d 80 0 Q (72, L, st, mem, 0) = pR X d 80 0 Q (73, L, .int (iI (1)) :: st, mem, 0) := q_ic (by decide +kernel)
theorem r80_73 : pR X d 80 0 Q (73, [l0, l1, l2, l3, l4, some (.int x)], st, mem, 0) = pR X d 80 0 Q (75, [l0, l1, l2, l3, l4, some (.int x)], .int x :: st, mem, 0) := q_s (.ok (.iload 5, 2)) (by decide +kernel) rfl
theorem r80_75 : pR X d 80 0 Q (75, L, .int z :: .int x :: st, mem, 0) = pR X d 80 0 Q (76, L, .int (x <<< (z &&& 31)) :: st, mem, 0) := q_s (.ok (.ishl, 1)) (by decide +kernel) rfl
theorem r80_76 : pR X d 80 0 Q (76, L, .int z :: .int x :: st, mem, 0) = pR X d 80 0 Q (77, L, .int (x ||| z) :: st, mem, 0) := q_s (.ok (.ior, 1)) (by decide +kernel) rfl
theorem r80_77 : pR X d 80 0 Q (77, [l0, l1, l2, l3, l4, l5], .int x :: st, mem, 0) = pR X d 80 0 Q (79, [l0, l1, l2, cl1 l3, some (.int x), l5], st, mem, 0) := q_s (.ok (.istore 4, 2)) (by decide +kernel) rfl
theorem r80_79 : pR X d 80 0 Q (79, [l0, l1, l2, l3, l4, some (.int x)], st, mem, 0) = pR X d 80 0 Q (82, [l0, l1, l2, l3, cl1 l4, some (.int (x + iI (1)))], st, mem, 0) := q_s (.ok (.iinc 5 (1), 3)) (by decide +kernel) rfl
theorem r80_82 : pR X d 80 0 Q (82, L, st, mem, 0) = pR X d 80 0 Q (24, L, st, mem, 0) := q_s (.ok (.goto (-58), 3)) (by decide +kernel) rfl
theorem r80_85 : pR X d 80 0 Q (85, [l0, l1, l2, l3, some (.int x), l5], st, mem, 0) = pR X d 80 0 Q (87, [l0, l1, l2, l3, some (.int x), l5], .int x :: st, mem, 0) := q_s (.ok (.iload 4, 2)) (by decide +kernel) rfl
theorem r80_87 : pR X d 80 0 Q (87, L, [.int x], mem, 0) = Q (some (.int x)) mem := q_reti (by decide +kernel) rfl
theorem r81_0 : pR X d 81 0 Q (0, [l0, some (.int x), l2], st, mem, 0) = pR X d 81 0 Q (1, [l0, some (.int x), l2], .int x :: st, mem, 0) := q_s (.ok (.iload_n 1, 1)) (by decide +kernel) rfl
theorem r81_1 : pR X d 81 0 Q (1, L, st, mem, 0) = pR X d 81 0 Q (2, L, .int (iI (1)) :: st, mem, 0) := q_ic (by decide +kernel)
theorem r81_2 : pR X d 81 0 Q (2, L, st, mem, 0) = pR X d 81 0 Q (4, L, .int (iI (20)) :: st, mem, 0) := q_bi (n := 20) (by decide +kernel) (by decide +kernel)
theorem r81_4 : pR X d 81 0 Q (4, L, .int y2 :: .int y1 :: .int y0 :: [], mem, 0) = Cw X d 7 [.int y0, .int y1, .int y2] mem (fun r mem => pR X d 81 0 Q (7, L, r.toList ++ [], mem, 0)) := q_stat (ix := 52) (kd := 1) (y2 := 7) (as := [.int y2, .int y1, .int y0]) (by decide +kernel) (by decide +kernel) (by decide) rfl rfl rfl (Nat.le_of_ble_eq_true rfl) (by decide)
theorem r81_7 : pR X d 81 0 Q (7, L, .int x :: st, mem, 0) = ((¬ x = 0 → pR X d 81 0 Q (16, L, st, mem, 0)) ∧ (¬ (¬ x = 0) → pR X d 81 0 Q (10, L, st, mem, 0))) := r_if (c := .ne) (off := 9) (by decide +kernel) (by decide)
theorem r81_10 : pR X d 81 0 Q (10, [some (.ref a), l1, l2], st, mem, 0) = pR X d 81 0 Q (11, [some (.ref a), l1, l2], .ref a :: st, mem, 0) := q_s (.ok (.aload_n 0, 1)) (by decide +kernel) rfl
theorem r81_11 : pR X d 81 0 Q (11, L, st, mem, 0) = pR X d 81 0 Q (12, L, .int (iI (0)) :: st, mem, 0) := q_ic (by decide +kernel)
theorem r81_12 : pR X d 81 0 Q (12, L, .int y0 :: .ref a :: [], mem, 0) = (prcv mem 4 a ∧ Cw X d 8 [.ref a, .int y0] mem (fun r mem => pR X d 81 0 Q (15, L, r.toList ++ [], mem, 0))) := q_virt (ix := 59) (y2 := 8) (as := [.int y0]) (by decide +kernel) (by decide +kernel) rfl rfl rfl (Nat.le_of_ble_eq_true rfl) (by decide)
theorem r81_15 : pR X d 81 0 Q (15, L, [.int x], mem, 0) = Q (some (.int x)) mem := q_reti (by decide +kernel) rfl
theorem r81_16 : pR X d 81 0 Q (16, [some (.ref a), l1, l2], st, mem, 0) = pR X d 81 0 Q (17, [some (.ref a), l1, l2], .ref a :: st, mem, 0) := q_s (.ok (.aload_n 0, 1)) (by decide +kernel) rfl
theorem r81_17 : pR X d 81 0 Q (17, L, .ref a :: st, mem, 0) = gf mem a 4 0 (fun p => pR X d 81 0 Q (20, L, p :: st, mem, 0)) := q_get (ix := 10) (by decide +kernel) (by decide +kernel)
theorem r81_20 : pR X d 81 0 Q (20, L, .ref a :: st, mem, 0) = gf mem a 3 2 (fun p => pR X d 81 0 Q (23, L, p :: st, mem, 0)) := q_get (ix := 122) (by decide +kernel) (by decide +kernel)
theorem r81_23 : pR X d 81 0 Q (23, [l0, some (.int x), l2], st, mem, 0) = pR X d 81 0 Q (24, [l0, some (.int x), l2], .int x :: st, mem, 0) := q_s (.ok (.iload_n 1, 1)) (by decide +kernel) rfl
theorem r81_24 : pR X d 81 0 Q (24, L, .int z :: .int x :: st, mem, 0) = pR X d 81 0 Q (25, L, .int (x + z) :: st, mem, 0) := q_s (.ok (.iadd, 1)) (by decide +kernel) rfl
theorem r81_25 : pR X d 81 0 Q (25, L, st, mem, 0) = pR X d 81 0 Q (27, L, .int (iI (99999)) :: st, mem, 0) := q_ldc (k := 125) (by decide +kernel) (by decide +kernel)
theorem r81_27 : pR X d 81 0 Q (27, L, .int z :: .int x :: st, mem, 0) = ((x ≤ z → pR X d 81 0 Q (36, L, st, mem, 0)) ∧ (¬ (x ≤ z) → pR X d 81 0 Q (30, L, st, mem, 0))) := r_ic (c := .le) (off := 9) (by decide +kernel) (by decide)
theorem r81_30 : pR X d 81 0 Q (30, [some (.ref a), l1, l2], st, mem, 0) = pR X d 81 0 Q (31, [some (.ref a), l1, l2], .ref a :: st, mem, 0) := q_s (.ok (.aload_n 0, 1)) (by decide +kernel) rfl
theorem r81_31 : pR X d 81 0 Q (31, L, st, mem, 0) = pR X d 81 0 Q (32, L, .int (iI (4)) :: st, mem, 0) := q_ic (by decide +kernel)
theorem r81_32 : pR X d 81 0 Q (32, L, .int y0 :: .ref a :: [], mem, 0) = (prcv mem 4 a ∧ Cw X d 8 [.ref a, .int y0] mem (fun r mem => pR X d 81 0 Q (35, L, r.toList ++ [], mem, 0))) := q_virt (ix := 59) (y2 := 8) (as := [.int y0]) (by decide +kernel) (by decide +kernel) rfl rfl rfl (Nat.le_of_ble_eq_true rfl) (by decide)
theorem r81_35 : pR X d 81 0 Q (35, L, [.int x], mem, 0) = Q (some (.int x)) mem := q_reti (by decide +kernel) rfl
theorem r81_36 : pR X d 81 0 Q (36, L, st, mem, 0) = pR X d 81 0 Q (37, L, .int (iI (0)) :: st, mem, 0) := q_ic (by decide +kernel)
theorem r81_37 : pR X d 81 0 Q (37, [l0, l1, l2], .int x :: st, mem, 0) = pR X d 81 0 Q (38, [l0, cl1 l1, some (.int x)], st, mem, 0) := q_s (.ok (.istore_n 2, 1)) (by decide +kernel) rfl
theorem r81_38 : pR X d 81 0 Q (38, [l0, l1, some (.int x)], st, mem, 0) = pR X d 81 0 Q (39, [l0, l1, some (.int x)], .int x :: st, mem, 0) := q_s (.ok (.iload_n 2, 1)) (by decide +kernel) rfl
theorem r81_39 : pR X d 81 0 Q (39, [l0, some (.int x), l2], st, mem, 0) = pR X d 81 0 Q (40, [l0, some (.int x), l2], .int x :: st, mem, 0) := q_s (.ok (.iload_n 1, 1)) (by decide +kernel) rfl
theorem r81_40 : pR X d 81 0 Q (40, L, .int z :: .int x :: st, mem, 0) = ((z ≤ x → pR X d 81 0 Q (63, L, st, mem, 0)) ∧ (¬ (z ≤ x) → pR X d 81 0 Q (43, L, st, mem, 0))) := r_ic (c := .ge) (off := 23) (by decide +kernel) (by decide)
theorem r81_43 : pR X d 81 0 Q (43, [some (.ref a), l1, l2], st, mem, 0) = pR X d 81 0 Q (44, [some (.ref a), l1, l2], .ref a :: st, mem, 0) := q_s (.ok (.aload_n 0, 1)) (by decide +kernel) rfl
theorem r81_44 : pR X d 81 0 Q (44, L, .ref a :: st, mem, 0) = gf mem a 4 0 (fun p => pR X d 81 0 Q (47, L, p :: st, mem, 0)) := q_get (ix := 10) (by decide +kernel) (by decide +kernel)
theorem r81_47 : pR X d 81 0 Q (47, L, .ref a :: [], mem, 0) = (prcv mem 3 a ∧ Cw X d 82 [.ref a] mem (fun r mem => pR X d 81 0 Q (50, L, r.toList ++ [], mem, 0))) := q_virt (ix := 190) (y2 := 82) (as := []) (by decide +kernel) (by decide +kernel) rfl rfl rfl (Nat.le_of_ble_eq_true rfl) (by decide)
theorem r81_50 : pR X d 81 0 Q (50, [some (.ref a), l1, l2], st, mem, 0) = pR X d 81 0 Q (51, [some (.ref a), l1, l2], .ref a :: st, mem, 0) := q_s (.ok (.aload_n 0, 1)) (by decide +kernel) rfl
theorem r81_51 : pR X d 81 0 Q (51, L, .ref a :: st, mem, 0) = gf mem a 4 0 (fun p => pR X d 81 0 Q (54, L, p :: st, mem, 0)) := q_get (ix := 10) (by decide +kernel) (by decide +kernel)
theorem r81_54 : pR X d 81 0 Q (54, L, .ref a :: [], mem, 0) = (prcv mem 3 a ∧ Cw X d 41 [.ref a] mem (fun r mem => pR X d 81 0 Q (57, L, r.toList ++ [], mem, 0))) := q_virt (ix := 193) (y2 := 41) (as := []) (by decide +kernel) (by decide +kernel) rfl rfl rfl (Nat.le_of_ble_eq_true rfl) (by decide)
theorem r81_57 : pR X d 81 0 Q (57, [l0, l1, some (.int x)], st, mem, 0) = pR X d 81 0 Q (60, [l0, cl1 l1, some (.int (x + iI (1)))], st, mem, 0) := q_s (.ok (.iinc 2 (1), 3)) (by decide +kernel) rfl
theorem r81_60 : pR X d 81 0 Q (60, L, st, mem, 0) = pR X d 81 0 Q (38, L, st, mem, 0) := q_s (.ok (.goto (-22), 3)) (by decide +kernel) rfl
theorem r81_63 : pR X d 81 0 Q (63, [some (.ref a), l1, l2], st, mem, 0) = pR X d 81 0 Q (64, [some (.ref a), l1, l2], .ref a :: st, mem, 0) := q_s (.ok (.aload_n 0, 1)) (by decide +kernel) rfl
theorem r81_64 : pR X d 81 0 Q (64, L, .ref a :: st, mem, 0) = gf mem a 4 0 (fun p => pR X d 81 0 Q (67, L, p :: st, mem, 0)) := q_get (ix := 10) (by decide +kernel) (by decide +kernel)
theorem r81_67 : pR X d 81 0 Q (67, L, .ref a :: [], mem, 0) = (prcv mem 3 a ∧ Cw X d 47 [.ref a] mem (fun r mem => pR X d 81 0 Q (70, L, r.toList ++ [], mem, 0))) := q_virt (ix := 130) (y2 := 47) (as := []) (by decide +kernel) (by decide +kernel) rfl rfl rfl (Nat.le_of_ble_eq_true rfl) (by decide)
theorem r81_70 : pR X d 81 0 Q (70, L, [.int x], mem, 0) = Q (some (.int x)) mem := q_reti (by decide +kernel) rfl
theorem r82_0 : pR X d 82 0 Q (0, [some (.ref a), l1, l2], st, mem, 0) = pR X d 82 0 Q (1, [some (.ref a), l1, l2], .ref a :: st, mem, 0) := q_s (.ok (.aload_n 0, 1)) (by decide +kernel) rfl
theorem r82_1 : pR X d 82 0 Q (1, L, .ref a :: [], mem, 0) = (prcv mem 3 a ∧ Cw X d 83 [.ref a] mem (fun r mem => pR X d 82 0 Q (4, L, r.toList ++ [], mem, 0))) := q_virt (ix := 141) (y2 := 83) (as := []) (by decide +kernel) (by decide +kernel) rfl rfl rfl (Nat.le_of_ble_eq_true rfl) (by decide)
theorem r82_4 : pR X d 82 0 Q (4, L, st, mem, 0) = pR X d 82 0 Q (6, L, .int (iI (8)) :: st, mem, 0) := q_bi (n := 8) (by decide +kernel) (by decide +kernel)
theorem r82_6 : pR X d 82 0 Q (6, L, .int z :: .int x :: st, mem, 0) = (¬ z = 0 ∧ pR X d 82 0 Q (7, L, .int (x - x / z * z) :: st, mem, 0)) := q_rem (by decide +kernel)
theorem r82_7 : pR X d 82 0 Q (7, [l0, l1, l2], .int x :: st, mem, 0) = pR X d 82 0 Q (8, [cl1 l0, some (.int x), l2], st, mem, 0) := q_s (.ok (.istore_n 1, 1)) (by decide +kernel) rfl
theorem r82_8 : pR X d 82 0 Q (8, [some (.ref a), l1, l2], st, mem, 0) = pR X d 82 0 Q (9, [some (.ref a), l1, l2], .ref a :: st, mem, 0) := q_s (.ok (.aload_n 0, 1)) (by decide +kernel) rfl
theorem r82_9 : pR X d 82 0 Q (9, L, .ref a :: [], mem, 0) = (prcv mem 3 a ∧ Cw X d 83 [.ref a] mem (fun r mem => pR X d 82 0 Q (12, L, r.toList ++ [], mem, 0))) := q_virt (ix := 141) (y2 := 83) (as := []) (by decide +kernel) (by decide +kernel) rfl rfl rfl (Nat.le_of_ble_eq_true rfl) (by decide)
theorem r82_12 : pR X d 82 0 Q (12, L, st, mem, 0) = pR X d 82 0 Q (14, L, .int (iI (8)) :: st, mem, 0) := q_bi (n := 8) (by decide +kernel) (by decide +kernel)
theorem r82_14 : pR X d 82 0 Q (14, L, .int z :: .int x :: st, mem, 0) = (¬ z = 0 ∧ pR X d 82 0 Q (15, L, .int (x - x / z * z) :: st, mem, 0)) := q_rem (by decide +kernel)
theorem r82_15 : pR X d 82 0 Q (15, [l0, l1, l2], .int x :: st, mem, 0) = pR X d 82 0 Q (16, [l0, cl1 l1, some (.int x)], st, mem, 0) := q_s (.ok (.istore_n 2, 1)) (by decide +kernel) rfl
theorem r82_16 : pR X d 82 0 Q (16, [some (.ref a), l1, l2], st, mem, 0) = pR X d 82 0 Q (17, [some (.ref a), l1, l2], .ref a :: st, mem, 0) := q_s (.ok (.aload_n 0, 1)) (by decide +kernel) rfl
theorem r82_17 : pR X d 82 0 Q (17, L, .ref a :: st, mem, 0) = gf mem a 3 6 (fun p => pR X d 82 0 Q (20, L, p :: st, mem, 0)) := q_get (ix := 33) (by decide +kernel) (by decide +kernel)
theorem r82_20 : pR X d 82 0 Q (20, [some (.ref a), l1, l2], st, mem, 0) = pR X d 82 0 Q (21, [some (.ref a), l1, l2], .ref a :: st, mem, 0) := q_s (.ok (.aload_n 0, 1)) (by decide +kernel) rfl
theorem r82_21 : pR X d 82 0 Q (21, L, .ref a :: [.ref c0], mem, 0) = (prcv mem 3 a ∧ Cw X d 42 [.ref a] mem (fun r mem => pR X d 82 0 Q (24, L, r.toList ++ [.ref c0], mem, 0))) := q_virt (ix := 101) (y2 := 42) (as := []) (by decide +kernel) (by decide +kernel) rfl rfl rfl (Nat.le_of_ble_eq_true rfl) (by decide)
theorem r82_24 : pR X d 82 0 Q (24, [l0, some (.int x), l2], st, mem, 0) = pR X d 82 0 Q (25, [l0, some (.int x), l2], .int x :: st, mem, 0) := q_s (.ok (.iload_n 1, 1)) (by decide +kernel) rfl
theorem r82_25 : pR X d 82 0 Q (25, [l0, l1, some (.int x)], st, mem, 0) = pR X d 82 0 Q (26, [l0, l1, some (.int x)], .int x :: st, mem, 0) := q_s (.ok (.iload_n 2, 1)) (by decide +kernel) rfl
theorem r82_26 : pR X d 82 0 Q (26, [some (.ref a), l1, l2], st, mem, 0) = pR X d 82 0 Q (27, [some (.ref a), l1, l2], .ref a :: st, mem, 0) := q_s (.ok (.aload_n 0, 1)) (by decide +kernel) rfl
theorem r82_27 : pR X d 82 0 Q (27, L, .ref a :: [.int k0, .int k1, .int k2, .ref c3], mem, 0) = (prcv mem 3 a ∧ Cw X d 83 [.ref a] mem (fun r mem => pR X d 82 0 Q (30, L, r.toList ++ [.int k0, .int k1, .int k2, .ref c3], mem, 0))) := q_virt (ix := 141) (y2 := 83) (as := []) (by decide +kernel) (by decide +kernel) rfl rfl rfl (Nat.le_of_ble_eq_true rfl) (by decide)
theorem r82_30 : pR X d 82 0 Q (30, L, st, mem, 0) = pR X d 82 0 Q (32, L, .int (iI (100)) :: st, mem, 0) := q_bi (n := 100) (by decide +kernel) (by decide +kernel)
theorem r82_32 : pR X d 82 0 Q (32, L, .int z :: .int x :: st, mem, 0) = (¬ z = 0 ∧ pR X d 82 0 Q (33, L, .int (x - x / z * z) :: st, mem, 0)) := q_rem (by decide +kernel)
theorem r82_33 : pR X d 82 0 Q (33, L, .int y2 :: .int y1 :: .int y0 :: [.int k0, .ref c1], mem, 0) = Cw X d 84 [.int y0, .int y1, .int y2] mem (fun r mem => pR X d 82 0 Q (36, L, r.toList ++ [.int k0, .ref c1], mem, 0)) := q_stat (ix := 144) (kd := 2) (y2 := 84) (as := [.int y2, .int y1, .int y0]) (by decide +kernel) (by decide +kernel) (by decide) rfl rfl rfl (Nat.le_of_ble_eq_true rfl) (by decide)
theorem r82_36 : pR X d 82 0 Q (36, L, .int z :: .int x :: .ref a :: st, mem, 0) = wi mem a x z (fun mem => pR X d 82 0 Q (37, L, st, mem, 0)) := q_wi (by decide +kernel)
theorem r82_37 : pR X d 82 0 Q (37, L, [], mem, 0) = Q none mem := q_retv (by decide +kernel) rfl
theorem r83_0 : pR X d 83 0 Q (0, [some (.ref a)], st, mem, 0) = pR X d 83 0 Q (1, [some (.ref a)], .ref a :: st, mem, 0) := q_s (.ok (.aload_n 0, 1)) (by decide +kernel) rfl
theorem r83_1 : pR X d 83 0 Q (1, [some (.ref a)], st, mem, 0) = pR X d 83 0 Q (2, [some (.ref a)], .ref a :: st, mem, 0) := q_s (.ok (.aload_n 0, 1)) (by decide +kernel) rfl
theorem r83_2 : pR X d 83 0 Q (2, L, .ref a :: st, mem, 0) = gf mem a 3 3 (fun p => pR X d 83 0 Q (5, L, p :: st, mem, 0)) := q_get (ix := 21) (by decide +kernel) (by decide +kernel)
theorem r83_5 : pR X d 83 0 Q (5, L, st, mem, 0) = pR X d 83 0 Q (7, L, .int (iI (1103515245)) :: st, mem, 0) := q_ldc (k := 147) (by decide +kernel) (by decide +kernel)
theorem r83_7 : pR X d 83 0 Q (7, L, .int z :: .int x :: st, mem, 0) = pR X d 83 0 Q (8, L, .int (x * z) :: st, mem, 0) := q_s (.ok (.imul, 1)) (by decide +kernel) rfl
theorem r83_8 : pR X d 83 0 Q (8, L, st, mem, 0) = pR X d 83 0 Q (11, L, .int (iI (12345)) :: st, mem, 0) := q_si (n := 12345) (by decide +kernel) (by decide +kernel)
theorem r83_11 : pR X d 83 0 Q (11, L, .int z :: .int x :: st, mem, 0) = pR X d 83 0 Q (12, L, .int (x + z) :: st, mem, 0) := q_s (.ok (.iadd, 1)) (by decide +kernel) rfl
theorem r83_12 : pR X d 83 0 Q (12, L, p :: .ref a :: st, mem, 0) = pf 83 mem a 3 3 p (fun mem => pR X d 83 0 Q (15, L, st, mem, 0)) := q_put (ix := 21) (by decide +kernel) (by decide +kernel) (by decide)
theorem r83_15 : pR X d 83 0 Q (15, [some (.ref a)], st, mem, 0) = pR X d 83 0 Q (16, [some (.ref a)], .ref a :: st, mem, 0) := q_s (.ok (.aload_n 0, 1)) (by decide +kernel) rfl
theorem r83_16 : pR X d 83 0 Q (16, L, .ref a :: st, mem, 0) = gf mem a 3 3 (fun p => pR X d 83 0 Q (19, L, p :: st, mem, 0)) := q_get (ix := 21) (by decide +kernel) (by decide +kernel)
theorem r83_19 : pR X d 83 0 Q (19, L, st, mem, 0) = pR X d 83 0 Q (21, L, .int (iI (8)) :: st, mem, 0) := q_bi (n := 8) (by decide +kernel) (by decide +kernel)
theorem r83_21 : pR X d 83 0 Q (21, L, .int z :: .int x :: st, mem, 0) = pR X d 83 0 Q (22, L, .int ((x.toUInt32 >>> (z.toUInt32 &&& Int32.toUInt32 31)).toInt32) :: st, mem, 0) := q_s (.ok (.iushr, 1)) (by decide +kernel) rfl
theorem r83_22 : pR X d 83 0 Q (22, L, [.int x], mem, 0) = Q (some (.int x)) mem := q_reti (by decide +kernel) rfl
theorem r84_0 : pR X d 84 0 Q (0, L, st, mem, 0) = pR X d 84 0 Q (3, L, .int (iI (1000)) :: st, mem, 0) := q_si (n := 1000) (by decide +kernel) (by decide +kernel)
theorem r84_3 : pR X d 84 0 Q (3, [some (.int x), l1, l2], st, mem, 0) = pR X d 84 0 Q (4, [some (.int x), l1, l2], .int x :: st, mem, 0) := q_s (.ok (.iload_n 0, 1)) (by decide +kernel) rfl
theorem r84_4 : pR X d 84 0 Q (4, L, .int z :: .int x :: st, mem, 0) = pR X d 84 0 Q (5, L, .int (x * z) :: st, mem, 0) := q_s (.ok (.imul, 1)) (by decide +kernel) rfl
theorem r84_5 : pR X d 84 0 Q (5, L, st, mem, 0) = pR X d 84 0 Q (7, L, .int (iI (100)) :: st, mem, 0) := q_bi (n := 100) (by decide +kernel) (by decide +kernel)
theorem r84_7 : pR X d 84 0 Q (7, [l0, some (.int x), l2], st, mem, 0) = pR X d 84 0 Q (8, [l0, some (.int x), l2], .int x :: st, mem, 0) := q_s (.ok (.iload_n 1, 1)) (by decide +kernel) rfl
theorem r84_8 : pR X d 84 0 Q (8, L, .int z :: .int x :: st, mem, 0) = pR X d 84 0 Q (9, L, .int (x * z) :: st, mem, 0) := q_s (.ok (.imul, 1)) (by decide +kernel) rfl
theorem r84_9 : pR X d 84 0 Q (9, L, .int z :: .int x :: st, mem, 0) = pR X d 84 0 Q (10, L, .int (x + z) :: st, mem, 0) := q_s (.ok (.iadd, 1)) (by decide +kernel) rfl
theorem r84_10 : pR X d 84 0 Q (10, [l0, l1, some (.int x)], st, mem, 0) = pR X d 84 0 Q (11, [l0, l1, some (.int x)], .int x :: st, mem, 0) := q_s (.ok (.iload_n 2, 1)) (by decide +kernel) rfl
theorem r84_11 : pR X d 84 0 Q (11, L, .int z :: .int x :: st, mem, 0) = pR X d 84 0 Q (12, L, .int (x + z) :: st, mem, 0) := q_s (.ok (.iadd, 1)) (by decide +kernel) rfl
theorem r84_12 : pR X d 84 0 Q (12, L, [.int x], mem, 0) = Q (some (.int x)) mem := q_reti (by decide +kernel) rfl
end

section
variable {X : pXX} {d lim u : Nat} {Q : Option Value → List pME → Prop} {L : List (Option Value)} {st : List Value} {mem : List pME} {x z z1 z2 z3 y0 y1 y2 y3 y4 k0 k1 k2 k3 k4 k5 k6 : Int32} {v w v0 v1 v2 w0 w1 w2 : Int64} {a b b0 b1 b2 b3 c0 c1 c2 c3 c4 c5 : Nat} {p : Value} {l0 l1 l2 l3 l4 l5 l6 l7 l8 l9 : Option Value}
theorem r85_0 : pR X d 85 0 Q (0, [some (.ref a), l1, l2, l3, l4, l5, l6, l7, l8, l9], st, mem, 0) = pR X d 85 0 Q (1, [some (.ref a), l1, l2, l3, l4, l5, l6, l7, l8, l9], .ref a :: st, mem, 0) := q_s (.ok (.aload_n 0, 1)) (by decide +kernel) rfl
theorem r85_1 : pR X d 85 0 Q (1, L, .ref a :: st, mem, 0) = gf mem a 4 0 (fun p => pR X d 85 0 Q (4, L, p :: st, mem, 0)) := q_get (ix := 10) (by decide +kernel) (by decide +kernel)
theorem r85_4 : pR X d 85 0 Q (4, [l0, some (.int x), l2, l3, l4, l5, l6, l7, l8, l9], st, mem, 0) = pR X d 85 0 Q (5, [l0, some (.int x), l2, l3, l4, l5, l6, l7, l8, l9], .int x :: st, mem, 0) := q_s (.ok (.iload_n 1, 1)) (by decide +kernel) rfl
theorem r85_5 : pR X d 85 0 Q (5, L, .int y0 :: .ref a :: [], mem, 0) = (prcv mem 3 a ∧ Cw X d 20 [.ref a, .int y0] mem (fun r mem => pR X d 85 0 Q (8, L, r.toList ++ [], mem, 0))) := q_virt (ix := 83) (y2 := 20) (as := [.int y0]) (by decide +kernel) (by decide +kernel) rfl rfl rfl (Nat.le_of_ble_eq_true rfl) (by decide)
theorem r85_8 : pR X d 85 0 Q (8, L, .int x :: st, mem, 0) = ((x = 0 → pR X d 85 0 Q (30, L, st, mem, 0)) ∧ (¬ (x = 0) → pR X d 85 0 Q (11, L, st, mem, 0))) := r_if (c := .eq) (off := 22) (by decide +kernel) (by decide)
theorem r85_11 : pR X d 85 0 Q (11, [l0, l1, some (.int x), l3, l4, l5, l6, l7, l8, l9], st, mem, 0) = pR X d 85 0 Q (12, [l0, l1, some (.int x), l3, l4, l5, l6, l7, l8, l9], .int x :: st, mem, 0) := q_s (.ok (.iload_n 2, 1)) (by decide +kernel) rfl
theorem r85_12 : pR X d 85 0 Q (12, L, st, mem, 0) = pR X d 85 0 Q (13, L, .int (iI (0)) :: st, mem, 0) := q_ic (by decide +kernel)
theorem r85_13 : pR X d 85 0 Q (13, L, st, mem, 0) = pR X d 85 0 Q (15, L, .int (iI (9)) :: st, mem, 0) := q_bi (n := 9) (by decide +kernel) (by decide +kernel)
theorem r85_15 : pR X d 85 0 Q (15, L, .int y2 :: .int y1 :: .int y0 :: [], mem, 0) = Cw X d 7 [.int y0, .int y1, .int y2] mem (fun r mem => pR X d 85 0 Q (18, L, r.toList ++ [], mem, 0)) := q_stat (ix := 52) (kd := 1) (y2 := 7) (as := [.int y2, .int y1, .int y0]) (by decide +kernel) (by decide +kernel) (by decide) rfl rfl rfl (Nat.le_of_ble_eq_true rfl) (by decide)
theorem r85_18 : pR X d 85 0 Q (18, L, .int x :: st, mem, 0) = ((x = 0 → pR X d 85 0 Q (30, L, st, mem, 0)) ∧ (¬ (x = 0) → pR X d 85 0 Q (21, L, st, mem, 0))) := r_if (c := .eq) (off := 12) (by decide +kernel) (by decide)
theorem r85_21 : pR X d 85 0 Q (21, [l0, l1, l2, some (.int x), l4, l5, l6, l7, l8, l9], st, mem, 0) = pR X d 85 0 Q (22, [l0, l1, l2, some (.int x), l4, l5, l6, l7, l8, l9], .int x :: st, mem, 0) := q_s (.ok (.iload_n 3, 1)) (by decide +kernel) rfl
theorem r85_22 : pR X d 85 0 Q (22, L, st, mem, 0) = pR X d 85 0 Q (23, L, .int (iI (0)) :: st, mem, 0) := q_ic (by decide +kernel)
theorem r85_23 : pR X d 85 0 Q (23, L, st, mem, 0) = pR X d 85 0 Q (24, L, .int (iI (1)) :: st, mem, 0) := q_ic (by decide +kernel)
theorem r85_24 : pR X d 85 0 Q (24, L, .int y2 :: .int y1 :: .int y0 :: [], mem, 0) = Cw X d 7 [.int y0, .int y1, .int y2] mem (fun r mem => pR X d 85 0 Q (27, L, r.toList ++ [], mem, 0)) := q_stat (ix := 52) (kd := 1) (y2 := 7) (as := [.int y2, .int y1, .int y0]) (by decide +kernel) (by decide +kernel) (by decide) rfl rfl rfl (Nat.le_of_ble_eq_true rfl) (by decide)
theorem r85_27 : pR X d 85 0 Q (27, L, .int x :: st, mem, 0) = ((¬ x = 0 → pR X d 85 0 Q (37, L, st, mem, 0)) ∧ (¬ (¬ x = 0) → pR X d 85 0 Q (30, L, st, mem, 0))) := r_if (c := .ne) (off := 10) (by decide +kernel) (by decide)
theorem r85_30 : pR X d 85 0 Q (30, [some (.ref a), l1, l2, l3, l4, l5, l6, l7, l8, l9], st, mem, 0) = pR X d 85 0 Q (31, [some (.ref a), l1, l2, l3, l4, l5, l6, l7, l8, l9], .ref a :: st, mem, 0) := q_s (.ok (.aload_n 0, 1)) (by decide +kernel) rfl
theorem r85_31 : pR X d 85 0 Q (31, L, st, mem, 0) = pR X d 85 0 Q (32, L, .int (iI (0)) :: st, mem, 0) := q_ic (by decide +kernel)
theorem r85_32 : pR X d 85 0 Q (32, L, .int y0 :: .ref a :: [], mem, 0) = (prcv mem 4 a ∧ Cw X d 8 [.ref a, .int y0] mem (fun r mem => pR X d 85 0 Q (35, L, r.toList ++ [], mem, 0))) := q_virt (ix := 59) (y2 := 8) (as := [.int y0]) (by decide +kernel) (by decide +kernel) rfl rfl rfl (Nat.le_of_ble_eq_true rfl) (by decide)
theorem r85_35 : pR X d 85 0 Q (35, L, .int x :: st, mem, 0) = pR X d 85 0 Q (36, L, .long x.toInt64 :: st, mem, 0) := q_s (.ok (.i2l, 1)) (by decide +kernel) rfl
theorem r85_36 : pR X d 85 0 Q (36, L, [.long v], mem, 0) = Q (some (.long v)) mem := q_retl (by decide +kernel) rfl
theorem r85_37 : pR X d 85 0 Q (37, [some (.ref a), l1, l2, l3, l4, l5, l6, l7, l8, l9], st, mem, 0) = pR X d 85 0 Q (38, [some (.ref a), l1, l2, l3, l4, l5, l6, l7, l8, l9], .ref a :: st, mem, 0) := q_s (.ok (.aload_n 0, 1)) (by decide +kernel) rfl
theorem r85_38 : pR X d 85 0 Q (38, [l0, some (.int x), l2, l3, l4, l5, l6, l7, l8, l9], st, mem, 0) = pR X d 85 0 Q (39, [l0, some (.int x), l2, l3, l4, l5, l6, l7, l8, l9], .int x :: st, mem, 0) := q_s (.ok (.iload_n 1, 1)) (by decide +kernel) rfl
theorem r85_39 : pR X d 85 0 Q (39, L, .int y0 :: .ref a :: [], mem, 0) = (prcv mem 4 a ∧ Cw X d 86 [.ref a, .int y0] mem (fun r mem => pR X d 85 0 Q (42, L, r.toList ++ [], mem, 0))) := q_virt (ix := 196) (y2 := 86) (as := [.int y0]) (by decide +kernel) (by decide +kernel) rfl rfl rfl (Nat.le_of_ble_eq_true rfl) (by decide)
theorem r85_42 : pR X d 85 0 Q (42, [l0, l1, l2, l3, l4, l5, l6, l7, l8, l9], .int x :: st, mem, 0) = pR X d 85 0 Q (44, [l0, l1, l2, cl1 l3, some (.int x), l5, l6, l7, l8, l9], st, mem, 0) := q_s (.ok (.istore 4, 2)) (by decide +kernel) rfl
theorem r85_44 : pR X d 85 0 Q (44, [l0, l1, l2, l3, some (.int x), l5, l6, l7, l8, l9], st, mem, 0) = pR X d 85 0 Q (46, [l0, l1, l2, l3, some (.int x), l5, l6, l7, l8, l9], .int x :: st, mem, 0) := q_s (.ok (.iload 4, 2)) (by decide +kernel) rfl
theorem r85_46 : pR X d 85 0 Q (46, L, st, mem, 0) = pR X d 85 0 Q (48, L, .int (iI (100)) :: st, mem, 0) := q_bi (n := 100) (by decide +kernel) (by decide +kernel)
theorem r85_48 : pR X d 85 0 Q (48, L, .int y1 :: .int y0 :: [], mem, 0) = Cw X d 87 [.int y0, .int y1] mem (fun r mem => pR X d 85 0 Q (51, L, r.toList ++ [], mem, 0)) := q_stat (ix := 199) (kd := 1) (y2 := 87) (as := [.int y1, .int y0]) (by decide +kernel) (by decide +kernel) (by decide) rfl rfl rfl (Nat.le_of_ble_eq_true rfl) (by decide)
theorem r85_51 : pR X d 85 0 Q (51, [l0, l1, l2, l3, l4, l5, l6, l7, l8, l9], .int x :: st, mem, 0) = pR X d 85 0 Q (53, [l0, l1, l2, l3, cl1 l4, some (.int x), l6, l7, l8, l9], st, mem, 0) := q_s (.ok (.istore 5, 2)) (by decide +kernel) rfl
theorem r85_53 : pR X d 85 0 Q (53, [l0, l1, l2, some (.int x), l4, l5, l6, l7, l8, l9], st, mem, 0) = pR X d 85 0 Q (54, [l0, l1, l2, some (.int x), l4, l5, l6, l7, l8, l9], .int x :: st, mem, 0) := q_s (.ok (.iload_n 3, 1)) (by decide +kernel) rfl
theorem r85_54 : pR X d 85 0 Q (54, L, .int x :: st, mem, 0) = ((¬ x = 0 → pR X d 85 0 Q (65, L, st, mem, 0)) ∧ (¬ (¬ x = 0) → pR X d 85 0 Q (57, L, st, mem, 0))) := r_if (c := .ne) (off := 11) (by decide +kernel) (by decide)
theorem r85_57 : pR X d 85 0 Q (57, [l0, l1, l2, l3, some (.int x), l5, l6, l7, l8, l9], st, mem, 0) = pR X d 85 0 Q (59, [l0, l1, l2, l3, some (.int x), l5, l6, l7, l8, l9], .int x :: st, mem, 0) := q_s (.ok (.iload 4, 2)) (by decide +kernel) rfl
theorem r85_59 : pR X d 85 0 Q (59, [l0, l1, l2, l3, l4, some (.int x), l6, l7, l8, l9], st, mem, 0) = pR X d 85 0 Q (61, [l0, l1, l2, l3, l4, some (.int x), l6, l7, l8, l9], .int x :: st, mem, 0) := q_s (.ok (.iload 5, 2)) (by decide +kernel) rfl
theorem r85_61 : pR X d 85 0 Q (61, L, .int z :: .int x :: st, mem, 0) = (¬ z = 0 ∧ pR X d 85 0 Q (62, L, .int (x / z) :: st, mem, 0)) := q_div (by decide +kernel)
theorem r85_62 : pR X d 85 0 Q (62, L, st, mem, 0) = pR X d 85 0 Q (70, L, st, mem, 0) := q_s (.ok (.goto (8), 3)) (by decide +kernel) rfl
theorem r85_65 : pR X d 85 0 Q (65, L, st, mem, 0) = pR X d 85 0 Q (67, L, .int (iI (100)) :: st, mem, 0) := q_bi (n := 100) (by decide +kernel) (by decide +kernel)
theorem r85_67 : pR X d 85 0 Q (67, [l0, l1, l2, l3, l4, some (.int x), l6, l7, l8, l9], st, mem, 0) = pR X d 85 0 Q (69, [l0, l1, l2, l3, l4, some (.int x), l6, l7, l8, l9], .int x :: st, mem, 0) := q_s (.ok (.iload 5, 2)) (by decide +kernel) rfl
theorem r85_69 : pR X d 85 0 Q (69, L, .int z :: .int x :: st, mem, 0) = (¬ z = 0 ∧ pR X d 85 0 Q (70, L, .int (x / z) :: st, mem, 0)) := q_div (by decide +kernel)
theorem r85_70 : pR X d 85 0 Q (70, [l0, l1, l2, l3, l4, l5, l6, l7, l8, l9], .int x :: st, mem, 0) = pR X d 85 0 Q (72, [l0, l1, l2, l3, l4, cl1 l5, some (.int x), l7, l8, l9], st, mem, 0) := q_s (.ok (.istore 6, 2)) (by decide +kernel) rfl
theorem r85_72 : pR X d 85 0 Q (72, L, st, mem, 0) = pR X d 85 0 Q (73, L, .long (lI (1)) :: st, mem, 0) := q_lc (n := 1) (by decide +kernel) (by decide +kernel)
theorem r85_73 : pR X d 85 0 Q (73, [l0, l1, l2, l3, l4, l5, l6, l7, l8, l9], .long v :: st, mem, 0) = pR X d 85 0 Q (75, [l0, l1, l2, l3, l4, l5, cl1 l6, some (.long v), none, l9], st, mem, 0) := q_s (.ok (.lstore 7, 2)) (by decide +kernel) rfl
theorem r85_75 : pR X d 85 0 Q (75, L, st, mem, 0) = pR X d 85 0 Q (76, L, .int (iI (0)) :: st, mem, 0) := q_ic (by decide +kernel)
theorem r85_76 : pR X d 85 0 Q (76, [l0, l1, l2, l3, l4, l5, l6, l7, l8, l9], .int x :: st, mem, 0) = pR X d 85 0 Q (78, [l0, l1, l2, l3, l4, l5, l6, l7, cl1 l8, some (.int x)], st, mem, 0) := q_s (.ok (.istore 9, 2)) (by decide +kernel) rfl
theorem r85_78 : pR X d 85 0 Q (78, [l0, l1, l2, l3, l4, l5, l6, l7, l8, some (.int x)], st, mem, 0) = pR X d 85 0 Q (80, [l0, l1, l2, l3, l4, l5, l6, l7, l8, some (.int x)], .int x :: st, mem, 0) := q_s (.ok (.iload 9, 2)) (by decide +kernel) rfl
theorem r85_80 : pR X d 85 0 Q (80, [l0, l1, some (.int x), l3, l4, l5, l6, l7, l8, l9], st, mem, 0) = pR X d 85 0 Q (81, [l0, l1, some (.int x), l3, l4, l5, l6, l7, l8, l9], .int x :: st, mem, 0) := q_s (.ok (.iload_n 2, 1)) (by decide +kernel) rfl
theorem r85_81 : pR X d 85 0 Q (81, L, .int z :: .int x :: st, mem, 0) = ((z ≤ x → pR X d 85 0 Q (98, L, st, mem, 0)) ∧ (¬ (z ≤ x) → pR X d 85 0 Q (84, L, st, mem, 0))) := r_ic (c := .ge) (off := 17) (by decide +kernel) (by decide)
theorem r85_84 : pR X d 85 0 Q (84, [l0, l1, l2, l3, l4, l5, l6, some (.long v), l8, l9], st, mem, 0) = pR X d 85 0 Q (86, [l0, l1, l2, l3, l4, l5, l6, some (.long v), l8, l9], .long v :: st, mem, 0) := q_s (.ok (.lload 7, 2)) (by decide +kernel) rfl
theorem r85_86 : pR X d 85 0 Q (86, [l0, l1, l2, l3, l4, l5, some (.int x), l7, l8, l9], st, mem, 0) = pR X d 85 0 Q (88, [l0, l1, l2, l3, l4, l5, some (.int x), l7, l8, l9], .int x :: st, mem, 0) := q_s (.ok (.iload 6, 2)) (by decide +kernel) rfl
theorem r85_88 : pR X d 85 0 Q (88, L, .int x :: st, mem, 0) = pR X d 85 0 Q (89, L, .long x.toInt64 :: st, mem, 0) := q_s (.ok (.i2l, 1)) (by decide +kernel) rfl
theorem r85_89 : pR X d 85 0 Q (89, L, .long w :: .long v :: st, mem, 0) = pR X d 85 0 Q (90, L, .long (v * w) :: st, mem, 0) := q_s (.ok (.lmul, 1)) (by decide +kernel) rfl
theorem r85_90 : pR X d 85 0 Q (90, [l0, l1, l2, l3, l4, l5, l6, l7, l8, l9], .long v :: st, mem, 0) = pR X d 85 0 Q (92, [l0, l1, l2, l3, l4, l5, cl1 l6, some (.long v), none, l9], st, mem, 0) := q_s (.ok (.lstore 7, 2)) (by decide +kernel) rfl
theorem r85_92 : pR X d 85 0 Q (92, [l0, l1, l2, l3, l4, l5, l6, l7, l8, some (.int x)], st, mem, 0) = pR X d 85 0 Q (95, [l0, l1, l2, l3, l4, l5, l6, l7, cl1 l8, some (.int (x + iI (1)))], st, mem, 0) := q_s (.ok (.iinc 9 (1), 3)) (by decide +kernel) rfl
theorem r85_95 : pR X d 85 0 Q (95, L, st, mem, 0) = pR X d 85 0 Q (78, L, st, mem, 0) := q_s (.ok (.goto (-17), 3)) (by decide +kernel) rfl
theorem r85_98 : pR X d 85 0 Q (98, [l0, l1, l2, l3, l4, l5, l6, some (.long v), l8, l9], st, mem, 0) = pR X d 85 0 Q (100, [l0, l1, l2, l3, l4, l5, l6, some (.long v), l8, l9], .long v :: st, mem, 0) := q_s (.ok (.lload 7, 2)) (by decide +kernel) rfl
theorem r85_100 : pR X d 85 0 Q (100, L, [.long v], mem, 0) = Q (some (.long v)) mem := q_retl (by decide +kernel) rfl
theorem r86_0 : pR X d 86 0 Q (0, [some (.ref a), l1, l2, l3, l4], st, mem, 0) = pR X d 86 0 Q (1, [some (.ref a), l1, l2, l3, l4], .ref a :: st, mem, 0) := q_s (.ok (.aload_n 0, 1)) (by decide +kernel) rfl
theorem r86_1 : pR X d 86 0 Q (1, L, .ref a :: st, mem, 0) = gf mem a 4 0 (fun p => pR X d 86 0 Q (4, L, p :: st, mem, 0)) := q_get (ix := 10) (by decide +kernel) (by decide +kernel)
theorem r86_4 : pR X d 86 0 Q (4, [l0, some (.int x), l2, l3, l4], st, mem, 0) = pR X d 86 0 Q (5, [l0, some (.int x), l2, l3, l4], .int x :: st, mem, 0) := q_s (.ok (.iload_n 1, 1)) (by decide +kernel) rfl
theorem r86_5 : pR X d 86 0 Q (5, L, .int y0 :: .ref a :: [], mem, 0) = (prcv mem 3 a ∧ Cw X d 22 [.ref a, .int y0] mem (fun r mem => pR X d 86 0 Q (8, L, r.toList ++ [], mem, 0))) := q_virt (ix := 156) (y2 := 22) (as := [.int y0]) (by decide +kernel) (by decide +kernel) rfl rfl rfl (Nat.le_of_ble_eq_true rfl) (by decide)
theorem r86_8 : pR X d 86 0 Q (8, [l0, l1, l2, l3, l4], .int x :: st, mem, 0) = pR X d 86 0 Q (9, [l0, cl1 l1, some (.int x), l3, l4], st, mem, 0) := q_s (.ok (.istore_n 2, 1)) (by decide +kernel) rfl
theorem r86_9 : pR X d 86 0 Q (9, L, st, mem, 0) = pR X d 86 0 Q (10, L, .int (iI (0)) :: st, mem, 0) := q_ic (by decide +kernel)
theorem r86_10 : pR X d 86 0 Q (10, [l0, l1, l2, l3, l4], .int x :: st, mem, 0) = pR X d 86 0 Q (11, [l0, l1, cl1 l2, some (.int x), l4], st, mem, 0) := q_s (.ok (.istore_n 3, 1)) (by decide +kernel) rfl
theorem r86_11 : pR X d 86 0 Q (11, L, st, mem, 0) = pR X d 86 0 Q (12, L, .int (iI (0)) :: st, mem, 0) := q_ic (by decide +kernel)
theorem r86_12 : pR X d 86 0 Q (12, [l0, l1, l2, l3, l4], .int x :: st, mem, 0) = pR X d 86 0 Q (14, [l0, l1, l2, cl1 l3, some (.int x)], st, mem, 0) := q_s (.ok (.istore 4, 2)) (by decide +kernel) rfl
theorem r86_14 : pR X d 86 0 Q (14, [l0, l1, l2, l3, some (.int x)], st, mem, 0) = pR X d 86 0 Q (16, [l0, l1, l2, l3, some (.int x)], .int x :: st, mem, 0) := q_s (.ok (.iload 4, 2)) (by decide +kernel) rfl
theorem r86_16 : pR X d 86 0 Q (16, L, st, mem, 0) = pR X d 86 0 Q (18, L, .int (iI (100)) :: st, mem, 0) := q_bi (n := 100) (by decide +kernel) (by decide +kernel)
theorem r86_18 : pR X d 86 0 Q (18, L, .int z :: .int x :: st, mem, 0) = ((z ≤ x → pR X d 86 0 Q (55, L, st, mem, 0)) ∧ (¬ (z ≤ x) → pR X d 86 0 Q (21, L, st, mem, 0))) := r_ic (c := .ge) (off := 37) (by decide +kernel) (by decide)
theorem r86_21 : pR X d 86 0 Q (21, [some (.ref a), l1, l2, l3, l4], st, mem, 0) = pR X d 86 0 Q (22, [some (.ref a), l1, l2, l3, l4], .ref a :: st, mem, 0) := q_s (.ok (.aload_n 0, 1)) (by decide +kernel) rfl
theorem r86_22 : pR X d 86 0 Q (22, L, .ref a :: st, mem, 0) = gf mem a 4 0 (fun p => pR X d 86 0 Q (25, L, p :: st, mem, 0)) := q_get (ix := 10) (by decide +kernel) (by decide +kernel)
theorem r86_25 : pR X d 86 0 Q (25, L, .ref a :: st, mem, 0) = gf mem a 3 5 (fun p => pR X d 86 0 Q (28, L, p :: st, mem, 0)) := q_get (ix := 92) (by decide +kernel) (by decide +kernel)
theorem r86_28 : pR X d 86 0 Q (28, [l0, some (.int x), l2, l3, l4], st, mem, 0) = pR X d 86 0 Q (29, [l0, some (.int x), l2, l3, l4], .int x :: st, mem, 0) := q_s (.ok (.iload_n 1, 1)) (by decide +kernel) rfl
theorem r86_29 : pR X d 86 0 Q (29, L, .int x :: .ref a :: st, mem, 0) = ra mem a x (fun b => pR X d 86 0 Q (30, L, .ref b :: st, mem, 0)) := q_ra (by decide +kernel)
theorem r86_30 : pR X d 86 0 Q (30, [l0, l1, l2, l3, some (.int x)], st, mem, 0) = pR X d 86 0 Q (32, [l0, l1, l2, l3, some (.int x)], .int x :: st, mem, 0) := q_s (.ok (.iload 4, 2)) (by decide +kernel) rfl
theorem r86_32 : pR X d 86 0 Q (32, [some (.ref a), l1, l2, l3, l4], st, mem, 0) = pR X d 86 0 Q (33, [some (.ref a), l1, l2, l3, l4], .ref a :: st, mem, 0) := q_s (.ok (.aload_n 0, 1)) (by decide +kernel) rfl
theorem r86_33 : pR X d 86 0 Q (33, L, .ref a :: st, mem, 0) = gf mem a 4 0 (fun p => pR X d 86 0 Q (36, L, p :: st, mem, 0)) := q_get (ix := 10) (by decide +kernel) (by decide +kernel)
theorem r86_36 : pR X d 86 0 Q (36, L, .ref a :: st, mem, 0) = gf mem a 3 0 (fun p => pR X d 86 0 Q (39, L, p :: st, mem, 0)) := q_get (ix := 48) (by decide +kernel) (by decide +kernel)
theorem r86_39 : pR X d 86 0 Q (39, L, .int y1 :: .int y0 :: .ref a :: [], mem, 0) = (prcv mem 0 a ∧ Cw X d 32 [.ref a, .int y0, .int y1] mem (fun r mem => pR X d 86 0 Q (42, L, r.toList ++ [], mem, 0))) := q_virt (ix := 108) (y2 := 32) (as := [.int y1, .int y0]) (by decide +kernel) (by decide +kernel) rfl rfl rfl (Nat.le_of_ble_eq_true rfl) (by decide)
theorem r86_42 : pR X d 86 0 Q (42, [l0, l1, some (.int x), l3, l4], st, mem, 0) = pR X d 86 0 Q (43, [l0, l1, some (.int x), l3, l4], .int x :: st, mem, 0) := q_s (.ok (.iload_n 2, 1)) (by decide +kernel) rfl
theorem r86_43 : pR X d 86 0 Q (43, L, .int z :: .int x :: st, mem, 0) = ((z < x → pR X d 86 0 Q (49, L, st, mem, 0)) ∧ (¬ (z < x) → pR X d 86 0 Q (46, L, st, mem, 0))) := r_ic (c := .gt) (off := 6) (by decide +kernel) (by decide)
theorem r86_46 : pR X d 86 0 Q (46, [l0, l1, l2, some (.int x), l4], st, mem, 0) = pR X d 86 0 Q (49, [l0, l1, cl1 l2, some (.int (x + iI (1))), l4], st, mem, 0) := q_s (.ok (.iinc 3 (1), 3)) (by decide +kernel) rfl
theorem r86_49 : pR X d 86 0 Q (49, [l0, l1, l2, l3, some (.int x)], st, mem, 0) = pR X d 86 0 Q (52, [l0, l1, l2, cl1 l3, some (.int (x + iI (1)))], st, mem, 0) := q_s (.ok (.iinc 4 (1), 3)) (by decide +kernel) rfl
theorem r86_52 : pR X d 86 0 Q (52, L, st, mem, 0) = pR X d 86 0 Q (14, L, st, mem, 0) := q_s (.ok (.goto (-38), 3)) (by decide +kernel) rfl
theorem r86_55 : pR X d 86 0 Q (55, [l0, l1, l2, some (.int x), l4], st, mem, 0) = pR X d 86 0 Q (56, [l0, l1, l2, some (.int x), l4], .int x :: st, mem, 0) := q_s (.ok (.iload_n 3, 1)) (by decide +kernel) rfl
theorem r86_56 : pR X d 86 0 Q (56, L, [.int x], mem, 0) = Q (some (.int x)) mem := q_reti (by decide +kernel) rfl
theorem r87_0 : pR X d 87 0 Q (0, [l0, some (.int x), l2], st, mem, 0) = pR X d 87 0 Q (1, [l0, some (.int x), l2], .int x :: st, mem, 0) := q_s (.ok (.iload_n 1, 1)) (by decide +kernel) rfl
theorem r87_1 : pR X d 87 0 Q (1, [l0, l1, l2], .int x :: st, mem, 0) = pR X d 87 0 Q (2, [l0, cl1 l1, some (.int x)], st, mem, 0) := q_s (.ok (.istore_n 2, 1)) (by decide +kernel) rfl
theorem r87_2 : pR X d 87 0 Q (2, [l0, l1, some (.int x)], st, mem, 0) = pR X d 87 0 Q (3, [l0, l1, some (.int x)], .int x :: st, mem, 0) := q_s (.ok (.iload_n 2, 1)) (by decide +kernel) rfl
theorem r87_3 : pR X d 87 0 Q (3, L, st, mem, 0) = pR X d 87 0 Q (4, L, .int (iI (1)) :: st, mem, 0) := q_ic (by decide +kernel)
theorem r87_4 : pR X d 87 0 Q (4, L, .int z :: .int x :: st, mem, 0) = ((x ≤ z → pR X d 87 0 Q (27, L, st, mem, 0)) ∧ (¬ (x ≤ z) → pR X d 87 0 Q (7, L, st, mem, 0))) := r_ic (c := .le) (off := 23) (by decide +kernel) (by decide)
theorem r87_7 : pR X d 87 0 Q (7, [some (.int x), l1, l2], st, mem, 0) = pR X d 87 0 Q (8, [some (.int x), l1, l2], .int x :: st, mem, 0) := q_s (.ok (.iload_n 0, 1)) (by decide +kernel) rfl
theorem r87_8 : pR X d 87 0 Q (8, [l0, l1, some (.int x)], st, mem, 0) = pR X d 87 0 Q (9, [l0, l1, some (.int x)], .int x :: st, mem, 0) := q_s (.ok (.iload_n 2, 1)) (by decide +kernel) rfl
theorem r87_9 : pR X d 87 0 Q (9, L, .int z :: .int x :: st, mem, 0) = (¬ z = 0 ∧ pR X d 87 0 Q (10, L, .int (x - x / z * z) :: st, mem, 0)) := q_rem (by decide +kernel)
theorem r87_10 : pR X d 87 0 Q (10, L, .int x :: st, mem, 0) = ((¬ x = 0 → pR X d 87 0 Q (21, L, st, mem, 0)) ∧ (¬ (¬ x = 0) → pR X d 87 0 Q (13, L, st, mem, 0))) := r_if (c := .ne) (off := 11) (by decide +kernel) (by decide)
theorem r87_13 : pR X d 87 0 Q (13, [l0, some (.int x), l2], st, mem, 0) = pR X d 87 0 Q (14, [l0, some (.int x), l2], .int x :: st, mem, 0) := q_s (.ok (.iload_n 1, 1)) (by decide +kernel) rfl
theorem r87_14 : pR X d 87 0 Q (14, [l0, l1, some (.int x)], st, mem, 0) = pR X d 87 0 Q (15, [l0, l1, some (.int x)], .int x :: st, mem, 0) := q_s (.ok (.iload_n 2, 1)) (by decide +kernel) rfl
theorem r87_15 : pR X d 87 0 Q (15, L, .int z :: .int x :: st, mem, 0) = (¬ z = 0 ∧ pR X d 87 0 Q (16, L, .int (x - x / z * z) :: st, mem, 0)) := q_rem (by decide +kernel)
theorem r87_16 : pR X d 87 0 Q (16, L, .int x :: st, mem, 0) = ((¬ x = 0 → pR X d 87 0 Q (21, L, st, mem, 0)) ∧ (¬ (¬ x = 0) → pR X d 87 0 Q (19, L, st, mem, 0))) := r_if (c := .ne) (off := 5) (by decide +kernel) (by decide)
theorem r87_19 : pR X d 87 0 Q (19, [l0, l1, some (.int x)], st, mem, 0) = pR X d 87 0 Q (20, [l0, l1, some (.int x)], .int x :: st, mem, 0) := q_s (.ok (.iload_n 2, 1)) (by decide +kernel) rfl
theorem r87_20 : pR X d 87 0 Q (20, L, [.int x], mem, 0) = Q (some (.int x)) mem := q_reti (by decide +kernel) rfl
theorem r87_21 : pR X d 87 0 Q (21, [l0, l1, some (.int x)], st, mem, 0) = pR X d 87 0 Q (24, [l0, cl1 l1, some (.int (x + iI (-1)))], st, mem, 0) := q_s (.ok (.iinc 2 (-1), 3)) (by decide +kernel) rfl
theorem r87_24 : pR X d 87 0 Q (24, L, st, mem, 0) = pR X d 87 0 Q (2, L, st, mem, 0) := q_s (.ok (.goto (-22), 3)) (by decide +kernel) rfl
theorem r87_27 : pR X d 87 0 Q (27, L, st, mem, 0) = pR X d 87 0 Q (28, L, .int (iI (1)) :: st, mem, 0) := q_ic (by decide +kernel)
theorem r87_28 : pR X d 87 0 Q (28, L, [.int x], mem, 0) = Q (some (.int x)) mem := q_reti (by decide +kernel) rfl
theorem r88_0 : pR X d 88 0 Q (0, [some (.ref a), l1, l2], st, mem, 0) = pR X d 88 0 Q (1, [some (.ref a), l1, l2], .ref a :: st, mem, 0) := q_s (.ok (.aload_n 0, 1)) (by decide +kernel) rfl
theorem r88_1 : pR X d 88 0 Q (1, L, .ref a :: st, mem, 0) = gf mem a 4 0 (fun p => pR X d 88 0 Q (4, L, p :: st, mem, 0)) := q_get (ix := 10) (by decide +kernel) (by decide +kernel)
theorem r88_4 : pR X d 88 0 Q (4, L, .ref a :: st, mem, 0) = gf mem a 3 3 (fun p => pR X d 88 0 Q (7, L, p :: st, mem, 0)) := q_get (ix := 202) (by decide +kernel) (by decide +kernel)
theorem r88_7 : pR X d 88 0 Q (7, [l0, l1, l2], .int x :: st, mem, 0) = pR X d 88 0 Q (8, [l0, cl1 l1, some (.int x)], st, mem, 0) := q_s (.ok (.istore_n 2, 1)) (by decide +kernel) rfl
theorem r88_8 : pR X d 88 0 Q (8, [some (.ref a), l1, l2], st, mem, 0) = pR X d 88 0 Q (9, [some (.ref a), l1, l2], .ref a :: st, mem, 0) := q_s (.ok (.aload_n 0, 1)) (by decide +kernel) rfl
theorem r88_9 : pR X d 88 0 Q (9, L, .ref a :: st, mem, 0) = gf mem a 4 0 (fun p => pR X d 88 0 Q (12, L, p :: st, mem, 0)) := q_get (ix := 10) (by decide +kernel) (by decide +kernel)
theorem r88_12 : pR X d 88 0 Q (12, [l0, some (.int x), l2], st, mem, 0) = pR X d 88 0 Q (13, [l0, some (.int x), l2], .int x :: st, mem, 0) := q_s (.ok (.iload_n 1, 1)) (by decide +kernel) rfl
theorem r88_13 : pR X d 88 0 Q (13, L, p :: .ref a :: st, mem, 0) = pf 88 mem a 3 3 p (fun mem => pR X d 88 0 Q (16, L, st, mem, 0)) := q_put (ix := 202) (by decide +kernel) (by decide +kernel) (by decide)
theorem r88_16 : pR X d 88 0 Q (16, [l0, l1, some (.int x)], st, mem, 0) = pR X d 88 0 Q (17, [l0, l1, some (.int x)], .int x :: st, mem, 0) := q_s (.ok (.iload_n 2, 1)) (by decide +kernel) rfl
theorem r88_17 : pR X d 88 0 Q (17, L, [.int x], mem, 0) = Q (some (.int x)) mem := q_reti (by decide +kernel) rfl
theorem r89_0 : pR X d 89 0 Q (0, [l0, l1, some (.int x), l3], st, mem, 0) = pR X d 89 0 Q (1, [l0, l1, some (.int x), l3], .int x :: st, mem, 0) := q_s (.ok (.iload_n 2, 1)) (by decide +kernel) rfl
theorem r89_1 : pR X d 89 0 Q (1, L, st, mem, 0) = pR X d 89 0 Q (2, L, .int (iI (1)) :: st, mem, 0) := q_ic (by decide +kernel)
theorem r89_2 : pR X d 89 0 Q (2, L, st, mem, 0) = pR X d 89 0 Q (3, L, .int (iI (4)) :: st, mem, 0) := q_ic (by decide +kernel)
theorem r89_3 : pR X d 89 0 Q (3, L, .int y2 :: .int y1 :: .int y0 :: [], mem, 0) = Cw X d 7 [.int y0, .int y1, .int y2] mem (fun r mem => pR X d 89 0 Q (6, L, r.toList ++ [], mem, 0)) := q_stat (ix := 52) (kd := 1) (y2 := 7) (as := [.int y2, .int y1, .int y0]) (by decide +kernel) (by decide +kernel) (by decide) rfl rfl rfl (Nat.le_of_ble_eq_true rfl) (by decide)
theorem r89_6 : pR X d 89 0 Q (6, L, .int x :: st, mem, 0) = ((¬ x = 0 → pR X d 89 0 Q (15, L, st, mem, 0)) ∧ (¬ (¬ x = 0) → pR X d 89 0 Q (9, L, st, mem, 0))) := r_if (c := .ne) (off := 9) (by decide +kernel) (by decide)
theorem r89_9 : pR X d 89 0 Q (9, [some (.ref a), l1, l2, l3], st, mem, 0) = pR X d 89 0 Q (10, [some (.ref a), l1, l2, l3], .ref a :: st, mem, 0) := q_s (.ok (.aload_n 0, 1)) (by decide +kernel) rfl
theorem r89_10 : pR X d 89 0 Q (10, L, st, mem, 0) = pR X d 89 0 Q (11, L, .int (iI (0)) :: st, mem, 0) := q_ic (by decide +kernel)
theorem r89_11 : pR X d 89 0 Q (11, L, .int y0 :: .ref a :: [], mem, 0) = (prcv mem 4 a ∧ Cw X d 8 [.ref a, .int y0] mem (fun r mem => pR X d 89 0 Q (14, L, r.toList ++ [], mem, 0))) := q_virt (ix := 59) (y2 := 8) (as := [.int y0]) (by decide +kernel) (by decide +kernel) rfl rfl rfl (Nat.le_of_ble_eq_true rfl) (by decide)
theorem r89_14 : pR X d 89 0 Q (14, L, [.int x], mem, 0) = Q (some (.int x)) mem := q_reti (by decide +kernel) rfl
theorem r89_15 : pR X d 89 0 Q (15, [some (.ref a), l1, l2, l3], st, mem, 0) = pR X d 89 0 Q (16, [some (.ref a), l1, l2, l3], .ref a :: st, mem, 0) := q_s (.ok (.aload_n 0, 1)) (by decide +kernel) rfl
theorem r89_16 : pR X d 89 0 Q (16, L, .ref a :: st, mem, 0) = gf mem a 4 4 (fun p => pR X d 89 0 Q (19, L, p :: st, mem, 0)) := q_get (ix := 29) (by decide +kernel) (by decide +kernel)
theorem r89_19 : pR X d 89 0 Q (19, L, .ref a :: st, mem, 0) = gf mem a 2 1 (fun p => pR X d 89 0 Q (22, L, p :: st, mem, 0)) := q_get (ix := 205) (by decide +kernel) (by decide +kernel)
theorem r89_22 : pR X d 89 0 Q (22, [l0, l1, some (.int x), l3], st, mem, 0) = pR X d 89 0 Q (23, [l0, l1, some (.int x), l3], .int x :: st, mem, 0) := q_s (.ok (.iload_n 2, 1)) (by decide +kernel) rfl
theorem r89_23 : pR X d 89 0 Q (23, L, .int z :: .int x :: st, mem, 0) = pR X d 89 0 Q (24, L, .int (x + z) :: st, mem, 0) := q_s (.ok (.iadd, 1)) (by decide +kernel) rfl
theorem r89_24 : pR X d 89 0 Q (24, L, st, mem, 0) = pR X d 89 0 Q (26, L, .int (iI (120)) :: st, mem, 0) := q_bi (n := 120) (by decide +kernel) (by decide +kernel)
theorem r89_26 : pR X d 89 0 Q (26, L, .int z :: .int x :: st, mem, 0) = ((x ≤ z → pR X d 89 0 Q (35, L, st, mem, 0)) ∧ (¬ (x ≤ z) → pR X d 89 0 Q (29, L, st, mem, 0))) := r_ic (c := .le) (off := 9) (by decide +kernel) (by decide)
theorem r89_29 : pR X d 89 0 Q (29, [some (.ref a), l1, l2, l3], st, mem, 0) = pR X d 89 0 Q (30, [some (.ref a), l1, l2, l3], .ref a :: st, mem, 0) := q_s (.ok (.aload_n 0, 1)) (by decide +kernel) rfl
theorem r89_30 : pR X d 89 0 Q (30, L, st, mem, 0) = pR X d 89 0 Q (31, L, .int (iI (1)) :: st, mem, 0) := q_ic (by decide +kernel)
theorem r89_31 : pR X d 89 0 Q (31, L, .int y0 :: .ref a :: [], mem, 0) = (prcv mem 4 a ∧ Cw X d 8 [.ref a, .int y0] mem (fun r mem => pR X d 89 0 Q (34, L, r.toList ++ [], mem, 0))) := q_virt (ix := 59) (y2 := 8) (as := [.int y0]) (by decide +kernel) (by decide +kernel) rfl rfl rfl (Nat.le_of_ble_eq_true rfl) (by decide)
theorem r89_34 : pR X d 89 0 Q (34, L, [.int x], mem, 0) = Q (some (.int x)) mem := q_reti (by decide +kernel) rfl
theorem r89_35 : pR X d 89 0 Q (35, [l0, l1, some (.int x), l3], st, mem, 0) = pR X d 89 0 Q (36, [l0, l1, some (.int x), l3], .int x :: st, mem, 0) := q_s (.ok (.iload_n 2, 1)) (by decide +kernel) rfl
theorem r89_36 : pR X d 89 0 Q (36, L, st, mem, 0) = pR X d 89 0 Q (37, L, .int (iI (1)) :: st, mem, 0) := q_ic (by decide +kernel)
theorem r89_37 : pR X d 89 0 Q (37, L, .int z :: .int x :: st, mem, 0) = pR X d 89 0 Q (38, L, .int (x - z) :: st, mem, 0) := q_s (.ok (.isub, 1)) (by decide +kernel) rfl
theorem r89_38 : pR X d 89 0 Q (38, [l0, l1, l2, l3], .int x :: st, mem, 0) = pR X d 89 0 Q (39, [l0, l1, cl1 l2, some (.int x)], st, mem, 0) := q_s (.ok (.istore_n 3, 1)) (by decide +kernel) rfl
theorem r89_39 : pR X d 89 0 Q (39, [l0, l1, l2, some (.int x)], st, mem, 0) = pR X d 89 0 Q (40, [l0, l1, l2, some (.int x)], .int x :: st, mem, 0) := q_s (.ok (.iload_n 3, 1)) (by decide +kernel) rfl
theorem r89_40 : pR X d 89 0 Q (40, L, .int x :: st, mem, 0) = ((x < 0 → pR X d 89 0 Q (66, L, st, mem, 0)) ∧ (¬ (x < 0) → pR X d 89 0 Q (43, L, st, mem, 0))) := r_if (c := .lt) (off := 26) (by decide +kernel) (by decide)
theorem r89_43 : pR X d 89 0 Q (43, [some (.ref a), l1, l2, l3], st, mem, 0) = pR X d 89 0 Q (44, [some (.ref a), l1, l2, l3], .ref a :: st, mem, 0) := q_s (.ok (.aload_n 0, 1)) (by decide +kernel) rfl
theorem r89_44 : pR X d 89 0 Q (44, L, .ref a :: st, mem, 0) = gf mem a 4 4 (fun p => pR X d 89 0 Q (47, L, p :: st, mem, 0)) := q_get (ix := 29) (by decide +kernel) (by decide +kernel)
theorem r89_47 : pR X d 89 0 Q (47, [l0, some (.int x), l2, l3], st, mem, 0) = pR X d 89 0 Q (48, [l0, some (.int x), l2, l3], .int x :: st, mem, 0) := q_s (.ok (.iload_n 1, 1)) (by decide +kernel) rfl
theorem r89_48 : pR X d 89 0 Q (48, L, st, mem, 0) = pR X d 89 0 Q (50, L, .int (iI (8)) :: st, mem, 0) := q_bi (n := 8) (by decide +kernel) (by decide +kernel)
theorem r89_50 : pR X d 89 0 Q (50, [l0, l1, l2, some (.int x)], st, mem, 0) = pR X d 89 0 Q (51, [l0, l1, l2, some (.int x)], .int x :: st, mem, 0) := q_s (.ok (.iload_n 3, 1)) (by decide +kernel) rfl
theorem r89_51 : pR X d 89 0 Q (51, L, .int z :: .int x :: st, mem, 0) = pR X d 89 0 Q (52, L, .int (x * z) :: st, mem, 0) := q_s (.ok (.imul, 1)) (by decide +kernel) rfl
theorem r89_52 : pR X d 89 0 Q (52, L, .int z :: .int x :: st, mem, 0) = pR X d 89 0 Q (53, L, .int ((x.toUInt32 >>> (z.toUInt32 &&& Int32.toUInt32 31)).toInt32) :: st, mem, 0) := q_s (.ok (.iushr, 1)) (by decide +kernel) rfl
theorem r89_53 : pR X d 89 0 Q (53, L, st, mem, 0) = pR X d 89 0 Q (56, L, .int (iI (255)) :: st, mem, 0) := q_si (n := 255) (by decide +kernel) (by decide +kernel)
theorem r89_56 : pR X d 89 0 Q (56, L, .int z :: .int x :: st, mem, 0) = pR X d 89 0 Q (57, L, .int (x &&& z) :: st, mem, 0) := q_s (.ok (.iand, 1)) (by decide +kernel) rfl
theorem r89_57 : pR X d 89 0 Q (57, L, .int y0 :: .ref a :: [], mem, 0) = (prcv mem 2 a ∧ Cw X d 90 [.ref a, .int y0] mem (fun r mem => pR X d 89 0 Q (60, L, r.toList ++ [], mem, 0))) := q_virt (ix := 208) (y2 := 90) (as := [.int y0]) (by decide +kernel) (by decide +kernel) rfl rfl rfl (Nat.le_of_ble_eq_true rfl) (by decide)
theorem r89_60 : pR X d 89 0 Q (60, [l0, l1, l2, some (.int x)], st, mem, 0) = pR X d 89 0 Q (63, [l0, l1, cl1 l2, some (.int (x + iI (-1)))], st, mem, 0) := q_s (.ok (.iinc 3 (-1), 3)) (by decide +kernel) rfl
theorem r89_63 : pR X d 89 0 Q (63, L, st, mem, 0) = pR X d 89 0 Q (39, L, st, mem, 0) := q_s (.ok (.goto (-24), 3)) (by decide +kernel) rfl
theorem r89_66 : pR X d 89 0 Q (66, [some (.ref a), l1, l2, l3], st, mem, 0) = pR X d 89 0 Q (67, [some (.ref a), l1, l2, l3], .ref a :: st, mem, 0) := q_s (.ok (.aload_n 0, 1)) (by decide +kernel) rfl
theorem r89_67 : pR X d 89 0 Q (67, L, .ref a :: st, mem, 0) = gf mem a 4 4 (fun p => pR X d 89 0 Q (70, L, p :: st, mem, 0)) := q_get (ix := 29) (by decide +kernel) (by decide +kernel)
theorem r89_70 : pR X d 89 0 Q (70, L, .ref a :: st, mem, 0) = gf mem a 2 1 (fun p => pR X d 89 0 Q (73, L, p :: st, mem, 0)) := q_get (ix := 205) (by decide +kernel) (by decide +kernel)
theorem r89_73 : pR X d 89 0 Q (73, L, [.int x], mem, 0) = Q (some (.int x)) mem := q_reti (by decide +kernel) rfl
theorem r90_0 : pR X d 90 0 Q (0, [some (.ref a), l1], st, mem, 0) = pR X d 90 0 Q (1, [some (.ref a), l1], .ref a :: st, mem, 0) := q_s (.ok (.aload_n 0, 1)) (by decide +kernel) rfl
theorem r90_1 : pR X d 90 0 Q (1, L, .ref a :: st, mem, 0) = gf mem a 2 1 (fun p => pR X d 90 0 Q (4, L, p :: st, mem, 0)) := q_get (ix := 15) (by decide +kernel) (by decide +kernel)
theorem r90_4 : pR X d 90 0 Q (4, L, st, mem, 0) = pR X d 90 0 Q (6, L, .int (iI (120)) :: st, mem, 0) := q_bi (n := 120) (by decide +kernel) (by decide +kernel)
theorem r90_6 : pR X d 90 0 Q (6, L, .int z :: .int x :: st, mem, 0) = ((z ≤ x → pR X d 90 0 Q (29, L, st, mem, 0)) ∧ (¬ (z ≤ x) → pR X d 90 0 Q (9, L, st, mem, 0))) := r_ic (c := .ge) (off := 23) (by decide +kernel) (by decide)
theorem r90_9 : pR X d 90 0 Q (9, [some (.ref a), l1], st, mem, 0) = pR X d 90 0 Q (10, [some (.ref a), l1], .ref a :: st, mem, 0) := q_s (.ok (.aload_n 0, 1)) (by decide +kernel) rfl
theorem r90_10 : pR X d 90 0 Q (10, L, .ref a :: st, mem, 0) = gf mem a 2 0 (fun p => pR X d 90 0 Q (13, L, p :: st, mem, 0)) := q_get (ix := 9) (by decide +kernel) (by decide +kernel)
theorem r90_13 : pR X d 90 0 Q (13, [some (.ref a), l1], st, mem, 0) = pR X d 90 0 Q (14, [some (.ref a), l1], .ref a :: st, mem, 0) := q_s (.ok (.aload_n 0, 1)) (by decide +kernel) rfl
theorem r90_14 : pR X d 90 0 Q (14, L, .ref a :: st, mem, 0) = gf mem a 2 1 (fun p => pR X d 90 0 Q (17, L, p :: st, mem, 0)) := q_get (ix := 15) (by decide +kernel) (by decide +kernel)
theorem r90_17 : pR X d 90 0 Q (17, [l0, some (.int x)], st, mem, 0) = pR X d 90 0 Q (18, [l0, some (.int x)], .int x :: st, mem, 0) := q_s (.ok (.iload_n 1, 1)) (by decide +kernel) rfl
theorem r90_18 : pR X d 90 0 Q (18, L, .int z :: .int x :: .ref a :: st, mem, 0) = wi mem a x z (fun mem => pR X d 90 0 Q (19, L, st, mem, 0)) := q_wi (by decide +kernel)
theorem r90_19 : pR X d 90 0 Q (19, [some (.ref a), l1], st, mem, 0) = pR X d 90 0 Q (20, [some (.ref a), l1], .ref a :: st, mem, 0) := q_s (.ok (.aload_n 0, 1)) (by decide +kernel) rfl
theorem r90_20 : pR X d 90 0 Q (20, L, .ref a :: st, mem, 0) = pR X d 90 0 Q (21, L, .ref a :: .ref a :: st, mem, 0) := q_s (.ok (.dup, 1)) (by decide +kernel) rfl
theorem r90_21 : pR X d 90 0 Q (21, L, .ref a :: st, mem, 0) = gf mem a 2 1 (fun p => pR X d 90 0 Q (24, L, p :: st, mem, 0)) := q_get (ix := 15) (by decide +kernel) (by decide +kernel)
theorem r90_24 : pR X d 90 0 Q (24, L, st, mem, 0) = pR X d 90 0 Q (25, L, .int (iI (1)) :: st, mem, 0) := q_ic (by decide +kernel)
theorem r90_25 : pR X d 90 0 Q (25, L, .int z :: .int x :: st, mem, 0) = pR X d 90 0 Q (26, L, .int (x + z) :: st, mem, 0) := q_s (.ok (.iadd, 1)) (by decide +kernel) rfl
theorem r90_26 : pR X d 90 0 Q (26, L, p :: .ref a :: st, mem, 0) = pf 90 mem a 2 1 p (fun mem => pR X d 90 0 Q (29, L, st, mem, 0)) := q_put (ix := 15) (by decide +kernel) (by decide +kernel) (by decide)
theorem r90_29 : pR X d 90 0 Q (29, L, [], mem, 0) = Q none mem := q_retv (by decide +kernel) rfl
theorem r91_0 : pR X d 91 0 Q (0, [some (.ref a), l1], st, mem, 0) = pR X d 91 0 Q (1, [some (.ref a), l1], .ref a :: st, mem, 0) := q_s (.ok (.aload_n 0, 1)) (by decide +kernel) rfl
theorem r91_1 : pR X d 91 0 Q (1, L, .ref a :: st, mem, 0) = gf mem a 4 4 (fun p => pR X d 91 0 Q (4, L, p :: st, mem, 0)) := q_get (ix := 29) (by decide +kernel) (by decide +kernel)
theorem r91_4 : pR X d 91 0 Q (4, L, .ref a :: st, mem, 0) = gf mem a 2 1 (fun p => pR X d 91 0 Q (7, L, p :: st, mem, 0)) := q_get (ix := 205) (by decide +kernel) (by decide +kernel)
theorem r91_7 : pR X d 91 0 Q (7, [l0, l1], .int x :: st, mem, 0) = pR X d 91 0 Q (8, [cl1 l0, some (.int x)], st, mem, 0) := q_s (.ok (.istore_n 1, 1)) (by decide +kernel) rfl
theorem r91_8 : pR X d 91 0 Q (8, [some (.ref a), l1], st, mem, 0) = pR X d 91 0 Q (9, [some (.ref a), l1], .ref a :: st, mem, 0) := q_s (.ok (.aload_n 0, 1)) (by decide +kernel) rfl
theorem r91_9 : pR X d 91 0 Q (9, L, .ref a :: st, mem, 0) = gf mem a 4 4 (fun p => pR X d 91 0 Q (12, L, p :: st, mem, 0)) := q_get (ix := 29) (by decide +kernel) (by decide +kernel)
theorem r91_12 : pR X d 91 0 Q (12, L, st, mem, 0) = pR X d 91 0 Q (13, L, .int (iI (0)) :: st, mem, 0) := q_ic (by decide +kernel)
theorem r91_13 : pR X d 91 0 Q (13, L, p :: .ref a :: st, mem, 0) = pf 91 mem a 2 1 p (fun mem => pR X d 91 0 Q (16, L, st, mem, 0)) := q_put (ix := 205) (by decide +kernel) (by decide +kernel) (by decide)
theorem r91_16 : pR X d 91 0 Q (16, [l0, some (.int x)], st, mem, 0) = pR X d 91 0 Q (17, [l0, some (.int x)], .int x :: st, mem, 0) := q_s (.ok (.iload_n 1, 1)) (by decide +kernel) rfl
theorem r91_17 : pR X d 91 0 Q (17, L, [.int x], mem, 0) = Q (some (.int x)) mem := q_reti (by decide +kernel) rfl
theorem r92_0 : pR X d 92 0 Q (0, [some (.ref a), l1], st, mem, 0) = pR X d 92 0 Q (1, [some (.ref a), l1], .ref a :: st, mem, 0) := q_s (.ok (.aload_n 0, 1)) (by decide +kernel) rfl
theorem r92_1 : pR X d 92 0 Q (1, L, .ref a :: st, mem, 0) = gf mem a 4 1 (fun p => pR X d 92 0 Q (4, L, p :: st, mem, 0)) := q_get (ix := 16) (by decide +kernel) (by decide +kernel)
theorem r92_4 : pR X d 92 0 Q (4, [some (.ref a), l1], st, mem, 0) = pR X d 92 0 Q (5, [some (.ref a), l1], .ref a :: st, mem, 0) := q_s (.ok (.aload_n 0, 1)) (by decide +kernel) rfl
theorem r92_5 : pR X d 92 0 Q (5, L, .ref a :: st, mem, 0) = gf mem a 4 0 (fun p => pR X d 92 0 Q (8, L, p :: st, mem, 0)) := q_get (ix := 10) (by decide +kernel) (by decide +kernel)
theorem r92_8 : pR X d 92 0 Q (8, L, .ref b0 :: .ref a :: [], mem, 0) = (prcv mem 3 a ∧ Cw X d 53 [.ref a, .ref b0] mem (fun r mem => pR X d 92 0 Q (11, L, r.toList ++ [], mem, 0))) := q_virt (ix := 143) (y2 := 53) (as := [.ref b0]) (by decide +kernel) (by decide +kernel) rfl rfl rfl (Nat.le_of_ble_eq_true rfl) (by decide)
theorem r92_11 : pR X d 92 0 Q (11, [some (.ref a), l1], st, mem, 0) = pR X d 92 0 Q (12, [some (.ref a), l1], .ref a :: st, mem, 0) := q_s (.ok (.aload_n 0, 1)) (by decide +kernel) rfl
theorem r92_12 : pR X d 92 0 Q (12, L, .ref a :: st, mem, 0) = gf mem a 4 4 (fun p => pR X d 92 0 Q (15, L, p :: st, mem, 0)) := q_get (ix := 29) (by decide +kernel) (by decide +kernel)
theorem r92_15 : pR X d 92 0 Q (15, [some (.ref a), l1], st, mem, 0) = pR X d 92 0 Q (16, [some (.ref a), l1], .ref a :: st, mem, 0) := q_s (.ok (.aload_n 0, 1)) (by decide +kernel) rfl
theorem r92_16 : pR X d 92 0 Q (16, L, .ref a :: st, mem, 0) = gf mem a 4 1 (fun p => pR X d 92 0 Q (19, L, p :: st, mem, 0)) := q_get (ix := 16) (by decide +kernel) (by decide +kernel)
theorem r92_19 : pR X d 92 0 Q (19, L, .ref b0 :: .ref a :: [], mem, 0) = (prcv mem 2 a ∧ Cw X d 93 [.ref a, .ref b0] mem (fun r mem => pR X d 92 0 Q (22, L, r.toList ++ [], mem, 0))) := q_virt (ix := 211) (y2 := 93) (as := [.ref b0]) (by decide +kernel) (by decide +kernel) rfl rfl rfl (Nat.le_of_ble_eq_true rfl) (by decide)
theorem r92_22 : pR X d 92 0 Q (22, [l0, l1], .int x :: st, mem, 0) = pR X d 92 0 Q (23, [cl1 l0, some (.int x)], st, mem, 0) := q_s (.ok (.istore_n 1, 1)) (by decide +kernel) rfl
theorem r92_23 : pR X d 92 0 Q (23, [some (.ref a), l1], st, mem, 0) = pR X d 92 0 Q (24, [some (.ref a), l1], .ref a :: st, mem, 0) := q_s (.ok (.aload_n 0, 1)) (by decide +kernel) rfl
theorem r92_24 : pR X d 92 0 Q (24, L, .ref a :: st, mem, 0) = gf mem a 4 4 (fun p => pR X d 92 0 Q (27, L, p :: st, mem, 0)) := q_get (ix := 29) (by decide +kernel) (by decide +kernel)
theorem r92_27 : pR X d 92 0 Q (27, L, st, mem, 0) = pR X d 92 0 Q (28, L, .int (iI (0)) :: st, mem, 0) := q_ic (by decide +kernel)
theorem r92_28 : pR X d 92 0 Q (28, L, p :: .ref a :: st, mem, 0) = pf 92 mem a 2 1 p (fun mem => pR X d 92 0 Q (31, L, st, mem, 0)) := q_put (ix := 205) (by decide +kernel) (by decide +kernel) (by decide)
theorem r92_31 : pR X d 92 0 Q (31, [l0, some (.int x)], st, mem, 0) = pR X d 92 0 Q (32, [l0, some (.int x)], .int x :: st, mem, 0) := q_s (.ok (.iload_n 1, 1)) (by decide +kernel) rfl
theorem r92_32 : pR X d 92 0 Q (32, L, .int x :: st, mem, 0) = ((x < 0 → pR X d 92 0 Q (46, L, st, mem, 0)) ∧ (¬ (x < 0) → pR X d 92 0 Q (35, L, st, mem, 0))) := r_if (c := .lt) (off := 14) (by decide +kernel) (by decide)
theorem r92_35 : pR X d 92 0 Q (35, [some (.ref a), l1], st, mem, 0) = pR X d 92 0 Q (36, [some (.ref a), l1], .ref a :: st, mem, 0) := q_s (.ok (.aload_n 0, 1)) (by decide +kernel) rfl
theorem r92_36 : pR X d 92 0 Q (36, L, .ref a :: st, mem, 0) = gf mem a 4 0 (fun p => pR X d 92 0 Q (39, L, p :: st, mem, 0)) := q_get (ix := 10) (by decide +kernel) (by decide +kernel)
theorem r92_39 : pR X d 92 0 Q (39, [some (.ref a), l1], st, mem, 0) = pR X d 92 0 Q (40, [some (.ref a), l1], .ref a :: st, mem, 0) := q_s (.ok (.aload_n 0, 1)) (by decide +kernel) rfl
theorem r92_40 : pR X d 92 0 Q (40, L, .ref a :: st, mem, 0) = gf mem a 4 1 (fun p => pR X d 92 0 Q (43, L, p :: st, mem, 0)) := q_get (ix := 16) (by decide +kernel) (by decide +kernel)
theorem r92_43 : pR X d 92 0 Q (43, L, .ref b0 :: .ref a :: [], mem, 0) = (prcv mem 3 a ∧ Cw X d 53 [.ref a, .ref b0] mem (fun r mem => pR X d 92 0 Q (46, L, r.toList ++ [], mem, 0))) := q_virt (ix := 143) (y2 := 53) (as := [.ref b0]) (by decide +kernel) (by decide +kernel) rfl rfl rfl (Nat.le_of_ble_eq_true rfl) (by decide)
theorem r92_46 : pR X d 92 0 Q (46, [l0, some (.int x)], st, mem, 0) = pR X d 92 0 Q (47, [l0, some (.int x)], .int x :: st, mem, 0) := q_s (.ok (.iload_n 1, 1)) (by decide +kernel) rfl
theorem r92_47 : pR X d 92 0 Q (47, L, [.int x], mem, 0) = Q (some (.int x)) mem := q_reti (by decide +kernel) rfl
theorem r93_0 : pR X d 93 0 Q (0, [some (.ref a), l1, l2, l3], st, mem, 0) = pR X d 93 0 Q (1, [some (.ref a), l1, l2, l3], .ref a :: st, mem, 0) := q_s (.ok (.aload_n 0, 1)) (by decide +kernel) rfl
theorem r93_1 : pR X d 93 0 Q (1, L, st, mem, 0) = pR X d 93 0 Q (2, L, .int (iI (0)) :: st, mem, 0) := q_ic (by decide +kernel)
theorem r93_2 : pR X d 93 0 Q (2, L, p :: .ref a :: st, mem, 0) = pf 93 mem a 2 2 p (fun mem => pR X d 93 0 Q (5, L, st, mem, 0)) := q_put (ix := 19) (by decide +kernel) (by decide +kernel) (by decide)
theorem r93_5 : pR X d 93 0 Q (5, [some (.ref a), l1, l2, l3], st, mem, 0) = pR X d 93 0 Q (6, [some (.ref a), l1, l2, l3], .ref a :: st, mem, 0) := q_s (.ok (.aload_n 0, 1)) (by decide +kernel) rfl
theorem r93_6 : pR X d 93 0 Q (6, L, .ref a :: [], mem, 0) = (prcv mem 2 a ∧ Cw X d 94 [.ref a] mem (fun r mem => pR X d 93 0 Q (9, L, r.toList ++ [], mem, 0))) := q_virt (ix := 31) (y2 := 94) (as := []) (by decide +kernel) (by decide +kernel) rfl rfl rfl (Nat.le_of_ble_eq_true rfl) (by decide)
theorem r93_9 : pR X d 93 0 Q (9, L, st, mem, 0) = pR X d 93 0 Q (10, L, .int (iI (1)) :: st, mem, 0) := q_ic (by decide +kernel)
theorem r93_10 : pR X d 93 0 Q (10, [l0, l1, l2, l3], .int x :: st, mem, 0) = pR X d 93 0 Q (11, [l0, cl1 l1, some (.int x), l3], st, mem, 0) := q_s (.ok (.istore_n 2, 1)) (by decide +kernel) rfl
theorem r93_11 : pR X d 93 0 Q (11, [l0, l1, some (.int x), l3], st, mem, 0) = pR X d 93 0 Q (12, [l0, l1, some (.int x), l3], .int x :: st, mem, 0) := q_s (.ok (.iload_n 2, 1)) (by decide +kernel) rfl
theorem r93_12 : pR X d 93 0 Q (12, L, st, mem, 0) = pR X d 93 0 Q (14, L, .int (iI (120)) :: st, mem, 0) := q_bi (n := 120) (by decide +kernel) (by decide +kernel)
theorem r93_14 : pR X d 93 0 Q (14, L, .int z :: .int x :: st, mem, 0) = ((z < x → pR X d 93 0 Q (94, L, st, mem, 0)) ∧ (¬ (z < x) → pR X d 93 0 Q (17, L, st, mem, 0))) := r_ic (c := .gt) (off := 80) (by decide +kernel) (by decide)
theorem r93_17 : pR X d 93 0 Q (17, [some (.ref a), l1, l2, l3], st, mem, 0) = pR X d 93 0 Q (18, [some (.ref a), l1, l2, l3], .ref a :: st, mem, 0) := q_s (.ok (.aload_n 0, 1)) (by decide +kernel) rfl
theorem r93_18 : pR X d 93 0 Q (18, L, st, mem, 0) = pR X d 93 0 Q (20, L, .ref 1000 :: st, mem, 0) := q_ldcs (k := 34) (j := 0) (by decide +kernel) (by decide +kernel) (by decide +kernel)
theorem r93_20 : pR X d 93 0 Q (20, L, .ref b0 :: .ref a :: [], mem, 0) = (prcv mem 2 a ∧ Cw X d 98 [.ref a, .ref b0] mem (fun r mem => pR X d 93 0 Q (23, L, r.toList ++ [], mem, 0))) := q_virt (ix := 36) (y2 := 98) (as := [.ref b0]) (by decide +kernel) (by decide +kernel) rfl rfl rfl (Nat.le_of_ble_eq_true rfl) (by decide)
theorem r93_23 : pR X d 93 0 Q (23, L, .int x :: st, mem, 0) = ((x = 0 → pR X d 93 0 Q (34, L, st, mem, 0)) ∧ (¬ (x = 0) → pR X d 93 0 Q (26, L, st, mem, 0))) := r_if (c := .eq) (off := 11) (by decide +kernel) (by decide)
theorem r93_26 : pR X d 93 0 Q (26, [some (.ref a), l1, l2, l3], st, mem, 0) = pR X d 93 0 Q (27, [some (.ref a), l1, l2, l3], .ref a :: st, mem, 0) := q_s (.ok (.aload_n 0, 1)) (by decide +kernel) rfl
theorem r93_27 : pR X d 93 0 Q (27, [l0, some (.ref a), l2, l3], st, mem, 0) = pR X d 93 0 Q (28, [l0, some (.ref a), l2, l3], .ref a :: st, mem, 0) := q_s (.ok (.aload_n 1, 1)) (by decide +kernel) rfl
theorem r93_28 : pR X d 93 0 Q (28, L, .ref b0 :: .ref a :: [], mem, 0) = (prcv mem 2 a ∧ Cw X d 106 [.ref a, .ref b0] mem (fun r mem => pR X d 93 0 Q (31, L, r.toList ++ [], mem, 0))) := q_virt (ix := 40) (y2 := 106) (as := [.ref b0]) (by decide +kernel) (by decide +kernel) rfl rfl rfl (Nat.le_of_ble_eq_true rfl) (by decide)
theorem r93_31 : pR X d 93 0 Q (31, L, st, mem, 0) = pR X d 93 0 Q (56, L, st, mem, 0) := q_s (.ok (.goto (25), 3)) (by decide +kernel) rfl
theorem r93_34 : pR X d 93 0 Q (34, [some (.ref a), l1, l2, l3], st, mem, 0) = pR X d 93 0 Q (35, [some (.ref a), l1, l2, l3], .ref a :: st, mem, 0) := q_s (.ok (.aload_n 0, 1)) (by decide +kernel) rfl
theorem r93_35 : pR X d 93 0 Q (35, L, st, mem, 0) = pR X d 93 0 Q (37, L, .ref 1001 :: st, mem, 0) := q_ldcs (k := 44) (j := 1) (by decide +kernel) (by decide +kernel) (by decide +kernel)
theorem r93_37 : pR X d 93 0 Q (37, L, .ref b0 :: .ref a :: [], mem, 0) = (prcv mem 2 a ∧ Cw X d 98 [.ref a, .ref b0] mem (fun r mem => pR X d 93 0 Q (40, L, r.toList ++ [], mem, 0))) := q_virt (ix := 36) (y2 := 98) (as := [.ref b0]) (by decide +kernel) (by decide +kernel) rfl rfl rfl (Nat.le_of_ble_eq_true rfl) (by decide)
theorem r93_40 : pR X d 93 0 Q (40, L, .int x :: st, mem, 0) = ((x = 0 → pR X d 93 0 Q (51, L, st, mem, 0)) ∧ (¬ (x = 0) → pR X d 93 0 Q (43, L, st, mem, 0))) := r_if (c := .eq) (off := 11) (by decide +kernel) (by decide)
theorem r93_43 : pR X d 93 0 Q (43, [some (.ref a), l1, l2, l3], st, mem, 0) = pR X d 93 0 Q (44, [some (.ref a), l1, l2, l3], .ref a :: st, mem, 0) := q_s (.ok (.aload_n 0, 1)) (by decide +kernel) rfl
theorem r93_44 : pR X d 93 0 Q (44, [l0, some (.ref a), l2, l3], st, mem, 0) = pR X d 93 0 Q (45, [l0, some (.ref a), l2, l3], .ref a :: st, mem, 0) := q_s (.ok (.aload_n 1, 1)) (by decide +kernel) rfl
theorem r93_45 : pR X d 93 0 Q (45, L, .ref b0 :: .ref a :: [], mem, 0) = (prcv mem 2 a ∧ Cw X d 109 [.ref a, .ref b0] mem (fun r mem => pR X d 93 0 Q (48, L, r.toList ++ [], mem, 0))) := q_virt (ix := 46) (y2 := 109) (as := [.ref b0]) (by decide +kernel) (by decide +kernel) rfl rfl rfl (Nat.le_of_ble_eq_true rfl) (by decide)
theorem r93_48 : pR X d 93 0 Q (48, L, st, mem, 0) = pR X d 93 0 Q (56, L, st, mem, 0) := q_s (.ok (.goto (8), 3)) (by decide +kernel) rfl
theorem r93_51 : pR X d 93 0 Q (51, [some (.ref a), l1, l2, l3], st, mem, 0) = pR X d 93 0 Q (52, [some (.ref a), l1, l2, l3], .ref a :: st, mem, 0) := q_s (.ok (.aload_n 0, 1)) (by decide +kernel) rfl
theorem r93_52 : pR X d 93 0 Q (52, [l0, some (.ref a), l2, l3], st, mem, 0) = pR X d 93 0 Q (53, [l0, some (.ref a), l2, l3], .ref a :: st, mem, 0) := q_s (.ok (.aload_n 1, 1)) (by decide +kernel) rfl
theorem r93_53 : pR X d 93 0 Q (53, L, .ref b0 :: .ref a :: [], mem, 0) = (prcv mem 2 a ∧ Cw X d 110 [.ref a, .ref b0] mem (fun r mem => pR X d 93 0 Q (56, L, r.toList ++ [], mem, 0))) := q_virt (ix := 49) (y2 := 110) (as := [.ref b0]) (by decide +kernel) (by decide +kernel) rfl rfl rfl (Nat.le_of_ble_eq_true rfl) (by decide)
theorem r93_56 : pR X d 93 0 Q (56, [l0, l1, l2, l3], .int x :: st, mem, 0) = pR X d 93 0 Q (57, [l0, l1, cl1 l2, some (.int x)], st, mem, 0) := q_s (.ok (.istore_n 3, 1)) (by decide +kernel) rfl
theorem r93_57 : pR X d 93 0 Q (57, [l0, l1, l2, some (.int x)], st, mem, 0) = pR X d 93 0 Q (58, [l0, l1, l2, some (.int x)], .int x :: st, mem, 0) := q_s (.ok (.iload_n 3, 1)) (by decide +kernel) rfl
theorem r93_58 : pR X d 93 0 Q (58, L, .int x :: st, mem, 0) = ((¬ x = 0 → pR X d 93 0 Q (64, L, st, mem, 0)) ∧ (¬ (¬ x = 0) → pR X d 93 0 Q (61, L, st, mem, 0))) := r_if (c := .ne) (off := 6) (by decide +kernel) (by decide)
theorem r93_61 : pR X d 93 0 Q (61, L, st, mem, 0) = pR X d 93 0 Q (94, L, st, mem, 0) := q_s (.ok (.goto (33), 3)) (by decide +kernel) rfl
theorem r93_64 : pR X d 93 0 Q (64, [some (.ref a), l1, l2, l3], st, mem, 0) = pR X d 93 0 Q (65, [some (.ref a), l1, l2, l3], .ref a :: st, mem, 0) := q_s (.ok (.aload_n 0, 1)) (by decide +kernel) rfl
theorem r93_65 : pR X d 93 0 Q (65, L, .ref a :: st, mem, 0) = gf mem a 2 3 (fun p => pR X d 93 0 Q (68, L, p :: st, mem, 0)) := q_get (ix := 22) (by decide +kernel) (by decide +kernel)
theorem r93_68 : pR X d 93 0 Q (68, L, .int x :: st, mem, 0) = ((¬ x = 0 → pR X d 93 0 Q (73, L, st, mem, 0)) ∧ (¬ (¬ x = 0) → pR X d 93 0 Q (71, L, st, mem, 0))) := r_if (c := .ne) (off := 5) (by decide +kernel) (by decide)
theorem r93_71 : pR X d 93 0 Q (71, [l0, l1, some (.int x), l3], st, mem, 0) = pR X d 93 0 Q (72, [l0, l1, some (.int x), l3], .int x :: st, mem, 0) := q_s (.ok (.iload_n 2, 1)) (by decide +kernel) rfl
theorem r93_72 : pR X d 93 0 Q (72, L, [.int x], mem, 0) = Q (some (.int x)) mem := q_reti (by decide +kernel) rfl
theorem r93_73 : pR X d 93 0 Q (73, [some (.ref a), l1, l2, l3], st, mem, 0) = pR X d 93 0 Q (74, [some (.ref a), l1, l2, l3], .ref a :: st, mem, 0) := q_s (.ok (.aload_n 0, 1)) (by decide +kernel) rfl
theorem r93_74 : pR X d 93 0 Q (74, L, .ref a :: st, mem, 0) = gf mem a 2 3 (fun p => pR X d 93 0 Q (77, L, p :: st, mem, 0)) := q_get (ix := 22) (by decide +kernel) (by decide +kernel)
theorem r93_77 : pR X d 93 0 Q (77, L, st, mem, 0) = pR X d 93 0 Q (78, L, .int (iI (3)) :: st, mem, 0) := q_ic (by decide +kernel)
theorem r93_78 : pR X d 93 0 Q (78, L, .int z :: .int x :: st, mem, 0) = ((x = z → pR X d 93 0 Q (84, L, st, mem, 0)) ∧ (¬ (x = z) → pR X d 93 0 Q (81, L, st, mem, 0))) := r_ic (c := .eq) (off := 6) (by decide +kernel) (by decide)
theorem r93_81 : pR X d 93 0 Q (81, L, st, mem, 0) = pR X d 93 0 Q (94, L, st, mem, 0) := q_s (.ok (.goto (13), 3)) (by decide +kernel) rfl
theorem r93_84 : pR X d 93 0 Q (84, [some (.ref a), l1, l2, l3], st, mem, 0) = pR X d 93 0 Q (85, [some (.ref a), l1, l2, l3], .ref a :: st, mem, 0) := q_s (.ok (.aload_n 0, 1)) (by decide +kernel) rfl
theorem r93_85 : pR X d 93 0 Q (85, L, .ref a :: [], mem, 0) = (prcv mem 2 a ∧ Cw X d 94 [.ref a] mem (fun r mem => pR X d 93 0 Q (88, L, r.toList ++ [], mem, 0))) := q_virt (ix := 31) (y2 := 94) (as := []) (by decide +kernel) (by decide +kernel) rfl rfl rfl (Nat.le_of_ble_eq_true rfl) (by decide)
theorem r93_88 : pR X d 93 0 Q (88, [l0, l1, some (.int x), l3], st, mem, 0) = pR X d 93 0 Q (91, [l0, cl1 l1, some (.int (x + iI (1))), l3], st, mem, 0) := q_s (.ok (.iinc 2 (1), 3)) (by decide +kernel) rfl
theorem r93_91 : pR X d 93 0 Q (91, L, st, mem, 0) = pR X d 93 0 Q (11, L, st, mem, 0) := q_s (.ok (.goto (-80), 3)) (by decide +kernel) rfl
theorem r93_94 : pR X d 93 0 Q (94, L, st, mem, 0) = pR X d 93 0 Q (95, L, .int (iI (-1)) :: st, mem, 0) := q_ic (by decide +kernel)
theorem r93_95 : pR X d 93 0 Q (95, [some (.ref a), l1, l2, l3], st, mem, 0) = pR X d 93 0 Q (96, [some (.ref a), l1, l2, l3], .ref a :: st, mem, 0) := q_s (.ok (.aload_n 0, 1)) (by decide +kernel) rfl
theorem r93_96 : pR X d 93 0 Q (96, L, .ref a :: st, mem, 0) = gf mem a 2 4 (fun p => pR X d 93 0 Q (99, L, p :: st, mem, 0)) := q_get (ix := 25) (by decide +kernel) (by decide +kernel)
theorem r93_99 : pR X d 93 0 Q (99, L, .int z :: .int x :: st, mem, 0) = pR X d 93 0 Q (100, L, .int (x - z) :: st, mem, 0) := q_s (.ok (.isub, 1)) (by decide +kernel) rfl
theorem r93_100 : pR X d 93 0 Q (100, L, [.int x], mem, 0) = Q (some (.int x)) mem := q_reti (by decide +kernel) rfl
theorem r94_0 : pR X d 94 0 Q (0, [some (.ref a)], st, mem, 0) = pR X d 94 0 Q (1, [some (.ref a)], .ref a :: st, mem, 0) := q_s (.ok (.aload_n 0, 1)) (by decide +kernel) rfl
theorem r94_1 : pR X d 94 0 Q (1, L, .ref a :: st, mem, 0) = gf mem a 2 2 (fun p => pR X d 94 0 Q (4, L, p :: st, mem, 0)) := q_get (ix := 19) (by decide +kernel) (by decide +kernel)
theorem r94_4 : pR X d 94 0 Q (4, [some (.ref a)], st, mem, 0) = pR X d 94 0 Q (5, [some (.ref a)], .ref a :: st, mem, 0) := q_s (.ok (.aload_n 0, 1)) (by decide +kernel) rfl
theorem r94_5 : pR X d 94 0 Q (5, L, .ref a :: st, mem, 0) = gf mem a 2 1 (fun p => pR X d 94 0 Q (8, L, p :: st, mem, 0)) := q_get (ix := 15) (by decide +kernel) (by decide +kernel)
theorem r94_8 : pR X d 94 0 Q (8, L, .int z :: .int x :: st, mem, 0) = ((z ≤ x → pR X d 94 0 Q (38, L, st, mem, 0)) ∧ (¬ (z ≤ x) → pR X d 94 0 Q (11, L, st, mem, 0))) := r_ic (c := .ge) (off := 30) (by decide +kernel) (by decide)
theorem r94_11 : pR X d 94 0 Q (11, [some (.ref a)], st, mem, 0) = pR X d 94 0 Q (12, [some (.ref a)], .ref a :: st, mem, 0) := q_s (.ok (.aload_n 0, 1)) (by decide +kernel) rfl
theorem r94_12 : pR X d 94 0 Q (12, L, .ref a :: st, mem, 0) = gf mem a 2 0 (fun p => pR X d 94 0 Q (15, L, p :: st, mem, 0)) := q_get (ix := 9) (by decide +kernel) (by decide +kernel)
theorem r94_15 : pR X d 94 0 Q (15, [some (.ref a)], st, mem, 0) = pR X d 94 0 Q (16, [some (.ref a)], .ref a :: st, mem, 0) := q_s (.ok (.aload_n 0, 1)) (by decide +kernel) rfl
theorem r94_16 : pR X d 94 0 Q (16, L, .ref a :: st, mem, 0) = gf mem a 2 2 (fun p => pR X d 94 0 Q (19, L, p :: st, mem, 0)) := q_get (ix := 19) (by decide +kernel) (by decide +kernel)
theorem r94_19 : pR X d 94 0 Q (19, L, .int x :: .ref a :: st, mem, 0) = ri X mem a x (fun z => pR X d 94 0 Q (20, L, .int z :: st, mem, 0)) := q_ri (by decide +kernel)
theorem r94_20 : pR X d 94 0 Q (20, L, st, mem, 0) = pR X d 94 0 Q (22, L, .int (iI (32)) :: st, mem, 0) := q_bi (n := 32) (by decide +kernel) (by decide +kernel)
theorem r94_22 : pR X d 94 0 Q (22, L, .int z :: .int x :: st, mem, 0) = ((¬ x = z → pR X d 94 0 Q (38, L, st, mem, 0)) ∧ (¬ (¬ x = z) → pR X d 94 0 Q (25, L, st, mem, 0))) := r_ic (c := .ne) (off := 16) (by decide +kernel) (by decide)
theorem r94_25 : pR X d 94 0 Q (25, [some (.ref a)], st, mem, 0) = pR X d 94 0 Q (26, [some (.ref a)], .ref a :: st, mem, 0) := q_s (.ok (.aload_n 0, 1)) (by decide +kernel) rfl
theorem r94_26 : pR X d 94 0 Q (26, L, .ref a :: st, mem, 0) = pR X d 94 0 Q (27, L, .ref a :: .ref a :: st, mem, 0) := q_s (.ok (.dup, 1)) (by decide +kernel) rfl
theorem r94_27 : pR X d 94 0 Q (27, L, .ref a :: st, mem, 0) = gf mem a 2 2 (fun p => pR X d 94 0 Q (30, L, p :: st, mem, 0)) := q_get (ix := 19) (by decide +kernel) (by decide +kernel)
theorem r94_30 : pR X d 94 0 Q (30, L, st, mem, 0) = pR X d 94 0 Q (31, L, .int (iI (1)) :: st, mem, 0) := q_ic (by decide +kernel)
theorem r94_31 : pR X d 94 0 Q (31, L, .int z :: .int x :: st, mem, 0) = pR X d 94 0 Q (32, L, .int (x + z) :: st, mem, 0) := q_s (.ok (.iadd, 1)) (by decide +kernel) rfl
theorem r94_32 : pR X d 94 0 Q (32, L, p :: .ref a :: st, mem, 0) = pf 94 mem a 2 2 p (fun mem => pR X d 94 0 Q (35, L, st, mem, 0)) := q_put (ix := 19) (by decide +kernel) (by decide +kernel) (by decide)
theorem r94_35 : pR X d 94 0 Q (35, L, st, mem, 0) = pR X d 94 0 Q (0, L, st, mem, 0) := q_s (.ok (.goto (-35), 3)) (by decide +kernel) rfl
theorem r94_38 : pR X d 94 0 Q (38, [some (.ref a)], st, mem, 0) = pR X d 94 0 Q (39, [some (.ref a)], .ref a :: st, mem, 0) := q_s (.ok (.aload_n 0, 1)) (by decide +kernel) rfl
theorem r94_39 : pR X d 94 0 Q (39, [some (.ref a)], st, mem, 0) = pR X d 94 0 Q (40, [some (.ref a)], .ref a :: st, mem, 0) := q_s (.ok (.aload_n 0, 1)) (by decide +kernel) rfl
theorem r94_40 : pR X d 94 0 Q (40, L, .ref a :: st, mem, 0) = gf mem a 2 2 (fun p => pR X d 94 0 Q (43, L, p :: st, mem, 0)) := q_get (ix := 19) (by decide +kernel) (by decide +kernel)
theorem r94_43 : pR X d 94 0 Q (43, L, p :: .ref a :: st, mem, 0) = pf 94 mem a 2 4 p (fun mem => pR X d 94 0 Q (46, L, st, mem, 0)) := q_put (ix := 25) (by decide +kernel) (by decide +kernel) (by decide)
theorem r94_46 : pR X d 94 0 Q (46, [some (.ref a)], st, mem, 0) = pR X d 94 0 Q (47, [some (.ref a)], .ref a :: st, mem, 0) := q_s (.ok (.aload_n 0, 1)) (by decide +kernel) rfl
theorem r94_47 : pR X d 94 0 Q (47, L, .ref a :: st, mem, 0) = gf mem a 2 2 (fun p => pR X d 94 0 Q (50, L, p :: st, mem, 0)) := q_get (ix := 19) (by decide +kernel) (by decide +kernel)
theorem r94_50 : pR X d 94 0 Q (50, [some (.ref a)], st, mem, 0) = pR X d 94 0 Q (51, [some (.ref a)], .ref a :: st, mem, 0) := q_s (.ok (.aload_n 0, 1)) (by decide +kernel) rfl
theorem r94_51 : pR X d 94 0 Q (51, L, .ref a :: st, mem, 0) = gf mem a 2 1 (fun p => pR X d 94 0 Q (54, L, p :: st, mem, 0)) := q_get (ix := 15) (by decide +kernel) (by decide +kernel)
theorem r94_54 : pR X d 94 0 Q (54, L, .int z :: .int x :: st, mem, 0) = ((x < z → pR X d 94 0 Q (65, L, st, mem, 0)) ∧ (¬ (x < z) → pR X d 94 0 Q (57, L, st, mem, 0))) := r_ic (c := .lt) (off := 11) (by decide +kernel) (by decide)
theorem r94_57 : pR X d 94 0 Q (57, [some (.ref a)], st, mem, 0) = pR X d 94 0 Q (58, [some (.ref a)], .ref a :: st, mem, 0) := q_s (.ok (.aload_n 0, 1)) (by decide +kernel) rfl
theorem r94_58 : pR X d 94 0 Q (58, L, st, mem, 0) = pR X d 94 0 Q (59, L, .int (iI (0)) :: st, mem, 0) := q_ic (by decide +kernel)
theorem r94_59 : pR X d 94 0 Q (59, L, p :: .ref a :: st, mem, 0) = pf 94 mem a 2 3 p (fun mem => pR X d 94 0 Q (62, L, st, mem, 0)) := q_put (ix := 22) (by decide +kernel) (by decide +kernel) (by decide)
theorem r94_62 : pR X d 94 0 Q (62, L, st, mem, 0) = pR X d 94 0 Q (184, L, st, mem, 0) := q_s (.ok (.goto (122), 3)) (by decide +kernel) rfl
theorem r94_65 : pR X d 94 0 Q (65, [some (.ref a)], st, mem, 0) = pR X d 94 0 Q (66, [some (.ref a)], .ref a :: st, mem, 0) := q_s (.ok (.aload_n 0, 1)) (by decide +kernel) rfl
theorem r94_66 : pR X d 94 0 Q (66, L, .ref a :: st, mem, 0) = gf mem a 2 0 (fun p => pR X d 94 0 Q (69, L, p :: st, mem, 0)) := q_get (ix := 9) (by decide +kernel) (by decide +kernel)
theorem r94_69 : pR X d 94 0 Q (69, [some (.ref a)], st, mem, 0) = pR X d 94 0 Q (70, [some (.ref a)], .ref a :: st, mem, 0) := q_s (.ok (.aload_n 0, 1)) (by decide +kernel) rfl
theorem r94_70 : pR X d 94 0 Q (70, L, .ref a :: st, mem, 0) = gf mem a 2 2 (fun p => pR X d 94 0 Q (73, L, p :: st, mem, 0)) := q_get (ix := 19) (by decide +kernel) (by decide +kernel)
theorem r94_73 : pR X d 94 0 Q (73, L, .int x :: .ref a :: st, mem, 0) = ri X mem a x (fun z => pR X d 94 0 Q (74, L, .int z :: st, mem, 0)) := q_ri (by decide +kernel)
theorem r94_74 : pR X d 94 0 Q (74, L, .int y0 :: [], mem, 0) = Cw X d 95 [.int y0] mem (fun r mem => pR X d 94 0 Q (77, L, r.toList ++ [], mem, 0)) := q_stat (ix := 136) (kd := 1) (y2 := 95) (as := [.int y0]) (by decide +kernel) (by decide +kernel) (by decide) rfl rfl rfl (Nat.le_of_ble_eq_true rfl) (by decide)
theorem r94_77 : pR X d 94 0 Q (77, L, .int x :: st, mem, 0) = ((x = 0 → pR X d 94 0 Q (124, L, st, mem, 0)) ∧ (¬ (x = 0) → pR X d 94 0 Q (80, L, st, mem, 0))) := r_if (c := .eq) (off := 47) (by decide +kernel) (by decide)
theorem r94_80 : pR X d 94 0 Q (80, [some (.ref a)], st, mem, 0) = pR X d 94 0 Q (81, [some (.ref a)], .ref a :: st, mem, 0) := q_s (.ok (.aload_n 0, 1)) (by decide +kernel) rfl
theorem r94_81 : pR X d 94 0 Q (81, L, st, mem, 0) = pR X d 94 0 Q (82, L, .int (iI (1)) :: st, mem, 0) := q_ic (by decide +kernel)
theorem r94_82 : pR X d 94 0 Q (82, L, p :: .ref a :: st, mem, 0) = pf 94 mem a 2 3 p (fun mem => pR X d 94 0 Q (85, L, st, mem, 0)) := q_put (ix := 22) (by decide +kernel) (by decide +kernel) (by decide)
theorem r94_85 : pR X d 94 0 Q (85, [some (.ref a)], st, mem, 0) = pR X d 94 0 Q (86, [some (.ref a)], .ref a :: st, mem, 0) := q_s (.ok (.aload_n 0, 1)) (by decide +kernel) rfl
theorem r94_86 : pR X d 94 0 Q (86, L, .ref a :: st, mem, 0) = gf mem a 2 2 (fun p => pR X d 94 0 Q (89, L, p :: st, mem, 0)) := q_get (ix := 19) (by decide +kernel) (by decide +kernel)
theorem r94_89 : pR X d 94 0 Q (89, [some (.ref a)], st, mem, 0) = pR X d 94 0 Q (90, [some (.ref a)], .ref a :: st, mem, 0) := q_s (.ok (.aload_n 0, 1)) (by decide +kernel) rfl
theorem r94_90 : pR X d 94 0 Q (90, L, .ref a :: st, mem, 0) = gf mem a 2 1 (fun p => pR X d 94 0 Q (93, L, p :: st, mem, 0)) := q_get (ix := 15) (by decide +kernel) (by decide +kernel)
theorem r94_93 : pR X d 94 0 Q (93, L, .int z :: .int x :: st, mem, 0) = ((z ≤ x → pR X d 94 0 Q (184, L, st, mem, 0)) ∧ (¬ (z ≤ x) → pR X d 94 0 Q (96, L, st, mem, 0))) := r_ic (c := .ge) (off := 91) (by decide +kernel) (by decide)
theorem r94_96 : pR X d 94 0 Q (96, [some (.ref a)], st, mem, 0) = pR X d 94 0 Q (97, [some (.ref a)], .ref a :: st, mem, 0) := q_s (.ok (.aload_n 0, 1)) (by decide +kernel) rfl
theorem r94_97 : pR X d 94 0 Q (97, L, .ref a :: st, mem, 0) = gf mem a 2 0 (fun p => pR X d 94 0 Q (100, L, p :: st, mem, 0)) := q_get (ix := 9) (by decide +kernel) (by decide +kernel)
theorem r94_100 : pR X d 94 0 Q (100, [some (.ref a)], st, mem, 0) = pR X d 94 0 Q (101, [some (.ref a)], .ref a :: st, mem, 0) := q_s (.ok (.aload_n 0, 1)) (by decide +kernel) rfl
theorem r94_101 : pR X d 94 0 Q (101, L, .ref a :: st, mem, 0) = gf mem a 2 2 (fun p => pR X d 94 0 Q (104, L, p :: st, mem, 0)) := q_get (ix := 19) (by decide +kernel) (by decide +kernel)
theorem r94_104 : pR X d 94 0 Q (104, L, .int x :: .ref a :: st, mem, 0) = ri X mem a x (fun z => pR X d 94 0 Q (105, L, .int z :: st, mem, 0)) := q_ri (by decide +kernel)
theorem r94_105 : pR X d 94 0 Q (105, L, .int y0 :: [], mem, 0) = Cw X d 95 [.int y0] mem (fun r mem => pR X d 94 0 Q (108, L, r.toList ++ [], mem, 0)) := q_stat (ix := 136) (kd := 1) (y2 := 95) (as := [.int y0]) (by decide +kernel) (by decide +kernel) (by decide) rfl rfl rfl (Nat.le_of_ble_eq_true rfl) (by decide)
theorem r94_108 : pR X d 94 0 Q (108, L, .int x :: st, mem, 0) = ((x = 0 → pR X d 94 0 Q (184, L, st, mem, 0)) ∧ (¬ (x = 0) → pR X d 94 0 Q (111, L, st, mem, 0))) := r_if (c := .eq) (off := 76) (by decide +kernel) (by decide)
theorem r94_111 : pR X d 94 0 Q (111, [some (.ref a)], st, mem, 0) = pR X d 94 0 Q (112, [some (.ref a)], .ref a :: st, mem, 0) := q_s (.ok (.aload_n 0, 1)) (by decide +kernel) rfl
theorem r94_112 : pR X d 94 0 Q (112, L, .ref a :: st, mem, 0) = pR X d 94 0 Q (113, L, .ref a :: .ref a :: st, mem, 0) := q_s (.ok (.dup, 1)) (by decide +kernel) rfl
theorem r94_113 : pR X d 94 0 Q (113, L, .ref a :: st, mem, 0) = gf mem a 2 2 (fun p => pR X d 94 0 Q (116, L, p :: st, mem, 0)) := q_get (ix := 19) (by decide +kernel) (by decide +kernel)
theorem r94_116 : pR X d 94 0 Q (116, L, st, mem, 0) = pR X d 94 0 Q (117, L, .int (iI (1)) :: st, mem, 0) := q_ic (by decide +kernel)
theorem r94_117 : pR X d 94 0 Q (117, L, .int z :: .int x :: st, mem, 0) = pR X d 94 0 Q (118, L, .int (x + z) :: st, mem, 0) := q_s (.ok (.iadd, 1)) (by decide +kernel) rfl
theorem r94_118 : pR X d 94 0 Q (118, L, p :: .ref a :: st, mem, 0) = pf 94 mem a 2 2 p (fun mem => pR X d 94 0 Q (121, L, st, mem, 0)) := q_put (ix := 19) (by decide +kernel) (by decide +kernel) (by decide)
theorem r94_121 : pR X d 94 0 Q (121, L, st, mem, 0) = pR X d 94 0 Q (85, L, st, mem, 0) := q_s (.ok (.goto (-36), 3)) (by decide +kernel) rfl
theorem r94_124 : pR X d 94 0 Q (124, [some (.ref a)], st, mem, 0) = pR X d 94 0 Q (125, [some (.ref a)], .ref a :: st, mem, 0) := q_s (.ok (.aload_n 0, 1)) (by decide +kernel) rfl
theorem r94_125 : pR X d 94 0 Q (125, L, .ref a :: st, mem, 0) = gf mem a 2 0 (fun p => pR X d 94 0 Q (128, L, p :: st, mem, 0)) := q_get (ix := 9) (by decide +kernel) (by decide +kernel)
theorem r94_128 : pR X d 94 0 Q (128, [some (.ref a)], st, mem, 0) = pR X d 94 0 Q (129, [some (.ref a)], .ref a :: st, mem, 0) := q_s (.ok (.aload_n 0, 1)) (by decide +kernel) rfl
theorem r94_129 : pR X d 94 0 Q (129, L, .ref a :: st, mem, 0) = gf mem a 2 2 (fun p => pR X d 94 0 Q (132, L, p :: st, mem, 0)) := q_get (ix := 19) (by decide +kernel) (by decide +kernel)
theorem r94_132 : pR X d 94 0 Q (132, L, .int x :: .ref a :: st, mem, 0) = ri X mem a x (fun z => pR X d 94 0 Q (133, L, .int z :: st, mem, 0)) := q_ri (by decide +kernel)
theorem r94_133 : pR X d 94 0 Q (133, L, .int y0 :: [], mem, 0) = Cw X d 96 [.int y0] mem (fun r mem => pR X d 94 0 Q (136, L, r.toList ++ [], mem, 0)) := q_stat (ix := 140) (kd := 1) (y2 := 96) (as := [.int y0]) (by decide +kernel) (by decide +kernel) (by decide) rfl rfl rfl (Nat.le_of_ble_eq_true rfl) (by decide)
theorem r94_136 : pR X d 94 0 Q (136, L, .int x :: st, mem, 0) = ((x = 0 → pR X d 94 0 Q (151, L, st, mem, 0)) ∧ (¬ (x = 0) → pR X d 94 0 Q (139, L, st, mem, 0))) := r_if (c := .eq) (off := 15) (by decide +kernel) (by decide)
theorem r94_139 : pR X d 94 0 Q (139, [some (.ref a)], st, mem, 0) = pR X d 94 0 Q (140, [some (.ref a)], .ref a :: st, mem, 0) := q_s (.ok (.aload_n 0, 1)) (by decide +kernel) rfl
theorem r94_140 : pR X d 94 0 Q (140, L, st, mem, 0) = pR X d 94 0 Q (141, L, .int (iI (2)) :: st, mem, 0) := q_ic (by decide +kernel)
theorem r94_141 : pR X d 94 0 Q (141, L, p :: .ref a :: st, mem, 0) = pf 94 mem a 2 3 p (fun mem => pR X d 94 0 Q (144, L, st, mem, 0)) := q_put (ix := 22) (by decide +kernel) (by decide +kernel) (by decide)
theorem r94_144 : pR X d 94 0 Q (144, [some (.ref a)], st, mem, 0) = pR X d 94 0 Q (145, [some (.ref a)], .ref a :: st, mem, 0) := q_s (.ok (.aload_n 0, 1)) (by decide +kernel) rfl
theorem r94_145 : pR X d 94 0 Q (145, L, .ref a :: [], mem, 0) = (prcv mem 2 a ∧ Cw X d 97 [.ref a] mem (fun r mem => pR X d 94 0 Q (148, L, r.toList ++ [], mem, 0))) := q_virt (ix := 143) (y2 := 97) (as := []) (by decide +kernel) (by decide +kernel) rfl rfl rfl (Nat.le_of_ble_eq_true rfl) (by decide)
theorem r94_148 : pR X d 94 0 Q (148, L, st, mem, 0) = pR X d 94 0 Q (184, L, st, mem, 0) := q_s (.ok (.goto (36), 3)) (by decide +kernel) rfl
theorem r94_151 : pR X d 94 0 Q (151, [some (.ref a)], st, mem, 0) = pR X d 94 0 Q (152, [some (.ref a)], .ref a :: st, mem, 0) := q_s (.ok (.aload_n 0, 1)) (by decide +kernel) rfl
theorem r94_152 : pR X d 94 0 Q (152, [some (.ref a)], st, mem, 0) = pR X d 94 0 Q (153, [some (.ref a)], .ref a :: st, mem, 0) := q_s (.ok (.aload_n 0, 1)) (by decide +kernel) rfl
theorem r94_153 : pR X d 94 0 Q (153, L, .ref a :: st, mem, 0) = gf mem a 2 0 (fun p => pR X d 94 0 Q (156, L, p :: st, mem, 0)) := q_get (ix := 9) (by decide +kernel) (by decide +kernel)
theorem r94_156 : pR X d 94 0 Q (156, [some (.ref a)], st, mem, 0) = pR X d 94 0 Q (157, [some (.ref a)], .ref a :: st, mem, 0) := q_s (.ok (.aload_n 0, 1)) (by decide +kernel) rfl
theorem r94_157 : pR X d 94 0 Q (157, L, .ref a :: st, mem, 0) = gf mem a 2 2 (fun p => pR X d 94 0 Q (160, L, p :: st, mem, 0)) := q_get (ix := 19) (by decide +kernel) (by decide +kernel)
theorem r94_160 : pR X d 94 0 Q (160, L, .int x :: .ref a :: st, mem, 0) = ri X mem a x (fun z => pR X d 94 0 Q (161, L, .int z :: st, mem, 0)) := q_ri (by decide +kernel)
theorem r94_161 : pR X d 94 0 Q (161, L, st, mem, 0) = pR X d 94 0 Q (163, L, .int (iI (59)) :: st, mem, 0) := q_bi (n := 59) (by decide +kernel) (by decide +kernel)
theorem r94_163 : pR X d 94 0 Q (163, L, .int z :: .int x :: st, mem, 0) = ((¬ x = z → pR X d 94 0 Q (170, L, st, mem, 0)) ∧ (¬ (¬ x = z) → pR X d 94 0 Q (166, L, st, mem, 0))) := r_ic (c := .ne) (off := 7) (by decide +kernel) (by decide)
theorem r94_166 : pR X d 94 0 Q (166, L, st, mem, 0) = pR X d 94 0 Q (167, L, .int (iI (3)) :: st, mem, 0) := q_ic (by decide +kernel)
theorem r94_167 : pR X d 94 0 Q (167, L, st, mem, 0) = pR X d 94 0 Q (171, L, st, mem, 0) := q_s (.ok (.goto (4), 3)) (by decide +kernel) rfl
theorem r94_170 : pR X d 94 0 Q (170, L, st, mem, 0) = pR X d 94 0 Q (171, L, .int (iI (4)) :: st, mem, 0) := q_ic (by decide +kernel)
theorem r94_171 : pR X d 94 0 Q (171, L, p :: .ref a :: st, mem, 0) = pf 94 mem a 2 3 p (fun mem => pR X d 94 0 Q (174, L, st, mem, 0)) := q_put (ix := 22) (by decide +kernel) (by decide +kernel) (by decide)
theorem r94_174 : pR X d 94 0 Q (174, [some (.ref a)], st, mem, 0) = pR X d 94 0 Q (175, [some (.ref a)], .ref a :: st, mem, 0) := q_s (.ok (.aload_n 0, 1)) (by decide +kernel) rfl
theorem r94_175 : pR X d 94 0 Q (175, L, .ref a :: st, mem, 0) = pR X d 94 0 Q (176, L, .ref a :: .ref a :: st, mem, 0) := q_s (.ok (.dup, 1)) (by decide +kernel) rfl
theorem r94_176 : pR X d 94 0 Q (176, L, .ref a :: st, mem, 0) = gf mem a 2 2 (fun p => pR X d 94 0 Q (179, L, p :: st, mem, 0)) := q_get (ix := 19) (by decide +kernel) (by decide +kernel)
theorem r94_179 : pR X d 94 0 Q (179, L, st, mem, 0) = pR X d 94 0 Q (180, L, .int (iI (1)) :: st, mem, 0) := q_ic (by decide +kernel)
theorem r94_180 : pR X d 94 0 Q (180, L, .int z :: .int x :: st, mem, 0) = pR X d 94 0 Q (181, L, .int (x + z) :: st, mem, 0) := q_s (.ok (.iadd, 1)) (by decide +kernel) rfl
theorem r94_181 : pR X d 94 0 Q (181, L, p :: .ref a :: st, mem, 0) = pf 94 mem a 2 2 p (fun mem => pR X d 94 0 Q (184, L, st, mem, 0)) := q_put (ix := 19) (by decide +kernel) (by decide +kernel) (by decide)
theorem r94_184 : pR X d 94 0 Q (184, L, [], mem, 0) = Q none mem := q_retv (by decide +kernel) rfl
theorem r95_0 : pR X d 95 0 Q (0, [some (.int x)], st, mem, 0) = pR X d 95 0 Q (1, [some (.int x)], .int x :: st, mem, 0) := q_s (.ok (.iload_n 0, 1)) (by decide +kernel) rfl
theorem r95_1 : pR X d 95 0 Q (1, L, st, mem, 0) = pR X d 95 0 Q (3, L, .int (iI (97)) :: st, mem, 0) := q_bi (n := 97) (by decide +kernel) (by decide +kernel)
theorem r95_3 : pR X d 95 0 Q (3, L, .int z :: .int x :: st, mem, 0) = ((x < z → pR X d 95 0 Q (16, L, st, mem, 0)) ∧ (¬ (x < z) → pR X d 95 0 Q (6, L, st, mem, 0))) := r_ic (c := .lt) (off := 13) (by decide +kernel) (by decide)
theorem r95_6 : pR X d 95 0 Q (6, [some (.int x)], st, mem, 0) = pR X d 95 0 Q (7, [some (.int x)], .int x :: st, mem, 0) := q_s (.ok (.iload_n 0, 1)) (by decide +kernel) rfl
theorem r95_7 : pR X d 95 0 Q (7, L, st, mem, 0) = pR X d 95 0 Q (9, L, .int (iI (122)) :: st, mem, 0) := q_bi (n := 122) (by decide +kernel) (by decide +kernel)
theorem r95_9 : pR X d 95 0 Q (9, L, .int z :: .int x :: st, mem, 0) = ((z < x → pR X d 95 0 Q (16, L, st, mem, 0)) ∧ (¬ (z < x) → pR X d 95 0 Q (12, L, st, mem, 0))) := r_ic (c := .gt) (off := 7) (by decide +kernel) (by decide)
theorem r95_12 : pR X d 95 0 Q (12, L, st, mem, 0) = pR X d 95 0 Q (13, L, .int (iI (1)) :: st, mem, 0) := q_ic (by decide +kernel)
theorem r95_13 : pR X d 95 0 Q (13, L, st, mem, 0) = pR X d 95 0 Q (17, L, st, mem, 0) := q_s (.ok (.goto (4), 3)) (by decide +kernel) rfl
theorem r95_16 : pR X d 95 0 Q (16, L, st, mem, 0) = pR X d 95 0 Q (17, L, .int (iI (0)) :: st, mem, 0) := q_ic (by decide +kernel)
theorem r95_17 : pR X d 95 0 Q (17, L, [.int x], mem, 0) = (zb .boolean x ∧ Q (some (.int x)) mem) := q_retz (by decide +kernel) rfl (by decide)
theorem r96_0 : pR X d 96 0 Q (0, [some (.int x)], st, mem, 0) = pR X d 96 0 Q (1, [some (.int x)], .int x :: st, mem, 0) := q_s (.ok (.iload_n 0, 1)) (by decide +kernel) rfl
theorem r96_1 : pR X d 96 0 Q (1, L, st, mem, 0) = pR X d 96 0 Q (3, L, .int (iI (48)) :: st, mem, 0) := q_bi (n := 48) (by decide +kernel) (by decide +kernel)
theorem r96_3 : pR X d 96 0 Q (3, L, .int z :: .int x :: st, mem, 0) = ((x < z → pR X d 96 0 Q (16, L, st, mem, 0)) ∧ (¬ (x < z) → pR X d 96 0 Q (6, L, st, mem, 0))) := r_ic (c := .lt) (off := 13) (by decide +kernel) (by decide)
theorem r96_6 : pR X d 96 0 Q (6, [some (.int x)], st, mem, 0) = pR X d 96 0 Q (7, [some (.int x)], .int x :: st, mem, 0) := q_s (.ok (.iload_n 0, 1)) (by decide +kernel) rfl
theorem r96_7 : pR X d 96 0 Q (7, L, st, mem, 0) = pR X d 96 0 Q (9, L, .int (iI (57)) :: st, mem, 0) := q_bi (n := 57) (by decide +kernel) (by decide +kernel)
theorem r96_9 : pR X d 96 0 Q (9, L, .int z :: .int x :: st, mem, 0) = ((z < x → pR X d 96 0 Q (16, L, st, mem, 0)) ∧ (¬ (z < x) → pR X d 96 0 Q (12, L, st, mem, 0))) := r_ic (c := .gt) (off := 7) (by decide +kernel) (by decide)
theorem r96_12 : pR X d 96 0 Q (12, L, st, mem, 0) = pR X d 96 0 Q (13, L, .int (iI (1)) :: st, mem, 0) := q_ic (by decide +kernel)
theorem r96_13 : pR X d 96 0 Q (13, L, st, mem, 0) = pR X d 96 0 Q (17, L, st, mem, 0) := q_s (.ok (.goto (4), 3)) (by decide +kernel) rfl
theorem r96_16 : pR X d 96 0 Q (16, L, st, mem, 0) = pR X d 96 0 Q (17, L, .int (iI (0)) :: st, mem, 0) := q_ic (by decide +kernel)
theorem r96_17 : pR X d 96 0 Q (17, L, [.int x], mem, 0) = (zb .boolean x ∧ Q (some (.int x)) mem) := q_retz (by decide +kernel) rfl (by decide)
theorem r97_0 : pR X d 97 0 Q (0, [some (.ref a)], st, mem, 0) = pR X d 97 0 Q (1, [some (.ref a)], .ref a :: st, mem, 0) := q_s (.ok (.aload_n 0, 1)) (by decide +kernel) rfl
theorem r97_1 : pR X d 97 0 Q (1, L, st, mem, 0) = pR X d 97 0 Q (2, L, .int (iI (0)) :: st, mem, 0) := q_ic (by decide +kernel)
theorem r97_2 : pR X d 97 0 Q (2, L, p :: .ref a :: st, mem, 0) = pf 97 mem a 2 5 p (fun mem => pR X d 97 0 Q (5, L, st, mem, 0)) := q_put (ix := 28) (by decide +kernel) (by decide +kernel) (by decide)
theorem r97_5 : pR X d 97 0 Q (5, [some (.ref a)], st, mem, 0) = pR X d 97 0 Q (6, [some (.ref a)], .ref a :: st, mem, 0) := q_s (.ok (.aload_n 0, 1)) (by decide +kernel) rfl
theorem r97_6 : pR X d 97 0 Q (6, L, .ref a :: st, mem, 0) = gf mem a 2 2 (fun p => pR X d 97 0 Q (9, L, p :: st, mem, 0)) := q_get (ix := 19) (by decide +kernel) (by decide +kernel)
theorem r97_9 : pR X d 97 0 Q (9, [some (.ref a)], st, mem, 0) = pR X d 97 0 Q (10, [some (.ref a)], .ref a :: st, mem, 0) := q_s (.ok (.aload_n 0, 1)) (by decide +kernel) rfl
theorem r97_10 : pR X d 97 0 Q (10, L, .ref a :: st, mem, 0) = gf mem a 2 1 (fun p => pR X d 97 0 Q (13, L, p :: st, mem, 0)) := q_get (ix := 15) (by decide +kernel) (by decide +kernel)
theorem r97_13 : pR X d 97 0 Q (13, L, .int z :: .int x :: st, mem, 0) = ((z ≤ x → pR X d 97 0 Q (74, L, st, mem, 0)) ∧ (¬ (z ≤ x) → pR X d 97 0 Q (16, L, st, mem, 0))) := r_ic (c := .ge) (off := 61) (by decide +kernel) (by decide)
theorem r97_16 : pR X d 97 0 Q (16, [some (.ref a)], st, mem, 0) = pR X d 97 0 Q (17, [some (.ref a)], .ref a :: st, mem, 0) := q_s (.ok (.aload_n 0, 1)) (by decide +kernel) rfl
theorem r97_17 : pR X d 97 0 Q (17, L, .ref a :: st, mem, 0) = gf mem a 2 0 (fun p => pR X d 97 0 Q (20, L, p :: st, mem, 0)) := q_get (ix := 9) (by decide +kernel) (by decide +kernel)
theorem r97_20 : pR X d 97 0 Q (20, [some (.ref a)], st, mem, 0) = pR X d 97 0 Q (21, [some (.ref a)], .ref a :: st, mem, 0) := q_s (.ok (.aload_n 0, 1)) (by decide +kernel) rfl
theorem r97_21 : pR X d 97 0 Q (21, L, .ref a :: st, mem, 0) = gf mem a 2 2 (fun p => pR X d 97 0 Q (24, L, p :: st, mem, 0)) := q_get (ix := 19) (by decide +kernel) (by decide +kernel)
theorem r97_24 : pR X d 97 0 Q (24, L, .int x :: .ref a :: st, mem, 0) = ri X mem a x (fun z => pR X d 97 0 Q (25, L, .int z :: st, mem, 0)) := q_ri (by decide +kernel)
theorem r97_25 : pR X d 97 0 Q (25, L, .int y0 :: [], mem, 0) = Cw X d 96 [.int y0] mem (fun r mem => pR X d 97 0 Q (28, L, r.toList ++ [], mem, 0)) := q_stat (ix := 140) (kd := 1) (y2 := 96) (as := [.int y0]) (by decide +kernel) (by decide +kernel) (by decide) rfl rfl rfl (Nat.le_of_ble_eq_true rfl) (by decide)
theorem r97_28 : pR X d 97 0 Q (28, L, .int x :: st, mem, 0) = ((x = 0 → pR X d 97 0 Q (74, L, st, mem, 0)) ∧ (¬ (x = 0) → pR X d 97 0 Q (31, L, st, mem, 0))) := r_if (c := .eq) (off := 46) (by decide +kernel) (by decide)
theorem r97_31 : pR X d 97 0 Q (31, [some (.ref a)], st, mem, 0) = pR X d 97 0 Q (32, [some (.ref a)], .ref a :: st, mem, 0) := q_s (.ok (.aload_n 0, 1)) (by decide +kernel) rfl
theorem r97_32 : pR X d 97 0 Q (32, [some (.ref a)], st, mem, 0) = pR X d 97 0 Q (33, [some (.ref a)], .ref a :: st, mem, 0) := q_s (.ok (.aload_n 0, 1)) (by decide +kernel) rfl
theorem r97_33 : pR X d 97 0 Q (33, L, .ref a :: st, mem, 0) = gf mem a 2 5 (fun p => pR X d 97 0 Q (36, L, p :: st, mem, 0)) := q_get (ix := 28) (by decide +kernel) (by decide +kernel)
theorem r97_36 : pR X d 97 0 Q (36, L, st, mem, 0) = pR X d 97 0 Q (38, L, .int (iI (10)) :: st, mem, 0) := q_bi (n := 10) (by decide +kernel) (by decide +kernel)
theorem r97_38 : pR X d 97 0 Q (38, L, .int z :: .int x :: st, mem, 0) = pR X d 97 0 Q (39, L, .int (x * z) :: st, mem, 0) := q_s (.ok (.imul, 1)) (by decide +kernel) rfl
theorem r97_39 : pR X d 97 0 Q (39, [some (.ref a)], st, mem, 0) = pR X d 97 0 Q (40, [some (.ref a)], .ref a :: st, mem, 0) := q_s (.ok (.aload_n 0, 1)) (by decide +kernel) rfl
theorem r97_40 : pR X d 97 0 Q (40, L, .ref a :: st, mem, 0) = gf mem a 2 0 (fun p => pR X d 97 0 Q (43, L, p :: st, mem, 0)) := q_get (ix := 9) (by decide +kernel) (by decide +kernel)
theorem r97_43 : pR X d 97 0 Q (43, [some (.ref a)], st, mem, 0) = pR X d 97 0 Q (44, [some (.ref a)], .ref a :: st, mem, 0) := q_s (.ok (.aload_n 0, 1)) (by decide +kernel) rfl
theorem r97_44 : pR X d 97 0 Q (44, L, .ref a :: st, mem, 0) = gf mem a 2 2 (fun p => pR X d 97 0 Q (47, L, p :: st, mem, 0)) := q_get (ix := 19) (by decide +kernel) (by decide +kernel)
theorem r97_47 : pR X d 97 0 Q (47, L, .int x :: .ref a :: st, mem, 0) = ri X mem a x (fun z => pR X d 97 0 Q (48, L, .int z :: st, mem, 0)) := q_ri (by decide +kernel)
theorem r97_48 : pR X d 97 0 Q (48, L, .int z :: .int x :: st, mem, 0) = pR X d 97 0 Q (49, L, .int (x + z) :: st, mem, 0) := q_s (.ok (.iadd, 1)) (by decide +kernel) rfl
theorem r97_49 : pR X d 97 0 Q (49, L, st, mem, 0) = pR X d 97 0 Q (51, L, .int (iI (48)) :: st, mem, 0) := q_bi (n := 48) (by decide +kernel) (by decide +kernel)
theorem r97_51 : pR X d 97 0 Q (51, L, .int z :: .int x :: st, mem, 0) = pR X d 97 0 Q (52, L, .int (x - z) :: st, mem, 0) := q_s (.ok (.isub, 1)) (by decide +kernel) rfl
theorem r97_52 : pR X d 97 0 Q (52, L, st, mem, 0) = pR X d 97 0 Q (55, L, .int (iI (10000)) :: st, mem, 0) := q_si (n := 10000) (by decide +kernel) (by decide +kernel)
theorem r97_55 (h1 : 1 ≤ d) : pR X d 97 0 Q (55, L, .int z :: .int x :: [.ref c0], mem, 0) = pR X d 97 0 Q (58, L, .int (if z < x then z else x) :: [.ref c0], mem, 0) := q_mn (ix := 146) (yy := 0) (by decide +kernel) (by decide +kernel) (Nat.le_of_ble_eq_true rfl) h1
theorem r97_58 : pR X d 97 0 Q (58, L, p :: .ref a :: st, mem, 0) = pf 97 mem a 2 5 p (fun mem => pR X d 97 0 Q (61, L, st, mem, 0)) := q_put (ix := 28) (by decide +kernel) (by decide +kernel) (by decide)
theorem r97_61 : pR X d 97 0 Q (61, [some (.ref a)], st, mem, 0) = pR X d 97 0 Q (62, [some (.ref a)], .ref a :: st, mem, 0) := q_s (.ok (.aload_n 0, 1)) (by decide +kernel) rfl
theorem r97_62 : pR X d 97 0 Q (62, L, .ref a :: st, mem, 0) = pR X d 97 0 Q (63, L, .ref a :: .ref a :: st, mem, 0) := q_s (.ok (.dup, 1)) (by decide +kernel) rfl
theorem r97_63 : pR X d 97 0 Q (63, L, .ref a :: st, mem, 0) = gf mem a 2 2 (fun p => pR X d 97 0 Q (66, L, p :: st, mem, 0)) := q_get (ix := 19) (by decide +kernel) (by decide +kernel)
theorem r97_66 : pR X d 97 0 Q (66, L, st, mem, 0) = pR X d 97 0 Q (67, L, .int (iI (1)) :: st, mem, 0) := q_ic (by decide +kernel)
theorem r97_67 : pR X d 97 0 Q (67, L, .int z :: .int x :: st, mem, 0) = pR X d 97 0 Q (68, L, .int (x + z) :: st, mem, 0) := q_s (.ok (.iadd, 1)) (by decide +kernel) rfl
theorem r97_68 : pR X d 97 0 Q (68, L, p :: .ref a :: st, mem, 0) = pf 97 mem a 2 2 p (fun mem => pR X d 97 0 Q (71, L, st, mem, 0)) := q_put (ix := 19) (by decide +kernel) (by decide +kernel) (by decide)
theorem r97_71 : pR X d 97 0 Q (71, L, st, mem, 0) = pR X d 97 0 Q (5, L, st, mem, 0) := q_s (.ok (.goto (-66), 3)) (by decide +kernel) rfl
theorem r97_74 : pR X d 97 0 Q (74, L, [], mem, 0) = Q none mem := q_retv (by decide +kernel) rfl
theorem r98_0 : pR X d 98 0 Q (0, [some (.ref a), l1, l2], st, mem, 0) = pR X d 98 0 Q (1, [some (.ref a), l1, l2], .ref a :: st, mem, 0) := q_s (.ok (.aload_n 0, 1)) (by decide +kernel) rfl
theorem r98_1 : pR X d 98 0 Q (1, L, .ref a :: st, mem, 0) = gf mem a 2 3 (fun p => pR X d 98 0 Q (4, L, p :: st, mem, 0)) := q_get (ix := 22) (by decide +kernel) (by decide +kernel)
theorem r98_4 : pR X d 98 0 Q (4, L, st, mem, 0) = pR X d 98 0 Q (5, L, .int (iI (1)) :: st, mem, 0) := q_ic (by decide +kernel)
theorem r98_5 : pR X d 98 0 Q (5, L, .int z :: .int x :: st, mem, 0) = ((¬ x = z → pR X d 98 0 Q (24, L, st, mem, 0)) ∧ (¬ (¬ x = z) → pR X d 98 0 Q (8, L, st, mem, 0))) := r_ic (c := .ne) (off := 19) (by decide +kernel) (by decide)
theorem r98_8 : pR X d 98 0 Q (8, [l0, some (.ref a), l2], st, mem, 0) = pR X d 98 0 Q (9, [l0, some (.ref a), l2], .ref a :: st, mem, 0) := q_s (.ok (.aload_n 1, 1)) (by decide +kernel) rfl
theorem r98_9 : pR X d 98 0 Q (9, L, .ref a :: [], mem, 0) = (prcv mem 8 a ∧ Cw X d 99 [.ref a] mem (fun r mem => pR X d 98 0 Q (12, L, r.toList ++ [], mem, 0))) := q_virt (ix := 128) (y2 := 99) (as := []) (by decide +kernel) (by decide +kernel) rfl rfl rfl (Nat.le_of_ble_eq_true rfl) (by decide)
theorem r98_12 : pR X d 98 0 Q (12, [some (.ref a), l1, l2], st, mem, 0) = pR X d 98 0 Q (13, [some (.ref a), l1, l2], .ref a :: st, mem, 0) := q_s (.ok (.aload_n 0, 1)) (by decide +kernel) rfl
theorem r98_13 : pR X d 98 0 Q (13, L, .ref a :: st, mem, 0) = gf mem a 2 2 (fun p => pR X d 98 0 Q (16, L, p :: st, mem, 0)) := q_get (ix := 19) (by decide +kernel) (by decide +kernel)
theorem r98_16 : pR X d 98 0 Q (16, [some (.ref a), l1, l2], st, mem, 0) = pR X d 98 0 Q (17, [some (.ref a), l1, l2], .ref a :: st, mem, 0) := q_s (.ok (.aload_n 0, 1)) (by decide +kernel) rfl
theorem r98_17 : pR X d 98 0 Q (17, L, .ref a :: st, mem, 0) = gf mem a 2 4 (fun p => pR X d 98 0 Q (20, L, p :: st, mem, 0)) := q_get (ix := 25) (by decide +kernel) (by decide +kernel)
theorem r98_20 : pR X d 98 0 Q (20, L, .int z :: .int x :: st, mem, 0) = pR X d 98 0 Q (21, L, .int (x - z) :: st, mem, 0) := q_s (.ok (.isub, 1)) (by decide +kernel) rfl
theorem r98_21 : pR X d 98 0 Q (21, L, .int z :: .int x :: st, mem, 0) = ((x = z → pR X d 98 0 Q (26, L, st, mem, 0)) ∧ (¬ (x = z) → pR X d 98 0 Q (24, L, st, mem, 0))) := r_ic (c := .eq) (off := 5) (by decide +kernel) (by decide)
theorem r98_24 : pR X d 98 0 Q (24, L, st, mem, 0) = pR X d 98 0 Q (25, L, .int (iI (0)) :: st, mem, 0) := q_ic (by decide +kernel)
theorem r98_25 : pR X d 98 0 Q (25, L, [.int x], mem, 0) = (zb .boolean x ∧ Q (some (.int x)) mem) := q_retz (by decide +kernel) rfl (by decide)
theorem r98_26 : pR X d 98 0 Q (26, L, st, mem, 0) = pR X d 98 0 Q (27, L, .int (iI (0)) :: st, mem, 0) := q_ic (by decide +kernel)
theorem r98_27 : pR X d 98 0 Q (27, [l0, l1, l2], .int x :: st, mem, 0) = pR X d 98 0 Q (28, [l0, cl1 l1, some (.int x)], st, mem, 0) := q_s (.ok (.istore_n 2, 1)) (by decide +kernel) rfl
theorem r98_28 : pR X d 98 0 Q (28, [l0, l1, some (.int x)], st, mem, 0) = pR X d 98 0 Q (29, [l0, l1, some (.int x)], .int x :: st, mem, 0) := q_s (.ok (.iload_n 2, 1)) (by decide +kernel) rfl
theorem r98_29 : pR X d 98 0 Q (29, [l0, some (.ref a), l2], st, mem, 0) = pR X d 98 0 Q (30, [l0, some (.ref a), l2], .ref a :: st, mem, 0) := q_s (.ok (.aload_n 1, 1)) (by decide +kernel) rfl
theorem r98_30 : pR X d 98 0 Q (30, L, .ref a :: [.int k0], mem, 0) = (prcv mem 8 a ∧ Cw X d 99 [.ref a] mem (fun r mem => pR X d 98 0 Q (33, L, r.toList ++ [.int k0], mem, 0))) := q_virt (ix := 128) (y2 := 99) (as := []) (by decide +kernel) (by decide +kernel) rfl rfl rfl (Nat.le_of_ble_eq_true rfl) (by decide)
theorem r98_33 : pR X d 98 0 Q (33, L, .int z :: .int x :: st, mem, 0) = ((z ≤ x → pR X d 98 0 Q (63, L, st, mem, 0)) ∧ (¬ (z ≤ x) → pR X d 98 0 Q (36, L, st, mem, 0))) := r_ic (c := .ge) (off := 30) (by decide +kernel) (by decide)
theorem r98_36 : pR X d 98 0 Q (36, [some (.ref a), l1, l2], st, mem, 0) = pR X d 98 0 Q (37, [some (.ref a), l1, l2], .ref a :: st, mem, 0) := q_s (.ok (.aload_n 0, 1)) (by decide +kernel) rfl
theorem r98_37 : pR X d 98 0 Q (37, L, .ref a :: st, mem, 0) = gf mem a 2 0 (fun p => pR X d 98 0 Q (40, L, p :: st, mem, 0)) := q_get (ix := 9) (by decide +kernel) (by decide +kernel)
theorem r98_40 : pR X d 98 0 Q (40, [some (.ref a), l1, l2], st, mem, 0) = pR X d 98 0 Q (41, [some (.ref a), l1, l2], .ref a :: st, mem, 0) := q_s (.ok (.aload_n 0, 1)) (by decide +kernel) rfl
theorem r98_41 : pR X d 98 0 Q (41, L, .ref a :: st, mem, 0) = gf mem a 2 4 (fun p => pR X d 98 0 Q (44, L, p :: st, mem, 0)) := q_get (ix := 25) (by decide +kernel) (by decide +kernel)
theorem r98_44 : pR X d 98 0 Q (44, [l0, l1, some (.int x)], st, mem, 0) = pR X d 98 0 Q (45, [l0, l1, some (.int x)], .int x :: st, mem, 0) := q_s (.ok (.iload_n 2, 1)) (by decide +kernel) rfl
theorem r98_45 : pR X d 98 0 Q (45, L, .int z :: .int x :: st, mem, 0) = pR X d 98 0 Q (46, L, .int (x + z) :: st, mem, 0) := q_s (.ok (.iadd, 1)) (by decide +kernel) rfl
theorem r98_46 : pR X d 98 0 Q (46, L, .int x :: .ref a :: st, mem, 0) = ri X mem a x (fun z => pR X d 98 0 Q (47, L, .int z :: st, mem, 0)) := q_ri (by decide +kernel)
theorem r98_47 : pR X d 98 0 Q (47, [l0, some (.ref a), l2], st, mem, 0) = pR X d 98 0 Q (48, [l0, some (.ref a), l2], .ref a :: st, mem, 0) := q_s (.ok (.aload_n 1, 1)) (by decide +kernel) rfl
theorem r98_48 : pR X d 98 0 Q (48, [l0, l1, some (.int x)], st, mem, 0) = pR X d 98 0 Q (49, [l0, l1, some (.int x)], .int x :: st, mem, 0) := q_s (.ok (.iload_n 2, 1)) (by decide +kernel) rfl
theorem r98_49 : pR X d 98 0 Q (49, L, .int y0 :: .ref a :: [.int k0], mem, 0) = (prcv mem 8 a ∧ Cw X d 101 [.ref a, .int y0] mem (fun r mem => pR X d 98 0 Q (52, L, r.toList ++ [.int k0], mem, 0))) := q_virt (ix := 132) (y2 := 101) (as := [.int y0]) (by decide +kernel) (by decide +kernel) rfl rfl rfl (Nat.le_of_ble_eq_true rfl) (by decide)
theorem r98_52 : pR X d 98 0 Q (52, L, .int z :: .int x :: st, mem, 0) = ((x = z → pR X d 98 0 Q (57, L, st, mem, 0)) ∧ (¬ (x = z) → pR X d 98 0 Q (55, L, st, mem, 0))) := r_ic (c := .eq) (off := 5) (by decide +kernel) (by decide)
theorem r98_55 : pR X d 98 0 Q (55, L, st, mem, 0) = pR X d 98 0 Q (56, L, .int (iI (0)) :: st, mem, 0) := q_ic (by decide +kernel)
theorem r98_56 : pR X d 98 0 Q (56, L, [.int x], mem, 0) = (zb .boolean x ∧ Q (some (.int x)) mem) := q_retz (by decide +kernel) rfl (by decide)
theorem r98_57 : pR X d 98 0 Q (57, [l0, l1, some (.int x)], st, mem, 0) = pR X d 98 0 Q (60, [l0, cl1 l1, some (.int (x + iI (1)))], st, mem, 0) := q_s (.ok (.iinc 2 (1), 3)) (by decide +kernel) rfl
theorem r98_60 : pR X d 98 0 Q (60, L, st, mem, 0) = pR X d 98 0 Q (28, L, st, mem, 0) := q_s (.ok (.goto (-32), 3)) (by decide +kernel) rfl
theorem r98_63 : pR X d 98 0 Q (63, L, st, mem, 0) = pR X d 98 0 Q (64, L, .int (iI (1)) :: st, mem, 0) := q_ic (by decide +kernel)
theorem r98_64 : pR X d 98 0 Q (64, L, [.int x], mem, 0) = (zb .boolean x ∧ Q (some (.int x)) mem) := q_retz (by decide +kernel) rfl (by decide)
theorem r99_0 : pR X d 99 0 Q (0, [some (.ref a)], st, mem, 0) = pR X d 99 0 Q (1, [some (.ref a)], .ref a :: st, mem, 0) := q_s (.ok (.aload_n 0, 1)) (by decide +kernel) rfl
theorem r99_1 : pR X d 99 0 Q (1, L, .ref a :: st, mem, 0) = gf mem a 100 0 (fun p => pR X d 99 0 Q (4, L, p :: st, mem, 0)) := q_get (ix := 9) (by decide +kernel) (by decide +kernel)
theorem r99_4 : pR X d 99 0 Q (4, L, .ref a :: st, mem, 0) = ln X mem a (fun z => pR X d 99 0 Q (5, L, .int z :: st, mem, 0)) := q_ln (by decide +kernel)
theorem r99_5 : pR X d 99 0 Q (5, [some (.ref a)], st, mem, 0) = pR X d 99 0 Q (6, [some (.ref a)], .ref a :: st, mem, 0) := q_s (.ok (.aload_n 0, 1)) (by decide +kernel) rfl
theorem r99_6 : pR X d 99 0 Q (6, L, .ref a :: [.int k0], mem, 0) = (prcv mem 8 a ∧ Cw X d 100 [.ref a] mem (fun r mem => pR X d 99 0 Q (9, L, r.toList ++ [.int k0], mem, 0))) := q_virt (ix := 335) (y2 := 100) (as := []) (by decide +kernel) (by decide +kernel) rfl rfl rfl (Nat.le_of_ble_eq_true rfl) (by decide)
theorem r99_9 : pR X d 99 0 Q (9, L, .int z :: .int x :: st, mem, 0) = pR X d 99 0 Q (10, L, .int (x >>> (z &&& 31)) :: st, mem, 0) := q_s (.ok (.ishr, 1)) (by decide +kernel) rfl
theorem r99_10 : pR X d 99 0 Q (10, L, [.int x], mem, 0) = Q (some (.int x)) mem := q_reti (by decide +kernel) rfl
theorem r100_0 : pR X d 100 0 Q (0, L, st, mem, 0) = pR X d 100 0 Q (3, L, .int 1 :: st, mem, 0) := q_gs (k := 38) (by decide +kernel) (Or.inr (Or.inl ⟨(by decide +kernel), rfl⟩))
theorem r100_3 : pR X d 100 0 Q (3, L, .int x :: st, mem, 0) = ((x = 0 → pR X d 100 0 Q (13, L, st, mem, 0)) ∧ (¬ (x = 0) → pR X d 100 0 Q (6, L, st, mem, 0))) := r_if (c := .eq) (off := 10) (by decide +kernel) (by decide)
theorem r100_6 : pR X d 100 0 Q (6, [some (.ref a)], st, mem, 0) = pR X d 100 0 Q (7, [some (.ref a)], .ref a :: st, mem, 0) := q_s (.ok (.aload_n 0, 1)) (by decide +kernel) rfl
theorem r100_7 : pR X d 100 0 Q (7, L, .ref a :: st, mem, 0) = gf mem a 100 1 (fun p => pR X d 100 0 Q (10, L, p :: st, mem, 0)) := q_get (ix := 15) (by decide +kernel) (by decide +kernel)
theorem r100_10 : pR X d 100 0 Q (10, L, st, mem, 0) = pR X d 100 0 Q (14, L, st, mem, 0) := q_s (.ok (.goto (4), 3)) (by decide +kernel) rfl
theorem r100_13 : pR X d 100 0 Q (13, L, st, mem, 0) = pR X d 100 0 Q (14, L, .int (iI (1)) :: st, mem, 0) := q_ic (by decide +kernel)
theorem r100_14 : pR X d 100 0 Q (14, L, [.int x], mem, 0) = (zb .byte x ∧ Q (some (.int x)) mem) := q_retz (by decide +kernel) rfl (by decide)
theorem r101_0 : pR X d 101 0 Q (0, [some (.ref a), l1], st, mem, 0) = pR X d 101 0 Q (1, [some (.ref a), l1], .ref a :: st, mem, 0) := q_s (.ok (.aload_n 0, 1)) (by decide +kernel) rfl
theorem r101_1 : pR X d 101 0 Q (1, L, .ref a :: [], mem, 0) = (prcv mem 8 a ∧ Cw X d 102 [.ref a] mem (fun r mem => pR X d 101 0 Q (4, L, r.toList ++ [], mem, 0))) := q_virt (ix := 492) (y2 := 102) (as := []) (by decide +kernel) (by decide +kernel) rfl rfl rfl (Nat.le_of_ble_eq_true rfl) (by decide)
theorem r101_4 : pR X d 101 0 Q (4, L, .int x :: st, mem, 0) = ((x = 0 → pR X d 101 0 Q (16, L, st, mem, 0)) ∧ (¬ (x = 0) → pR X d 101 0 Q (7, L, st, mem, 0))) := r_if (c := .eq) (off := 12) (by decide +kernel) (by decide)
theorem r101_7 : pR X d 101 0 Q (7, [some (.ref a), l1], st, mem, 0) = pR X d 101 0 Q (8, [some (.ref a), l1], .ref a :: st, mem, 0) := q_s (.ok (.aload_n 0, 1)) (by decide +kernel) rfl
theorem r101_8 : pR X d 101 0 Q (8, L, .ref a :: st, mem, 0) = gf mem a 100 0 (fun p => pR X d 101 0 Q (11, L, p :: st, mem, 0)) := q_get (ix := 9) (by decide +kernel) (by decide +kernel)
theorem r101_11 : pR X d 101 0 Q (11, [l0, some (.int x)], st, mem, 0) = pR X d 101 0 Q (12, [l0, some (.int x)], .int x :: st, mem, 0) := q_s (.ok (.iload_n 1, 1)) (by decide +kernel) rfl
theorem r101_12 : pR X d 101 0 Q (12, L, .int y1 :: .ref b0 :: [], mem, 0) = Cw X d 103 [.ref b0, .int y1] mem (fun r mem => pR X d 101 0 Q (15, L, r.toList ++ [], mem, 0)) := q_stat (ix := 495) (kd := 1) (y2 := 103) (as := [.int y1, .ref b0]) (by decide +kernel) (by decide +kernel) (by decide) rfl rfl rfl (Nat.le_of_ble_eq_true rfl) (by decide)
theorem r101_15 : pR X d 101 0 Q (15, L, [.int x], mem, 0) = (zb .char x ∧ Q (some (.int x)) mem) := q_retz (by decide +kernel) rfl (by decide)
theorem r101_16 : pR X d 101 0 Q (16, [some (.ref a), l1], st, mem, 0) = pR X d 101 0 Q (17, [some (.ref a), l1], .ref a :: st, mem, 0) := q_s (.ok (.aload_n 0, 1)) (by decide +kernel) rfl
theorem r101_17 : pR X d 101 0 Q (17, L, .ref a :: st, mem, 0) = gf mem a 100 0 (fun p => pR X d 101 0 Q (20, L, p :: st, mem, 0)) := q_get (ix := 9) (by decide +kernel) (by decide +kernel)
theorem r101_20 : pR X d 101 0 Q (20, [l0, some (.int x)], st, mem, 0) = pR X d 101 0 Q (21, [l0, some (.int x)], .int x :: st, mem, 0) := q_s (.ok (.iload_n 1, 1)) (by decide +kernel) rfl
theorem r102_0 : pR X d 102 0 Q (0, L, st, mem, 0) = pR X d 102 0 Q (3, L, .int 1 :: st, mem, 0) := q_gs (k := 38) (by decide +kernel) (Or.inr (Or.inl ⟨(by decide +kernel), rfl⟩))
theorem r102_3 : pR X d 102 0 Q (3, L, .int x :: st, mem, 0) = ((x = 0 → pR X d 102 0 Q (17, L, st, mem, 0)) ∧ (¬ (x = 0) → pR X d 102 0 Q (6, L, st, mem, 0))) := r_if (c := .eq) (off := 14) (by decide +kernel) (by decide)
theorem r102_6 : pR X d 102 0 Q (6, [some (.ref a)], st, mem, 0) = pR X d 102 0 Q (7, [some (.ref a)], .ref a :: st, mem, 0) := q_s (.ok (.aload_n 0, 1)) (by decide +kernel) rfl
theorem r102_7 : pR X d 102 0 Q (7, L, .ref a :: st, mem, 0) = gf mem a 100 1 (fun p => pR X d 102 0 Q (10, L, p :: st, mem, 0)) := q_get (ix := 15) (by decide +kernel) (by decide +kernel)
theorem r102_10 : pR X d 102 0 Q (10, L, .int x :: st, mem, 0) = ((¬ x = 0 → pR X d 102 0 Q (17, L, st, mem, 0)) ∧ (¬ (¬ x = 0) → pR X d 102 0 Q (13, L, st, mem, 0))) := r_if (c := .ne) (off := 7) (by decide +kernel) (by decide)
theorem r102_13 : pR X d 102 0 Q (13, L, st, mem, 0) = pR X d 102 0 Q (14, L, .int (iI (1)) :: st, mem, 0) := q_ic (by decide +kernel)
theorem r102_14 : pR X d 102 0 Q (14, L, st, mem, 0) = pR X d 102 0 Q (18, L, st, mem, 0) := q_s (.ok (.goto (4), 3)) (by decide +kernel) rfl
theorem r102_17 : pR X d 102 0 Q (17, L, st, mem, 0) = pR X d 102 0 Q (18, L, .int (iI (0)) :: st, mem, 0) := q_ic (by decide +kernel)
theorem r102_18 : pR X d 102 0 Q (18, L, [.int x], mem, 0) = (zb .boolean x ∧ Q (some (.int x)) mem) := q_retz (by decide +kernel) rfl (by decide)
theorem r103_0 : pR X d 103 0 Q (0, [l0, some (.int x)], st, mem, 0) = pR X d 103 0 Q (1, [l0, some (.int x)], .int x :: st, mem, 0) := q_s (.ok (.iload_n 1, 1)) (by decide +kernel) rfl
theorem r103_1 : pR X d 103 0 Q (1, [some (.ref a), l1], st, mem, 0) = pR X d 103 0 Q (2, [some (.ref a), l1], .ref a :: st, mem, 0) := q_s (.ok (.aload_n 0, 1)) (by decide +kernel) rfl
theorem r103_2 : pR X d 103 0 Q (2, L, .ref a :: st, mem, 0) = ln X mem a (fun z => pR X d 103 0 Q (3, L, .int z :: st, mem, 0)) := q_ln (by decide +kernel)
theorem r103_3 : pR X d 103 0 Q (3, L, .int y1 :: .int y0 :: [], mem, 0) = Cw X d 104 [.int y0, .int y1] mem (fun r mem => pR X d 103 0 Q (6, L, r.toList ++ [], mem, 0)) := q_stat (ix := 9) (kd := 1) (y2 := 104) (as := [.int y1, .int y0]) (by decide +kernel) (by decide +kernel) (by decide) rfl rfl rfl (Nat.le_of_ble_eq_true rfl) (by decide)
theorem r103_6 : pR X d 103 0 Q (6, [some (.ref a), l1], st, mem, 0) = pR X d 103 0 Q (7, [some (.ref a), l1], .ref a :: st, mem, 0) := q_s (.ok (.aload_n 0, 1)) (by decide +kernel) rfl
theorem r103_7 : pR X d 103 0 Q (7, [l0, some (.int x)], st, mem, 0) = pR X d 103 0 Q (8, [l0, some (.int x)], .int x :: st, mem, 0) := q_s (.ok (.iload_n 1, 1)) (by decide +kernel) rfl
theorem r103_8 : pR X d 103 0 Q (8, L, .int x :: .ref a :: st, mem, 0) = rb mem a x (fun z => pR X d 103 0 Q (9, L, .int z :: st, mem, 0)) := q_rb (by decide +kernel)
theorem r103_9 : pR X d 103 0 Q (9, L, st, mem, 0) = pR X d 103 0 Q (12, L, .int (iI (255)) :: st, mem, 0) := q_si (n := 255) (by decide +kernel) (by decide +kernel)
theorem r103_12 : pR X d 103 0 Q (12, L, .int z :: .int x :: st, mem, 0) = pR X d 103 0 Q (13, L, .int (x &&& z) :: st, mem, 0) := q_s (.ok (.iand, 1)) (by decide +kernel) rfl
theorem r103_13 : pR X d 103 0 Q (13, L, .int x :: st, mem, 0) = pR X d 103 0 Q (14, L, .int (x.toUInt32 % 65536).toInt32 :: st, mem, 0) := q_s (.ok (.i2c, 1)) (by decide +kernel) rfl
theorem r103_14 : pR X d 103 0 Q (14, L, [.int x], mem, 0) = (zb .char x ∧ Q (some (.int x)) mem) := q_retz (by decide +kernel) rfl (by decide)
theorem r104_0 : pR X d 104 0 Q (0, [some (.int x), l1], st, mem, 0) = pR X d 104 0 Q (1, [some (.int x), l1], .int x :: st, mem, 0) := q_s (.ok (.iload_n 0, 1)) (by decide +kernel) rfl
theorem r104_1 : pR X d 104 0 Q (1, [l0, some (.int x)], st, mem, 0) = pR X d 104 0 Q (2, [l0, some (.int x)], .int x :: st, mem, 0) := q_s (.ok (.iload_n 1, 1)) (by decide +kernel) rfl
theorem r104_2 : pR X d 104 0 Q (2, L, st, mem, 0) = pR X d 104 0 Q (5, L, X.2.2 :: st, mem, 0) := q_gs (k := 1053) (by decide +kernel) (Or.inr (Or.inr ⟨(by decide +kernel), rfl⟩))
theorem r104_5 : pR X d 104 0 Q (5, L, .ref b2 :: .int y1 :: .int y0 :: [], mem, 0) = Cw X d 105 [.int y0, .int y1, .ref b2] mem (fun r mem => pR X d 104 0 Q (8, L, r.toList ++ [], mem, 0)) := q_stat (ix := 1059) (kd := 1) (y2 := 105) (as := [.ref b2, .int y1, .int y0]) (by decide +kernel) (by decide +kernel) (by decide) rfl rfl rfl (Nat.le_of_ble_eq_true rfl) (by decide)
theorem r104_8 : pR X d 104 0 Q (8, L, .int x :: st, mem, 0) = pR X d 104 0 Q (9, L, st, mem, 0) := q_s (.ok (.pop, 1)) (by decide +kernel) rfl
theorem r104_9 : pR X d 104 0 Q (9, L, [], mem, 0) = Q none mem := q_retv (by decide +kernel) rfl
theorem r105_0 : pR X d 105 0 Q (0, [some (.int x), l1, l2], st, mem, 0) = pR X d 105 0 Q (1, [some (.int x), l1, l2], .int x :: st, mem, 0) := q_s (.ok (.iload_n 0, 1)) (by decide +kernel) rfl
theorem r105_1 : pR X d 105 0 Q (1, L, .int x :: st, mem, 0) = ((x < 0 → pR X d 105 0 Q (9, L, st, mem, 0)) ∧ (¬ (x < 0) → pR X d 105 0 Q (4, L, st, mem, 0))) := r_if (c := .lt) (off := 8) (by decide +kernel) (by decide)
theorem r105_4 : pR X d 105 0 Q (4, [some (.int x), l1, l2], st, mem, 0) = pR X d 105 0 Q (5, [some (.int x), l1, l2], .int x :: st, mem, 0) := q_s (.ok (.iload_n 0, 1)) (by decide +kernel) rfl
theorem r105_5 : pR X d 105 0 Q (5, [l0, some (.int x), l2], st, mem, 0) = pR X d 105 0 Q (6, [l0, some (.int x), l2], .int x :: st, mem, 0) := q_s (.ok (.iload_n 1, 1)) (by decide +kernel) rfl
theorem r105_6 : pR X d 105 0 Q (6, L, .int z :: .int x :: st, mem, 0) = ((x < z → pR X d 105 0 Q (16, L, st, mem, 0)) ∧ (¬ (x < z) → pR X d 105 0 Q (9, L, st, mem, 0))) := r_ic (c := .lt) (off := 10) (by decide +kernel) (by decide)
theorem r105_10 : pR X d 105 0 Q (10, [some (.int x), l1, l2], st, mem, 0) = pR X d 105 0 Q (11, [some (.int x), l1, l2], .int x :: st, mem, 0) := q_s (.ok (.iload_n 0, 1)) (by decide +kernel) rfl
theorem r105_11 : pR X d 105 0 Q (11, [l0, some (.int x), l2], st, mem, 0) = pR X d 105 0 Q (12, [l0, some (.int x), l2], .int x :: st, mem, 0) := q_s (.ok (.iload_n 1, 1)) (by decide +kernel) rfl
theorem r105_16 : pR X d 105 0 Q (16, [some (.int x), l1, l2], st, mem, 0) = pR X d 105 0 Q (17, [some (.int x), l1, l2], .int x :: st, mem, 0) := q_s (.ok (.iload_n 0, 1)) (by decide +kernel) rfl
theorem r105_17 : pR X d 105 0 Q (17, L, [.int x], mem, 0) = Q (some (.int x)) mem := q_reti (by decide +kernel) rfl
theorem r106_0 : pR X d 106 0 Q (0, [some (.ref a), l1, l2, l3, l4, l5], st, mem, 0) = pR X d 106 0 Q (1, [some (.ref a), l1, l2, l3, l4, l5], .ref a :: st, mem, 0) := q_s (.ok (.aload_n 0, 1)) (by decide +kernel) rfl
theorem r106_1 : pR X d 106 0 Q (1, L, .ref a :: [], mem, 0) = (prcv mem 2 a ∧ Cw X d 94 [.ref a] mem (fun r mem => pR X d 106 0 Q (4, L, r.toList ++ [], mem, 0))) := q_virt (ix := 31) (y2 := 94) (as := []) (by decide +kernel) (by decide +kernel) rfl rfl rfl (Nat.le_of_ble_eq_true rfl) (by decide)
theorem r106_4 : pR X d 106 0 Q (4, [some (.ref a), l1, l2, l3, l4, l5], st, mem, 0) = pR X d 106 0 Q (5, [some (.ref a), l1, l2, l3, l4, l5], .ref a :: st, mem, 0) := q_s (.ok (.aload_n 0, 1)) (by decide +kernel) rfl
theorem r106_5 : pR X d 106 0 Q (5, L, st, mem, 0) = pR X d 106 0 Q (6, L, .int (iI (5)) :: st, mem, 0) := q_ic (by decide +kernel)
theorem r106_6 : pR X d 106 0 Q (6, L, .int y0 :: .ref a :: [], mem, 0) = (prcv mem 2 a ∧ Cw X d 107 [.ref a, .int y0] mem (fun r mem => pR X d 106 0 Q (9, L, r.toList ++ [], mem, 0))) := q_virt (ix := 94) (y2 := 107) (as := [.int y0]) (by decide +kernel) (by decide +kernel) rfl rfl rfl (Nat.le_of_ble_eq_true rfl) (by decide)
theorem r106_9 : pR X d 106 0 Q (9, [l0, l1, l2, l3, l4, l5], .int x :: st, mem, 0) = pR X d 106 0 Q (10, [l0, cl1 l1, some (.int x), l3, l4, l5], st, mem, 0) := q_s (.ok (.istore_n 2, 1)) (by decide +kernel) rfl
theorem r106_10 : pR X d 106 0 Q (10, [l0, l1, some (.int x), l3, l4, l5], st, mem, 0) = pR X d 106 0 Q (11, [l0, l1, some (.int x), l3, l4, l5], .int x :: st, mem, 0) := q_s (.ok (.iload_n 2, 1)) (by decide +kernel) rfl
theorem r106_11 : pR X d 106 0 Q (11, L, .int x :: st, mem, 0) = ((0 ≤ x → pR X d 106 0 Q (18, L, st, mem, 0)) ∧ (¬ (0 ≤ x) → pR X d 106 0 Q (14, L, st, mem, 0))) := r_if (c := .ge) (off := 7) (by decide +kernel) (by decide)
theorem r106_14 : pR X d 106 0 Q (14, L, st, mem, 0) = pR X d 106 0 Q (15, L, .int (iI (-1)) :: st, mem, 0) := q_ic (by decide +kernel)
theorem r106_15 : pR X d 106 0 Q (15, L, st, mem, 0) = pR X d 106 0 Q (24, L, st, mem, 0) := q_s (.ok (.goto (9), 3)) (by decide +kernel) rfl
theorem r106_18 : pR X d 106 0 Q (18, [some (.ref a), l1, l2, l3, l4, l5], st, mem, 0) = pR X d 106 0 Q (19, [some (.ref a), l1, l2, l3, l4, l5], .ref a :: st, mem, 0) := q_s (.ok (.aload_n 0, 1)) (by decide +kernel) rfl
theorem r106_19 : pR X d 106 0 Q (19, L, st, mem, 0) = pR X d 106 0 Q (21, L, .int (iI (7)) :: st, mem, 0) := q_bi (n := 7) (by decide +kernel) (by decide +kernel)
theorem r106_21 : pR X d 106 0 Q (21, L, .int y0 :: .ref a :: [], mem, 0) = (prcv mem 2 a ∧ Cw X d 107 [.ref a, .int y0] mem (fun r mem => pR X d 106 0 Q (24, L, r.toList ++ [], mem, 0))) := q_virt (ix := 94) (y2 := 107) (as := [.int y0]) (by decide +kernel) (by decide +kernel) rfl rfl rfl (Nat.le_of_ble_eq_true rfl) (by decide)
theorem r106_24 : pR X d 106 0 Q (24, [l0, l1, l2, l3, l4, l5], .int x :: st, mem, 0) = pR X d 106 0 Q (25, [l0, l1, cl1 l2, some (.int x), l4, l5], st, mem, 0) := q_s (.ok (.istore_n 3, 1)) (by decide +kernel) rfl
theorem r106_25 : pR X d 106 0 Q (25, [l0, l1, l2, some (.int x), l4, l5], st, mem, 0) = pR X d 106 0 Q (26, [l0, l1, l2, some (.int x), l4, l5], .int x :: st, mem, 0) := q_s (.ok (.iload_n 3, 1)) (by decide +kernel) rfl
theorem r106_26 : pR X d 106 0 Q (26, L, .int x :: st, mem, 0) = ((0 ≤ x → pR X d 106 0 Q (33, L, st, mem, 0)) ∧ (¬ (0 ≤ x) → pR X d 106 0 Q (29, L, st, mem, 0))) := r_if (c := .ge) (off := 7) (by decide +kernel) (by decide)
theorem r106_29 : pR X d 106 0 Q (29, L, st, mem, 0) = pR X d 106 0 Q (30, L, .int (iI (-1)) :: st, mem, 0) := q_ic (by decide +kernel)
theorem r106_30 : pR X d 106 0 Q (30, L, st, mem, 0) = pR X d 106 0 Q (39, L, st, mem, 0) := q_s (.ok (.goto (9), 3)) (by decide +kernel) rfl
theorem r106_33 : pR X d 106 0 Q (33, [some (.ref a), l1, l2, l3, l4, l5], st, mem, 0) = pR X d 106 0 Q (34, [some (.ref a), l1, l2, l3, l4, l5], .ref a :: st, mem, 0) := q_s (.ok (.aload_n 0, 1)) (by decide +kernel) rfl
theorem r106_34 : pR X d 106 0 Q (34, L, st, mem, 0) = pR X d 106 0 Q (36, L, .int (iI (7)) :: st, mem, 0) := q_bi (n := 7) (by decide +kernel) (by decide +kernel)
theorem r106_36 : pR X d 106 0 Q (36, L, .int y0 :: .ref a :: [], mem, 0) = (prcv mem 2 a ∧ Cw X d 107 [.ref a, .int y0] mem (fun r mem => pR X d 106 0 Q (39, L, r.toList ++ [], mem, 0))) := q_virt (ix := 94) (y2 := 107) (as := [.int y0]) (by decide +kernel) (by decide +kernel) rfl rfl rfl (Nat.le_of_ble_eq_true rfl) (by decide)
theorem r106_39 : pR X d 106 0 Q (39, [l0, l1, l2, l3, l4, l5], .int x :: st, mem, 0) = pR X d 106 0 Q (41, [l0, l1, l2, cl1 l3, some (.int x), l5], st, mem, 0) := q_s (.ok (.istore 4, 2)) (by decide +kernel) rfl
theorem r106_41 : pR X d 106 0 Q (41, [l0, l1, l2, l3, some (.int x), l5], st, mem, 0) = pR X d 106 0 Q (43, [l0, l1, l2, l3, some (.int x), l5], .int x :: st, mem, 0) := q_s (.ok (.iload 4, 2)) (by decide +kernel) rfl
theorem r106_43 : pR X d 106 0 Q (43, L, .int x :: st, mem, 0) = ((0 ≤ x → pR X d 106 0 Q (50, L, st, mem, 0)) ∧ (¬ (0 ≤ x) → pR X d 106 0 Q (46, L, st, mem, 0))) := r_if (c := .ge) (off := 7) (by decide +kernel) (by decide)
theorem r106_46 : pR X d 106 0 Q (46, L, st, mem, 0) = pR X d 106 0 Q (47, L, .int (iI (-1)) :: st, mem, 0) := q_ic (by decide +kernel)
theorem r106_47 : pR X d 106 0 Q (47, L, st, mem, 0) = pR X d 106 0 Q (56, L, st, mem, 0) := q_s (.ok (.goto (9), 3)) (by decide +kernel) rfl
theorem r106_50 : pR X d 106 0 Q (50, [some (.ref a), l1, l2, l3, l4, l5], st, mem, 0) = pR X d 106 0 Q (51, [some (.ref a), l1, l2, l3, l4, l5], .ref a :: st, mem, 0) := q_s (.ok (.aload_n 0, 1)) (by decide +kernel) rfl
theorem r106_51 : pR X d 106 0 Q (51, L, st, mem, 0) = pR X d 106 0 Q (53, L, .int (iI (99)) :: st, mem, 0) := q_bi (n := 99) (by decide +kernel) (by decide +kernel)
theorem r106_53 : pR X d 106 0 Q (53, L, .int y0 :: .ref a :: [], mem, 0) = (prcv mem 2 a ∧ Cw X d 107 [.ref a, .int y0] mem (fun r mem => pR X d 106 0 Q (56, L, r.toList ++ [], mem, 0))) := q_virt (ix := 94) (y2 := 107) (as := [.int y0]) (by decide +kernel) (by decide +kernel) rfl rfl rfl (Nat.le_of_ble_eq_true rfl) (by decide)
theorem r106_56 : pR X d 106 0 Q (56, [l0, l1, l2, l3, l4, l5], .int x :: st, mem, 0) = pR X d 106 0 Q (58, [l0, l1, l2, l3, cl1 l4, some (.int x)], st, mem, 0) := q_s (.ok (.istore 5, 2)) (by decide +kernel) rfl
theorem r106_58 : pR X d 106 0 Q (58, [l0, l1, l2, l3, l4, some (.int x)], st, mem, 0) = pR X d 106 0 Q (60, [l0, l1, l2, l3, l4, some (.int x)], .int x :: st, mem, 0) := q_s (.ok (.iload 5, 2)) (by decide +kernel) rfl
theorem r106_60 : pR X d 106 0 Q (60, L, .int x :: st, mem, 0) = ((0 ≤ x → pR X d 106 0 Q (65, L, st, mem, 0)) ∧ (¬ (0 ≤ x) → pR X d 106 0 Q (63, L, st, mem, 0))) := r_if (c := .ge) (off := 5) (by decide +kernel) (by decide)
theorem r106_63 : pR X d 106 0 Q (63, L, st, mem, 0) = pR X d 106 0 Q (64, L, .int (iI (0)) :: st, mem, 0) := q_ic (by decide +kernel)
theorem r106_64 : pR X d 106 0 Q (64, L, [.int x], mem, 0) = (zb .boolean x ∧ Q (some (.int x)) mem) := q_retz (by decide +kernel) rfl (by decide)
theorem r106_65 : pR X d 106 0 Q (65, [l0, some (.ref a), l2, l3, l4, l5], st, mem, 0) = pR X d 106 0 Q (66, [l0, some (.ref a), l2, l3, l4, l5], .ref a :: st, mem, 0) := q_s (.ok (.aload_n 1, 1)) (by decide +kernel) rfl
theorem r106_66 : pR X d 106 0 Q (66, L, .ref a :: st, mem, 0) = gf mem a 3 6 (fun p => pR X d 106 0 Q (69, L, p :: st, mem, 0)) := q_get (ix := 97) (by decide +kernel) (by decide +kernel)
theorem r106_69 : pR X d 106 0 Q (69, [l0, l1, some (.int x), l3, l4, l5], st, mem, 0) = pR X d 106 0 Q (70, [l0, l1, some (.int x), l3, l4, l5], .int x :: st, mem, 0) := q_s (.ok (.iload_n 2, 1)) (by decide +kernel) rfl
theorem r106_70 : pR X d 106 0 Q (70, [l0, l1, l2, some (.int x), l4, l5], st, mem, 0) = pR X d 106 0 Q (71, [l0, l1, l2, some (.int x), l4, l5], .int x :: st, mem, 0) := q_s (.ok (.iload_n 3, 1)) (by decide +kernel) rfl
theorem r106_71 : pR X d 106 0 Q (71, [l0, l1, l2, l3, some (.int x), l5], st, mem, 0) = pR X d 106 0 Q (73, [l0, l1, l2, l3, some (.int x), l5], .int x :: st, mem, 0) := q_s (.ok (.iload 4, 2)) (by decide +kernel) rfl
theorem r106_73 : pR X d 106 0 Q (73, [l0, l1, l2, l3, l4, some (.int x)], st, mem, 0) = pR X d 106 0 Q (75, [l0, l1, l2, l3, l4, some (.int x)], .int x :: st, mem, 0) := q_s (.ok (.iload 5, 2)) (by decide +kernel) rfl
theorem r106_75 : pR X d 106 0 Q (75, L, .int y2 :: .int y1 :: .int y0 :: [.int k0, .ref c1], mem, 0) = Cw X d 84 [.int y0, .int y1, .int y2] mem (fun r mem => pR X d 106 0 Q (78, L, r.toList ++ [.int k0, .ref c1], mem, 0)) := q_stat (ix := 100) (kd := 2) (y2 := 84) (as := [.int y2, .int y1, .int y0]) (by decide +kernel) (by decide +kernel) (by decide) rfl rfl rfl (Nat.le_of_ble_eq_true rfl) (by decide)
theorem r106_78 : pR X d 106 0 Q (78, L, .int z :: .int x :: .ref a :: st, mem, 0) = wi mem a x z (fun mem => pR X d 106 0 Q (79, L, st, mem, 0)) := q_wi (by decide +kernel)
theorem r106_79 : pR X d 106 0 Q (79, L, st, mem, 0) = pR X d 106 0 Q (80, L, .int (iI (1)) :: st, mem, 0) := q_ic (by decide +kernel)
theorem r106_80 : pR X d 106 0 Q (80, L, [.int x], mem, 0) = (zb .boolean x ∧ Q (some (.int x)) mem) := q_retz (by decide +kernel) rfl (by decide)
theorem r107_0 : pR X d 107 0 Q (0, [some (.ref a), l1, l2], st, mem, 0) = pR X d 107 0 Q (1, [some (.ref a), l1, l2], .ref a :: st, mem, 0) := q_s (.ok (.aload_n 0, 1)) (by decide +kernel) rfl
theorem r107_1 : pR X d 107 0 Q (1, L, st, mem, 0) = pR X d 107 0 Q (2, L, .int (iI (0)) :: st, mem, 0) := q_ic (by decide +kernel)
theorem r107_2 : pR X d 107 0 Q (2, [l0, some (.int x), l2], st, mem, 0) = pR X d 107 0 Q (3, [l0, some (.int x), l2], .int x :: st, mem, 0) := q_s (.ok (.iload_n 1, 1)) (by decide +kernel) rfl
theorem r107_3 : pR X d 107 0 Q (3, L, .int y1 :: .int y0 :: .ref a :: [], mem, 0) = (prcv mem 2 a ∧ Cw X d 108 [.ref a, .int y0, .int y1] mem (fun r mem => pR X d 107 0 Q (6, L, r.toList ++ [], mem, 0))) := q_virt (ix := 84) (y2 := 108) (as := [.int y1, .int y0]) (by decide +kernel) (by decide +kernel) rfl rfl rfl (Nat.le_of_ble_eq_true rfl) (by decide)
theorem r107_6 : pR X d 107 0 Q (6, L, .int x :: st, mem, 0) = ((¬ x = 0 → pR X d 107 0 Q (11, L, st, mem, 0)) ∧ (¬ (¬ x = 0) → pR X d 107 0 Q (9, L, st, mem, 0))) := r_if (c := .ne) (off := 5) (by decide +kernel) (by decide)
theorem r107_9 : pR X d 107 0 Q (9, L, st, mem, 0) = pR X d 107 0 Q (10, L, .int (iI (-1)) :: st, mem, 0) := q_ic (by decide +kernel)
theorem r107_10 : pR X d 107 0 Q (10, L, [.int x], mem, 0) = Q (some (.int x)) mem := q_reti (by decide +kernel) rfl
theorem r107_11 : pR X d 107 0 Q (11, [some (.ref a), l1, l2], st, mem, 0) = pR X d 107 0 Q (12, [some (.ref a), l1, l2], .ref a :: st, mem, 0) := q_s (.ok (.aload_n 0, 1)) (by decide +kernel) rfl
theorem r107_12 : pR X d 107 0 Q (12, L, .ref a :: st, mem, 0) = gf mem a 2 5 (fun p => pR X d 107 0 Q (15, L, p :: st, mem, 0)) := q_get (ix := 28) (by decide +kernel) (by decide +kernel)
theorem r107_15 : pR X d 107 0 Q (15, [l0, l1, l2], .int x :: st, mem, 0) = pR X d 107 0 Q (16, [l0, cl1 l1, some (.int x)], st, mem, 0) := q_s (.ok (.istore_n 2, 1)) (by decide +kernel) rfl
theorem r107_16 : pR X d 107 0 Q (16, [some (.ref a), l1, l2], st, mem, 0) = pR X d 107 0 Q (17, [some (.ref a), l1, l2], .ref a :: st, mem, 0) := q_s (.ok (.aload_n 0, 1)) (by decide +kernel) rfl
theorem r107_17 : pR X d 107 0 Q (17, L, .ref a :: [], mem, 0) = (prcv mem 2 a ∧ Cw X d 94 [.ref a] mem (fun r mem => pR X d 107 0 Q (20, L, r.toList ++ [], mem, 0))) := q_virt (ix := 31) (y2 := 94) (as := []) (by decide +kernel) (by decide +kernel) rfl rfl rfl (Nat.le_of_ble_eq_true rfl) (by decide)
theorem r107_20 : pR X d 107 0 Q (20, [l0, l1, some (.int x)], st, mem, 0) = pR X d 107 0 Q (21, [l0, l1, some (.int x)], .int x :: st, mem, 0) := q_s (.ok (.iload_n 2, 1)) (by decide +kernel) rfl
theorem r107_21 : pR X d 107 0 Q (21, L, [.int x], mem, 0) = Q (some (.int x)) mem := q_reti (by decide +kernel) rfl
theorem r108_0 : pR X d 108 0 Q (0, [some (.ref a), l1, l2], st, mem, 0) = pR X d 108 0 Q (1, [some (.ref a), l1, l2], .ref a :: st, mem, 0) := q_s (.ok (.aload_n 0, 1)) (by decide +kernel) rfl
theorem r108_1 : pR X d 108 0 Q (1, L, .ref a :: st, mem, 0) = gf mem a 2 3 (fun p => pR X d 108 0 Q (4, L, p :: st, mem, 0)) := q_get (ix := 22) (by decide +kernel) (by decide +kernel)
theorem r108_4 : pR X d 108 0 Q (4, L, st, mem, 0) = pR X d 108 0 Q (5, L, .int (iI (2)) :: st, mem, 0) := q_ic (by decide +kernel)
theorem r108_5 : pR X d 108 0 Q (5, L, .int z :: .int x :: st, mem, 0) = ((¬ x = z → pR X d 108 0 Q (24, L, st, mem, 0)) ∧ (¬ (¬ x = z) → pR X d 108 0 Q (8, L, st, mem, 0))) := r_ic (c := .ne) (off := 19) (by decide +kernel) (by decide)
theorem r108_8 : pR X d 108 0 Q (8, [some (.ref a), l1, l2], st, mem, 0) = pR X d 108 0 Q (9, [some (.ref a), l1, l2], .ref a :: st, mem, 0) := q_s (.ok (.aload_n 0, 1)) (by decide +kernel) rfl
theorem r108_9 : pR X d 108 0 Q (9, L, .ref a :: st, mem, 0) = gf mem a 2 5 (fun p => pR X d 108 0 Q (12, L, p :: st, mem, 0)) := q_get (ix := 28) (by decide +kernel) (by decide +kernel)
theorem r108_12 : pR X d 108 0 Q (12, [l0, some (.int x), l2], st, mem, 0) = pR X d 108 0 Q (13, [l0, some (.int x), l2], .int x :: st, mem, 0) := q_s (.ok (.iload_n 1, 1)) (by decide +kernel) rfl
theorem r108_13 : pR X d 108 0 Q (13, [l0, l1, some (.int x)], st, mem, 0) = pR X d 108 0 Q (14, [l0, l1, some (.int x)], .int x :: st, mem, 0) := q_s (.ok (.iload_n 2, 1)) (by decide +kernel) rfl
theorem r108_14 : pR X d 108 0 Q (14, L, .int y2 :: .int y1 :: .int y0 :: [], mem, 0) = Cw X d 7 [.int y0, .int y1, .int y2] mem (fun r mem => pR X d 108 0 Q (17, L, r.toList ++ [], mem, 0)) := q_stat (ix := 106) (kd := 2) (y2 := 7) (as := [.int y2, .int y1, .int y0]) (by decide +kernel) (by decide +kernel) (by decide) rfl rfl rfl (Nat.le_of_ble_eq_true rfl) (by decide)
theorem r108_17 : pR X d 108 0 Q (17, L, .int x :: st, mem, 0) = ((x = 0 → pR X d 108 0 Q (24, L, st, mem, 0)) ∧ (¬ (x = 0) → pR X d 108 0 Q (20, L, st, mem, 0))) := r_if (c := .eq) (off := 7) (by decide +kernel) (by decide)
theorem r108_20 : pR X d 108 0 Q (20, L, st, mem, 0) = pR X d 108 0 Q (21, L, .int (iI (1)) :: st, mem, 0) := q_ic (by decide +kernel)
theorem r108_21 : pR X d 108 0 Q (21, L, st, mem, 0) = pR X d 108 0 Q (25, L, st, mem, 0) := q_s (.ok (.goto (4), 3)) (by decide +kernel) rfl
theorem r108_24 : pR X d 108 0 Q (24, L, st, mem, 0) = pR X d 108 0 Q (25, L, .int (iI (0)) :: st, mem, 0) := q_ic (by decide +kernel)
theorem r108_25 : pR X d 108 0 Q (25, L, [.int x], mem, 0) = (zb .boolean x ∧ Q (some (.int x)) mem) := q_retz (by decide +kernel) rfl (by decide)
theorem r109_0 : pR X d 109 0 Q (0, [some (.ref a), l1], st, mem, 0) = pR X d 109 0 Q (1, [some (.ref a), l1], .ref a :: st, mem, 0) := q_s (.ok (.aload_n 0, 1)) (by decide +kernel) rfl
theorem r109_1 : pR X d 109 0 Q (1, L, .ref a :: [], mem, 0) = (prcv mem 2 a ∧ Cw X d 94 [.ref a] mem (fun r mem => pR X d 109 0 Q (4, L, r.toList ++ [], mem, 0))) := q_virt (ix := 31) (y2 := 94) (as := []) (by decide +kernel) (by decide +kernel) rfl rfl rfl (Nat.le_of_ble_eq_true rfl) (by decide)
theorem r109_4 : pR X d 109 0 Q (4, [some (.ref a), l1], st, mem, 0) = pR X d 109 0 Q (5, [some (.ref a), l1], .ref a :: st, mem, 0) := q_s (.ok (.aload_n 0, 1)) (by decide +kernel) rfl
theorem r109_5 : pR X d 109 0 Q (5, L, st, mem, 0) = pR X d 109 0 Q (6, L, .int (iI (2)) :: st, mem, 0) := q_ic (by decide +kernel)
theorem r109_6 : pR X d 109 0 Q (6, L, st, mem, 0) = pR X d 109 0 Q (8, L, .int (iI (30)) :: st, mem, 0) := q_bi (n := 30) (by decide +kernel) (by decide +kernel)
theorem r109_8 : pR X d 109 0 Q (8, L, .int y1 :: .int y0 :: .ref a :: [], mem, 0) = (prcv mem 2 a ∧ Cw X d 108 [.ref a, .int y0, .int y1] mem (fun r mem => pR X d 109 0 Q (11, L, r.toList ++ [], mem, 0))) := q_virt (ix := 84) (y2 := 108) (as := [.int y1, .int y0]) (by decide +kernel) (by decide +kernel) rfl rfl rfl (Nat.le_of_ble_eq_true rfl) (by decide)
theorem r109_11 : pR X d 109 0 Q (11, L, .int x :: st, mem, 0) = ((¬ x = 0 → pR X d 109 0 Q (16, L, st, mem, 0)) ∧ (¬ (¬ x = 0) → pR X d 109 0 Q (14, L, st, mem, 0))) := r_if (c := .ne) (off := 5) (by decide +kernel) (by decide)
theorem r109_14 : pR X d 109 0 Q (14, L, st, mem, 0) = pR X d 109 0 Q (15, L, .int (iI (0)) :: st, mem, 0) := q_ic (by decide +kernel)
theorem r109_15 : pR X d 109 0 Q (15, L, [.int x], mem, 0) = (zb .boolean x ∧ Q (some (.int x)) mem) := q_retz (by decide +kernel) rfl (by decide)
theorem r109_16 : pR X d 109 0 Q (16, [l0, some (.ref a)], st, mem, 0) = pR X d 109 0 Q (17, [l0, some (.ref a)], .ref a :: st, mem, 0) := q_s (.ok (.aload_n 1, 1)) (by decide +kernel) rfl
theorem r109_17 : pR X d 109 0 Q (17, [some (.ref a), l1], st, mem, 0) = pR X d 109 0 Q (18, [some (.ref a), l1], .ref a :: st, mem, 0) := q_s (.ok (.aload_n 0, 1)) (by decide +kernel) rfl
theorem r109_18 : pR X d 109 0 Q (18, L, .ref a :: st, mem, 0) = gf mem a 2 5 (fun p => pR X d 109 0 Q (21, L, p :: st, mem, 0)) := q_get (ix := 28) (by decide +kernel) (by decide +kernel)
theorem r109_21 : pR X d 109 0 Q (21, L, p :: .ref a :: st, mem, 0) = pf 109 mem a 3 0 p (fun mem => pR X d 109 0 Q (24, L, st, mem, 0)) := q_put (ix := 104) (by decide +kernel) (by decide +kernel) (by decide)
theorem r109_24 : pR X d 109 0 Q (24, [some (.ref a), l1], st, mem, 0) = pR X d 109 0 Q (25, [some (.ref a), l1], .ref a :: st, mem, 0) := q_s (.ok (.aload_n 0, 1)) (by decide +kernel) rfl
theorem r109_25 : pR X d 109 0 Q (25, L, .ref a :: [], mem, 0) = (prcv mem 2 a ∧ Cw X d 94 [.ref a] mem (fun r mem => pR X d 109 0 Q (28, L, r.toList ++ [], mem, 0))) := q_virt (ix := 31) (y2 := 94) (as := []) (by decide +kernel) (by decide +kernel) rfl rfl rfl (Nat.le_of_ble_eq_true rfl) (by decide)
theorem r109_28 : pR X d 109 0 Q (28, L, st, mem, 0) = pR X d 109 0 Q (29, L, .int (iI (1)) :: st, mem, 0) := q_ic (by decide +kernel)
theorem r109_29 : pR X d 109 0 Q (29, L, [.int x], mem, 0) = (zb .boolean x ∧ Q (some (.int x)) mem) := q_retz (by decide +kernel) rfl (by decide)
theorem r110_0 : pR X d 110 0 Q (0, [some (.ref a), l1, l2, l3], st, mem, 0) = pR X d 110 0 Q (1, [some (.ref a), l1, l2, l3], .ref a :: st, mem, 0) := q_s (.ok (.aload_n 0, 1)) (by decide +kernel) rfl
theorem r110_1 : pR X d 110 0 Q (1, L, .ref a :: [], mem, 0) = (prcv mem 2 a ∧ Cw X d 111 [.ref a] mem (fun r mem => pR X d 110 0 Q (4, L, r.toList ++ [], mem, 0))) := q_virt (ix := 52) (y2 := 111) (as := []) (by decide +kernel) (by decide +kernel) rfl rfl rfl (Nat.le_of_ble_eq_true rfl) (by decide)
theorem r110_4 : pR X d 110 0 Q (4, [l0, l1, l2, l3], .int x :: st, mem, 0) = pR X d 110 0 Q (5, [l0, cl1 l1, some (.int x), l3], st, mem, 0) := q_s (.ok (.istore_n 2, 1)) (by decide +kernel) rfl
theorem r110_5 : pR X d 110 0 Q (5, [l0, l1, some (.int x), l3], st, mem, 0) = pR X d 110 0 Q (6, [l0, l1, some (.int x), l3], .int x :: st, mem, 0) := q_s (.ok (.iload_n 2, 1)) (by decide +kernel) rfl
theorem r110_6 : pR X d 110 0 Q (6, L, .int x :: st, mem, 0) = ((x < 0 → pR X d 110 0 Q (16, L, st, mem, 0)) ∧ (¬ (x < 0) → pR X d 110 0 Q (9, L, st, mem, 0))) := r_if (c := .lt) (off := 10) (by decide +kernel) (by decide)
theorem r110_9 : pR X d 110 0 Q (9, [l0, some (.ref a), l2, l3], st, mem, 0) = pR X d 110 0 Q (10, [l0, some (.ref a), l2, l3], .ref a :: st, mem, 0) := q_s (.ok (.aload_n 1, 1)) (by decide +kernel) rfl
theorem r110_10 : pR X d 110 0 Q (10, L, .ref a :: [], mem, 0) = (prcv mem 3 a ∧ Cw X d 16 [.ref a] mem (fun r mem => pR X d 110 0 Q (13, L, r.toList ++ [], mem, 0))) := q_virt (ix := 56) (y2 := 16) (as := []) (by decide +kernel) (by decide +kernel) rfl rfl rfl (Nat.le_of_ble_eq_true rfl) (by decide)
theorem r110_13 : pR X d 110 0 Q (13, L, .int x :: st, mem, 0) = ((x = 0 → pR X d 110 0 Q (18, L, st, mem, 0)) ∧ (¬ (x = 0) → pR X d 110 0 Q (16, L, st, mem, 0))) := r_if (c := .eq) (off := 5) (by decide +kernel) (by decide)
theorem r110_16 : pR X d 110 0 Q (16, L, st, mem, 0) = pR X d 110 0 Q (17, L, .int (iI (0)) :: st, mem, 0) := q_ic (by decide +kernel)
theorem r110_17 : pR X d 110 0 Q (17, L, [.int x], mem, 0) = (zb .boolean x ∧ Q (some (.int x)) mem) := q_retz (by decide +kernel) rfl (by decide)
theorem r110_18 : pR X d 110 0 Q (18, [l0, some (.ref a), l2, l3], st, mem, 0) = pR X d 110 0 Q (19, [l0, some (.ref a), l2, l3], .ref a :: st, mem, 0) := q_s (.ok (.aload_n 1, 1)) (by decide +kernel) rfl
theorem r110_19 : pR X d 110 0 Q (19, L, .ref a :: st, mem, 0) = gf mem a 3 5 (fun p => pR X d 110 0 Q (22, L, p :: st, mem, 0)) := q_get (ix := 62) (by decide +kernel) (by decide +kernel)
theorem r110_22 : pR X d 110 0 Q (22, [l0, some (.ref a), l2, l3], st, mem, 0) = pR X d 110 0 Q (23, [l0, some (.ref a), l2, l3], .ref a :: st, mem, 0) := q_s (.ok (.aload_n 1, 1)) (by decide +kernel) rfl
theorem r110_23 : pR X d 110 0 Q (23, [l0, l1, some (.int x), l3], st, mem, 0) = pR X d 110 0 Q (24, [l0, l1, some (.int x), l3], .int x :: st, mem, 0) := q_s (.ok (.iload_n 2, 1)) (by decide +kernel) rfl
theorem r110_24 : pR X d 110 0 Q (24, L, st, mem, 0) = pR X d 110 0 Q (26, L, .int (iI (20)) :: st, mem, 0) := q_bi (n := 20) (by decide +kernel) (by decide +kernel)
theorem r110_26 : pR X d 110 0 Q (26, L, .int y1 :: .int y0 :: .ref a :: [.ref c0], mem, 0) = (prcv mem 3 a ∧ Cw X d 17 [.ref a, .int y0, .int y1] mem (fun r mem => pR X d 110 0 Q (29, L, r.toList ++ [.ref c0], mem, 0))) := q_virt (ix := 66) (y2 := 17) (as := [.int y1, .int y0]) (by decide +kernel) (by decide +kernel) rfl rfl rfl (Nat.le_of_ble_eq_true rfl) (by decide)
theorem r110_29 : pR X d 110 0 Q (29, L, .int x :: .ref a :: st, mem, 0) = ra mem a x (fun b => pR X d 110 0 Q (30, L, .ref b :: st, mem, 0)) := q_ra (by decide +kernel)
theorem r110_30 : pR X d 110 0 Q (30, [l0, l1, l2, l3], .ref a :: st, mem, 0) = pR X d 110 0 Q (31, [l0, l1, cl1 l2, some (.ref a)], st, mem, 0) := q_s (.ok (.astore_n 3, 1)) (by decide +kernel) rfl
theorem r110_31 : pR X d 110 0 Q (31, [some (.ref a), l1, l2, l3], st, mem, 0) = pR X d 110 0 Q (32, [some (.ref a), l1, l2, l3], .ref a :: st, mem, 0) := q_s (.ok (.aload_n 0, 1)) (by decide +kernel) rfl
theorem r110_32 : pR X d 110 0 Q (32, L, .ref a :: [], mem, 0) = (prcv mem 2 a ∧ Cw X d 94 [.ref a] mem (fun r mem => pR X d 110 0 Q (35, L, r.toList ++ [], mem, 0))) := q_virt (ix := 31) (y2 := 94) (as := []) (by decide +kernel) (by decide +kernel) rfl rfl rfl (Nat.le_of_ble_eq_true rfl) (by decide)
theorem r110_35 : pR X d 110 0 Q (35, [some (.ref a), l1, l2, l3], st, mem, 0) = pR X d 110 0 Q (36, [some (.ref a), l1, l2, l3], .ref a :: st, mem, 0) := q_s (.ok (.aload_n 0, 1)) (by decide +kernel) rfl
theorem r110_36 : pR X d 110 0 Q (36, L, st, mem, 0) = pR X d 110 0 Q (38, L, .ref 1009 :: st, mem, 0) := q_ldcs (k := 70) (j := 9) (by decide +kernel) (by decide +kernel) (by decide +kernel)
theorem r110_38 : pR X d 110 0 Q (38, [l0, l1, l2, some (.ref a)], st, mem, 0) = pR X d 110 0 Q (39, [l0, l1, l2, some (.ref a)], .ref a :: st, mem, 0) := q_s (.ok (.aload_n 3, 1)) (by decide +kernel) rfl
theorem r110_39 : pR X d 110 0 Q (39, L, st, mem, 0) = pR X d 110 0 Q (40, L, .int (iI (1)) :: st, mem, 0) := q_ic (by decide +kernel)
theorem r110_40 : pR X d 110 0 Q (40, L, .int y2 :: .ref b1 :: .ref b0 :: .ref a :: [], mem, 0) = (prcv mem 2 a ∧ Cw X d 113 [.ref a, .ref b0, .ref b1, .int y2] mem (fun r mem => pR X d 110 0 Q (43, L, r.toList ++ [], mem, 0))) := q_virt (ix := 72) (y2 := 113) (as := [.int y2, .ref b1, .ref b0]) (by decide +kernel) (by decide +kernel) rfl rfl rfl (Nat.le_of_ble_eq_true rfl) (by decide)
theorem r110_43 : pR X d 110 0 Q (43, L, .int x :: st, mem, 0) = ((x = 0 → pR X d 110 0 Q (72, L, st, mem, 0)) ∧ (¬ (x = 0) → pR X d 110 0 Q (46, L, st, mem, 0))) := r_if (c := .eq) (off := 29) (by decide +kernel) (by decide)
theorem r110_46 : pR X d 110 0 Q (46, [some (.ref a), l1, l2, l3], st, mem, 0) = pR X d 110 0 Q (47, [some (.ref a), l1, l2, l3], .ref a :: st, mem, 0) := q_s (.ok (.aload_n 0, 1)) (by decide +kernel) rfl
theorem r110_47 : pR X d 110 0 Q (47, L, st, mem, 0) = pR X d 110 0 Q (49, L, .ref 1010 :: st, mem, 0) := q_ldcs (k := 76) (j := 10) (by decide +kernel) (by decide +kernel) (by decide +kernel)
theorem r110_49 : pR X d 110 0 Q (49, [l0, l1, l2, some (.ref a)], st, mem, 0) = pR X d 110 0 Q (50, [l0, l1, l2, some (.ref a)], .ref a :: st, mem, 0) := q_s (.ok (.aload_n 3, 1)) (by decide +kernel) rfl
theorem r110_50 : pR X d 110 0 Q (50, L, st, mem, 0) = pR X d 110 0 Q (51, L, .int (iI (2)) :: st, mem, 0) := q_ic (by decide +kernel)
theorem r110_51 : pR X d 110 0 Q (51, L, .int y2 :: .ref b1 :: .ref b0 :: .ref a :: [], mem, 0) = (prcv mem 2 a ∧ Cw X d 113 [.ref a, .ref b0, .ref b1, .int y2] mem (fun r mem => pR X d 110 0 Q (54, L, r.toList ++ [], mem, 0))) := q_virt (ix := 72) (y2 := 113) (as := [.int y2, .ref b1, .ref b0]) (by decide +kernel) (by decide +kernel) rfl rfl rfl (Nat.le_of_ble_eq_true rfl) (by decide)
theorem r110_54 : pR X d 110 0 Q (54, L, .int x :: st, mem, 0) = ((x = 0 → pR X d 110 0 Q (72, L, st, mem, 0)) ∧ (¬ (x = 0) → pR X d 110 0 Q (57, L, st, mem, 0))) := r_if (c := .eq) (off := 18) (by decide +kernel) (by decide)
theorem r110_57 : pR X d 110 0 Q (57, [some (.ref a), l1, l2, l3], st, mem, 0) = pR X d 110 0 Q (58, [some (.ref a), l1, l2, l3], .ref a :: st, mem, 0) := q_s (.ok (.aload_n 0, 1)) (by decide +kernel) rfl
theorem r110_58 : pR X d 110 0 Q (58, L, st, mem, 0) = pR X d 110 0 Q (60, L, .ref 1011 :: st, mem, 0) := q_ldcs (k := 78) (j := 11) (by decide +kernel) (by decide +kernel) (by decide +kernel)
theorem r110_60 : pR X d 110 0 Q (60, [l0, l1, l2, some (.ref a)], st, mem, 0) = pR X d 110 0 Q (61, [l0, l1, l2, some (.ref a)], .ref a :: st, mem, 0) := q_s (.ok (.aload_n 3, 1)) (by decide +kernel) rfl
theorem r110_61 : pR X d 110 0 Q (61, L, st, mem, 0) = pR X d 110 0 Q (62, L, .int (iI (3)) :: st, mem, 0) := q_ic (by decide +kernel)
theorem r110_62 : pR X d 110 0 Q (62, L, .int y2 :: .ref b1 :: .ref b0 :: .ref a :: [], mem, 0) = (prcv mem 2 a ∧ Cw X d 113 [.ref a, .ref b0, .ref b1, .int y2] mem (fun r mem => pR X d 110 0 Q (65, L, r.toList ++ [], mem, 0))) := q_virt (ix := 72) (y2 := 113) (as := [.int y2, .ref b1, .ref b0]) (by decide +kernel) (by decide +kernel) rfl rfl rfl (Nat.le_of_ble_eq_true rfl) (by decide)
theorem r110_65 : pR X d 110 0 Q (65, L, .int x :: st, mem, 0) = ((x = 0 → pR X d 110 0 Q (72, L, st, mem, 0)) ∧ (¬ (x = 0) → pR X d 110 0 Q (68, L, st, mem, 0))) := r_if (c := .eq) (off := 7) (by decide +kernel) (by decide)
theorem r110_68 : pR X d 110 0 Q (68, L, st, mem, 0) = pR X d 110 0 Q (69, L, .int (iI (1)) :: st, mem, 0) := q_ic (by decide +kernel)
theorem r110_69 : pR X d 110 0 Q (69, L, st, mem, 0) = pR X d 110 0 Q (73, L, st, mem, 0) := q_s (.ok (.goto (4), 3)) (by decide +kernel) rfl
theorem r110_72 : pR X d 110 0 Q (72, L, st, mem, 0) = pR X d 110 0 Q (73, L, .int (iI (0)) :: st, mem, 0) := q_ic (by decide +kernel)
theorem r110_73 : pR X d 110 0 Q (73, L, [.int x], mem, 0) = (zb .boolean x ∧ Q (some (.int x)) mem) := q_retz (by decide +kernel) rfl (by decide)
theorem r111_0 : pR X d 111 0 Q (0, L, st, mem, 0) = pR X d 111 0 Q (1, L, .int (iI (0)) :: st, mem, 0) := q_ic (by decide +kernel)
theorem r111_1 : pR X d 111 0 Q (1, [l0, l1], .int x :: st, mem, 0) = pR X d 111 0 Q (2, [cl1 l0, some (.int x)], st, mem, 0) := q_s (.ok (.istore_n 1, 1)) (by decide +kernel) rfl
theorem r111_2 : pR X d 111 0 Q (2, [l0, some (.int x)], st, mem, 0) = pR X d 111 0 Q (3, [l0, some (.int x)], .int x :: st, mem, 0) := q_s (.ok (.iload_n 1, 1)) (by decide +kernel) rfl
theorem r111_3 : pR X d 111 0 Q (3, L, st, mem, 0) = pR X d 111 0 Q (5, L, .int (iI (7)) :: st, mem, 0) := q_bi (n := 7) (by decide +kernel) (by decide +kernel)
theorem r111_5 : pR X d 111 0 Q (5, L, .int z :: .int x :: st, mem, 0) = ((z ≤ x → pR X d 111 0 Q (27, L, st, mem, 0)) ∧ (¬ (z ≤ x) → pR X d 111 0 Q (8, L, st, mem, 0))) := r_ic (c := .ge) (off := 22) (by decide +kernel) (by decide)
theorem r111_8 : pR X d 111 0 Q (8, [some (.ref a), l1], st, mem, 0) = pR X d 111 0 Q (9, [some (.ref a), l1], .ref a :: st, mem, 0) := q_s (.ok (.aload_n 0, 1)) (by decide +kernel) rfl
theorem r111_9 : pR X d 111 0 Q (9, [l0, some (.int x)], st, mem, 0) = pR X d 111 0 Q (10, [l0, some (.int x)], .int x :: st, mem, 0) := q_s (.ok (.iload_n 1, 1)) (by decide +kernel) rfl
theorem r111_10 : pR X d 111 0 Q (10, L, .int y0 :: [.ref c0], mem, 0) = Cw X d 112 [.int y0] mem (fun r mem => pR X d 111 0 Q (13, L, r.toList ++ [.ref c0], mem, 0)) := q_stat (ix := 110) (kd := 1) (y2 := 112) (as := [.int y0]) (by decide +kernel) (by decide +kernel) (by decide) rfl rfl rfl (Nat.le_of_ble_eq_true rfl) (by decide)
theorem r111_13 : pR X d 111 0 Q (13, L, .ref b0 :: .ref a :: [], mem, 0) = (prcv mem 2 a ∧ Cw X d 98 [.ref a, .ref b0] mem (fun r mem => pR X d 111 0 Q (16, L, r.toList ++ [], mem, 0))) := q_virt (ix := 36) (y2 := 98) (as := [.ref b0]) (by decide +kernel) (by decide +kernel) rfl rfl rfl (Nat.le_of_ble_eq_true rfl) (by decide)
theorem r111_16 : pR X d 111 0 Q (16, L, .int x :: st, mem, 0) = ((x = 0 → pR X d 111 0 Q (21, L, st, mem, 0)) ∧ (¬ (x = 0) → pR X d 111 0 Q (19, L, st, mem, 0))) := r_if (c := .eq) (off := 5) (by decide +kernel) (by decide)
theorem r111_19 : pR X d 111 0 Q (19, [l0, some (.int x)], st, mem, 0) = pR X d 111 0 Q (20, [l0, some (.int x)], .int x :: st, mem, 0) := q_s (.ok (.iload_n 1, 1)) (by decide +kernel) rfl
theorem r111_20 : pR X d 111 0 Q (20, L, [.int x], mem, 0) = Q (some (.int x)) mem := q_reti (by decide +kernel) rfl
theorem r111_21 : pR X d 111 0 Q (21, [l0, some (.int x)], st, mem, 0) = pR X d 111 0 Q (24, [cl1 l0, some (.int (x + iI (1)))], st, mem, 0) := q_s (.ok (.iinc 1 (1), 3)) (by decide +kernel) rfl
theorem r111_24 : pR X d 111 0 Q (24, L, st, mem, 0) = pR X d 111 0 Q (2, L, st, mem, 0) := q_s (.ok (.goto (-22), 3)) (by decide +kernel) rfl
theorem r111_27 : pR X d 111 0 Q (27, L, st, mem, 0) = pR X d 111 0 Q (28, L, .int (iI (-1)) :: st, mem, 0) := q_ic (by decide +kernel)
theorem r111_28 : pR X d 111 0 Q (28, L, [.int x], mem, 0) = Q (some (.int x)) mem := q_reti (by decide +kernel) rfl
theorem r112_0 : pR X d 112 0 Q (0, [some (.int x)], st, mem, 0) = pR X d 112 0 Q (1, [some (.int x)], .int x :: st, mem, 0) := q_s (.ok (.iload_n 0, 1)) (by decide +kernel) rfl
theorem r112_1 : pR X d 112 0 Q (1, L, .int x :: st, mem, 0) = (((x.toInt < 1 ∨ 6 < x.toInt) → pR X d 112 0 Q (58, L, st, mem, 0)) ∧ (x.toInt = 1 → pR X d 112 0 Q (40, L, st, mem, 0)) ∧ (x.toInt = 2 → pR X d 112 0 Q (43, L, st, mem, 0)) ∧ (x.toInt = 3 → pR X d 112 0 Q (46, L, st, mem, 0)) ∧ (x.toInt = 4 → pR X d 112 0 Q (49, L, st, mem, 0)) ∧ (x.toInt = 5 → pR X d 112 0 Q (52, L, st, mem, 0)) ∧ (x.toInt = 6 → pR X d 112 0 Q (55, L, st, mem, 0)) ∧ True) := q_tsl (dflt := 57) (lo := 1) (hi := 6) (offs := #[39, 42, 45, 48, 51, 54]) (ll := 39) (by decide +kernel) (by decide) (by decide) (by decide)
theorem r112_40 : pR X d 112 0 Q (40, L, st, mem, 0) = pR X d 112 0 Q (42, L, .ref 1002 :: st, mem, 0) := q_ldcs (k := 114) (j := 2) (by decide +kernel) (by decide +kernel) (by decide +kernel)
theorem r112_42 : pR X d 112 0 Q (42, L, [.ref a], mem, 0) = Q (some (.ref a)) mem := q_reta (by decide +kernel) rfl
theorem r112_43 : pR X d 112 0 Q (43, L, st, mem, 0) = pR X d 112 0 Q (45, L, .ref 1003 :: st, mem, 0) := q_ldcs (k := 116) (j := 3) (by decide +kernel) (by decide +kernel) (by decide +kernel)
theorem r112_45 : pR X d 112 0 Q (45, L, [.ref a], mem, 0) = Q (some (.ref a)) mem := q_reta (by decide +kernel) rfl
theorem r112_46 : pR X d 112 0 Q (46, L, st, mem, 0) = pR X d 112 0 Q (48, L, .ref 1004 :: st, mem, 0) := q_ldcs (k := 118) (j := 4) (by decide +kernel) (by decide +kernel) (by decide +kernel)
theorem r112_48 : pR X d 112 0 Q (48, L, [.ref a], mem, 0) = Q (some (.ref a)) mem := q_reta (by decide +kernel) rfl
theorem r112_49 : pR X d 112 0 Q (49, L, st, mem, 0) = pR X d 112 0 Q (51, L, .ref 1005 :: st, mem, 0) := q_ldcs (k := 120) (j := 5) (by decide +kernel) (by decide +kernel) (by decide +kernel)
theorem r112_51 : pR X d 112 0 Q (51, L, [.ref a], mem, 0) = Q (some (.ref a)) mem := q_reta (by decide +kernel) rfl
theorem r112_52 : pR X d 112 0 Q (52, L, st, mem, 0) = pR X d 112 0 Q (54, L, .ref 1006 :: st, mem, 0) := q_ldcs (k := 122) (j := 6) (by decide +kernel) (by decide +kernel) (by decide +kernel)
theorem r112_54 : pR X d 112 0 Q (54, L, [.ref a], mem, 0) = Q (some (.ref a)) mem := q_reta (by decide +kernel) rfl
theorem r112_55 : pR X d 112 0 Q (55, L, st, mem, 0) = pR X d 112 0 Q (57, L, .ref 1007 :: st, mem, 0) := q_ldcs (k := 124) (j := 7) (by decide +kernel) (by decide +kernel) (by decide +kernel)
theorem r112_57 : pR X d 112 0 Q (57, L, [.ref a], mem, 0) = Q (some (.ref a)) mem := q_reta (by decide +kernel) rfl
theorem r112_58 : pR X d 112 0 Q (58, L, st, mem, 0) = pR X d 112 0 Q (60, L, .ref 1008 :: st, mem, 0) := q_ldcs (k := 126) (j := 8) (by decide +kernel) (by decide +kernel) (by decide +kernel)
theorem r112_60 : pR X d 112 0 Q (60, L, [.ref a], mem, 0) = Q (some (.ref a)) mem := q_reta (by decide +kernel) rfl
theorem r113_0 : pR X d 113 0 Q (0, [some (.ref a), l1, l2, l3], st, mem, 0) = pR X d 113 0 Q (1, [some (.ref a), l1, l2, l3], .ref a :: st, mem, 0) := q_s (.ok (.aload_n 0, 1)) (by decide +kernel) rfl
theorem r113_1 : pR X d 113 0 Q (1, [l0, some (.ref a), l2, l3], st, mem, 0) = pR X d 113 0 Q (2, [l0, some (.ref a), l2, l3], .ref a :: st, mem, 0) := q_s (.ok (.aload_n 1, 1)) (by decide +kernel) rfl
theorem r113_2 : pR X d 113 0 Q (2, L, .ref b0 :: .ref a :: [], mem, 0) = (prcv mem 2 a ∧ Cw X d 98 [.ref a, .ref b0] mem (fun r mem => pR X d 113 0 Q (5, L, r.toList ++ [], mem, 0))) := q_virt (ix := 36) (y2 := 98) (as := [.ref b0]) (by decide +kernel) (by decide +kernel) rfl rfl rfl (Nat.le_of_ble_eq_true rfl) (by decide)
theorem r113_5 : pR X d 113 0 Q (5, L, .int x :: st, mem, 0) = ((¬ x = 0 → pR X d 113 0 Q (10, L, st, mem, 0)) ∧ (¬ (¬ x = 0) → pR X d 113 0 Q (8, L, st, mem, 0))) := r_if (c := .ne) (off := 5) (by decide +kernel) (by decide)
theorem r113_8 : pR X d 113 0 Q (8, L, st, mem, 0) = pR X d 113 0 Q (9, L, .int (iI (1)) :: st, mem, 0) := q_ic (by decide +kernel)
theorem r113_9 : pR X d 113 0 Q (9, L, [.int x], mem, 0) = (zb .boolean x ∧ Q (some (.int x)) mem) := q_retz (by decide +kernel) rfl (by decide)
theorem r113_10 : pR X d 113 0 Q (10, [some (.ref a), l1, l2, l3], st, mem, 0) = pR X d 113 0 Q (11, [some (.ref a), l1, l2, l3], .ref a :: st, mem, 0) := q_s (.ok (.aload_n 0, 1)) (by decide +kernel) rfl
theorem r113_11 : pR X d 113 0 Q (11, L, .ref a :: [], mem, 0) = (prcv mem 2 a ∧ Cw X d 94 [.ref a] mem (fun r mem => pR X d 113 0 Q (14, L, r.toList ++ [], mem, 0))) := q_virt (ix := 31) (y2 := 94) (as := []) (by decide +kernel) (by decide +kernel) rfl rfl rfl (Nat.le_of_ble_eq_true rfl) (by decide)
theorem r113_14 : pR X d 113 0 Q (14, [some (.ref a), l1, l2, l3], st, mem, 0) = pR X d 113 0 Q (15, [some (.ref a), l1, l2, l3], .ref a :: st, mem, 0) := q_s (.ok (.aload_n 0, 1)) (by decide +kernel) rfl
theorem r113_15 : pR X d 113 0 Q (15, L, st, mem, 0) = pR X d 113 0 Q (16, L, .int (iI (0)) :: st, mem, 0) := q_ic (by decide +kernel)
theorem r113_16 : pR X d 113 0 Q (16, [l0, l1, l2, some (.int x)], st, mem, 0) = pR X d 113 0 Q (17, [l0, l1, l2, some (.int x)], .int x :: st, mem, 0) := q_s (.ok (.iload_n 3, 1)) (by decide +kernel) rfl
theorem r113_17 : pR X d 113 0 Q (17, L, .int y0 :: [.int k0, .ref c1], mem, 0) = Cw X d 28 [.int y0] mem (fun r mem => pR X d 113 0 Q (20, L, r.toList ++ [.int k0, .ref c1], mem, 0)) := q_stat (ix := 80) (kd := 2) (y2 := 28) (as := [.int y0]) (by decide +kernel) (by decide +kernel) (by decide) rfl rfl rfl (Nat.le_of_ble_eq_true rfl) (by decide)
theorem r113_20 : pR X d 113 0 Q (20, L, .int y1 :: .int y0 :: .ref a :: [], mem, 0) = (prcv mem 2 a ∧ Cw X d 108 [.ref a, .int y0, .int y1] mem (fun r mem => pR X d 113 0 Q (23, L, r.toList ++ [], mem, 0))) := q_virt (ix := 84) (y2 := 108) (as := [.int y1, .int y0]) (by decide +kernel) (by decide +kernel) rfl rfl rfl (Nat.le_of_ble_eq_true rfl) (by decide)
theorem r113_23 : pR X d 113 0 Q (23, L, .int x :: st, mem, 0) = ((¬ x = 0 → pR X d 113 0 Q (28, L, st, mem, 0)) ∧ (¬ (¬ x = 0) → pR X d 113 0 Q (26, L, st, mem, 0))) := r_if (c := .ne) (off := 5) (by decide +kernel) (by decide)
theorem r113_26 : pR X d 113 0 Q (26, L, st, mem, 0) = pR X d 113 0 Q (27, L, .int (iI (0)) :: st, mem, 0) := q_ic (by decide +kernel)
theorem r113_27 : pR X d 113 0 Q (27, L, [.int x], mem, 0) = (zb .boolean x ∧ Q (some (.int x)) mem) := q_retz (by decide +kernel) rfl (by decide)
theorem r113_28 : pR X d 113 0 Q (28, [l0, l1, some (.ref a), l3], st, mem, 0) = pR X d 113 0 Q (29, [l0, l1, some (.ref a), l3], .ref a :: st, mem, 0) := q_s (.ok (.aload_n 2, 1)) (by decide +kernel) rfl
theorem r113_29 : pR X d 113 0 Q (29, [l0, l1, l2, some (.int x)], st, mem, 0) = pR X d 113 0 Q (30, [l0, l1, l2, some (.int x)], .int x :: st, mem, 0) := q_s (.ok (.iload_n 3, 1)) (by decide +kernel) rfl
theorem r113_30 : pR X d 113 0 Q (30, [some (.ref a), l1, l2, l3], st, mem, 0) = pR X d 113 0 Q (31, [some (.ref a), l1, l2, l3], .ref a :: st, mem, 0) := q_s (.ok (.aload_n 0, 1)) (by decide +kernel) rfl
theorem r113_31 : pR X d 113 0 Q (31, L, .ref a :: st, mem, 0) = gf mem a 2 5 (fun p => pR X d 113 0 Q (34, L, p :: st, mem, 0)) := q_get (ix := 28) (by decide +kernel) (by decide +kernel)
theorem r113_34 : pR X d 113 0 Q (34, L, .int y1 :: .int y0 :: .ref a :: [], mem, 0) = (prcv mem 0 a ∧ Cw X d 29 [.ref a, .int y0, .int y1] mem (fun r mem => pR X d 113 0 Q (37, L, r.toList ++ [], mem, 0))) := q_virt (ix := 88) (y2 := 29) (as := [.int y1, .int y0]) (by decide +kernel) (by decide +kernel) rfl rfl rfl (Nat.le_of_ble_eq_true rfl) (by decide)
theorem r113_37 : pR X d 113 0 Q (37, [some (.ref a), l1, l2, l3], st, mem, 0) = pR X d 113 0 Q (38, [some (.ref a), l1, l2, l3], .ref a :: st, mem, 0) := q_s (.ok (.aload_n 0, 1)) (by decide +kernel) rfl
theorem r113_38 : pR X d 113 0 Q (38, L, .ref a :: [], mem, 0) = (prcv mem 2 a ∧ Cw X d 94 [.ref a] mem (fun r mem => pR X d 113 0 Q (41, L, r.toList ++ [], mem, 0))) := q_virt (ix := 31) (y2 := 94) (as := []) (by decide +kernel) (by decide +kernel) rfl rfl rfl (Nat.le_of_ble_eq_true rfl) (by decide)
theorem r113_41 : pR X d 113 0 Q (41, L, st, mem, 0) = pR X d 113 0 Q (42, L, .int (iI (1)) :: st, mem, 0) := q_ic (by decide +kernel)
theorem r113_42 : pR X d 113 0 Q (42, L, [.int x], mem, 0) = (zb .boolean x ∧ Q (some (.int x)) mem) := q_retz (by decide +kernel) rfl (by decide)
end

section
variable {X : pXX} {d lim u : Nat} {Q : Option Value → List pME → Prop} {L : List (Option Value)} {st : List Value} {mem : List pME} {x z z1 z2 z3 y0 y1 y2 y3 y4 k0 k1 k2 k3 k4 k5 k6 : Int32} {v w v0 v1 v2 w0 w1 w2 : Int64} {a b b0 b1 b2 b3 c0 c1 c2 c3 c4 c5 : Nat} {p : Value} {l0 l1 l2 l3 l4 l5 l6 l7 l8 l9 : Option Value}
theorem r220_0 : pR X d 220 0 Q (0, [l0, some (.int x), l2, l3, l4, l5, l6], st, mem, 0) = pR X d 220 0 Q (1, [l0, some (.int x), l2, l3, l4, l5, l6], .int x :: st, mem, 0) := q_s (.ok (.iload_n 1, 1)) (by decide +kernel) rfl
theorem r220_1 : pR X d 220 0 Q (1, L, .int y0 :: [], mem, 0) = Cw X d 189 [.int y0] mem (fun r mem => pR X d 220 0 Q (4, L, r.toList ++ [], mem, 0)) := q_stat (ix := 300) (kd := 1) (y2 := 189) (as := [.int y0]) (by decide +kernel) (by decide +kernel) (by decide) rfl rfl rfl (Nat.le_of_ble_eq_true rfl) (by decide)
theorem r220_4 : pR X d 220 0 Q (4, L, .int x :: st, mem, 0) = ((x = 0 → pR X d 220 0 Q (14, L, st, mem, 0)) ∧ (¬ (x = 0) → pR X d 220 0 Q (7, L, st, mem, 0))) := r_if (c := .eq) (off := 10) (by decide +kernel) (by decide)
theorem r220_7 : pR X d 220 0 Q (7, [l0, l1, l2, some (.int x), l4, l5, l6], st, mem, 0) = pR X d 220 0 Q (8, [l0, l1, l2, some (.int x), l4, l5, l6], .int x :: st, mem, 0) := q_s (.ok (.iload_n 3, 1)) (by decide +kernel) rfl
theorem r220_8 : pR X d 220 0 Q (8, L, .int y0 :: [], mem, 0) = Cw X d 189 [.int y0] mem (fun r mem => pR X d 220 0 Q (11, L, r.toList ++ [], mem, 0)) := q_stat (ix := 300) (kd := 1) (y2 := 189) (as := [.int y0]) (by decide +kernel) (by decide +kernel) (by decide) rfl rfl rfl (Nat.le_of_ble_eq_true rfl) (by decide)
theorem r220_11 : pR X d 220 0 Q (11, L, .int x :: st, mem, 0) = ((¬ x = 0 → pR X d 220 0 Q (20, L, st, mem, 0)) ∧ (¬ (¬ x = 0) → pR X d 220 0 Q (14, L, st, mem, 0))) := r_if (c := .ne) (off := 9) (by decide +kernel) (by decide)
theorem r220_14 : pR X d 220 0 Q (14, [some (.ref a), l1, l2, l3, l4, l5, l6], st, mem, 0) = pR X d 220 0 Q (15, [some (.ref a), l1, l2, l3, l4, l5, l6], .ref a :: st, mem, 0) := q_s (.ok (.aload_n 0, 1)) (by decide +kernel) rfl
theorem r220_15 : pR X d 220 0 Q (15, L, st, mem, 0) = pR X d 220 0 Q (16, L, .int (iI (0)) :: st, mem, 0) := q_ic (by decide +kernel)
theorem r220_16 : pR X d 220 0 Q (16, L, .int y0 :: .ref a :: [], mem, 0) = (prcv mem 5 a ∧ Cw X d 137 [.ref a, .int y0] mem (fun r mem => pR X d 220 0 Q (19, L, r.toList ++ [], mem, 0))) := q_virt (ix := 106) (y2 := 137) (as := [.int y0]) (by decide +kernel) (by decide +kernel) rfl rfl rfl (Nat.le_of_ble_eq_true rfl) (by decide)
theorem r220_19 : pR X d 220 0 Q (19, L, [.int x], mem, 0) = Q (some (.int x)) mem := q_reti (by decide +kernel) rfl
theorem r220_20 : pR X d 220 0 Q (20, [some (.ref a), l1, l2, l3, l4, l5, l6], st, mem, 0) = pR X d 220 0 Q (21, [some (.ref a), l1, l2, l3, l4, l5, l6], .ref a :: st, mem, 0) := q_s (.ok (.aload_n 0, 1)) (by decide +kernel) rfl
theorem r220_21 : pR X d 220 0 Q (21, L, .ref a :: st, mem, 0) = gf mem a 5 14 (fun p => pR X d 220 0 Q (24, L, p :: st, mem, 0)) := q_get (ix := 29) (by decide +kernel) (by decide +kernel)
theorem r220_24 : pR X d 220 0 Q (24, [l0, some (.int x), l2, l3, l4, l5, l6], st, mem, 0) = pR X d 220 0 Q (25, [l0, some (.int x), l2, l3, l4, l5, l6], .int x :: st, mem, 0) := q_s (.ok (.iload_n 1, 1)) (by decide +kernel) rfl
theorem r220_25 : pR X d 220 0 Q (25, L, .int x :: .ref a :: st, mem, 0) = ri X mem a x (fun z => pR X d 220 0 Q (26, L, .int z :: st, mem, 0)) := q_ri (by decide +kernel)
theorem r220_26 : pR X d 220 0 Q (26, L, .int x :: st, mem, 0) = ((x = 0 → pR X d 220 0 Q (38, L, st, mem, 0)) ∧ (¬ (x = 0) → pR X d 220 0 Q (29, L, st, mem, 0))) := r_if (c := .eq) (off := 12) (by decide +kernel) (by decide)
theorem r220_29 : pR X d 220 0 Q (29, [some (.ref a), l1, l2, l3, l4, l5, l6], st, mem, 0) = pR X d 220 0 Q (30, [some (.ref a), l1, l2, l3, l4, l5, l6], .ref a :: st, mem, 0) := q_s (.ok (.aload_n 0, 1)) (by decide +kernel) rfl
theorem r220_30 : pR X d 220 0 Q (30, L, .ref a :: st, mem, 0) = gf mem a 5 14 (fun p => pR X d 220 0 Q (33, L, p :: st, mem, 0)) := q_get (ix := 29) (by decide +kernel) (by decide +kernel)
theorem r220_33 : pR X d 220 0 Q (33, [l0, l1, l2, some (.int x), l4, l5, l6], st, mem, 0) = pR X d 220 0 Q (34, [l0, l1, l2, some (.int x), l4, l5, l6], .int x :: st, mem, 0) := q_s (.ok (.iload_n 3, 1)) (by decide +kernel) rfl
theorem r220_34 : pR X d 220 0 Q (34, L, .int x :: .ref a :: st, mem, 0) = ri X mem a x (fun z => pR X d 220 0 Q (35, L, .int z :: st, mem, 0)) := q_ri (by decide +kernel)
theorem r220_35 : pR X d 220 0 Q (35, L, .int x :: st, mem, 0) = ((¬ x = 0 → pR X d 220 0 Q (44, L, st, mem, 0)) ∧ (¬ (¬ x = 0) → pR X d 220 0 Q (38, L, st, mem, 0))) := r_if (c := .ne) (off := 9) (by decide +kernel) (by decide)
theorem r220_38 : pR X d 220 0 Q (38, [some (.ref a), l1, l2, l3, l4, l5, l6], st, mem, 0) = pR X d 220 0 Q (39, [some (.ref a), l1, l2, l3, l4, l5, l6], .ref a :: st, mem, 0) := q_s (.ok (.aload_n 0, 1)) (by decide +kernel) rfl
theorem r220_39 : pR X d 220 0 Q (39, L, st, mem, 0) = pR X d 220 0 Q (40, L, .int (iI (5)) :: st, mem, 0) := q_ic (by decide +kernel)
theorem r220_40 : pR X d 220 0 Q (40, L, .int y0 :: .ref a :: [], mem, 0) = (prcv mem 5 a ∧ Cw X d 137 [.ref a, .int y0] mem (fun r mem => pR X d 220 0 Q (43, L, r.toList ++ [], mem, 0))) := q_virt (ix := 106) (y2 := 137) (as := [.int y0]) (by decide +kernel) (by decide +kernel) rfl rfl rfl (Nat.le_of_ble_eq_true rfl) (by decide)
theorem r220_43 : pR X d 220 0 Q (43, L, [.int x], mem, 0) = Q (some (.int x)) mem := q_reti (by decide +kernel) rfl
theorem r220_44 : pR X d 220 0 Q (44, [some (.ref a), l1, l2, l3, l4, l5, l6], st, mem, 0) = pR X d 220 0 Q (45, [some (.ref a), l1, l2, l3, l4, l5, l6], .ref a :: st, mem, 0) := q_s (.ok (.aload_n 0, 1)) (by decide +kernel) rfl
theorem r220_45 : pR X d 220 0 Q (45, L, .ref a :: st, mem, 0) = gf mem a 5 14 (fun p => pR X d 220 0 Q (48, L, p :: st, mem, 0)) := q_get (ix := 29) (by decide +kernel) (by decide +kernel)
theorem r220_48 : pR X d 220 0 Q (48, [l0, some (.int x), l2, l3, l4, l5, l6], st, mem, 0) = pR X d 220 0 Q (49, [l0, some (.int x), l2, l3, l4, l5, l6], .int x :: st, mem, 0) := q_s (.ok (.iload_n 1, 1)) (by decide +kernel) rfl
theorem r220_49 : pR X d 220 0 Q (49, L, .int x :: .ref a :: st, mem, 0) = ri X mem a x (fun z => pR X d 220 0 Q (50, L, .int z :: st, mem, 0)) := q_ri (by decide +kernel)
theorem r220_50 : pR X d 220 0 Q (50, [some (.ref a), l1, l2, l3, l4, l5, l6], st, mem, 0) = pR X d 220 0 Q (51, [some (.ref a), l1, l2, l3, l4, l5, l6], .ref a :: st, mem, 0) := q_s (.ok (.aload_n 0, 1)) (by decide +kernel) rfl
theorem r220_51 : pR X d 220 0 Q (51, L, .ref a :: st, mem, 0) = gf mem a 5 14 (fun p => pR X d 220 0 Q (54, L, p :: st, mem, 0)) := q_get (ix := 29) (by decide +kernel) (by decide +kernel)
theorem r220_54 : pR X d 220 0 Q (54, [l0, l1, l2, some (.int x), l4, l5, l6], st, mem, 0) = pR X d 220 0 Q (55, [l0, l1, l2, some (.int x), l4, l5, l6], .int x :: st, mem, 0) := q_s (.ok (.iload_n 3, 1)) (by decide +kernel) rfl
theorem r220_55 : pR X d 220 0 Q (55, L, .int x :: .ref a :: st, mem, 0) = ri X mem a x (fun z => pR X d 220 0 Q (56, L, .int z :: st, mem, 0)) := q_ri (by decide +kernel)
theorem r220_56 : pR X d 220 0 Q (56, L, .int z :: .int x :: st, mem, 0) = ((x = z → pR X d 220 0 Q (65, L, st, mem, 0)) ∧ (¬ (x = z) → pR X d 220 0 Q (59, L, st, mem, 0))) := r_ic (c := .eq) (off := 9) (by decide +kernel) (by decide)
theorem r220_59 : pR X d 220 0 Q (59, [some (.ref a), l1, l2, l3, l4, l5, l6], st, mem, 0) = pR X d 220 0 Q (60, [some (.ref a), l1, l2, l3, l4, l5, l6], .ref a :: st, mem, 0) := q_s (.ok (.aload_n 0, 1)) (by decide +kernel) rfl
theorem r220_60 : pR X d 220 0 Q (60, L, st, mem, 0) = pR X d 220 0 Q (61, L, .int (iI (2)) :: st, mem, 0) := q_ic (by decide +kernel)
theorem r220_61 : pR X d 220 0 Q (61, L, .int y0 :: .ref a :: [], mem, 0) = (prcv mem 5 a ∧ Cw X d 137 [.ref a, .int y0] mem (fun r mem => pR X d 220 0 Q (64, L, r.toList ++ [], mem, 0))) := q_virt (ix := 106) (y2 := 137) (as := [.int y0]) (by decide +kernel) (by decide +kernel) rfl rfl rfl (Nat.le_of_ble_eq_true rfl) (by decide)
theorem r220_64 : pR X d 220 0 Q (64, L, [.int x], mem, 0) = Q (some (.int x)) mem := q_reti (by decide +kernel) rfl
theorem r220_65 : pR X d 220 0 Q (65, [l0, l1, some (.int x), l3, l4, l5, l6], st, mem, 0) = pR X d 220 0 Q (66, [l0, l1, some (.int x), l3, l4, l5, l6], .int x :: st, mem, 0) := q_s (.ok (.iload_n 2, 1)) (by decide +kernel) rfl
theorem r220_66 : pR X d 220 0 Q (66, L, .int x :: st, mem, 0) = ((x < 0 → pR X d 220 0 Q (114, L, st, mem, 0)) ∧ (¬ (x < 0) → pR X d 220 0 Q (69, L, st, mem, 0))) := r_if (c := .lt) (off := 48) (by decide +kernel) (by decide)
theorem r220_69 : pR X d 220 0 Q (69, [l0, l1, l2, l3, some (.int x), l5, l6], st, mem, 0) = pR X d 220 0 Q (71, [l0, l1, l2, l3, some (.int x), l5, l6], .int x :: st, mem, 0) := q_s (.ok (.iload 4, 2)) (by decide +kernel) rfl
theorem r220_71 : pR X d 220 0 Q (71, L, .int x :: st, mem, 0) = ((x < 0 → pR X d 220 0 Q (114, L, st, mem, 0)) ∧ (¬ (x < 0) → pR X d 220 0 Q (74, L, st, mem, 0))) := r_if (c := .lt) (off := 43) (by decide +kernel) (by decide)
theorem r220_74 : pR X d 220 0 Q (74, [l0, l1, l2, l3, l4, some (.int x), l6], st, mem, 0) = pR X d 220 0 Q (76, [l0, l1, l2, l3, l4, some (.int x), l6], .int x :: st, mem, 0) := q_s (.ok (.iload 5, 2)) (by decide +kernel) rfl
theorem r220_76 : pR X d 220 0 Q (76, L, .int x :: st, mem, 0) = ((x < 0 → pR X d 220 0 Q (114, L, st, mem, 0)) ∧ (¬ (x < 0) → pR X d 220 0 Q (79, L, st, mem, 0))) := r_if (c := .lt) (off := 38) (by decide +kernel) (by decide)
theorem r220_79 : pR X d 220 0 Q (79, [l0, l1, some (.int x), l3, l4, l5, l6], st, mem, 0) = pR X d 220 0 Q (80, [l0, l1, some (.int x), l3, l4, l5, l6], .int x :: st, mem, 0) := q_s (.ok (.iload_n 2, 1)) (by decide +kernel) rfl
theorem r220_80 : pR X d 220 0 Q (80, L, .int x :: st, mem, 0) = pR X d 220 0 Q (81, L, .long x.toInt64 :: st, mem, 0) := q_s (.ok (.i2l, 1)) (by decide +kernel) rfl
theorem r220_81 : pR X d 220 0 Q (81, [l0, l1, l2, l3, l4, some (.int x), l6], st, mem, 0) = pR X d 220 0 Q (83, [l0, l1, l2, l3, l4, some (.int x), l6], .int x :: st, mem, 0) := q_s (.ok (.iload 5, 2)) (by decide +kernel) rfl
theorem r220_83 : pR X d 220 0 Q (83, L, .int x :: st, mem, 0) = pR X d 220 0 Q (84, L, .long x.toInt64 :: st, mem, 0) := q_s (.ok (.i2l, 1)) (by decide +kernel) rfl
theorem r220_84 : pR X d 220 0 Q (84, L, .long w :: .long v :: st, mem, 0) = pR X d 220 0 Q (85, L, .long (v + w) :: st, mem, 0) := q_s (.ok (.ladd, 1)) (by decide +kernel) rfl
theorem r220_85 : pR X d 220 0 Q (85, [some (.ref a), l1, l2, l3, l4, l5, l6], st, mem, 0) = pR X d 220 0 Q (86, [some (.ref a), l1, l2, l3, l4, l5, l6], .ref a :: st, mem, 0) := q_s (.ok (.aload_n 0, 1)) (by decide +kernel) rfl
theorem r220_86 : pR X d 220 0 Q (86, L, .ref a :: st, mem, 0) = gf mem a 5 15 (fun p => pR X d 220 0 Q (89, L, p :: st, mem, 0)) := q_get (ix := 32) (by decide +kernel) (by decide +kernel)
theorem r220_89 : pR X d 220 0 Q (89, [l0, some (.int x), l2, l3, l4, l5, l6], st, mem, 0) = pR X d 220 0 Q (90, [l0, some (.int x), l2, l3, l4, l5, l6], .int x :: st, mem, 0) := q_s (.ok (.iload_n 1, 1)) (by decide +kernel) rfl
theorem r220_90 : pR X d 220 0 Q (90, L, .int x :: .ref a :: st, mem, 0) = ri X mem a x (fun z => pR X d 220 0 Q (91, L, .int z :: st, mem, 0)) := q_ri (by decide +kernel)
theorem r220_91 : pR X d 220 0 Q (91, L, .int x :: st, mem, 0) = pR X d 220 0 Q (92, L, .long x.toInt64 :: st, mem, 0) := q_s (.ok (.i2l, 1)) (by decide +kernel) rfl
theorem r220_92 : pR X d 220 0 Q (92, L, .long w :: .long v :: st, mem, 0) = pR X d 220 0 Q (93, L, .int (lg_cmp v w) :: st, mem, 0) := q_s (.ok (.lcmp, 1)) (by decide +kernel) rfl
theorem r220_93 : pR X d 220 0 Q (93, L, .int x :: st, mem, 0) = ((0 < x → pR X d 220 0 Q (114, L, st, mem, 0)) ∧ (¬ (0 < x) → pR X d 220 0 Q (96, L, st, mem, 0))) := r_if (c := .gt) (off := 21) (by decide +kernel) (by decide)
theorem r220_96 : pR X d 220 0 Q (96, [l0, l1, l2, l3, some (.int x), l5, l6], st, mem, 0) = pR X d 220 0 Q (98, [l0, l1, l2, l3, some (.int x), l5, l6], .int x :: st, mem, 0) := q_s (.ok (.iload 4, 2)) (by decide +kernel) rfl
theorem r220_98 : pR X d 220 0 Q (98, L, .int x :: st, mem, 0) = pR X d 220 0 Q (99, L, .long x.toInt64 :: st, mem, 0) := q_s (.ok (.i2l, 1)) (by decide +kernel) rfl
theorem r220_99 : pR X d 220 0 Q (99, [l0, l1, l2, l3, l4, some (.int x), l6], st, mem, 0) = pR X d 220 0 Q (101, [l0, l1, l2, l3, l4, some (.int x), l6], .int x :: st, mem, 0) := q_s (.ok (.iload 5, 2)) (by decide +kernel) rfl
theorem r220_101 : pR X d 220 0 Q (101, L, .int x :: st, mem, 0) = pR X d 220 0 Q (102, L, .long x.toInt64 :: st, mem, 0) := q_s (.ok (.i2l, 1)) (by decide +kernel) rfl
theorem r220_102 : pR X d 220 0 Q (102, L, .long w :: .long v :: st, mem, 0) = pR X d 220 0 Q (103, L, .long (v + w) :: st, mem, 0) := q_s (.ok (.ladd, 1)) (by decide +kernel) rfl
theorem r220_103 : pR X d 220 0 Q (103, [some (.ref a), l1, l2, l3, l4, l5, l6], st, mem, 0) = pR X d 220 0 Q (104, [some (.ref a), l1, l2, l3, l4, l5, l6], .ref a :: st, mem, 0) := q_s (.ok (.aload_n 0, 1)) (by decide +kernel) rfl
theorem r220_104 : pR X d 220 0 Q (104, L, .ref a :: st, mem, 0) = gf mem a 5 15 (fun p => pR X d 220 0 Q (107, L, p :: st, mem, 0)) := q_get (ix := 32) (by decide +kernel) (by decide +kernel)
theorem r220_107 : pR X d 220 0 Q (107, [l0, l1, l2, some (.int x), l4, l5, l6], st, mem, 0) = pR X d 220 0 Q (108, [l0, l1, l2, some (.int x), l4, l5, l6], .int x :: st, mem, 0) := q_s (.ok (.iload_n 3, 1)) (by decide +kernel) rfl
theorem r220_108 : pR X d 220 0 Q (108, L, .int x :: .ref a :: st, mem, 0) = ri X mem a x (fun z => pR X d 220 0 Q (109, L, .int z :: st, mem, 0)) := q_ri (by decide +kernel)
theorem r220_109 : pR X d 220 0 Q (109, L, .int x :: st, mem, 0) = pR X d 220 0 Q (110, L, .long x.toInt64 :: st, mem, 0) := q_s (.ok (.i2l, 1)) (by decide +kernel) rfl
theorem r220_110 : pR X d 220 0 Q (110, L, .long w :: .long v :: st, mem, 0) = pR X d 220 0 Q (111, L, .int (lg_cmp v w) :: st, mem, 0) := q_s (.ok (.lcmp, 1)) (by decide +kernel) rfl
theorem r220_111 : pR X d 220 0 Q (111, L, .int x :: st, mem, 0) = ((x ≤ 0 → pR X d 220 0 Q (120, L, st, mem, 0)) ∧ (¬ (x ≤ 0) → pR X d 220 0 Q (114, L, st, mem, 0))) := r_if (c := .le) (off := 9) (by decide +kernel) (by decide)
theorem r220_114 : pR X d 220 0 Q (114, [some (.ref a), l1, l2, l3, l4, l5, l6], st, mem, 0) = pR X d 220 0 Q (115, [some (.ref a), l1, l2, l3, l4, l5, l6], .ref a :: st, mem, 0) := q_s (.ok (.aload_n 0, 1)) (by decide +kernel) rfl
theorem r220_115 : pR X d 220 0 Q (115, L, st, mem, 0) = pR X d 220 0 Q (116, L, .int (iI (0)) :: st, mem, 0) := q_ic (by decide +kernel)
theorem r220_116 : pR X d 220 0 Q (116, L, .int y0 :: .ref a :: [], mem, 0) = (prcv mem 5 a ∧ Cw X d 137 [.ref a, .int y0] mem (fun r mem => pR X d 220 0 Q (119, L, r.toList ++ [], mem, 0))) := q_virt (ix := 106) (y2 := 137) (as := [.int y0]) (by decide +kernel) (by decide +kernel) rfl rfl rfl (Nat.le_of_ble_eq_true rfl) (by decide)
theorem r220_119 : pR X d 220 0 Q (119, L, [.int x], mem, 0) = Q (some (.int x)) mem := q_reti (by decide +kernel) rfl
theorem r220_120 : pR X d 220 0 Q (120, L, st, mem, 0) = pR X d 220 0 Q (121, L, .int (iI (0)) :: st, mem, 0) := q_ic (by decide +kernel)
theorem r220_121 : pR X d 220 0 Q (121, [l0, l1, l2, l3, l4, l5, l6], .int x :: st, mem, 0) = pR X d 220 0 Q (123, [l0, l1, l2, l3, l4, cl1 l5, some (.int x)], st, mem, 0) := q_s (.ok (.istore 6, 2)) (by decide +kernel) rfl
theorem r220_123 : pR X d 220 0 Q (123, [l0, l1, l2, l3, l4, l5, some (.int x)], st, mem, 0) = pR X d 220 0 Q (125, [l0, l1, l2, l3, l4, l5, some (.int x)], .int x :: st, mem, 0) := q_s (.ok (.iload 6, 2)) (by decide +kernel) rfl
theorem r220_125 : pR X d 220 0 Q (125, [l0, l1, l2, l3, l4, some (.int x), l6], st, mem, 0) = pR X d 220 0 Q (127, [l0, l1, l2, l3, l4, some (.int x), l6], .int x :: st, mem, 0) := q_s (.ok (.iload 5, 2)) (by decide +kernel) rfl
theorem r220_127 : pR X d 220 0 Q (127, L, .int z :: .int x :: st, mem, 0) = ((z ≤ x → pR X d 220 0 Q (157, L, st, mem, 0)) ∧ (¬ (z ≤ x) → pR X d 220 0 Q (130, L, st, mem, 0))) := r_ic (c := .ge) (off := 30) (by decide +kernel) (by decide)
theorem r220_130 : pR X d 220 0 Q (130, [some (.ref a), l1, l2, l3, l4, l5, l6], st, mem, 0) = pR X d 220 0 Q (131, [some (.ref a), l1, l2, l3, l4, l5, l6], .ref a :: st, mem, 0) := q_s (.ok (.aload_n 0, 1)) (by decide +kernel) rfl
theorem r220_131 : pR X d 220 0 Q (131, L, .ref a :: st, mem, 0) = gf mem a 5 17 (fun p => pR X d 220 0 Q (134, L, p :: st, mem, 0)) := q_get (ix := 38) (by decide +kernel) (by decide +kernel)
theorem r220_134 : pR X d 220 0 Q (134, [l0, l1, l2, l3, l4, l5, some (.int x)], st, mem, 0) = pR X d 220 0 Q (136, [l0, l1, l2, l3, l4, l5, some (.int x)], .int x :: st, mem, 0) := q_s (.ok (.iload 6, 2)) (by decide +kernel) rfl
theorem r220_136 : pR X d 220 0 Q (136, [some (.ref a), l1, l2, l3, l4, l5, l6], st, mem, 0) = pR X d 220 0 Q (137, [some (.ref a), l1, l2, l3, l4, l5, l6], .ref a :: st, mem, 0) := q_s (.ok (.aload_n 0, 1)) (by decide +kernel) rfl
theorem r220_137 : pR X d 220 0 Q (137, L, .ref a :: st, mem, 0) = gf mem a 5 16 (fun p => pR X d 220 0 Q (140, L, p :: st, mem, 0)) := q_get (ix := 35) (by decide +kernel) (by decide +kernel)
theorem r220_140 : pR X d 220 0 Q (140, L, st, mem, 0) = pR X d 220 0 Q (142, L, .int (iI (40)) :: st, mem, 0) := q_bi (n := 40) (by decide +kernel) (by decide +kernel)
theorem r220_142 : pR X d 220 0 Q (142, [l0, some (.int x), l2, l3, l4, l5, l6], st, mem, 0) = pR X d 220 0 Q (143, [l0, some (.int x), l2, l3, l4, l5, l6], .int x :: st, mem, 0) := q_s (.ok (.iload_n 1, 1)) (by decide +kernel) rfl
theorem r220_143 : pR X d 220 0 Q (143, L, .int z :: .int x :: st, mem, 0) = pR X d 220 0 Q (144, L, .int (x * z) :: st, mem, 0) := q_s (.ok (.imul, 1)) (by decide +kernel) rfl
theorem r220_144 : pR X d 220 0 Q (144, [l0, l1, some (.int x), l3, l4, l5, l6], st, mem, 0) = pR X d 220 0 Q (145, [l0, l1, some (.int x), l3, l4, l5, l6], .int x :: st, mem, 0) := q_s (.ok (.iload_n 2, 1)) (by decide +kernel) rfl
theorem r220_145 : pR X d 220 0 Q (145, L, .int z :: .int x :: st, mem, 0) = pR X d 220 0 Q (146, L, .int (x + z) :: st, mem, 0) := q_s (.ok (.iadd, 1)) (by decide +kernel) rfl
theorem r220_146 : pR X d 220 0 Q (146, [l0, l1, l2, l3, l4, l5, some (.int x)], st, mem, 0) = pR X d 220 0 Q (148, [l0, l1, l2, l3, l4, l5, some (.int x)], .int x :: st, mem, 0) := q_s (.ok (.iload 6, 2)) (by decide +kernel) rfl
theorem r220_148 : pR X d 220 0 Q (148, L, .int z :: .int x :: st, mem, 0) = pR X d 220 0 Q (149, L, .int (x + z) :: st, mem, 0) := q_s (.ok (.iadd, 1)) (by decide +kernel) rfl
theorem r220_149 : pR X d 220 0 Q (149, L, .int x :: .ref a :: st, mem, 0) = ri X mem a x (fun z => pR X d 220 0 Q (150, L, .int z :: st, mem, 0)) := q_ri (by decide +kernel)
theorem r220_150 : pR X d 220 0 Q (150, L, .int z :: .int x :: .ref a :: st, mem, 0) = wi mem a x z (fun mem => pR X d 220 0 Q (151, L, st, mem, 0)) := q_wi (by decide +kernel)
theorem r220_151 : pR X d 220 0 Q (151, [l0, l1, l2, l3, l4, l5, some (.int x)], st, mem, 0) = pR X d 220 0 Q (154, [l0, l1, l2, l3, l4, cl1 l5, some (.int (x + iI (1)))], st, mem, 0) := q_s (.ok (.iinc 6 (1), 3)) (by decide +kernel) rfl
theorem r220_154 : pR X d 220 0 Q (154, L, st, mem, 0) = pR X d 220 0 Q (123, L, st, mem, 0) := q_s (.ok (.goto (-31), 3)) (by decide +kernel) rfl
theorem r220_157 : pR X d 220 0 Q (157, L, st, mem, 0) = pR X d 220 0 Q (158, L, .int (iI (0)) :: st, mem, 0) := q_ic (by decide +kernel)
theorem r220_158 : pR X d 220 0 Q (158, [l0, l1, l2, l3, l4, l5, l6], .int x :: st, mem, 0) = pR X d 220 0 Q (160, [l0, l1, l2, l3, l4, cl1 l5, some (.int x)], st, mem, 0) := q_s (.ok (.istore 6, 2)) (by decide +kernel) rfl
theorem r220_160 : pR X d 220 0 Q (160, [l0, l1, l2, l3, l4, l5, some (.int x)], st, mem, 0) = pR X d 220 0 Q (162, [l0, l1, l2, l3, l4, l5, some (.int x)], .int x :: st, mem, 0) := q_s (.ok (.iload 6, 2)) (by decide +kernel) rfl
theorem r220_162 : pR X d 220 0 Q (162, [l0, l1, l2, l3, l4, some (.int x), l6], st, mem, 0) = pR X d 220 0 Q (164, [l0, l1, l2, l3, l4, some (.int x), l6], .int x :: st, mem, 0) := q_s (.ok (.iload 5, 2)) (by decide +kernel) rfl
theorem r220_164 : pR X d 220 0 Q (164, L, .int z :: .int x :: st, mem, 0) = ((z ≤ x → pR X d 220 0 Q (195, L, st, mem, 0)) ∧ (¬ (z ≤ x) → pR X d 220 0 Q (167, L, st, mem, 0))) := r_ic (c := .ge) (off := 31) (by decide +kernel) (by decide)
theorem r220_167 : pR X d 220 0 Q (167, [some (.ref a), l1, l2, l3, l4, l5, l6], st, mem, 0) = pR X d 220 0 Q (168, [some (.ref a), l1, l2, l3, l4, l5, l6], .ref a :: st, mem, 0) := q_s (.ok (.aload_n 0, 1)) (by decide +kernel) rfl
theorem r220_168 : pR X d 220 0 Q (168, L, .ref a :: st, mem, 0) = gf mem a 5 16 (fun p => pR X d 220 0 Q (171, L, p :: st, mem, 0)) := q_get (ix := 35) (by decide +kernel) (by decide +kernel)
theorem r220_171 : pR X d 220 0 Q (171, L, st, mem, 0) = pR X d 220 0 Q (173, L, .int (iI (40)) :: st, mem, 0) := q_bi (n := 40) (by decide +kernel) (by decide +kernel)
theorem r220_173 : pR X d 220 0 Q (173, [l0, l1, l2, some (.int x), l4, l5, l6], st, mem, 0) = pR X d 220 0 Q (174, [l0, l1, l2, some (.int x), l4, l5, l6], .int x :: st, mem, 0) := q_s (.ok (.iload_n 3, 1)) (by decide +kernel) rfl
theorem r220_174 : pR X d 220 0 Q (174, L, .int z :: .int x :: st, mem, 0) = pR X d 220 0 Q (175, L, .int (x * z) :: st, mem, 0) := q_s (.ok (.imul, 1)) (by decide +kernel) rfl
theorem r220_175 : pR X d 220 0 Q (175, [l0, l1, l2, l3, some (.int x), l5, l6], st, mem, 0) = pR X d 220 0 Q (177, [l0, l1, l2, l3, some (.int x), l5, l6], .int x :: st, mem, 0) := q_s (.ok (.iload 4, 2)) (by decide +kernel) rfl
theorem r220_177 : pR X d 220 0 Q (177, L, .int z :: .int x :: st, mem, 0) = pR X d 220 0 Q (178, L, .int (x + z) :: st, mem, 0) := q_s (.ok (.iadd, 1)) (by decide +kernel) rfl
theorem r220_178 : pR X d 220 0 Q (178, [l0, l1, l2, l3, l4, l5, some (.int x)], st, mem, 0) = pR X d 220 0 Q (180, [l0, l1, l2, l3, l4, l5, some (.int x)], .int x :: st, mem, 0) := q_s (.ok (.iload 6, 2)) (by decide +kernel) rfl
theorem r220_180 : pR X d 220 0 Q (180, L, .int z :: .int x :: st, mem, 0) = pR X d 220 0 Q (181, L, .int (x + z) :: st, mem, 0) := q_s (.ok (.iadd, 1)) (by decide +kernel) rfl
theorem r220_181 : pR X d 220 0 Q (181, [some (.ref a), l1, l2, l3, l4, l5, l6], st, mem, 0) = pR X d 220 0 Q (182, [some (.ref a), l1, l2, l3, l4, l5, l6], .ref a :: st, mem, 0) := q_s (.ok (.aload_n 0, 1)) (by decide +kernel) rfl
theorem r220_182 : pR X d 220 0 Q (182, L, .ref a :: st, mem, 0) = gf mem a 5 17 (fun p => pR X d 220 0 Q (185, L, p :: st, mem, 0)) := q_get (ix := 38) (by decide +kernel) (by decide +kernel)
theorem r220_185 : pR X d 220 0 Q (185, [l0, l1, l2, l3, l4, l5, some (.int x)], st, mem, 0) = pR X d 220 0 Q (187, [l0, l1, l2, l3, l4, l5, some (.int x)], .int x :: st, mem, 0) := q_s (.ok (.iload 6, 2)) (by decide +kernel) rfl
theorem r220_187 : pR X d 220 0 Q (187, L, .int x :: .ref a :: st, mem, 0) = ri X mem a x (fun z => pR X d 220 0 Q (188, L, .int z :: st, mem, 0)) := q_ri (by decide +kernel)
theorem r220_188 : pR X d 220 0 Q (188, L, .int z :: .int x :: .ref a :: st, mem, 0) = wi mem a x z (fun mem => pR X d 220 0 Q (189, L, st, mem, 0)) := q_wi (by decide +kernel)
theorem r220_189 : pR X d 220 0 Q (189, [l0, l1, l2, l3, l4, l5, some (.int x)], st, mem, 0) = pR X d 220 0 Q (192, [l0, l1, l2, l3, l4, cl1 l5, some (.int (x + iI (1)))], st, mem, 0) := q_s (.ok (.iinc 6 (1), 3)) (by decide +kernel) rfl
theorem r220_192 : pR X d 220 0 Q (192, L, st, mem, 0) = pR X d 220 0 Q (160, L, st, mem, 0) := q_s (.ok (.goto (-32), 3)) (by decide +kernel) rfl
theorem r220_195 : pR X d 220 0 Q (195, [l0, l1, l2, l3, l4, some (.int x), l6], st, mem, 0) = pR X d 220 0 Q (197, [l0, l1, l2, l3, l4, some (.int x), l6], .int x :: st, mem, 0) := q_s (.ok (.iload 5, 2)) (by decide +kernel) rfl
theorem r220_197 : pR X d 220 0 Q (197, L, [.int x], mem, 0) = Q (some (.int x)) mem := q_reti (by decide +kernel) rfl
theorem r221_0 : pR X d 221 0 Q (0, [some (.ref a), l1, l2, l3], st, mem, 0) = pR X d 221 0 Q (1, [some (.ref a), l1, l2, l3], .ref a :: st, mem, 0) := q_s (.ok (.aload_n 0, 1)) (by decide +kernel) rfl
theorem r221_1 : pR X d 221 0 Q (1, [l0, some (.int x), l2, l3], st, mem, 0) = pR X d 221 0 Q (2, [l0, some (.int x), l2, l3], .int x :: st, mem, 0) := q_s (.ok (.iload_n 1, 1)) (by decide +kernel) rfl
theorem r221_2 : pR X d 221 0 Q (2, L, .int y0 :: .ref a :: [], mem, 0) = (prcv mem 5 a ∧ Cw X d 188 [.ref a, .int y0] mem (fun r mem => pR X d 221 0 Q (5, L, r.toList ++ [], mem, 0))) := q_virt (ix := 176) (y2 := 188) (as := [.int y0]) (by decide +kernel) (by decide +kernel) rfl rfl rfl (Nat.le_of_ble_eq_true rfl) (by decide)
theorem r221_5 : pR X d 221 0 Q (5, [l0, l1, l2, l3], .int x :: st, mem, 0) = pR X d 221 0 Q (6, [l0, cl1 l1, some (.int x), l3], st, mem, 0) := q_s (.ok (.istore_n 2, 1)) (by decide +kernel) rfl
theorem r221_6 : pR X d 221 0 Q (6, [l0, l1, some (.int x), l3], st, mem, 0) = pR X d 221 0 Q (7, [l0, l1, some (.int x), l3], .int x :: st, mem, 0) := q_s (.ok (.iload_n 2, 1)) (by decide +kernel) rfl
theorem r221_7 : pR X d 221 0 Q (7, L, .int x :: st, mem, 0) = ((x < 0 → pR X d 221 0 Q (16, L, st, mem, 0)) ∧ (¬ (x < 0) → pR X d 221 0 Q (10, L, st, mem, 0))) := r_if (c := .lt) (off := 9) (by decide +kernel) (by decide)
theorem r221_10 : pR X d 221 0 Q (10, [some (.ref a), l1, l2, l3], st, mem, 0) = pR X d 221 0 Q (11, [some (.ref a), l1, l2, l3], .ref a :: st, mem, 0) := q_s (.ok (.aload_n 0, 1)) (by decide +kernel) rfl
theorem r221_11 : pR X d 221 0 Q (11, [l0, l1, some (.int x), l3], st, mem, 0) = pR X d 221 0 Q (12, [l0, l1, some (.int x), l3], .int x :: st, mem, 0) := q_s (.ok (.iload_n 2, 1)) (by decide +kernel) rfl
theorem r221_12 : pR X d 221 0 Q (12, L, .int y0 :: .ref a :: [], mem, 0) = (prcv mem 5 a ∧ Cw X d 137 [.ref a, .int y0] mem (fun r mem => pR X d 221 0 Q (15, L, r.toList ++ [], mem, 0))) := q_virt (ix := 106) (y2 := 137) (as := [.int y0]) (by decide +kernel) (by decide +kernel) rfl rfl rfl (Nat.le_of_ble_eq_true rfl) (by decide)
theorem r221_15 : pR X d 221 0 Q (15, L, [.int x], mem, 0) = Q (some (.int x)) mem := q_reti (by decide +kernel) rfl
theorem r221_16 : pR X d 221 0 Q (16, L, st, mem, 0) = pR X d 221 0 Q (17, L, .int (iI (0)) :: st, mem, 0) := q_ic (by decide +kernel)
theorem r221_17 : pR X d 221 0 Q (17, [l0, l1, l2, l3], .int x :: st, mem, 0) = pR X d 221 0 Q (18, [l0, l1, cl1 l2, some (.int x)], st, mem, 0) := q_s (.ok (.istore_n 3, 1)) (by decide +kernel) rfl
theorem r221_18 : pR X d 221 0 Q (18, [l0, l1, l2, some (.int x)], st, mem, 0) = pR X d 221 0 Q (19, [l0, l1, l2, some (.int x)], .int x :: st, mem, 0) := q_s (.ok (.iload_n 3, 1)) (by decide +kernel) rfl
theorem r221_19 : pR X d 221 0 Q (19, [some (.ref a), l1, l2, l3], st, mem, 0) = pR X d 221 0 Q (20, [some (.ref a), l1, l2, l3], .ref a :: st, mem, 0) := q_s (.ok (.aload_n 0, 1)) (by decide +kernel) rfl
theorem r221_20 : pR X d 221 0 Q (20, L, .ref a :: st, mem, 0) = gf mem a 5 15 (fun p => pR X d 221 0 Q (23, L, p :: st, mem, 0)) := q_get (ix := 32) (by decide +kernel) (by decide +kernel)
theorem r221_23 : pR X d 221 0 Q (23, [l0, some (.int x), l2, l3], st, mem, 0) = pR X d 221 0 Q (24, [l0, some (.int x), l2, l3], .int x :: st, mem, 0) := q_s (.ok (.iload_n 1, 1)) (by decide +kernel) rfl
theorem r221_24 : pR X d 221 0 Q (24, L, .int x :: .ref a :: st, mem, 0) = ri X mem a x (fun z => pR X d 221 0 Q (25, L, .int z :: st, mem, 0)) := q_ri (by decide +kernel)
theorem r221_25 : pR X d 221 0 Q (25, L, .int z :: .int x :: st, mem, 0) = ((z ≤ x → pR X d 221 0 Q (76, L, st, mem, 0)) ∧ (¬ (z ≤ x) → pR X d 221 0 Q (28, L, st, mem, 0))) := r_ic (c := .ge) (off := 51) (by decide +kernel) (by decide)
theorem r221_28 : pR X d 221 0 Q (28, [l0, l1, l2, some (.int x)], st, mem, 0) = pR X d 221 0 Q (29, [l0, l1, l2, some (.int x)], .int x :: st, mem, 0) := q_s (.ok (.iload_n 3, 1)) (by decide +kernel) rfl
theorem r221_29 : pR X d 221 0 Q (29, L, st, mem, 0) = pR X d 221 0 Q (31, L, .int (iI (6)) :: st, mem, 0) := q_bi (n := 6) (by decide +kernel) (by decide +kernel)
theorem r221_31 : pR X d 221 0 Q (31, L, .int z :: .int x :: st, mem, 0) = ((z ≤ x → pR X d 221 0 Q (76, L, st, mem, 0)) ∧ (¬ (z ≤ x) → pR X d 221 0 Q (34, L, st, mem, 0))) := r_ic (c := .ge) (off := 45) (by decide +kernel) (by decide)
theorem r221_34 : pR X d 221 0 Q (34, [some (.ref a), l1, l2, l3], st, mem, 0) = pR X d 221 0 Q (35, [some (.ref a), l1, l2, l3], .ref a :: st, mem, 0) := q_s (.ok (.aload_n 0, 1)) (by decide +kernel) rfl
theorem r221_35 : pR X d 221 0 Q (35, L, .ref a :: st, mem, 0) = gf mem a 5 16 (fun p => pR X d 221 0 Q (38, L, p :: st, mem, 0)) := q_get (ix := 35) (by decide +kernel) (by decide +kernel)
theorem r221_38 : pR X d 221 0 Q (38, L, st, mem, 0) = pR X d 221 0 Q (40, L, .int (iI (40)) :: st, mem, 0) := q_bi (n := 40) (by decide +kernel) (by decide +kernel)
theorem r221_40 : pR X d 221 0 Q (40, [l0, some (.int x), l2, l3], st, mem, 0) = pR X d 221 0 Q (41, [l0, some (.int x), l2, l3], .int x :: st, mem, 0) := q_s (.ok (.iload_n 1, 1)) (by decide +kernel) rfl
theorem r221_41 : pR X d 221 0 Q (41, L, .int z :: .int x :: st, mem, 0) = pR X d 221 0 Q (42, L, .int (x * z) :: st, mem, 0) := q_s (.ok (.imul, 1)) (by decide +kernel) rfl
theorem r221_42 : pR X d 221 0 Q (42, [l0, l1, l2, some (.int x)], st, mem, 0) = pR X d 221 0 Q (43, [l0, l1, l2, some (.int x)], .int x :: st, mem, 0) := q_s (.ok (.iload_n 3, 1)) (by decide +kernel) rfl
theorem r221_43 : pR X d 221 0 Q (43, L, .int z :: .int x :: st, mem, 0) = pR X d 221 0 Q (44, L, .int (x + z) :: st, mem, 0) := q_s (.ok (.iadd, 1)) (by decide +kernel) rfl
theorem r221_44 : pR X d 221 0 Q (44, L, .int x :: .ref a :: st, mem, 0) = ri X mem a x (fun z => pR X d 221 0 Q (45, L, .int z :: st, mem, 0)) := q_ri (by decide +kernel)
theorem r221_45 : pR X d 221 0 Q (45, L, .int y0 :: [], mem, 0) = Cw X d 140 [.int y0] mem (fun r mem => pR X d 221 0 Q (48, L, r.toList ++ [], mem, 0)) := q_stat (ix := 112) (kd := 1) (y2 := 140) (as := [.int y0]) (by decide +kernel) (by decide +kernel) (by decide) rfl rfl rfl (Nat.le_of_ble_eq_true rfl) (by decide)
theorem r221_48 : pR X d 221 0 Q (48, L, .int x :: st, mem, 0) = ((x = 0 → pR X d 221 0 Q (76, L, st, mem, 0)) ∧ (¬ (x = 0) → pR X d 221 0 Q (51, L, st, mem, 0))) := r_if (c := .eq) (off := 28) (by decide +kernel) (by decide)
theorem r221_51 : pR X d 221 0 Q (51, [some (.ref a), l1, l2, l3], st, mem, 0) = pR X d 221 0 Q (52, [some (.ref a), l1, l2, l3], .ref a :: st, mem, 0) := q_s (.ok (.aload_n 0, 1)) (by decide +kernel) rfl
theorem r221_52 : pR X d 221 0 Q (52, L, .ref a :: st, mem, 0) = gf mem a 5 0 (fun p => pR X d 221 0 Q (55, L, p :: st, mem, 0)) := q_get (ix := 7) (by decide +kernel) (by decide +kernel)
theorem r221_55 : pR X d 221 0 Q (55, L, st, mem, 0) = pR X d 221 0 Q (56, L, .int (iI (5)) :: st, mem, 0) := q_ic (by decide +kernel)
theorem r221_56 : pR X d 221 0 Q (56, [l0, l1, l2, some (.int x)], st, mem, 0) = pR X d 221 0 Q (57, [l0, l1, l2, some (.int x)], .int x :: st, mem, 0) := q_s (.ok (.iload_n 3, 1)) (by decide +kernel) rfl
theorem r221_57 : pR X d 221 0 Q (57, L, .int z :: .int x :: st, mem, 0) = pR X d 221 0 Q (58, L, .int (x + z) :: st, mem, 0) := q_s (.ok (.iadd, 1)) (by decide +kernel) rfl
theorem r221_58 : pR X d 221 0 Q (58, [some (.ref a), l1, l2, l3], st, mem, 0) = pR X d 221 0 Q (59, [some (.ref a), l1, l2, l3], .ref a :: st, mem, 0) := q_s (.ok (.aload_n 0, 1)) (by decide +kernel) rfl
theorem r221_59 : pR X d 221 0 Q (59, L, .ref a :: st, mem, 0) = gf mem a 5 16 (fun p => pR X d 221 0 Q (62, L, p :: st, mem, 0)) := q_get (ix := 35) (by decide +kernel) (by decide +kernel)
theorem r221_62 : pR X d 221 0 Q (62, L, st, mem, 0) = pR X d 221 0 Q (64, L, .int (iI (40)) :: st, mem, 0) := q_bi (n := 40) (by decide +kernel) (by decide +kernel)
theorem r221_64 : pR X d 221 0 Q (64, [l0, some (.int x), l2, l3], st, mem, 0) = pR X d 221 0 Q (65, [l0, some (.int x), l2, l3], .int x :: st, mem, 0) := q_s (.ok (.iload_n 1, 1)) (by decide +kernel) rfl
theorem r221_65 : pR X d 221 0 Q (65, L, .int z :: .int x :: st, mem, 0) = pR X d 221 0 Q (66, L, .int (x * z) :: st, mem, 0) := q_s (.ok (.imul, 1)) (by decide +kernel) rfl
theorem r221_66 : pR X d 221 0 Q (66, [l0, l1, l2, some (.int x)], st, mem, 0) = pR X d 221 0 Q (67, [l0, l1, l2, some (.int x)], .int x :: st, mem, 0) := q_s (.ok (.iload_n 3, 1)) (by decide +kernel) rfl
theorem r221_67 : pR X d 221 0 Q (67, L, .int z :: .int x :: st, mem, 0) = pR X d 221 0 Q (68, L, .int (x + z) :: st, mem, 0) := q_s (.ok (.iadd, 1)) (by decide +kernel) rfl
theorem r221_68 : pR X d 221 0 Q (68, L, .int x :: .ref a :: st, mem, 0) = ri X mem a x (fun z => pR X d 221 0 Q (69, L, .int z :: st, mem, 0)) := q_ri (by decide +kernel)
theorem r221_69 : pR X d 221 0 Q (69, L, .int z :: .int x :: .ref a :: st, mem, 0) = wi mem a x z (fun mem => pR X d 221 0 Q (70, L, st, mem, 0)) := q_wi (by decide +kernel)
theorem r221_70 : pR X d 221 0 Q (70, [l0, l1, l2, some (.int x)], st, mem, 0) = pR X d 221 0 Q (73, [l0, l1, cl1 l2, some (.int (x + iI (1)))], st, mem, 0) := q_s (.ok (.iinc 3 (1), 3)) (by decide +kernel) rfl
theorem r221_73 : pR X d 221 0 Q (73, L, st, mem, 0) = pR X d 221 0 Q (18, L, st, mem, 0) := q_s (.ok (.goto (-55), 3)) (by decide +kernel) rfl
theorem r221_76 : pR X d 221 0 Q (76, [l0, l1, l2, some (.int x)], st, mem, 0) = pR X d 221 0 Q (77, [l0, l1, l2, some (.int x)], .int x :: st, mem, 0) := q_s (.ok (.iload_n 3, 1)) (by decide +kernel) rfl
theorem r221_77 : pR X d 221 0 Q (77, L, [.int x], mem, 0) = Q (some (.int x)) mem := q_reti (by decide +kernel) rfl
theorem r222_0 : pR X d 222 0 Q (0, [some (.ref a), l1, l2, l3], st, mem, 0) = pR X d 222 0 Q (1, [some (.ref a), l1, l2, l3], .ref a :: st, mem, 0) := q_s (.ok (.aload_n 0, 1)) (by decide +kernel) rfl
theorem r222_1 : pR X d 222 0 Q (1, [l0, some (.int x), l2, l3], st, mem, 0) = pR X d 222 0 Q (2, [l0, some (.int x), l2, l3], .int x :: st, mem, 0) := q_s (.ok (.iload_n 1, 1)) (by decide +kernel) rfl
theorem r222_2 : pR X d 222 0 Q (2, L, .int y0 :: .ref a :: [], mem, 0) = (prcv mem 5 a ∧ Cw X d 188 [.ref a, .int y0] mem (fun r mem => pR X d 222 0 Q (5, L, r.toList ++ [], mem, 0))) := q_virt (ix := 176) (y2 := 188) (as := [.int y0]) (by decide +kernel) (by decide +kernel) rfl rfl rfl (Nat.le_of_ble_eq_true rfl) (by decide)
theorem r222_5 : pR X d 222 0 Q (5, [l0, l1, l2, l3], .int x :: st, mem, 0) = pR X d 222 0 Q (6, [l0, cl1 l1, some (.int x), l3], st, mem, 0) := q_s (.ok (.istore_n 2, 1)) (by decide +kernel) rfl
theorem r222_6 : pR X d 222 0 Q (6, [l0, l1, some (.int x), l3], st, mem, 0) = pR X d 222 0 Q (7, [l0, l1, some (.int x), l3], .int x :: st, mem, 0) := q_s (.ok (.iload_n 2, 1)) (by decide +kernel) rfl
theorem r222_7 : pR X d 222 0 Q (7, L, .int x :: st, mem, 0) = ((x < 0 → pR X d 222 0 Q (16, L, st, mem, 0)) ∧ (¬ (x < 0) → pR X d 222 0 Q (10, L, st, mem, 0))) := r_if (c := .lt) (off := 9) (by decide +kernel) (by decide)
theorem r222_10 : pR X d 222 0 Q (10, [some (.ref a), l1, l2, l3], st, mem, 0) = pR X d 222 0 Q (11, [some (.ref a), l1, l2, l3], .ref a :: st, mem, 0) := q_s (.ok (.aload_n 0, 1)) (by decide +kernel) rfl
theorem r222_11 : pR X d 222 0 Q (11, [l0, l1, some (.int x), l3], st, mem, 0) = pR X d 222 0 Q (12, [l0, l1, some (.int x), l3], .int x :: st, mem, 0) := q_s (.ok (.iload_n 2, 1)) (by decide +kernel) rfl
theorem r222_12 : pR X d 222 0 Q (12, L, .int y0 :: .ref a :: [], mem, 0) = (prcv mem 5 a ∧ Cw X d 137 [.ref a, .int y0] mem (fun r mem => pR X d 222 0 Q (15, L, r.toList ++ [], mem, 0))) := q_virt (ix := 106) (y2 := 137) (as := [.int y0]) (by decide +kernel) (by decide +kernel) rfl rfl rfl (Nat.le_of_ble_eq_true rfl) (by decide)
theorem r222_15 : pR X d 222 0 Q (15, L, [.int x], mem, 0) = Q (some (.int x)) mem := q_reti (by decide +kernel) rfl
theorem r222_16 : pR X d 222 0 Q (16, L, st, mem, 0) = pR X d 222 0 Q (17, L, .int (iI (0)) :: st, mem, 0) := q_ic (by decide +kernel)
theorem r222_17 : pR X d 222 0 Q (17, [l0, l1, l2, l3], .int x :: st, mem, 0) = pR X d 222 0 Q (18, [l0, l1, cl1 l2, some (.int x)], st, mem, 0) := q_s (.ok (.istore_n 3, 1)) (by decide +kernel) rfl
theorem r222_18 : pR X d 222 0 Q (18, [l0, l1, l2, some (.int x)], st, mem, 0) = pR X d 222 0 Q (19, [l0, l1, l2, some (.int x)], .int x :: st, mem, 0) := q_s (.ok (.iload_n 3, 1)) (by decide +kernel) rfl
theorem r222_19 : pR X d 222 0 Q (19, [some (.ref a), l1, l2, l3], st, mem, 0) = pR X d 222 0 Q (20, [some (.ref a), l1, l2, l3], .ref a :: st, mem, 0) := q_s (.ok (.aload_n 0, 1)) (by decide +kernel) rfl
theorem r222_20 : pR X d 222 0 Q (20, L, .ref a :: st, mem, 0) = gf mem a 5 15 (fun p => pR X d 222 0 Q (23, L, p :: st, mem, 0)) := q_get (ix := 32) (by decide +kernel) (by decide +kernel)
theorem r222_23 : pR X d 222 0 Q (23, [l0, some (.int x), l2, l3], st, mem, 0) = pR X d 222 0 Q (24, [l0, some (.int x), l2, l3], .int x :: st, mem, 0) := q_s (.ok (.iload_n 1, 1)) (by decide +kernel) rfl
theorem r222_24 : pR X d 222 0 Q (24, L, .int x :: .ref a :: st, mem, 0) = ri X mem a x (fun z => pR X d 222 0 Q (25, L, .int z :: st, mem, 0)) := q_ri (by decide +kernel)
theorem r222_25 : pR X d 222 0 Q (25, L, .int z :: .int x :: st, mem, 0) = ((z ≤ x → pR X d 222 0 Q (66, L, st, mem, 0)) ∧ (¬ (z ≤ x) → pR X d 222 0 Q (28, L, st, mem, 0))) := r_ic (c := .ge) (off := 41) (by decide +kernel) (by decide)
theorem r222_28 : pR X d 222 0 Q (28, [some (.ref a), l1, l2, l3], st, mem, 0) = pR X d 222 0 Q (29, [some (.ref a), l1, l2, l3], .ref a :: st, mem, 0) := q_s (.ok (.aload_n 0, 1)) (by decide +kernel) rfl
theorem r222_29 : pR X d 222 0 Q (29, [l0, l1, l2, some (.int x)], st, mem, 0) = pR X d 222 0 Q (30, [l0, l1, l2, some (.int x)], .int x :: st, mem, 0) := q_s (.ok (.iload_n 3, 1)) (by decide +kernel) rfl
theorem r222_30 : pR X d 222 0 Q (30, L, .int y0 :: .ref a :: [], mem, 0) = (prcv mem 5 a ∧ Cw X d 146 [.ref a, .int y0] mem (fun r mem => pR X d 222 0 Q (33, L, r.toList ++ [], mem, 0))) := q_virt (ix := 72) (y2 := 146) (as := [.int y0]) (by decide +kernel) (by decide +kernel) rfl rfl rfl (Nat.le_of_ble_eq_true rfl) (by decide)
theorem r222_33 : pR X d 222 0 Q (33, L, .int x :: st, mem, 0) = ((x = 0 → pR X d 222 0 Q (56, L, st, mem, 0)) ∧ (¬ (x = 0) → pR X d 222 0 Q (36, L, st, mem, 0))) := r_if (c := .eq) (off := 23) (by decide +kernel) (by decide)
theorem r222_36 : pR X d 222 0 Q (36, [some (.ref a), l1, l2, l3], st, mem, 0) = pR X d 222 0 Q (37, [some (.ref a), l1, l2, l3], .ref a :: st, mem, 0) := q_s (.ok (.aload_n 0, 1)) (by decide +kernel) rfl
theorem r222_37 : pR X d 222 0 Q (37, L, .ref a :: st, mem, 0) = gf mem a 5 16 (fun p => pR X d 222 0 Q (40, L, p :: st, mem, 0)) := q_get (ix := 35) (by decide +kernel) (by decide +kernel)
theorem r222_40 : pR X d 222 0 Q (40, L, st, mem, 0) = pR X d 222 0 Q (42, L, .int (iI (40)) :: st, mem, 0) := q_bi (n := 40) (by decide +kernel) (by decide +kernel)
theorem r222_42 : pR X d 222 0 Q (42, [l0, some (.int x), l2, l3], st, mem, 0) = pR X d 222 0 Q (43, [l0, some (.int x), l2, l3], .int x :: st, mem, 0) := q_s (.ok (.iload_n 1, 1)) (by decide +kernel) rfl
theorem r222_43 : pR X d 222 0 Q (43, L, .int z :: .int x :: st, mem, 0) = pR X d 222 0 Q (44, L, .int (x * z) :: st, mem, 0) := q_s (.ok (.imul, 1)) (by decide +kernel) rfl
theorem r222_44 : pR X d 222 0 Q (44, [l0, l1, l2, some (.int x)], st, mem, 0) = pR X d 222 0 Q (45, [l0, l1, l2, some (.int x)], .int x :: st, mem, 0) := q_s (.ok (.iload_n 3, 1)) (by decide +kernel) rfl
theorem r222_45 : pR X d 222 0 Q (45, L, .int z :: .int x :: st, mem, 0) = pR X d 222 0 Q (46, L, .int (x + z) :: st, mem, 0) := q_s (.ok (.iadd, 1)) (by decide +kernel) rfl
theorem r222_46 : pR X d 222 0 Q (46, L, .int x :: .ref a :: st, mem, 0) = ri X mem a x (fun z => pR X d 222 0 Q (47, L, .int z :: st, mem, 0)) := q_ri (by decide +kernel)
theorem r222_47 : pR X d 222 0 Q (47, [some (.ref a), l1, l2, l3], st, mem, 0) = pR X d 222 0 Q (48, [some (.ref a), l1, l2, l3], .ref a :: st, mem, 0) := q_s (.ok (.aload_n 0, 1)) (by decide +kernel) rfl
theorem r222_48 : pR X d 222 0 Q (48, [l0, l1, l2, some (.int x)], st, mem, 0) = pR X d 222 0 Q (49, [l0, l1, l2, some (.int x)], .int x :: st, mem, 0) := q_s (.ok (.iload_n 3, 1)) (by decide +kernel) rfl
theorem r222_49 : pR X d 222 0 Q (49, L, st, mem, 0) = pR X d 222 0 Q (50, L, .int (iI (1)) :: st, mem, 0) := q_ic (by decide +kernel)
theorem r222_50 : pR X d 222 0 Q (50, L, .int y1 :: .int y0 :: .ref a :: [.int k0], mem, 0) = (prcv mem 5 a ∧ Cw X d 148 [.ref a, .int y0, .int y1] mem (fun r mem => pR X d 222 0 Q (53, L, r.toList ++ [.int k0], mem, 0))) := q_virt (ix := 50) (y2 := 148) (as := [.int y1, .int y0]) (by decide +kernel) (by decide +kernel) rfl rfl rfl (Nat.le_of_ble_eq_true rfl) (by decide)
theorem r222_53 : pR X d 222 0 Q (53, L, .int z :: .int x :: st, mem, 0) = ((x = z → pR X d 222 0 Q (60, L, st, mem, 0)) ∧ (¬ (x = z) → pR X d 222 0 Q (56, L, st, mem, 0))) := r_ic (c := .eq) (off := 7) (by decide +kernel) (by decide)
theorem r222_56 : pR X d 222 0 Q (56, L, st, mem, 0) = pR X d 222 0 Q (57, L, .int (iI (1)) :: st, mem, 0) := q_ic (by decide +kernel)
theorem r222_57 : pR X d 222 0 Q (57, [l0, l1, l2, some (.int x)], st, mem, 0) = pR X d 222 0 Q (58, [l0, l1, l2, some (.int x)], .int x :: st, mem, 0) := q_s (.ok (.iload_n 3, 1)) (by decide +kernel) rfl
theorem r222_58 : pR X d 222 0 Q (58, L, .int z :: .int x :: st, mem, 0) = pR X d 222 0 Q (59, L, .int (x + z) :: st, mem, 0) := q_s (.ok (.iadd, 1)) (by decide +kernel) rfl
theorem r222_59 : pR X d 222 0 Q (59, L, [.int x], mem, 0) = Q (some (.int x)) mem := q_reti (by decide +kernel) rfl
theorem r222_60 : pR X d 222 0 Q (60, [l0, l1, l2, some (.int x)], st, mem, 0) = pR X d 222 0 Q (63, [l0, l1, cl1 l2, some (.int (x + iI (1)))], st, mem, 0) := q_s (.ok (.iinc 3 (1), 3)) (by decide +kernel) rfl
theorem r222_63 : pR X d 222 0 Q (63, L, st, mem, 0) = pR X d 222 0 Q (18, L, st, mem, 0) := q_s (.ok (.goto (-45), 3)) (by decide +kernel) rfl
theorem r222_66 : pR X d 222 0 Q (66, L, st, mem, 0) = pR X d 222 0 Q (67, L, .int (iI (0)) :: st, mem, 0) := q_ic (by decide +kernel)
theorem r222_67 : pR X d 222 0 Q (67, L, [.int x], mem, 0) = Q (some (.int x)) mem := q_reti (by decide +kernel) rfl
theorem r223_0 : pR X d 223 0 Q (0, [some (.ref a)], st, mem, 0) = pR X d 223 0 Q (1, [some (.ref a)], .ref a :: st, mem, 0) := q_s (.ok (.aload_n 0, 1)) (by decide +kernel) rfl
theorem r223_1 : pR X d 223 0 Q (1, L, .ref a :: st, mem, 0) = gf mem a 5 0 (fun p => pR X d 223 0 Q (4, L, p :: st, mem, 0)) := q_get (ix := 7) (by decide +kernel) (by decide +kernel)
theorem r223_4 : pR X d 223 0 Q (4, [some (.ref a)], st, mem, 0) = pR X d 223 0 Q (5, [some (.ref a)], .ref a :: st, mem, 0) := q_s (.ok (.aload_n 0, 1)) (by decide +kernel) rfl
theorem r223_5 : pR X d 223 0 Q (5, L, .ref a :: st, mem, 0) = gf mem a 5 3 (fun p => pR X d 223 0 Q (8, L, p :: st, mem, 0)) := q_get (ix := 19) (by decide +kernel) (by decide +kernel)
theorem r223_8 : pR X d 223 0 Q (8, L, .ref b1 :: .ref b0 :: [], mem, 0) = Cw X d 169 [.ref b0, .ref b1] mem (fun r mem => pR X d 223 0 Q (11, L, r.toList ++ [], mem, 0)) := q_stat (ix := 148) (kd := 1) (y2 := 169) (as := [.ref b1, .ref b0]) (by decide +kernel) (by decide +kernel) (by decide) rfl rfl rfl (Nat.le_of_ble_eq_true rfl) (by decide)
theorem r223_11 : pR X d 223 0 Q (11, [some (.ref a)], st, mem, 0) = pR X d 223 0 Q (12, [some (.ref a)], .ref a :: st, mem, 0) := q_s (.ok (.aload_n 0, 1)) (by decide +kernel) rfl
theorem r223_12 : pR X d 223 0 Q (12, L, st, mem, 0) = pR X d 223 0 Q (13, L, .int (iI (1)) :: st, mem, 0) := q_ic (by decide +kernel)
theorem r223_13 : pR X d 223 0 Q (13, L, p :: .ref a :: st, mem, 0) = pf 223 mem a 5 4 p (fun mem => pR X d 223 0 Q (16, L, st, mem, 0)) := q_put (ix := 303) (by decide +kernel) (by decide +kernel) (by decide)
theorem r223_16 : pR X d 223 0 Q (16, L, st, mem, 0) = pR X d 223 0 Q (17, L, .int (iI (1)) :: st, mem, 0) := q_ic (by decide +kernel)
theorem r223_17 : pR X d 223 0 Q (17, L, [.int x], mem, 0) = Q (some (.int x)) mem := q_reti (by decide +kernel) rfl
theorem r224_0 : pR X d 224 0 Q (0, [some (.ref a)], st, mem, 0) = pR X d 224 0 Q (1, [some (.ref a)], .ref a :: st, mem, 0) := q_s (.ok (.aload_n 0, 1)) (by decide +kernel) rfl
theorem r224_1 : pR X d 224 0 Q (1, L, .ref a :: st, mem, 0) = gf mem a 5 4 (fun p => pR X d 224 0 Q (4, L, p :: st, mem, 0)) := q_get (ix := 303) (by decide +kernel) (by decide +kernel)
theorem r224_4 : pR X d 224 0 Q (4, L, .int x :: st, mem, 0) = ((¬ x = 0 → pR X d 224 0 Q (13, L, st, mem, 0)) ∧ (¬ (¬ x = 0) → pR X d 224 0 Q (7, L, st, mem, 0))) := r_if (c := .ne) (off := 9) (by decide +kernel) (by decide)
theorem r224_7 : pR X d 224 0 Q (7, [some (.ref a)], st, mem, 0) = pR X d 224 0 Q (8, [some (.ref a)], .ref a :: st, mem, 0) := q_s (.ok (.aload_n 0, 1)) (by decide +kernel) rfl
theorem r224_8 : pR X d 224 0 Q (8, L, st, mem, 0) = pR X d 224 0 Q (9, L, .int (iI (3)) :: st, mem, 0) := q_ic (by decide +kernel)
theorem r224_9 : pR X d 224 0 Q (9, L, .int y0 :: .ref a :: [], mem, 0) = (prcv mem 5 a ∧ Cw X d 137 [.ref a, .int y0] mem (fun r mem => pR X d 224 0 Q (12, L, r.toList ++ [], mem, 0))) := q_virt (ix := 106) (y2 := 137) (as := [.int y0]) (by decide +kernel) (by decide +kernel) rfl rfl rfl (Nat.le_of_ble_eq_true rfl) (by decide)
theorem r224_12 : pR X d 224 0 Q (12, L, [.int x], mem, 0) = Q (some (.int x)) mem := q_reti (by decide +kernel) rfl
theorem r224_13 : pR X d 224 0 Q (13, [some (.ref a)], st, mem, 0) = pR X d 224 0 Q (14, [some (.ref a)], .ref a :: st, mem, 0) := q_s (.ok (.aload_n 0, 1)) (by decide +kernel) rfl
theorem r224_14 : pR X d 224 0 Q (14, L, .ref a :: st, mem, 0) = gf mem a 5 3 (fun p => pR X d 224 0 Q (17, L, p :: st, mem, 0)) := q_get (ix := 19) (by decide +kernel) (by decide +kernel)
theorem r224_17 : pR X d 224 0 Q (17, [some (.ref a)], st, mem, 0) = pR X d 224 0 Q (18, [some (.ref a)], .ref a :: st, mem, 0) := q_s (.ok (.aload_n 0, 1)) (by decide +kernel) rfl
theorem r224_18 : pR X d 224 0 Q (18, L, .ref a :: st, mem, 0) = gf mem a 5 0 (fun p => pR X d 224 0 Q (21, L, p :: st, mem, 0)) := q_get (ix := 7) (by decide +kernel) (by decide +kernel)
theorem r224_21 : pR X d 224 0 Q (21, L, .ref b1 :: .ref b0 :: [], mem, 0) = Cw X d 169 [.ref b0, .ref b1] mem (fun r mem => pR X d 224 0 Q (24, L, r.toList ++ [], mem, 0)) := q_stat (ix := 148) (kd := 1) (y2 := 169) (as := [.ref b1, .ref b0]) (by decide +kernel) (by decide +kernel) (by decide) rfl rfl rfl (Nat.le_of_ble_eq_true rfl) (by decide)
theorem r224_24 : pR X d 224 0 Q (24, [some (.ref a)], st, mem, 0) = pR X d 224 0 Q (25, [some (.ref a)], .ref a :: st, mem, 0) := q_s (.ok (.aload_n 0, 1)) (by decide +kernel) rfl
theorem r224_25 : pR X d 224 0 Q (25, L, .ref a :: st, mem, 0) = gf mem a 5 0 (fun p => pR X d 224 0 Q (28, L, p :: st, mem, 0)) := q_get (ix := 7) (by decide +kernel) (by decide +kernel)
theorem r224_28 : pR X d 224 0 Q (28, L, st, mem, 0) = pR X d 224 0 Q (29, L, .int (iI (1)) :: st, mem, 0) := q_ic (by decide +kernel)
theorem r224_29 : pR X d 224 0 Q (29, L, .int x :: .ref a :: st, mem, 0) = ri X mem a x (fun z => pR X d 224 0 Q (30, L, .int z :: st, mem, 0)) := q_ri (by decide +kernel)
theorem r224_30 : pR X d 224 0 Q (30, L, [.int x], mem, 0) = Q (some (.int x)) mem := q_reti (by decide +kernel) rfl
theorem r225_0 : pR X d 225 0 Q (0, [some (.ref a), l1], st, mem, 0) = pR X d 225 0 Q (1, [some (.ref a), l1], .ref a :: st, mem, 0) := q_s (.ok (.aload_n 0, 1)) (by decide +kernel) rfl
theorem r225_1 : pR X d 225 0 Q (1, L, .ref a :: st, mem, 0) = gf mem a 5 4 (fun p => pR X d 225 0 Q (4, L, p :: st, mem, 0)) := q_get (ix := 303) (by decide +kernel) (by decide +kernel)
theorem r225_4 : pR X d 225 0 Q (4, L, .int x :: st, mem, 0) = ((x = 0 → pR X d 225 0 Q (11, L, st, mem, 0)) ∧ (¬ (x = 0) → pR X d 225 0 Q (7, L, st, mem, 0))) := r_if (c := .eq) (off := 7) (by decide +kernel) (by decide)
theorem r225_7 : pR X d 225 0 Q (7, L, st, mem, 0) = pR X d 225 0 Q (8, L, .int (iI (1)) :: st, mem, 0) := q_ic (by decide +kernel)
theorem r225_8 : pR X d 225 0 Q (8, L, st, mem, 0) = pR X d 225 0 Q (12, L, st, mem, 0) := q_s (.ok (.goto (4), 3)) (by decide +kernel) rfl
theorem r225_11 : pR X d 225 0 Q (11, L, st, mem, 0) = pR X d 225 0 Q (12, L, .int (iI (0)) :: st, mem, 0) := q_ic (by decide +kernel)
theorem r225_12 : pR X d 225 0 Q (12, [l0, l1], .int x :: st, mem, 0) = pR X d 225 0 Q (13, [cl1 l0, some (.int x)], st, mem, 0) := q_s (.ok (.istore_n 1, 1)) (by decide +kernel) rfl
theorem r225_13 : pR X d 225 0 Q (13, [some (.ref a), l1], st, mem, 0) = pR X d 225 0 Q (14, [some (.ref a), l1], .ref a :: st, mem, 0) := q_s (.ok (.aload_n 0, 1)) (by decide +kernel) rfl
theorem r225_14 : pR X d 225 0 Q (14, L, st, mem, 0) = pR X d 225 0 Q (15, L, .int (iI (0)) :: st, mem, 0) := q_ic (by decide +kernel)
theorem r225_15 : pR X d 225 0 Q (15, L, p :: .ref a :: st, mem, 0) = pf 225 mem a 5 4 p (fun mem => pR X d 225 0 Q (18, L, st, mem, 0)) := q_put (ix := 303) (by decide +kernel) (by decide +kernel) (by decide)
theorem r225_18 : pR X d 225 0 Q (18, [l0, some (.int x)], st, mem, 0) = pR X d 225 0 Q (19, [l0, some (.int x)], .int x :: st, mem, 0) := q_s (.ok (.iload_n 1, 1)) (by decide +kernel) rfl
theorem r225_19 : pR X d 225 0 Q (19, L, [.int x], mem, 0) = Q (some (.int x)) mem := q_reti (by decide +kernel) rfl
theorem r226_0 : pR X d 226 0 Q (0, [l0, some (.int x)], st, mem, 0) = pR X d 226 0 Q (1, [l0, some (.int x)], .int x :: st, mem, 0) := q_s (.ok (.iload_n 1, 1)) (by decide +kernel) rfl
theorem r226_1 : pR X d 226 0 Q (1, L, .int x :: st, mem, 0) = (((x.toInt < 0 ∨ 7 < x.toInt) → pR X d 226 0 Q (97, L, st, mem, 0)) ∧ (x.toInt = 0 → pR X d 226 0 Q (48, L, st, mem, 0)) ∧ (x.toInt = 1 → pR X d 226 0 Q (55, L, st, mem, 0)) ∧ (x.toInt = 2 → pR X d 226 0 Q (62, L, st, mem, 0)) ∧ (x.toInt = 3 → pR X d 226 0 Q (67, L, st, mem, 0)) ∧ (x.toInt = 4 → pR X d 226 0 Q (73, L, st, mem, 0)) ∧ (x.toInt = 5 → pR X d 226 0 Q (80, L, st, mem, 0)) ∧ (x.toInt = 6 → pR X d 226 0 Q (85, L, st, mem, 0)) ∧ (x.toInt = 7 → pR X d 226 0 Q (92, L, st, mem, 0)) ∧ True) := q_tsl (dflt := 96) (lo := 0) (hi := 7) (offs := #[47, 54, 61, 66, 72, 79, 84, 91]) (ll := 47) (by decide +kernel) (by decide) (by decide) (by decide)
theorem r226_48 : pR X d 226 0 Q (48, [some (.ref a), l1], st, mem, 0) = pR X d 226 0 Q (49, [some (.ref a), l1], .ref a :: st, mem, 0) := q_s (.ok (.aload_n 0, 1)) (by decide +kernel) rfl
theorem r226_49 : pR X d 226 0 Q (49, L, .ref a :: st, mem, 0) = gf mem a 5 0 (fun p => pR X d 226 0 Q (52, L, p :: st, mem, 0)) := q_get (ix := 7) (by decide +kernel) (by decide +kernel)
theorem r226_52 : pR X d 226 0 Q (52, L, st, mem, 0) = pR X d 226 0 Q (53, L, .int (iI (1)) :: st, mem, 0) := q_ic (by decide +kernel)
theorem r226_53 : pR X d 226 0 Q (53, L, .int x :: .ref a :: st, mem, 0) = ri X mem a x (fun z => pR X d 226 0 Q (54, L, .int z :: st, mem, 0)) := q_ri (by decide +kernel)
theorem r226_54 : pR X d 226 0 Q (54, L, [.int x], mem, 0) = Q (some (.int x)) mem := q_reti (by decide +kernel) rfl
theorem r226_55 : pR X d 226 0 Q (55, [some (.ref a), l1], st, mem, 0) = pR X d 226 0 Q (56, [some (.ref a), l1], .ref a :: st, mem, 0) := q_s (.ok (.aload_n 0, 1)) (by decide +kernel) rfl
theorem r226_56 : pR X d 226 0 Q (56, L, .ref a :: st, mem, 0) = gf mem a 5 0 (fun p => pR X d 226 0 Q (59, L, p :: st, mem, 0)) := q_get (ix := 7) (by decide +kernel) (by decide +kernel)
theorem r226_59 : pR X d 226 0 Q (59, L, st, mem, 0) = pR X d 226 0 Q (60, L, .int (iI (0)) :: st, mem, 0) := q_ic (by decide +kernel)
theorem r226_60 : pR X d 226 0 Q (60, L, .int x :: .ref a :: st, mem, 0) = ri X mem a x (fun z => pR X d 226 0 Q (61, L, .int z :: st, mem, 0)) := q_ri (by decide +kernel)
theorem r226_61 : pR X d 226 0 Q (61, L, [.int x], mem, 0) = Q (some (.int x)) mem := q_reti (by decide +kernel) rfl
theorem r226_62 : pR X d 226 0 Q (62, [some (.ref a), l1], st, mem, 0) = pR X d 226 0 Q (63, [some (.ref a), l1], .ref a :: st, mem, 0) := q_s (.ok (.aload_n 0, 1)) (by decide +kernel) rfl
theorem r226_63 : pR X d 226 0 Q (63, L, .ref a :: [], mem, 0) = (prcv mem 5 a ∧ Cw X d 163 [.ref a] mem (fun r mem => pR X d 226 0 Q (66, L, r.toList ++ [], mem, 0))) := q_virt (ix := 138) (y2 := 163) (as := []) (by decide +kernel) (by decide +kernel) rfl rfl rfl (Nat.le_of_ble_eq_true rfl) (by decide)
theorem r226_66 : pR X d 226 0 Q (66, L, [.int x], mem, 0) = Q (some (.int x)) mem := q_reti (by decide +kernel) rfl
theorem r226_67 : pR X d 226 0 Q (67, [some (.ref a), l1], st, mem, 0) = pR X d 226 0 Q (68, [some (.ref a), l1], .ref a :: st, mem, 0) := q_s (.ok (.aload_n 0, 1)) (by decide +kernel) rfl
theorem r226_68 : pR X d 226 0 Q (68, L, st, mem, 0) = pR X d 226 0 Q (69, L, .int (iI (3)) :: st, mem, 0) := q_ic (by decide +kernel)
theorem r226_69 : pR X d 226 0 Q (69, L, .int y0 :: .ref a :: [], mem, 0) = (prcv mem 5 a ∧ Cw X d 164 [.ref a, .int y0] mem (fun r mem => pR X d 226 0 Q (72, L, r.toList ++ [], mem, 0))) := q_virt (ix := 94) (y2 := 164) (as := [.int y0]) (by decide +kernel) (by decide +kernel) rfl rfl rfl (Nat.le_of_ble_eq_true rfl) (by decide)
theorem r226_72 : pR X d 226 0 Q (72, L, [.int x], mem, 0) = Q (some (.int x)) mem := q_reti (by decide +kernel) rfl
theorem r226_73 : pR X d 226 0 Q (73, [some (.ref a), l1], st, mem, 0) = pR X d 226 0 Q (74, [some (.ref a), l1], .ref a :: st, mem, 0) := q_s (.ok (.aload_n 0, 1)) (by decide +kernel) rfl
theorem r226_74 : pR X d 226 0 Q (74, L, .ref a :: st, mem, 0) = gf mem a 5 0 (fun p => pR X d 226 0 Q (77, L, p :: st, mem, 0)) := q_get (ix := 7) (by decide +kernel) (by decide +kernel)
theorem r226_77 : pR X d 226 0 Q (77, L, st, mem, 0) = pR X d 226 0 Q (78, L, .int (iI (4)) :: st, mem, 0) := q_ic (by decide +kernel)
theorem r226_78 : pR X d 226 0 Q (78, L, .int x :: .ref a :: st, mem, 0) = ri X mem a x (fun z => pR X d 226 0 Q (79, L, .int z :: st, mem, 0)) := q_ri (by decide +kernel)
theorem r226_79 : pR X d 226 0 Q (79, L, [.int x], mem, 0) = Q (some (.int x)) mem := q_reti (by decide +kernel) rfl
theorem r226_80 : pR X d 226 0 Q (80, [some (.ref a), l1], st, mem, 0) = pR X d 226 0 Q (81, [some (.ref a), l1], .ref a :: st, mem, 0) := q_s (.ok (.aload_n 0, 1)) (by decide +kernel) rfl
theorem r226_81 : pR X d 226 0 Q (81, L, .ref a :: st, mem, 0) = gf mem a 5 7 (fun p => pR X d 226 0 Q (84, L, p :: st, mem, 0)) := q_get (ix := 201) (by decide +kernel) (by decide +kernel)
theorem r226_84 : pR X d 226 0 Q (84, L, [.int x], mem, 0) = Q (some (.int x)) mem := q_reti (by decide +kernel) rfl
theorem r226_85 : pR X d 226 0 Q (85, [some (.ref a), l1], st, mem, 0) = pR X d 226 0 Q (86, [some (.ref a), l1], .ref a :: st, mem, 0) := q_s (.ok (.aload_n 0, 1)) (by decide +kernel) rfl
theorem r226_86 : pR X d 226 0 Q (86, L, .ref a :: st, mem, 0) = gf mem a 5 0 (fun p => pR X d 226 0 Q (89, L, p :: st, mem, 0)) := q_get (ix := 7) (by decide +kernel) (by decide +kernel)
theorem r226_89 : pR X d 226 0 Q (89, L, st, mem, 0) = pR X d 226 0 Q (90, L, .int (iI (2)) :: st, mem, 0) := q_ic (by decide +kernel)
theorem r226_90 : pR X d 226 0 Q (90, L, .int x :: .ref a :: st, mem, 0) = ri X mem a x (fun z => pR X d 226 0 Q (91, L, .int z :: st, mem, 0)) := q_ri (by decide +kernel)
theorem r226_91 : pR X d 226 0 Q (91, L, [.int x], mem, 0) = Q (some (.int x)) mem := q_reti (by decide +kernel) rfl
theorem r226_92 : pR X d 226 0 Q (92, [some (.ref a), l1], st, mem, 0) = pR X d 226 0 Q (93, [some (.ref a), l1], .ref a :: st, mem, 0) := q_s (.ok (.aload_n 0, 1)) (by decide +kernel) rfl
theorem r226_93 : pR X d 226 0 Q (93, L, .ref a :: [], mem, 0) = (prcv mem 5 a ∧ Cw X d 227 [.ref a] mem (fun r mem => pR X d 226 0 Q (96, L, r.toList ++ [], mem, 0))) := q_virt (ix := 307) (y2 := 227) (as := []) (by decide +kernel) (by decide +kernel) rfl rfl rfl (Nat.le_of_ble_eq_true rfl) (by decide)
theorem r226_96 : pR X d 226 0 Q (96, L, [.int x], mem, 0) = Q (some (.int x)) mem := q_reti (by decide +kernel) rfl
theorem r226_97 : pR X d 226 0 Q (97, [some (.ref a), l1], st, mem, 0) = pR X d 226 0 Q (98, [some (.ref a), l1], .ref a :: st, mem, 0) := q_s (.ok (.aload_n 0, 1)) (by decide +kernel) rfl
theorem r226_98 : pR X d 226 0 Q (98, L, st, mem, 0) = pR X d 226 0 Q (99, L, .int (iI (0)) :: st, mem, 0) := q_ic (by decide +kernel)
theorem r226_99 : pR X d 226 0 Q (99, L, .int y0 :: .ref a :: [], mem, 0) = (prcv mem 5 a ∧ Cw X d 137 [.ref a, .int y0] mem (fun r mem => pR X d 226 0 Q (102, L, r.toList ++ [], mem, 0))) := q_virt (ix := 106) (y2 := 137) (as := [.int y0]) (by decide +kernel) (by decide +kernel) rfl rfl rfl (Nat.le_of_ble_eq_true rfl) (by decide)
theorem r226_102 : pR X d 226 0 Q (102, L, [.int x], mem, 0) = Q (some (.int x)) mem := q_reti (by decide +kernel) rfl
theorem r227_0 : pR X d 227 0 Q (0, L, st, mem, 0) = pR X d 227 0 Q (1, L, .int (iI (0)) :: st, mem, 0) := q_ic (by decide +kernel)
theorem r227_1 : pR X d 227 0 Q (1, [l0, l1, l2], .int x :: st, mem, 0) = pR X d 227 0 Q (2, [cl1 l0, some (.int x), l2], st, mem, 0) := q_s (.ok (.istore_n 1, 1)) (by decide +kernel) rfl
theorem r227_2 : pR X d 227 0 Q (2, L, st, mem, 0) = pR X d 227 0 Q (3, L, .int (iI (0)) :: st, mem, 0) := q_ic (by decide +kernel)
theorem r227_3 : pR X d 227 0 Q (3, [l0, l1, l2], .int x :: st, mem, 0) = pR X d 227 0 Q (4, [l0, cl1 l1, some (.int x)], st, mem, 0) := q_s (.ok (.istore_n 2, 1)) (by decide +kernel) rfl
theorem r227_4 : pR X d 227 0 Q (4, [l0, l1, some (.int x)], st, mem, 0) = pR X d 227 0 Q (5, [l0, l1, some (.int x)], .int x :: st, mem, 0) := q_s (.ok (.iload_n 2, 1)) (by decide +kernel) rfl
theorem r227_5 : pR X d 227 0 Q (5, L, st, mem, 0) = pR X d 227 0 Q (7, L, .int (iI (10)) :: st, mem, 0) := q_bi (n := 10) (by decide +kernel) (by decide +kernel)
theorem r227_7 : pR X d 227 0 Q (7, L, .int z :: .int x :: st, mem, 0) = ((z ≤ x → pR X d 227 0 Q (36, L, st, mem, 0)) ∧ (¬ (z ≤ x) → pR X d 227 0 Q (10, L, st, mem, 0))) := r_ic (c := .ge) (off := 29) (by decide +kernel) (by decide)
theorem r227_10 : pR X d 227 0 Q (10, [l0, some (.int x), l2], st, mem, 0) = pR X d 227 0 Q (11, [l0, some (.int x), l2], .int x :: st, mem, 0) := q_s (.ok (.iload_n 1, 1)) (by decide +kernel) rfl
theorem r227_11 : pR X d 227 0 Q (11, [some (.ref a), l1, l2], st, mem, 0) = pR X d 227 0 Q (12, [some (.ref a), l1, l2], .ref a :: st, mem, 0) := q_s (.ok (.aload_n 0, 1)) (by decide +kernel) rfl
theorem r227_12 : pR X d 227 0 Q (12, L, .ref a :: st, mem, 0) = gf mem a 5 0 (fun p => pR X d 227 0 Q (15, L, p :: st, mem, 0)) := q_get (ix := 7) (by decide +kernel) (by decide +kernel)
theorem r227_15 : pR X d 227 0 Q (15, L, st, mem, 0) = pR X d 227 0 Q (17, L, .int (iI (59)) :: st, mem, 0) := q_bi (n := 59) (by decide +kernel) (by decide +kernel)
theorem r227_17 : pR X d 227 0 Q (17, [l0, l1, some (.int x)], st, mem, 0) = pR X d 227 0 Q (18, [l0, l1, some (.int x)], .int x :: st, mem, 0) := q_s (.ok (.iload_n 2, 1)) (by decide +kernel) rfl
theorem r227_18 : pR X d 227 0 Q (18, L, .int z :: .int x :: st, mem, 0) = pR X d 227 0 Q (19, L, .int (x + z) :: st, mem, 0) := q_s (.ok (.iadd, 1)) (by decide +kernel) rfl
theorem r227_19 : pR X d 227 0 Q (19, L, .int x :: .ref a :: st, mem, 0) = ri X mem a x (fun z => pR X d 227 0 Q (20, L, .int z :: st, mem, 0)) := q_ri (by decide +kernel)
theorem r227_20 : pR X d 227 0 Q (20, L, .int x :: st, mem, 0) = ((x ≤ 0 → pR X d 227 0 Q (27, L, st, mem, 0)) ∧ (¬ (x ≤ 0) → pR X d 227 0 Q (23, L, st, mem, 0))) := r_if (c := .le) (off := 7) (by decide +kernel) (by decide)
theorem r227_23 : pR X d 227 0 Q (23, L, st, mem, 0) = pR X d 227 0 Q (24, L, .int (iI (1)) :: st, mem, 0) := q_ic (by decide +kernel)
theorem r227_24 : pR X d 227 0 Q (24, L, st, mem, 0) = pR X d 227 0 Q (28, L, st, mem, 0) := q_s (.ok (.goto (4), 3)) (by decide +kernel) rfl
theorem r227_27 : pR X d 227 0 Q (27, L, st, mem, 0) = pR X d 227 0 Q (28, L, .int (iI (0)) :: st, mem, 0) := q_ic (by decide +kernel)
theorem r227_28 : pR X d 227 0 Q (28, L, .int z :: .int x :: st, mem, 0) = pR X d 227 0 Q (29, L, .int (x + z) :: st, mem, 0) := q_s (.ok (.iadd, 1)) (by decide +kernel) rfl
theorem r227_29 : pR X d 227 0 Q (29, [l0, l1, l2], .int x :: st, mem, 0) = pR X d 227 0 Q (30, [cl1 l0, some (.int x), l2], st, mem, 0) := q_s (.ok (.istore_n 1, 1)) (by decide +kernel) rfl
theorem r227_30 : pR X d 227 0 Q (30, [l0, l1, some (.int x)], st, mem, 0) = pR X d 227 0 Q (33, [l0, cl1 l1, some (.int (x + iI (1)))], st, mem, 0) := q_s (.ok (.iinc 2 (1), 3)) (by decide +kernel) rfl
theorem r227_33 : pR X d 227 0 Q (33, L, st, mem, 0) = pR X d 227 0 Q (4, L, st, mem, 0) := q_s (.ok (.goto (-29), 3)) (by decide +kernel) rfl
theorem r227_36 : pR X d 227 0 Q (36, [l0, some (.int x), l2], st, mem, 0) = pR X d 227 0 Q (37, [l0, some (.int x), l2], .int x :: st, mem, 0) := q_s (.ok (.iload_n 1, 1)) (by decide +kernel) rfl
theorem r227_37 : pR X d 227 0 Q (37, L, [.int x], mem, 0) = Q (some (.int x)) mem := q_reti (by decide +kernel) rfl
theorem r228_0 : pR X d 228 0 Q (0, [l0, some (.int x), l2, l3], st, mem, 0) = pR X d 228 0 Q (1, [l0, some (.int x), l2, l3], .int x :: st, mem, 0) := q_s (.ok (.iload_n 1, 1)) (by decide +kernel) rfl
theorem r228_1 : pR X d 228 0 Q (1, L, .int x :: st, mem, 0) = pR X d 228 0 Q (2, L, .long x.toInt64 :: st, mem, 0) := q_s (.ok (.i2l, 1)) (by decide +kernel) rfl
theorem r228_2 : pR X d 228 0 Q (2, L, st, mem, 0) = pR X d 228 0 Q (5, L, .long (lI (-1)) :: st, mem, 0) := q_ldc2 (k := 293) (by decide +kernel) (by decide +kernel)
theorem r228_5 : pR X d 228 0 Q (5, L, st, mem, 0) = pR X d 228 0 Q (8, L, .long (lI (6)) :: st, mem, 0) := q_ldc2 (k := 115) (by decide +kernel) (by decide +kernel)
theorem r228_8 : pR X d 228 0 Q (8, L, .long v2 :: .long v1 :: .long v0 :: [], mem, 0) = Cw X d 135 [.long v0, .long v1, .long v2] mem (fun r mem => pR X d 228 0 Q (11, L, r.toList ++ [], mem, 0)) := q_stat (ix := 42) (kd := 1) (y2 := 135) (as := [.long v2, .long v1, .long v0]) (by decide +kernel) (by decide +kernel) (by decide) rfl rfl rfl (Nat.le_of_ble_eq_true rfl) (by decide)
theorem r228_11 : pR X d 228 0 Q (11, L, .int x :: st, mem, 0) = ((¬ x = 0 → pR X d 228 0 Q (20, L, st, mem, 0)) ∧ (¬ (¬ x = 0) → pR X d 228 0 Q (14, L, st, mem, 0))) := r_if (c := .ne) (off := 9) (by decide +kernel) (by decide)
theorem r228_14 : pR X d 228 0 Q (14, [some (.ref a), l1, l2, l3], st, mem, 0) = pR X d 228 0 Q (15, [some (.ref a), l1, l2, l3], .ref a :: st, mem, 0) := q_s (.ok (.aload_n 0, 1)) (by decide +kernel) rfl
theorem r228_15 : pR X d 228 0 Q (15, L, st, mem, 0) = pR X d 228 0 Q (16, L, .int (iI (0)) :: st, mem, 0) := q_ic (by decide +kernel)
theorem r228_16 : pR X d 228 0 Q (16, L, .int y0 :: .ref a :: [], mem, 0) = (prcv mem 5 a ∧ Cw X d 137 [.ref a, .int y0] mem (fun r mem => pR X d 228 0 Q (19, L, r.toList ++ [], mem, 0))) := q_virt (ix := 106) (y2 := 137) (as := [.int y0]) (by decide +kernel) (by decide +kernel) rfl rfl rfl (Nat.le_of_ble_eq_true rfl) (by decide)
theorem r228_19 : pR X d 228 0 Q (19, L, [.int x], mem, 0) = Q (some (.int x)) mem := q_reti (by decide +kernel) rfl
theorem r228_20 : pR X d 228 0 Q (20, L, st, mem, 0) = pR X d 228 0 Q (21, L, .int (iI (0)) :: st, mem, 0) := q_ic (by decide +kernel)
theorem r228_21 : pR X d 228 0 Q (21, [l0, l1, l2, l3], .int x :: st, mem, 0) = pR X d 228 0 Q (22, [l0, cl1 l1, some (.int x), l3], st, mem, 0) := q_s (.ok (.istore_n 2, 1)) (by decide +kernel) rfl
theorem r228_22 : pR X d 228 0 Q (22, L, st, mem, 0) = pR X d 228 0 Q (23, L, .int (iI (0)) :: st, mem, 0) := q_ic (by decide +kernel)
theorem r228_23 : pR X d 228 0 Q (23, [l0, l1, l2, l3], .int x :: st, mem, 0) = pR X d 228 0 Q (24, [l0, l1, cl1 l2, some (.int x)], st, mem, 0) := q_s (.ok (.istore_n 3, 1)) (by decide +kernel) rfl
theorem r228_24 : pR X d 228 0 Q (24, [l0, l1, l2, some (.int x)], st, mem, 0) = pR X d 228 0 Q (25, [l0, l1, l2, some (.int x)], .int x :: st, mem, 0) := q_s (.ok (.iload_n 3, 1)) (by decide +kernel) rfl
theorem r228_25 : pR X d 228 0 Q (25, L, st, mem, 0) = pR X d 228 0 Q (27, L, .int (iI (7)) :: st, mem, 0) := q_bi (n := 7) (by decide +kernel) (by decide +kernel)
theorem r228_27 : pR X d 228 0 Q (27, L, .int z :: .int x :: st, mem, 0) = ((z ≤ x → pR X d 228 0 Q (45, L, st, mem, 0)) ∧ (¬ (z ≤ x) → pR X d 228 0 Q (30, L, st, mem, 0))) := r_ic (c := .ge) (off := 18) (by decide +kernel) (by decide)
theorem r228_30 : pR X d 228 0 Q (30, [l0, l1, some (.int x), l3], st, mem, 0) = pR X d 228 0 Q (31, [l0, l1, some (.int x), l3], .int x :: st, mem, 0) := q_s (.ok (.iload_n 2, 1)) (by decide +kernel) rfl
theorem r228_31 : pR X d 228 0 Q (31, [some (.ref a), l1, l2, l3], st, mem, 0) = pR X d 228 0 Q (32, [some (.ref a), l1, l2, l3], .ref a :: st, mem, 0) := q_s (.ok (.aload_n 0, 1)) (by decide +kernel) rfl
theorem r228_32 : pR X d 228 0 Q (32, L, .ref a :: st, mem, 0) = gf mem a 5 5 (fun p => pR X d 228 0 Q (35, L, p :: st, mem, 0)) := q_get (ix := 22) (by decide +kernel) (by decide +kernel)
theorem r228_35 : pR X d 228 0 Q (35, [l0, l1, l2, some (.int x)], st, mem, 0) = pR X d 228 0 Q (36, [l0, l1, l2, some (.int x)], .int x :: st, mem, 0) := q_s (.ok (.iload_n 3, 1)) (by decide +kernel) rfl
theorem r228_36 : pR X d 228 0 Q (36, L, .int x :: .ref a :: st, mem, 0) = ri X mem a x (fun z => pR X d 228 0 Q (37, L, .int z :: st, mem, 0)) := q_ri (by decide +kernel)
theorem r228_37 : pR X d 228 0 Q (37, L, .int z :: .int x :: st, mem, 0) = pR X d 228 0 Q (38, L, .int (x + z) :: st, mem, 0) := q_s (.ok (.iadd, 1)) (by decide +kernel) rfl
theorem r228_38 : pR X d 228 0 Q (38, [l0, l1, l2, l3], .int x :: st, mem, 0) = pR X d 228 0 Q (39, [l0, cl1 l1, some (.int x), l3], st, mem, 0) := q_s (.ok (.istore_n 2, 1)) (by decide +kernel) rfl
theorem r228_39 : pR X d 228 0 Q (39, [l0, l1, l2, some (.int x)], st, mem, 0) = pR X d 228 0 Q (42, [l0, l1, cl1 l2, some (.int (x + iI (1)))], st, mem, 0) := q_s (.ok (.iinc 3 (1), 3)) (by decide +kernel) rfl
theorem r228_42 : pR X d 228 0 Q (42, L, st, mem, 0) = pR X d 228 0 Q (24, L, st, mem, 0) := q_s (.ok (.goto (-18), 3)) (by decide +kernel) rfl
theorem r228_45 : pR X d 228 0 Q (45, [l0, some (.int x), l2, l3], st, mem, 0) = pR X d 228 0 Q (46, [l0, some (.int x), l2, l3], .int x :: st, mem, 0) := q_s (.ok (.iload_n 1, 1)) (by decide +kernel) rfl
theorem r228_46 : pR X d 228 0 Q (46, L, .int x :: st, mem, 0) = ((0 ≤ x → pR X d 228 0 Q (53, L, st, mem, 0)) ∧ (¬ (0 ≤ x) → pR X d 228 0 Q (49, L, st, mem, 0))) := r_if (c := .ge) (off := 7) (by decide +kernel) (by decide)
theorem r228_49 : pR X d 228 0 Q (49, [l0, l1, some (.int x), l3], st, mem, 0) = pR X d 228 0 Q (50, [l0, l1, some (.int x), l3], .int x :: st, mem, 0) := q_s (.ok (.iload_n 2, 1)) (by decide +kernel) rfl
theorem r228_50 : pR X d 228 0 Q (50, L, st, mem, 0) = pR X d 228 0 Q (59, L, st, mem, 0) := q_s (.ok (.goto (9), 3)) (by decide +kernel) rfl
theorem r228_53 : pR X d 228 0 Q (53, [some (.ref a), l1, l2, l3], st, mem, 0) = pR X d 228 0 Q (54, [some (.ref a), l1, l2, l3], .ref a :: st, mem, 0) := q_s (.ok (.aload_n 0, 1)) (by decide +kernel) rfl
theorem r228_54 : pR X d 228 0 Q (54, L, .ref a :: st, mem, 0) = gf mem a 5 5 (fun p => pR X d 228 0 Q (57, L, p :: st, mem, 0)) := q_get (ix := 22) (by decide +kernel) (by decide +kernel)
theorem r228_57 : pR X d 228 0 Q (57, [l0, some (.int x), l2, l3], st, mem, 0) = pR X d 228 0 Q (58, [l0, some (.int x), l2, l3], .int x :: st, mem, 0) := q_s (.ok (.iload_n 1, 1)) (by decide +kernel) rfl
theorem r228_58 : pR X d 228 0 Q (58, L, .int x :: .ref a :: st, mem, 0) = ri X mem a x (fun z => pR X d 228 0 Q (59, L, .int z :: st, mem, 0)) := q_ri (by decide +kernel)
theorem r228_59 : pR X d 228 0 Q (59, L, [.int x], mem, 0) = Q (some (.int x)) mem := q_reti (by decide +kernel) rfl
end

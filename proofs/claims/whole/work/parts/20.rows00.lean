section
variable {X : pXX} {d lim u : Nat} {Q : Option Value → List pME → Prop} {L : List (Option Value)} {st : List Value} {mem : List pME} {x z z1 z2 z3 y0 y1 y2 y3 y4 k0 k1 k2 k3 k4 k5 k6 : Int32} {v w v0 v1 v2 w0 w1 w2 : Int64} {a b b0 b1 b2 b3 c0 c1 c2 c3 c4 c5 : Nat} {p : Value} {l0 l1 l2 l3 l4 l5 l6 l7 l8 l9 : Option Value}
theorem r0_0 : pR X d 0 lim Q (0, [some (.ref a), l1], st, mem, u) = pR X d 0 lim Q (1, [some (.ref a), l1], .ref a :: st, mem, u) := q_s (.ok (.aload_n 0, 1)) (by decide +kernel) rfl
theorem r0_1 (h1 : 1 ≤ d) : pR X d 0 lim Q (1, L, .ref a :: [], mem, u) = pR X d 0 lim Q (4, L, [], mem, u) := q_obj (ix := 1) (yy := 0) (by decide +kernel) (by decide +kernel) (Nat.le_of_ble_eq_true rfl) h1
theorem r0_4 : pR X d 0 lim Q (4, [some (.ref a), l1], st, mem, u) = pR X d 0 lim Q (5, [some (.ref a), l1], .ref a :: st, mem, u) := q_s (.ok (.aload_n 0, 1)) (by decide +kernel) rfl
theorem r0_5_d : decode (yB 0) 5 = .ok (.new 7, 3) := (by decide +kernel)
theorem r0_8 : pR X d 0 lim Q (8, L, .ref a :: st, mem, u) = pR X d 0 lim Q (9, L, .ref a :: .ref a :: st, mem, u) := q_s (.ok (.dup, 1)) (by decide +kernel) rfl
theorem r0_9 (hu : u + 11 ≤ lim) : pR X d 0 lim Q (9, L, .ref a :: [.ref c0, .ref c1], mem, u) = Cw X d 1 [.ref a] mem (fun r mem => pR X d 0 lim Q (12, L, r.toList ++ [.ref c0, .ref c1], mem, (u + 11))) := q_init (ix := 9) (kd := 3) (y2 := 1) (as := []) (by decide +kernel) (by decide +kernel) (by decide) rfl rfl rfl (Nat.le_of_ble_eq_true rfl) hu
theorem r0_12 : pR X d 0 lim Q (12, L, p :: .ref a :: st, mem, u) = pf 0 mem a 4 0 p (fun mem => pR X d 0 lim Q (15, L, st, mem, u)) := q_put (ix := 10) (by decide +kernel) (by decide +kernel) (by decide)
theorem r0_15 : pR X d 0 lim Q (15, [some (.ref a), l1], st, mem, u) = pR X d 0 lim Q (16, [some (.ref a), l1], .ref a :: st, mem, u) := q_s (.ok (.aload_n 0, 1)) (by decide +kernel) rfl
theorem r0_16_d : decode (yB 0) 16 = .ok (.new 7, 3) := (by decide +kernel)
theorem r0_19 : pR X d 0 lim Q (19, L, .ref a :: st, mem, u) = pR X d 0 lim Q (20, L, .ref a :: .ref a :: st, mem, u) := q_s (.ok (.dup, 1)) (by decide +kernel) rfl
theorem r0_20 (hu : u + 11 ≤ lim) : pR X d 0 lim Q (20, L, .ref a :: [.ref c0, .ref c1], mem, u) = Cw X d 1 [.ref a] mem (fun r mem => pR X d 0 lim Q (23, L, r.toList ++ [.ref c0, .ref c1], mem, (u + 11))) := q_init (ix := 9) (kd := 3) (y2 := 1) (as := []) (by decide +kernel) (by decide +kernel) (by decide) rfl rfl rfl (Nat.le_of_ble_eq_true rfl) hu
theorem r0_23 : pR X d 0 lim Q (23, L, p :: .ref a :: st, mem, u) = pf 0 mem a 4 1 p (fun mem => pR X d 0 lim Q (26, L, st, mem, u)) := q_put (ix := 16) (by decide +kernel) (by decide +kernel) (by decide)
theorem r0_26 : pR X d 0 lim Q (26, [some (.ref a), l1], st, mem, u) = pR X d 0 lim Q (27, [some (.ref a), l1], .ref a :: st, mem, u) := q_s (.ok (.aload_n 0, 1)) (by decide +kernel) rfl
theorem r0_27_d : decode (yB 0) 27 = .ok (.new 7, 3) := (by decide +kernel)
theorem r0_30 : pR X d 0 lim Q (30, L, .ref a :: st, mem, u) = pR X d 0 lim Q (31, L, .ref a :: .ref a :: st, mem, u) := q_s (.ok (.dup, 1)) (by decide +kernel) rfl
theorem r0_31 (hu : u + 11 ≤ lim) : pR X d 0 lim Q (31, L, .ref a :: [.ref c0, .ref c1], mem, u) = Cw X d 1 [.ref a] mem (fun r mem => pR X d 0 lim Q (34, L, r.toList ++ [.ref c0, .ref c1], mem, (u + 11))) := q_init (ix := 9) (kd := 3) (y2 := 1) (as := []) (by decide +kernel) (by decide +kernel) (by decide) rfl rfl rfl (Nat.le_of_ble_eq_true rfl) hu
theorem r0_34 : pR X d 0 lim Q (34, L, p :: .ref a :: st, mem, u) = pf 0 mem a 4 2 p (fun mem => pR X d 0 lim Q (37, L, st, mem, u)) := q_put (ix := 19) (by decide +kernel) (by decide +kernel) (by decide)
theorem r0_37 : pR X d 0 lim Q (37, [some (.ref a), l1], st, mem, u) = pR X d 0 lim Q (38, [some (.ref a), l1], .ref a :: st, mem, u) := q_s (.ok (.aload_n 0, 1)) (by decide +kernel) rfl
theorem r0_38 : pR X d 0 lim Q (38, L, st, mem, u) = pR X d 0 lim Q (39, L, .int (iI (0)) :: st, mem, u) := q_ic (by decide +kernel)
theorem r0_39 : pR X d 0 lim Q (39, L, p :: .ref a :: st, mem, u) = pf 0 mem a 4 3 p (fun mem => pR X d 0 lim Q (42, L, st, mem, u)) := q_put (ix := 22) (by decide +kernel) (by decide +kernel) (by decide)
theorem r0_42 : pR X d 0 lim Q (42, [some (.ref a), l1], st, mem, u) = pR X d 0 lim Q (43, [some (.ref a), l1], .ref a :: st, mem, u) := q_s (.ok (.aload_n 0, 1)) (by decide +kernel) rfl
theorem r0_43_d : decode (yB 0) 43 = .ok (.new 26, 3) := (by decide +kernel)
theorem r0_46 : pR X d 0 lim Q (46, L, .ref a :: st, mem, u) = pR X d 0 lim Q (47, L, .ref a :: .ref a :: st, mem, u) := q_s (.ok (.dup, 1)) (by decide +kernel) rfl
theorem r0_47 (hu : u + 1 ≤ lim) : pR X d 0 lim Q (47, L, .ref a :: [.ref c0, .ref c1], mem, u) = Cw X d 3 [.ref a] mem (fun r mem => pR X d 0 lim Q (50, L, r.toList ++ [.ref c0, .ref c1], mem, (u + 1))) := q_init (ix := 28) (kd := 4) (y2 := 3) (as := []) (by decide +kernel) (by decide +kernel) (by decide) rfl rfl rfl (Nat.le_of_ble_eq_true rfl) hu
theorem r0_50 : pR X d 0 lim Q (50, L, p :: .ref a :: st, mem, u) = pf 0 mem a 4 4 p (fun mem => pR X d 0 lim Q (53, L, st, mem, u)) := q_put (ix := 29) (by decide +kernel) (by decide +kernel) (by decide)
theorem r0_53 : pR X d 0 lim Q (53, [some (.ref a), l1], st, mem, u) = pR X d 0 lim Q (54, [some (.ref a), l1], .ref a :: st, mem, u) := q_s (.ok (.aload_n 0, 1)) (by decide +kernel) rfl
theorem r0_54 : pR X d 0 lim Q (54, L, st, mem, u) = pR X d 0 lim Q (55, L, .int (iI (4)) :: st, mem, u) := q_ic (by decide +kernel)
theorem r0_55_d : decode (yB 0) 55 = .ok (.anewarray 33, 3) := (by decide +kernel)
theorem r0_58 : pR X d 0 lim Q (58, L, p :: .ref a :: st, mem, u) = pf 0 mem a 4 5 p (fun mem => pR X d 0 lim Q (61, L, st, mem, u)) := q_put (ix := 35) (by decide +kernel) (by decide +kernel) (by decide)
theorem r0_61 : pR X d 0 lim Q (61, [some (.ref a), l1], st, mem, u) = pR X d 0 lim Q (62, [some (.ref a), l1], .ref a :: st, mem, u) := q_s (.ok (.aload_n 0, 1)) (by decide +kernel) rfl
theorem r0_62 : pR X d 0 lim Q (62, L, st, mem, u) = pR X d 0 lim Q (64, L, .int (iI (7)) :: st, mem, u) := q_bi (n := 7) (by decide +kernel) (by decide +kernel)
theorem r0_64_d : decode (yB 0) 64 = .ok (.newarray .int, 2) := (by decide +kernel)
theorem r0_66 : pR X d 0 lim Q (66, L, p :: .ref a :: st, mem, u) = pf 0 mem a 4 6 p (fun mem => pR X d 0 lim Q (69, L, st, mem, u)) := q_put (ix := 39) (by decide +kernel) (by decide +kernel) (by decide)
theorem r0_69 : pR X d 0 lim Q (69, L, st, mem, u) = pR X d 0 lim Q (70, L, .int (iI (0)) :: st, mem, u) := q_ic (by decide +kernel)
theorem r0_70 : pR X d 0 lim Q (70, [l0, l1], .int x :: st, mem, u) = pR X d 0 lim Q (71, [cl1 l0, some (.int x)], st, mem, u) := q_s (.ok (.istore_n 1, 1)) (by decide +kernel) rfl
theorem r0_71 : pR X d 0 lim Q (71, [l0, some (.int x)], st, mem, u) = pR X d 0 lim Q (72, [l0, some (.int x)], .int x :: st, mem, u) := q_s (.ok (.iload_n 1, 1)) (by decide +kernel) rfl
theorem r0_72 : pR X d 0 lim Q (72, L, st, mem, u) = pR X d 0 lim Q (73, L, .int (iI (4)) :: st, mem, u) := q_ic (by decide +kernel)
theorem r0_73 : pR X d 0 lim Q (73, L, .int z :: .int x :: st, mem, u) = ((z ≤ x → pR X d 0 lim Q (95, L, st, mem, u)) ∧ (¬ (z ≤ x) → pR X d 0 lim Q (76, L, st, mem, u))) := r_ic (c := .ge) (off := 22) (by decide +kernel) (by decide)
theorem r0_76 : pR X d 0 lim Q (76, [some (.ref a), l1], st, mem, u) = pR X d 0 lim Q (77, [some (.ref a), l1], .ref a :: st, mem, u) := q_s (.ok (.aload_n 0, 1)) (by decide +kernel) rfl
theorem r0_77 : pR X d 0 lim Q (77, L, .ref a :: st, mem, u) = gf mem a 4 5 (fun p => pR X d 0 lim Q (80, L, p :: st, mem, u)) := q_get (ix := 35) (by decide +kernel) (by decide +kernel)
theorem r0_80 : pR X d 0 lim Q (80, [l0, some (.int x)], st, mem, u) = pR X d 0 lim Q (81, [l0, some (.int x)], .int x :: st, mem, u) := q_s (.ok (.iload_n 1, 1)) (by decide +kernel) rfl
theorem r0_81_d : decode (yB 0) 81 = .ok (.new 33, 3) := (by decide +kernel)
theorem r0_84 : pR X d 0 lim Q (84, L, .ref a :: st, mem, u) = pR X d 0 lim Q (85, L, .ref a :: .ref a :: st, mem, u) := q_s (.ok (.dup, 1)) (by decide +kernel) rfl
theorem r0_85 (hu : u + 1 ≤ lim) : pR X d 0 lim Q (85, L, .ref a :: [.ref c0, .int k1, .ref c2], mem, u) = Cw X d 4 [.ref a] mem (fun r mem => pR X d 0 lim Q (88, L, r.toList ++ [.ref c0, .int k1, .ref c2], mem, (u + 1))) := q_init (ix := 43) (kd := 4) (y2 := 4) (as := []) (by decide +kernel) (by decide +kernel) (by decide) rfl rfl rfl (Nat.le_of_ble_eq_true rfl) hu
theorem r0_88 : pR X d 0 lim Q (88, L, .ref b :: .int x :: .ref a :: st, mem, u) = wa mem a x b (fun mem => pR X d 0 lim Q (89, L, st, mem, u)) := q_wa (by decide +kernel)
theorem r0_89 : pR X d 0 lim Q (89, [l0, some (.int x)], st, mem, u) = pR X d 0 lim Q (92, [cl1 l0, some (.int (x + iI (1)))], st, mem, u) := q_s (.ok (.iinc 1 (1), 3)) (by decide +kernel) rfl
theorem r0_92 : pR X d 0 lim Q (92, L, st, mem, u) = pR X d 0 lim Q (71, L, st, mem, u) := q_s (.ok (.goto (-21), 3)) (by decide +kernel) rfl
theorem r0_95 : pR X d 0 lim Q (95, L, [], mem, lim) = Q none mem := q_retv (by decide +kernel) rfl
theorem r1_0 : pR X d 1 lim Q (0, [some (.ref a), l1], st, mem, u) = pR X d 1 lim Q (1, [some (.ref a), l1], .ref a :: st, mem, u) := q_s (.ok (.aload_n 0, 1)) (by decide +kernel) rfl
theorem r1_1 (h1 : 1 ≤ d) : pR X d 1 lim Q (1, L, .ref a :: [], mem, u) = pR X d 1 lim Q (4, L, [], mem, u) := q_obj (ix := 3) (yy := 0) (by decide +kernel) (by decide +kernel) (Nat.le_of_ble_eq_true rfl) h1
theorem r1_4 : pR X d 1 lim Q (4, [some (.ref a), l1], st, mem, u) = pR X d 1 lim Q (5, [some (.ref a), l1], .ref a :: st, mem, u) := q_s (.ok (.aload_n 0, 1)) (by decide +kernel) rfl
theorem r1_5 : pR X d 1 lim Q (5, L, st, mem, u) = pR X d 1 lim Q (7, L, .int (iI (19)) :: st, mem, u) := q_bi (n := 19) (by decide +kernel) (by decide +kernel)
theorem r1_7 : pR X d 1 lim Q (7, L, p :: .ref a :: st, mem, u) = pf 1 mem a 3 0 p (fun mem => pR X d 1 lim Q (10, L, st, mem, u)) := q_put (ix := 9) (by decide +kernel) (by decide +kernel) (by decide)
theorem r1_10 : pR X d 1 lim Q (10, [some (.ref a), l1], st, mem, u) = pR X d 1 lim Q (11, [some (.ref a), l1], .ref a :: st, mem, u) := q_s (.ok (.aload_n 0, 1)) (by decide +kernel) rfl
theorem r1_11 : pR X d 1 lim Q (11, L, st, mem, u) = pR X d 1 lim Q (12, L, .int (iI (0)) :: st, mem, u) := q_ic (by decide +kernel)
theorem r1_12 : pR X d 1 lim Q (12, L, p :: .ref a :: st, mem, u) = pf 1 mem a 3 1 p (fun mem => pR X d 1 lim Q (15, L, st, mem, u)) := q_put (ix := 15) (by decide +kernel) (by decide +kernel) (by decide)
theorem r1_15 : pR X d 1 lim Q (15, [some (.ref a), l1], st, mem, u) = pR X d 1 lim Q (16, [some (.ref a), l1], .ref a :: st, mem, u) := q_s (.ok (.aload_n 0, 1)) (by decide +kernel) rfl
theorem r1_16 : pR X d 1 lim Q (16, L, st, mem, u) = pR X d 1 lim Q (17, L, .int (iI (0)) :: st, mem, u) := q_ic (by decide +kernel)
theorem r1_17 : pR X d 1 lim Q (17, L, p :: .ref a :: st, mem, u) = pf 1 mem a 3 2 p (fun mem => pR X d 1 lim Q (20, L, st, mem, u)) := q_put (ix := 18) (by decide +kernel) (by decide +kernel) (by decide)
theorem r1_20 : pR X d 1 lim Q (20, [some (.ref a), l1], st, mem, u) = pR X d 1 lim Q (21, [some (.ref a), l1], .ref a :: st, mem, u) := q_s (.ok (.aload_n 0, 1)) (by decide +kernel) rfl
theorem r1_21 : pR X d 1 lim Q (21, L, st, mem, u) = pR X d 1 lim Q (22, L, .int (iI (1)) :: st, mem, u) := q_ic (by decide +kernel)
theorem r1_22 : pR X d 1 lim Q (22, L, p :: .ref a :: st, mem, u) = pf 1 mem a 3 3 p (fun mem => pR X d 1 lim Q (25, L, st, mem, u)) := q_put (ix := 21) (by decide +kernel) (by decide +kernel) (by decide)
theorem r1_25 : pR X d 1 lim Q (25, [some (.ref a), l1], st, mem, u) = pR X d 1 lim Q (26, [some (.ref a), l1], .ref a :: st, mem, u) := q_s (.ok (.aload_n 0, 1)) (by decide +kernel) rfl
theorem r1_26 : pR X d 1 lim Q (26, L, st, mem, u) = pR X d 1 lim Q (27, L, .int (iI (0)) :: st, mem, u) := q_ic (by decide +kernel)
theorem r1_27 : pR X d 1 lim Q (27, L, p :: .ref a :: st, mem, u) = pf 1 mem a 3 4 p (fun mem => pR X d 1 lim Q (30, L, st, mem, u)) := q_put (ix := 24) (by decide +kernel) (by decide +kernel) (by decide)
theorem r1_30 : pR X d 1 lim Q (30, [some (.ref a), l1], st, mem, u) = pR X d 1 lim Q (31, [some (.ref a), l1], .ref a :: st, mem, u) := q_s (.ok (.aload_n 0, 1)) (by decide +kernel) rfl
theorem r1_31 : pR X d 1 lim Q (31, L, st, mem, u) = pR X d 1 lim Q (33, L, .int (iI (8)) :: st, mem, u) := q_bi (n := 8) (by decide +kernel) (by decide +kernel)
theorem r1_33_d : decode (yB 1) 33 = .ok (.anewarray 27, 3) := (by decide +kernel)
theorem r1_36 : pR X d 1 lim Q (36, L, p :: .ref a :: st, mem, u) = pf 1 mem a 3 5 p (fun mem => pR X d 1 lim Q (39, L, st, mem, u)) := q_put (ix := 29) (by decide +kernel) (by decide +kernel) (by decide)
theorem r1_39 : pR X d 1 lim Q (39, [some (.ref a), l1], st, mem, u) = pR X d 1 lim Q (40, [some (.ref a), l1], .ref a :: st, mem, u) := q_s (.ok (.aload_n 0, 1)) (by decide +kernel) rfl
theorem r1_40 : pR X d 1 lim Q (40, L, st, mem, u) = pR X d 1 lim Q (42, L, .int (iI (6)) :: st, mem, u) := q_bi (n := 6) (by decide +kernel) (by decide +kernel)
theorem r1_42_d : decode (yB 1) 42 = .ok (.newarray .int, 2) := (by decide +kernel)
theorem r1_44 : pR X d 1 lim Q (44, L, p :: .ref a :: st, mem, u) = pf 1 mem a 3 6 p (fun mem => pR X d 1 lim Q (47, L, st, mem, u)) := q_put (ix := 33) (by decide +kernel) (by decide +kernel) (by decide)
theorem r1_47 : pR X d 1 lim Q (47, [some (.ref a), l1], st, mem, u) = pR X d 1 lim Q (48, [some (.ref a), l1], .ref a :: st, mem, u) := q_s (.ok (.aload_n 0, 1)) (by decide +kernel) rfl
theorem r1_48 : pR X d 1 lim Q (48, L, st, mem, u) = pR X d 1 lim Q (50, L, .int (iI (10)) :: st, mem, u) := q_bi (n := 10) (by decide +kernel) (by decide +kernel)
theorem r1_50_d : decode (yB 1) 50 = .ok (.newarray .int, 2) := (by decide +kernel)
theorem r1_52 : pR X d 1 lim Q (52, L, p :: .ref a :: st, mem, u) = pf 1 mem a 3 7 p (fun mem => pR X d 1 lim Q (55, L, st, mem, u)) := q_put (ix := 37) (by decide +kernel) (by decide +kernel) (by decide)
theorem r1_55 : pR X d 1 lim Q (55, L, st, mem, u) = pR X d 1 lim Q (56, L, .int (iI (0)) :: st, mem, u) := q_ic (by decide +kernel)
theorem r1_56 : pR X d 1 lim Q (56, [l0, l1], .int x :: st, mem, u) = pR X d 1 lim Q (57, [cl1 l0, some (.int x)], st, mem, u) := q_s (.ok (.istore_n 1, 1)) (by decide +kernel) rfl
theorem r1_57 : pR X d 1 lim Q (57, [l0, some (.int x)], st, mem, u) = pR X d 1 lim Q (58, [l0, some (.int x)], .int x :: st, mem, u) := q_s (.ok (.iload_n 1, 1)) (by decide +kernel) rfl
theorem r1_58 : pR X d 1 lim Q (58, L, st, mem, u) = pR X d 1 lim Q (60, L, .int (iI (8)) :: st, mem, u) := q_bi (n := 8) (by decide +kernel) (by decide +kernel)
theorem r1_60 : pR X d 1 lim Q (60, L, .int z :: .int x :: st, mem, u) = ((z ≤ x → pR X d 1 lim Q (82, L, st, mem, u)) ∧ (¬ (z ≤ x) → pR X d 1 lim Q (63, L, st, mem, u))) := r_ic (c := .ge) (off := 22) (by decide +kernel) (by decide)
theorem r1_63 : pR X d 1 lim Q (63, [some (.ref a), l1], st, mem, u) = pR X d 1 lim Q (64, [some (.ref a), l1], .ref a :: st, mem, u) := q_s (.ok (.aload_n 0, 1)) (by decide +kernel) rfl
theorem r1_64 : pR X d 1 lim Q (64, L, .ref a :: st, mem, u) = gf mem a 3 5 (fun p => pR X d 1 lim Q (67, L, p :: st, mem, u)) := q_get (ix := 29) (by decide +kernel) (by decide +kernel)
theorem r1_67 : pR X d 1 lim Q (67, [l0, some (.int x)], st, mem, u) = pR X d 1 lim Q (68, [l0, some (.int x)], .int x :: st, mem, u) := q_s (.ok (.iload_n 1, 1)) (by decide +kernel) rfl
theorem r1_68_d : decode (yB 1) 68 = .ok (.new 27, 3) := (by decide +kernel)
theorem r1_71 : pR X d 1 lim Q (71, L, .ref a :: st, mem, u) = pR X d 1 lim Q (72, L, .ref a :: .ref a :: st, mem, u) := q_s (.ok (.dup, 1)) (by decide +kernel) rfl
theorem r1_72 (hu : u + 0 ≤ lim) : pR X d 1 lim Q (72, L, .ref a :: [.ref c0, .int k1, .ref c2], mem, u) = Cw X d 2 [.ref a] mem (fun r mem => pR X d 1 lim Q (75, L, r.toList ++ [.ref c0, .int k1, .ref c2], mem, u)) := q_init (ix := 40) (kd := 4) (y2 := 2) (as := []) (by decide +kernel) (by decide +kernel) (by decide) rfl rfl rfl (Nat.le_of_ble_eq_true rfl) hu
theorem r1_75 : pR X d 1 lim Q (75, L, .ref b :: .int x :: .ref a :: st, mem, u) = wa mem a x b (fun mem => pR X d 1 lim Q (76, L, st, mem, u)) := q_wa (by decide +kernel)
theorem r1_76 : pR X d 1 lim Q (76, [l0, some (.int x)], st, mem, u) = pR X d 1 lim Q (79, [cl1 l0, some (.int (x + iI (1)))], st, mem, u) := q_s (.ok (.iinc 1 (1), 3)) (by decide +kernel) rfl
theorem r1_79 : pR X d 1 lim Q (79, L, st, mem, u) = pR X d 1 lim Q (57, L, st, mem, u) := q_s (.ok (.goto (-22), 3)) (by decide +kernel) rfl
theorem r1_82 : pR X d 1 lim Q (82, L, st, mem, u) = pR X d 1 lim Q (83, L, .int (iI (0)) :: st, mem, u) := q_ic (by decide +kernel)
theorem r1_83 : pR X d 1 lim Q (83, [l0, l1], .int x :: st, mem, u) = pR X d 1 lim Q (84, [cl1 l0, some (.int x)], st, mem, u) := q_s (.ok (.istore_n 1, 1)) (by decide +kernel) rfl
theorem r1_84 : pR X d 1 lim Q (84, [l0, some (.int x)], st, mem, u) = pR X d 1 lim Q (85, [l0, some (.int x)], .int x :: st, mem, u) := q_s (.ok (.iload_n 1, 1)) (by decide +kernel) rfl
theorem r1_85 : pR X d 1 lim Q (85, L, st, mem, u) = pR X d 1 lim Q (87, L, .int (iI (6)) :: st, mem, u) := q_bi (n := 6) (by decide +kernel) (by decide +kernel)
theorem r1_87 : pR X d 1 lim Q (87, L, .int z :: .int x :: st, mem, u) = ((z ≤ x → pR X d 1 lim Q (104, L, st, mem, u)) ∧ (¬ (z ≤ x) → pR X d 1 lim Q (90, L, st, mem, u))) := r_ic (c := .ge) (off := 17) (by decide +kernel) (by decide)
theorem r1_90 : pR X d 1 lim Q (90, [some (.ref a), l1], st, mem, u) = pR X d 1 lim Q (91, [some (.ref a), l1], .ref a :: st, mem, u) := q_s (.ok (.aload_n 0, 1)) (by decide +kernel) rfl
theorem r1_91 : pR X d 1 lim Q (91, L, .ref a :: st, mem, u) = gf mem a 3 6 (fun p => pR X d 1 lim Q (94, L, p :: st, mem, u)) := q_get (ix := 33) (by decide +kernel) (by decide +kernel)
theorem r1_94 : pR X d 1 lim Q (94, [l0, some (.int x)], st, mem, u) = pR X d 1 lim Q (95, [l0, some (.int x)], .int x :: st, mem, u) := q_s (.ok (.iload_n 1, 1)) (by decide +kernel) rfl
theorem r1_95 : pR X d 1 lim Q (95, L, st, mem, u) = pR X d 1 lim Q (97, L, .int (iI (100)) :: st, mem, u) := q_bi (n := 100) (by decide +kernel) (by decide +kernel)
theorem r1_97 : pR X d 1 lim Q (97, L, .int z :: .int x :: .ref a :: st, mem, u) = wi mem a x z (fun mem => pR X d 1 lim Q (98, L, st, mem, u)) := q_wi (by decide +kernel)
theorem r1_98 : pR X d 1 lim Q (98, [l0, some (.int x)], st, mem, u) = pR X d 1 lim Q (101, [cl1 l0, some (.int (x + iI (1)))], st, mem, u) := q_s (.ok (.iinc 1 (1), 3)) (by decide +kernel) rfl
theorem r1_101 : pR X d 1 lim Q (101, L, st, mem, u) = pR X d 1 lim Q (84, L, st, mem, u) := q_s (.ok (.goto (-17), 3)) (by decide +kernel) rfl
theorem r1_104 : pR X d 1 lim Q (104, L, st, mem, u) = pR X d 1 lim Q (105, L, .int (iI (0)) :: st, mem, u) := q_ic (by decide +kernel)
theorem r1_105 : pR X d 1 lim Q (105, [l0, l1], .int x :: st, mem, u) = pR X d 1 lim Q (106, [cl1 l0, some (.int x)], st, mem, u) := q_s (.ok (.istore_n 1, 1)) (by decide +kernel) rfl
theorem r1_106 : pR X d 1 lim Q (106, [l0, some (.int x)], st, mem, u) = pR X d 1 lim Q (107, [l0, some (.int x)], .int x :: st, mem, u) := q_s (.ok (.iload_n 1, 1)) (by decide +kernel) rfl
theorem r1_107 : pR X d 1 lim Q (107, L, st, mem, u) = pR X d 1 lim Q (109, L, .int (iI (10)) :: st, mem, u) := q_bi (n := 10) (by decide +kernel) (by decide +kernel)
theorem r1_109 : pR X d 1 lim Q (109, L, .int z :: .int x :: st, mem, u) = ((z ≤ x → pR X d 1 lim Q (125, L, st, mem, u)) ∧ (¬ (z ≤ x) → pR X d 1 lim Q (112, L, st, mem, u))) := r_ic (c := .ge) (off := 16) (by decide +kernel) (by decide)
theorem r1_112 : pR X d 1 lim Q (112, [some (.ref a), l1], st, mem, u) = pR X d 1 lim Q (113, [some (.ref a), l1], .ref a :: st, mem, u) := q_s (.ok (.aload_n 0, 1)) (by decide +kernel) rfl
theorem r1_113 : pR X d 1 lim Q (113, L, .ref a :: st, mem, u) = gf mem a 3 7 (fun p => pR X d 1 lim Q (116, L, p :: st, mem, u)) := q_get (ix := 37) (by decide +kernel) (by decide +kernel)
theorem r1_116 : pR X d 1 lim Q (116, [l0, some (.int x)], st, mem, u) = pR X d 1 lim Q (117, [l0, some (.int x)], .int x :: st, mem, u) := q_s (.ok (.iload_n 1, 1)) (by decide +kernel) rfl
theorem r1_117 : pR X d 1 lim Q (117, L, st, mem, u) = pR X d 1 lim Q (118, L, .int (iI (-1)) :: st, mem, u) := q_ic (by decide +kernel)
theorem r1_118 : pR X d 1 lim Q (118, L, .int z :: .int x :: .ref a :: st, mem, u) = wi mem a x z (fun mem => pR X d 1 lim Q (119, L, st, mem, u)) := q_wi (by decide +kernel)
theorem r1_119 : pR X d 1 lim Q (119, [l0, some (.int x)], st, mem, u) = pR X d 1 lim Q (122, [cl1 l0, some (.int (x + iI (1)))], st, mem, u) := q_s (.ok (.iinc 1 (1), 3)) (by decide +kernel) rfl
theorem r1_122 : pR X d 1 lim Q (122, L, st, mem, u) = pR X d 1 lim Q (106, L, st, mem, u) := q_s (.ok (.goto (-16), 3)) (by decide +kernel) rfl
theorem r1_125 : pR X d 1 lim Q (125, L, [], mem, lim) = Q none mem := q_retv (by decide +kernel) rfl
theorem r2_0 : pR X d 2 0 Q (0, [some (.ref a)], st, mem, 0) = pR X d 2 0 Q (1, [some (.ref a)], .ref a :: st, mem, 0) := q_s (.ok (.aload_n 0, 1)) (by decide +kernel) rfl
theorem r2_1 (h1 : 1 ≤ d) : pR X d 2 0 Q (1, L, .ref a :: [], mem, 0) = pR X d 2 0 Q (4, L, [], mem, 0) := q_obj (ix := 3) (yy := 0) (by decide +kernel) (by decide +kernel) (Nat.le_of_ble_eq_true rfl) h1
theorem r2_4 : pR X d 2 0 Q (4, L, [], mem, 0) = Q none mem := q_retv (by decide +kernel) rfl
theorem r3_0 : pR X d 3 lim Q (0, [some (.ref a)], st, mem, u) = pR X d 3 lim Q (1, [some (.ref a)], .ref a :: st, mem, u) := q_s (.ok (.aload_n 0, 1)) (by decide +kernel) rfl
theorem r3_1 (h1 : 1 ≤ d) : pR X d 3 lim Q (1, L, .ref a :: [], mem, u) = pR X d 3 lim Q (4, L, [], mem, u) := q_obj (ix := 3) (yy := 0) (by decide +kernel) (by decide +kernel) (Nat.le_of_ble_eq_true rfl) h1
theorem r3_4 : pR X d 3 lim Q (4, [some (.ref a)], st, mem, u) = pR X d 3 lim Q (5, [some (.ref a)], .ref a :: st, mem, u) := q_s (.ok (.aload_n 0, 1)) (by decide +kernel) rfl
theorem r3_5 : pR X d 3 lim Q (5, L, st, mem, u) = pR X d 3 lim Q (7, L, .int (iI (120)) :: st, mem, u) := q_bi (n := 120) (by decide +kernel) (by decide +kernel)
theorem r3_7_d : decode (yB 3) 7 = .ok (.newarray .int, 2) := (by decide +kernel)
theorem r3_9 : pR X d 3 lim Q (9, L, p :: .ref a :: st, mem, u) = pf 3 mem a 2 0 p (fun mem => pR X d 3 lim Q (12, L, st, mem, u)) := q_put (ix := 9) (by decide +kernel) (by decide +kernel) (by decide)
theorem r3_12 : pR X d 3 lim Q (12, [some (.ref a)], st, mem, u) = pR X d 3 lim Q (13, [some (.ref a)], .ref a :: st, mem, u) := q_s (.ok (.aload_n 0, 1)) (by decide +kernel) rfl
theorem r3_13 : pR X d 3 lim Q (13, L, st, mem, u) = pR X d 3 lim Q (14, L, .int (iI (0)) :: st, mem, u) := q_ic (by decide +kernel)
theorem r3_14 : pR X d 3 lim Q (14, L, p :: .ref a :: st, mem, u) = pf 3 mem a 2 1 p (fun mem => pR X d 3 lim Q (17, L, st, mem, u)) := q_put (ix := 15) (by decide +kernel) (by decide +kernel) (by decide)
theorem r3_17 : pR X d 3 lim Q (17, [some (.ref a)], st, mem, u) = pR X d 3 lim Q (18, [some (.ref a)], .ref a :: st, mem, u) := q_s (.ok (.aload_n 0, 1)) (by decide +kernel) rfl
theorem r3_18 : pR X d 3 lim Q (18, L, st, mem, u) = pR X d 3 lim Q (19, L, .int (iI (0)) :: st, mem, u) := q_ic (by decide +kernel)
theorem r3_19 : pR X d 3 lim Q (19, L, p :: .ref a :: st, mem, u) = pf 3 mem a 2 2 p (fun mem => pR X d 3 lim Q (22, L, st, mem, u)) := q_put (ix := 19) (by decide +kernel) (by decide +kernel) (by decide)
theorem r3_22 : pR X d 3 lim Q (22, [some (.ref a)], st, mem, u) = pR X d 3 lim Q (23, [some (.ref a)], .ref a :: st, mem, u) := q_s (.ok (.aload_n 0, 1)) (by decide +kernel) rfl
theorem r3_23 : pR X d 3 lim Q (23, L, st, mem, u) = pR X d 3 lim Q (24, L, .int (iI (0)) :: st, mem, u) := q_ic (by decide +kernel)
theorem r3_24 : pR X d 3 lim Q (24, L, p :: .ref a :: st, mem, u) = pf 3 mem a 2 3 p (fun mem => pR X d 3 lim Q (27, L, st, mem, u)) := q_put (ix := 22) (by decide +kernel) (by decide +kernel) (by decide)
theorem r3_27 : pR X d 3 lim Q (27, [some (.ref a)], st, mem, u) = pR X d 3 lim Q (28, [some (.ref a)], .ref a :: st, mem, u) := q_s (.ok (.aload_n 0, 1)) (by decide +kernel) rfl
theorem r3_28 : pR X d 3 lim Q (28, L, st, mem, u) = pR X d 3 lim Q (29, L, .int (iI (0)) :: st, mem, u) := q_ic (by decide +kernel)
theorem r3_29 : pR X d 3 lim Q (29, L, p :: .ref a :: st, mem, u) = pf 3 mem a 2 4 p (fun mem => pR X d 3 lim Q (32, L, st, mem, u)) := q_put (ix := 25) (by decide +kernel) (by decide +kernel) (by decide)
theorem r3_32 : pR X d 3 lim Q (32, [some (.ref a)], st, mem, u) = pR X d 3 lim Q (33, [some (.ref a)], .ref a :: st, mem, u) := q_s (.ok (.aload_n 0, 1)) (by decide +kernel) rfl
theorem r3_33 : pR X d 3 lim Q (33, L, st, mem, u) = pR X d 3 lim Q (34, L, .int (iI (0)) :: st, mem, u) := q_ic (by decide +kernel)
theorem r3_34 : pR X d 3 lim Q (34, L, p :: .ref a :: st, mem, u) = pf 3 mem a 2 5 p (fun mem => pR X d 3 lim Q (37, L, st, mem, u)) := q_put (ix := 28) (by decide +kernel) (by decide +kernel) (by decide)
theorem r3_37 : pR X d 3 lim Q (37, L, [], mem, lim) = Q none mem := q_retv (by decide +kernel) rfl
theorem r4_0 : pR X d 4 lim Q (0, [some (.ref a)], st, mem, u) = pR X d 4 lim Q (1, [some (.ref a)], .ref a :: st, mem, u) := q_s (.ok (.aload_n 0, 1)) (by decide +kernel) rfl
theorem r4_1 (h1 : 1 ≤ d) : pR X d 4 lim Q (1, L, .ref a :: [], mem, u) = pR X d 4 lim Q (4, L, [], mem, u) := q_obj (ix := 3) (yy := 0) (by decide +kernel) (by decide +kernel) (Nat.le_of_ble_eq_true rfl) h1
theorem r4_4 : pR X d 4 lim Q (4, [some (.ref a)], st, mem, u) = pR X d 4 lim Q (5, [some (.ref a)], .ref a :: st, mem, u) := q_s (.ok (.aload_n 0, 1)) (by decide +kernel) rfl
theorem r4_5 : pR X d 4 lim Q (5, L, st, mem, u) = pR X d 4 lim Q (6, L, .int (iI (0)) :: st, mem, u) := q_ic (by decide +kernel)
theorem r4_6 : pR X d 4 lim Q (6, L, p :: .ref a :: st, mem, u) = pf 4 mem a 1 0 p (fun mem => pR X d 4 lim Q (9, L, st, mem, u)) := q_put (ix := 9) (by decide +kernel) (by decide +kernel) (by decide)
theorem r4_9 : pR X d 4 lim Q (9, [some (.ref a)], st, mem, u) = pR X d 4 lim Q (10, [some (.ref a)], .ref a :: st, mem, u) := q_s (.ok (.aload_n 0, 1)) (by decide +kernel) rfl
theorem r4_10 : pR X d 4 lim Q (10, L, st, mem, u) = pR X d 4 lim Q (11, L, .int (iI (0)) :: st, mem, u) := q_ic (by decide +kernel)
theorem r4_11 : pR X d 4 lim Q (11, L, p :: .ref a :: st, mem, u) = pf 4 mem a 1 1 p (fun mem => pR X d 4 lim Q (14, L, st, mem, u)) := q_put (ix := 15) (by decide +kernel) (by decide +kernel) (by decide)
theorem r4_14 : pR X d 4 lim Q (14, [some (.ref a)], st, mem, u) = pR X d 4 lim Q (15, [some (.ref a)], .ref a :: st, mem, u) := q_s (.ok (.aload_n 0, 1)) (by decide +kernel) rfl
theorem r4_15 : pR X d 4 lim Q (15, L, st, mem, u) = pR X d 4 lim Q (17, L, .int (iI (40)) :: st, mem, u) := q_bi (n := 40) (by decide +kernel) (by decide +kernel)
theorem r4_17_d : decode (yB 4) 17 = .ok (.newarray .int, 2) := (by decide +kernel)
theorem r4_19 : pR X d 4 lim Q (19, L, p :: .ref a :: st, mem, u) = pf 4 mem a 1 2 p (fun mem => pR X d 4 lim Q (22, L, st, mem, u)) := q_put (ix := 18) (by decide +kernel) (by decide +kernel) (by decide)
theorem r4_22 : pR X d 4 lim Q (22, L, [], mem, lim) = Q none mem := q_retv (by decide +kernel) rfl
theorem r5_0 : pR X d 5 0 Q (0, [l0, some (.int x), l2, l3], st, mem, 0) = pR X d 5 0 Q (1, [l0, some (.int x), l2, l3], .int x :: st, mem, 0) := q_s (.ok (.iload_n 1, 1)) (by decide +kernel) rfl
theorem r5_1 : pR X d 5 0 Q (1, L, .int x :: st, mem, 0) = ((¬ x = 0 → pR X d 5 0 Q (29, L, st, mem, 0)) ∧ (¬ (¬ x = 0) → pR X d 5 0 Q (4, L, st, mem, 0))) := r_if (c := .ne) (off := 28) (by decide +kernel) (by decide)
theorem r5_4 : pR X d 5 0 Q (4, [l0, l1, some (.int x), l3], st, mem, 0) = pR X d 5 0 Q (5, [l0, l1, some (.int x), l3], .int x :: st, mem, 0) := q_s (.ok (.iload_n 2, 1)) (by decide +kernel) rfl
theorem r5_5 : pR X d 5 0 Q (5, L, .int y0 :: [], mem, 0) = Cw X d 6 [.int y0] mem (fun r mem => pR X d 5 0 Q (8, L, r.toList ++ [], mem, 0)) := q_stat (ix := 44) (kd := 1) (y2 := 6) (as := [.int y0]) (by decide +kernel) (by decide +kernel) (by decide) rfl rfl rfl (Nat.le_of_ble_eq_true rfl) (by decide)
theorem r5_8 : pR X d 5 0 Q (8, L, .int x :: st, mem, 0) = ((x = 0 → pR X d 5 0 Q (29, L, st, mem, 0)) ∧ (¬ (x = 0) → pR X d 5 0 Q (11, L, st, mem, 0))) := r_if (c := .eq) (off := 21) (by decide +kernel) (by decide)
theorem r5_11 : pR X d 5 0 Q (11, [some (.ref a), l1, l2, l3], st, mem, 0) = pR X d 5 0 Q (12, [some (.ref a), l1, l2, l3], .ref a :: st, mem, 0) := q_s (.ok (.aload_n 0, 1)) (by decide +kernel) rfl
theorem r5_12 : pR X d 5 0 Q (12, L, .ref a :: st, mem, 0) = gf mem a 4 0 (fun p => pR X d 5 0 Q (15, L, p :: st, mem, 0)) := q_get (ix := 10) (by decide +kernel) (by decide +kernel)
theorem r5_15 : pR X d 5 0 Q (15, L, .ref a :: st, mem, 0) = gf mem a 3 0 (fun p => pR X d 5 0 Q (18, L, p :: st, mem, 0)) := q_get (ix := 48) (by decide +kernel) (by decide +kernel)
theorem r5_18 : pR X d 5 0 Q (18, [l0, l1, l2, l3], .int x :: st, mem, 0) = pR X d 5 0 Q (19, [l0, l1, cl1 l2, some (.int x)], st, mem, 0) := q_s (.ok (.istore_n 3, 1)) (by decide +kernel) rfl
theorem r5_19 : pR X d 5 0 Q (19, [some (.ref a), l1, l2, l3], st, mem, 0) = pR X d 5 0 Q (20, [some (.ref a), l1, l2, l3], .ref a :: st, mem, 0) := q_s (.ok (.aload_n 0, 1)) (by decide +kernel) rfl
theorem r5_20 : pR X d 5 0 Q (20, L, .ref a :: st, mem, 0) = gf mem a 4 0 (fun p => pR X d 5 0 Q (23, L, p :: st, mem, 0)) := q_get (ix := 10) (by decide +kernel) (by decide +kernel)
theorem r5_23 : pR X d 5 0 Q (23, [l0, l1, some (.int x), l3], st, mem, 0) = pR X d 5 0 Q (24, [l0, l1, some (.int x), l3], .int x :: st, mem, 0) := q_s (.ok (.iload_n 2, 1)) (by decide +kernel) rfl
theorem r5_24 : pR X d 5 0 Q (24, L, p :: .ref a :: st, mem, 0) = pf 5 mem a 3 0 p (fun mem => pR X d 5 0 Q (27, L, st, mem, 0)) := q_put (ix := 48) (by decide +kernel) (by decide +kernel) (by decide)
theorem r5_27 : pR X d 5 0 Q (27, [l0, l1, l2, some (.int x)], st, mem, 0) = pR X d 5 0 Q (28, [l0, l1, l2, some (.int x)], .int x :: st, mem, 0) := q_s (.ok (.iload_n 3, 1)) (by decide +kernel) rfl
theorem r5_28 : pR X d 5 0 Q (28, L, [.int x], mem, 0) = Q (some (.int x)) mem := q_reti (by decide +kernel) rfl
theorem r5_29 : pR X d 5 0 Q (29, [l0, some (.int x), l2, l3], st, mem, 0) = pR X d 5 0 Q (30, [l0, some (.int x), l2, l3], .int x :: st, mem, 0) := q_s (.ok (.iload_n 1, 1)) (by decide +kernel) rfl
theorem r5_30 : pR X d 5 0 Q (30, L, st, mem, 0) = pR X d 5 0 Q (31, L, .int (iI (1)) :: st, mem, 0) := q_ic (by decide +kernel)
theorem r5_31 : pR X d 5 0 Q (31, L, .int z :: .int x :: st, mem, 0) = ((¬ x = z → pR X d 5 0 Q (63, L, st, mem, 0)) ∧ (¬ (¬ x = z) → pR X d 5 0 Q (34, L, st, mem, 0))) := r_ic (c := .ne) (off := 32) (by decide +kernel) (by decide)
theorem r5_34 : pR X d 5 0 Q (34, [l0, l1, some (.int x), l3], st, mem, 0) = pR X d 5 0 Q (35, [l0, l1, some (.int x), l3], .int x :: st, mem, 0) := q_s (.ok (.iload_n 2, 1)) (by decide +kernel) rfl
theorem r5_35 : pR X d 5 0 Q (35, L, st, mem, 0) = pR X d 5 0 Q (36, L, .int (iI (0)) :: st, mem, 0) := q_ic (by decide +kernel)
theorem r5_36 : pR X d 5 0 Q (36, L, st, mem, 0) = pR X d 5 0 Q (39, L, .int (iI (9999)) :: st, mem, 0) := q_si (n := 9999) (by decide +kernel) (by decide +kernel)
theorem r5_39 : pR X d 5 0 Q (39, L, .int y2 :: .int y1 :: .int y0 :: [], mem, 0) = Cw X d 7 [.int y0, .int y1, .int y2] mem (fun r mem => pR X d 5 0 Q (42, L, r.toList ++ [], mem, 0)) := q_stat (ix := 52) (kd := 1) (y2 := 7) (as := [.int y2, .int y1, .int y0]) (by decide +kernel) (by decide +kernel) (by decide) rfl rfl rfl (Nat.le_of_ble_eq_true rfl) (by decide)
theorem r5_42 : pR X d 5 0 Q (42, L, .int x :: st, mem, 0) = ((x = 0 → pR X d 5 0 Q (63, L, st, mem, 0)) ∧ (¬ (x = 0) → pR X d 5 0 Q (45, L, st, mem, 0))) := r_if (c := .eq) (off := 21) (by decide +kernel) (by decide)
theorem r5_45 : pR X d 5 0 Q (45, [some (.ref a), l1, l2, l3], st, mem, 0) = pR X d 5 0 Q (46, [some (.ref a), l1, l2, l3], .ref a :: st, mem, 0) := q_s (.ok (.aload_n 0, 1)) (by decide +kernel) rfl
theorem r5_46 : pR X d 5 0 Q (46, L, .ref a :: st, mem, 0) = gf mem a 4 0 (fun p => pR X d 5 0 Q (49, L, p :: st, mem, 0)) := q_get (ix := 10) (by decide +kernel) (by decide +kernel)
theorem r5_49 : pR X d 5 0 Q (49, L, .ref a :: st, mem, 0) = gf mem a 3 1 (fun p => pR X d 5 0 Q (52, L, p :: st, mem, 0)) := q_get (ix := 56) (by decide +kernel) (by decide +kernel)
theorem r5_52 : pR X d 5 0 Q (52, [l0, l1, l2, l3], .int x :: st, mem, 0) = pR X d 5 0 Q (53, [l0, l1, cl1 l2, some (.int x)], st, mem, 0) := q_s (.ok (.istore_n 3, 1)) (by decide +kernel) rfl
theorem r5_53 : pR X d 5 0 Q (53, [some (.ref a), l1, l2, l3], st, mem, 0) = pR X d 5 0 Q (54, [some (.ref a), l1, l2, l3], .ref a :: st, mem, 0) := q_s (.ok (.aload_n 0, 1)) (by decide +kernel) rfl
theorem r5_54 : pR X d 5 0 Q (54, L, .ref a :: st, mem, 0) = gf mem a 4 0 (fun p => pR X d 5 0 Q (57, L, p :: st, mem, 0)) := q_get (ix := 10) (by decide +kernel) (by decide +kernel)
theorem r5_57 : pR X d 5 0 Q (57, [l0, l1, some (.int x), l3], st, mem, 0) = pR X d 5 0 Q (58, [l0, l1, some (.int x), l3], .int x :: st, mem, 0) := q_s (.ok (.iload_n 2, 1)) (by decide +kernel) rfl
theorem r5_58 : pR X d 5 0 Q (58, L, p :: .ref a :: st, mem, 0) = pf 5 mem a 3 1 p (fun mem => pR X d 5 0 Q (61, L, st, mem, 0)) := q_put (ix := 56) (by decide +kernel) (by decide +kernel) (by decide)
theorem r5_61 : pR X d 5 0 Q (61, [l0, l1, l2, some (.int x)], st, mem, 0) = pR X d 5 0 Q (62, [l0, l1, l2, some (.int x)], .int x :: st, mem, 0) := q_s (.ok (.iload_n 3, 1)) (by decide +kernel) rfl
theorem r5_62 : pR X d 5 0 Q (62, L, [.int x], mem, 0) = Q (some (.int x)) mem := q_reti (by decide +kernel) rfl
theorem r5_63 : pR X d 5 0 Q (63, [some (.ref a), l1, l2, l3], st, mem, 0) = pR X d 5 0 Q (64, [some (.ref a), l1, l2, l3], .ref a :: st, mem, 0) := q_s (.ok (.aload_n 0, 1)) (by decide +kernel) rfl
theorem r5_64 : pR X d 5 0 Q (64, L, st, mem, 0) = pR X d 5 0 Q (65, L, .int (iI (0)) :: st, mem, 0) := q_ic (by decide +kernel)
theorem r5_65 : pR X d 5 0 Q (65, L, .int y0 :: .ref a :: [], mem, 0) = (prcv mem 4 a ∧ Cw X d 8 [.ref a, .int y0] mem (fun r mem => pR X d 5 0 Q (68, L, r.toList ++ [], mem, 0))) := q_virt (ix := 59) (y2 := 8) (as := [.int y0]) (by decide +kernel) (by decide +kernel) rfl rfl rfl (Nat.le_of_ble_eq_true rfl) (by decide)
theorem r5_68 : pR X d 5 0 Q (68, L, [.int x], mem, 0) = Q (some (.int x)) mem := q_reti (by decide +kernel) rfl
theorem r6_0 : pR X d 6 0 Q (0, [some (.int x)], st, mem, 0) = pR X d 6 0 Q (1, [some (.int x)], .int x :: st, mem, 0) := q_s (.ok (.iload_n 0, 1)) (by decide +kernel) rfl
theorem r6_1 : pR X d 6 0 Q (1, L, st, mem, 0) = pR X d 6 0 Q (2, L, .int (iI (2)) :: st, mem, 0) := q_ic (by decide +kernel)
theorem r6_2 : pR X d 6 0 Q (2, L, st, mem, 0) = pR X d 6 0 Q (4, L, .int (iI (30)) :: st, mem, 0) := q_bi (n := 30) (by decide +kernel) (by decide +kernel)
theorem r6_4 : pR X d 6 0 Q (4, L, .int y2 :: .int y1 :: .int y0 :: [], mem, 0) = Cw X d 7 [.int y0, .int y1, .int y2] mem (fun r mem => pR X d 6 0 Q (7, L, r.toList ++ [], mem, 0)) := q_stat (ix := 52) (kd := 1) (y2 := 7) (as := [.int y2, .int y1, .int y0]) (by decide +kernel) (by decide +kernel) (by decide) rfl rfl rfl (Nat.le_of_ble_eq_true rfl) (by decide)
theorem r6_7 : pR X d 6 0 Q (7, L, [.int x], mem, 0) = (zb .boolean x ∧ Q (some (.int x)) mem) := q_retz (by decide +kernel) rfl (by decide)
theorem r7_0 : pR X d 7 0 Q (0, [some (.int x), l1, l2], st, mem, 0) = pR X d 7 0 Q (1, [some (.int x), l1, l2], .int x :: st, mem, 0) := q_s (.ok (.iload_n 0, 1)) (by decide +kernel) rfl
theorem r7_1 : pR X d 7 0 Q (1, [l0, some (.int x), l2], st, mem, 0) = pR X d 7 0 Q (2, [l0, some (.int x), l2], .int x :: st, mem, 0) := q_s (.ok (.iload_n 1, 1)) (by decide +kernel) rfl
theorem r7_2 : pR X d 7 0 Q (2, L, .int z :: .int x :: st, mem, 0) = ((x < z → pR X d 7 0 Q (14, L, st, mem, 0)) ∧ (¬ (x < z) → pR X d 7 0 Q (5, L, st, mem, 0))) := r_ic (c := .lt) (off := 12) (by decide +kernel) (by decide)
theorem r7_5 : pR X d 7 0 Q (5, [some (.int x), l1, l2], st, mem, 0) = pR X d 7 0 Q (6, [some (.int x), l1, l2], .int x :: st, mem, 0) := q_s (.ok (.iload_n 0, 1)) (by decide +kernel) rfl
theorem r7_6 : pR X d 7 0 Q (6, [l0, l1, some (.int x)], st, mem, 0) = pR X d 7 0 Q (7, [l0, l1, some (.int x)], .int x :: st, mem, 0) := q_s (.ok (.iload_n 2, 1)) (by decide +kernel) rfl
theorem r7_7 : pR X d 7 0 Q (7, L, .int z :: .int x :: st, mem, 0) = ((z < x → pR X d 7 0 Q (14, L, st, mem, 0)) ∧ (¬ (z < x) → pR X d 7 0 Q (10, L, st, mem, 0))) := r_ic (c := .gt) (off := 7) (by decide +kernel) (by decide)
theorem r7_10 : pR X d 7 0 Q (10, L, st, mem, 0) = pR X d 7 0 Q (11, L, .int (iI (1)) :: st, mem, 0) := q_ic (by decide +kernel)
theorem r7_11 : pR X d 7 0 Q (11, L, st, mem, 0) = pR X d 7 0 Q (15, L, st, mem, 0) := q_s (.ok (.goto (4), 3)) (by decide +kernel) rfl
theorem r7_14 : pR X d 7 0 Q (14, L, st, mem, 0) = pR X d 7 0 Q (15, L, .int (iI (0)) :: st, mem, 0) := q_ic (by decide +kernel)
theorem r7_15 : pR X d 7 0 Q (15, L, [.int x], mem, 0) = (zb .boolean x ∧ Q (some (.int x)) mem) := q_retz (by decide +kernel) rfl (by decide)
theorem r8_0 : pR X d 8 0 Q (0, [some (.ref a), l1], st, mem, 0) = pR X d 8 0 Q (1, [some (.ref a), l1], .ref a :: st, mem, 0) := q_s (.ok (.aload_n 0, 1)) (by decide +kernel) rfl
theorem r8_1 : pR X d 8 0 Q (1, L, .ref a :: st, mem, 0) = gf mem a 4 6 (fun p => pR X d 8 0 Q (4, L, p :: st, mem, 0)) := q_get (ix := 39) (by decide +kernel) (by decide +kernel)
theorem r8_4 : pR X d 8 0 Q (4, [l0, some (.int x)], st, mem, 0) = pR X d 8 0 Q (5, [l0, some (.int x)], .int x :: st, mem, 0) := q_s (.ok (.iload_n 1, 1)) (by decide +kernel) rfl
theorem r8_5 : pR X d 8 0 Q (5, L, .int x :: .ref b :: st, mem, 0) = pR X d 8 0 Q (6, L, .int x :: .ref b :: .int x :: .ref b :: st, mem, 0) := q_s (.ok (.dup2, 1)) (by decide +kernel) rfl
theorem r8_6 : pR X d 8 0 Q (6, L, .int x :: .ref a :: st, mem, 0) = ri X mem a x (fun z => pR X d 8 0 Q (7, L, .int z :: st, mem, 0)) := q_ri (by decide +kernel)
theorem r8_7 : pR X d 8 0 Q (7, L, st, mem, 0) = pR X d 8 0 Q (8, L, .int (iI (1)) :: st, mem, 0) := q_ic (by decide +kernel)
theorem r8_8 : pR X d 8 0 Q (8, L, .int z :: .int x :: st, mem, 0) = pR X d 8 0 Q (9, L, .int (x + z) :: st, mem, 0) := q_s (.ok (.iadd, 1)) (by decide +kernel) rfl
theorem r8_9 : pR X d 8 0 Q (9, L, .int z :: .int x :: .ref a :: st, mem, 0) = wi mem a x z (fun mem => pR X d 8 0 Q (10, L, st, mem, 0)) := q_wi (by decide +kernel)
theorem r8_10 : pR X d 8 0 Q (10, L, st, mem, 0) = pR X d 8 0 Q (13, L, .int (iI (-1000001)) :: st, mem, 0) := q_ldcw (k := 268) (by decide +kernel) (by decide +kernel)
theorem r8_13 : pR X d 8 0 Q (13, [l0, some (.int x)], st, mem, 0) = pR X d 8 0 Q (14, [l0, some (.int x)], .int x :: st, mem, 0) := q_s (.ok (.iload_n 1, 1)) (by decide +kernel) rfl
theorem r8_14 : pR X d 8 0 Q (14, L, .int z :: .int x :: st, mem, 0) = pR X d 8 0 Q (15, L, .int (x - z) :: st, mem, 0) := q_s (.ok (.isub, 1)) (by decide +kernel) rfl
theorem r8_15 : pR X d 8 0 Q (15, L, [.int x], mem, 0) = Q (some (.int x)) mem := q_reti (by decide +kernel) rfl
theorem r9_0 : pR X d 9 0 Q (0, [l0, some (.int x), l2, l3], st, mem, 0) = pR X d 9 0 Q (1, [l0, some (.int x), l2, l3], .int x :: st, mem, 0) := q_s (.ok (.iload_n 1, 1)) (by decide +kernel) rfl
theorem r9_1 : pR X d 9 0 Q (1, L, .int y0 :: [], mem, 0) = Cw X d 10 [.int y0] mem (fun r mem => pR X d 9 0 Q (4, L, r.toList ++ [], mem, 0)) := q_stat (ix := 63) (kd := 1) (y2 := 10) (as := [.int y0]) (by decide +kernel) (by decide +kernel) (by decide) rfl rfl rfl (Nat.le_of_ble_eq_true rfl) (by decide)
theorem r9_4 : pR X d 9 0 Q (4, L, .int x :: st, mem, 0) = ((x = 0 → pR X d 9 0 Q (14, L, st, mem, 0)) ∧ (¬ (x = 0) → pR X d 9 0 Q (7, L, st, mem, 0))) := r_if (c := .eq) (off := 10) (by decide +kernel) (by decide)
theorem r9_7 : pR X d 9 0 Q (7, [l0, l1, some (.int x), l3], st, mem, 0) = pR X d 9 0 Q (8, [l0, l1, some (.int x), l3], .int x :: st, mem, 0) := q_s (.ok (.iload_n 2, 1)) (by decide +kernel) rfl
theorem r9_8 : pR X d 9 0 Q (8, L, .int y0 :: [], mem, 0) = Cw X d 11 [.int y0] mem (fun r mem => pR X d 9 0 Q (11, L, r.toList ++ [], mem, 0)) := q_stat (ix := 66) (kd := 1) (y2 := 11) (as := [.int y0]) (by decide +kernel) (by decide +kernel) (by decide) rfl rfl rfl (Nat.le_of_ble_eq_true rfl) (by decide)
theorem r9_11 : pR X d 9 0 Q (11, L, .int x :: st, mem, 0) = ((¬ x = 0 → pR X d 9 0 Q (20, L, st, mem, 0)) ∧ (¬ (¬ x = 0) → pR X d 9 0 Q (14, L, st, mem, 0))) := r_if (c := .ne) (off := 9) (by decide +kernel) (by decide)
theorem r9_14 : pR X d 9 0 Q (14, [some (.ref a), l1, l2, l3], st, mem, 0) = pR X d 9 0 Q (15, [some (.ref a), l1, l2, l3], .ref a :: st, mem, 0) := q_s (.ok (.aload_n 0, 1)) (by decide +kernel) rfl
theorem r9_15 : pR X d 9 0 Q (15, L, st, mem, 0) = pR X d 9 0 Q (16, L, .int (iI (0)) :: st, mem, 0) := q_ic (by decide +kernel)
theorem r9_16 : pR X d 9 0 Q (16, L, .int y0 :: .ref a :: [], mem, 0) = (prcv mem 4 a ∧ Cw X d 8 [.ref a, .int y0] mem (fun r mem => pR X d 9 0 Q (19, L, r.toList ++ [], mem, 0))) := q_virt (ix := 59) (y2 := 8) (as := [.int y0]) (by decide +kernel) (by decide +kernel) rfl rfl rfl (Nat.le_of_ble_eq_true rfl) (by decide)
theorem r9_19 : pR X d 9 0 Q (19, L, [.int x], mem, 0) = Q (some (.int x)) mem := q_reti (by decide +kernel) rfl
theorem r9_20 : pR X d 9 0 Q (20, [some (.ref a), l1, l2, l3], st, mem, 0) = pR X d 9 0 Q (21, [some (.ref a), l1, l2, l3], .ref a :: st, mem, 0) := q_s (.ok (.aload_n 0, 1)) (by decide +kernel) rfl
theorem r9_21 : pR X d 9 0 Q (21, L, .ref a :: st, mem, 0) = gf mem a 4 0 (fun p => pR X d 9 0 Q (24, L, p :: st, mem, 0)) := q_get (ix := 10) (by decide +kernel) (by decide +kernel)
theorem r9_24 : pR X d 9 0 Q (24, L, .ref a :: st, mem, 0) = gf mem a 3 6 (fun p => pR X d 9 0 Q (27, L, p :: st, mem, 0)) := q_get (ix := 69) (by decide +kernel) (by decide +kernel)
theorem r9_27 : pR X d 9 0 Q (27, [l0, some (.int x), l2, l3], st, mem, 0) = pR X d 9 0 Q (28, [l0, some (.int x), l2, l3], .int x :: st, mem, 0) := q_s (.ok (.iload_n 1, 1)) (by decide +kernel) rfl
theorem r9_28 : pR X d 9 0 Q (28, L, .int x :: .ref a :: st, mem, 0) = ri X mem a x (fun z => pR X d 9 0 Q (29, L, .int z :: st, mem, 0)) := q_ri (by decide +kernel)
theorem r9_29 : pR X d 9 0 Q (29, [l0, l1, l2, l3], .int x :: st, mem, 0) = pR X d 9 0 Q (30, [l0, l1, cl1 l2, some (.int x)], st, mem, 0) := q_s (.ok (.istore_n 3, 1)) (by decide +kernel) rfl
theorem r9_30 : pR X d 9 0 Q (30, [some (.ref a), l1, l2, l3], st, mem, 0) = pR X d 9 0 Q (31, [some (.ref a), l1, l2, l3], .ref a :: st, mem, 0) := q_s (.ok (.aload_n 0, 1)) (by decide +kernel) rfl
theorem r9_31 : pR X d 9 0 Q (31, L, .ref a :: st, mem, 0) = gf mem a 4 0 (fun p => pR X d 9 0 Q (34, L, p :: st, mem, 0)) := q_get (ix := 10) (by decide +kernel) (by decide +kernel)
theorem r9_34 : pR X d 9 0 Q (34, L, .ref a :: st, mem, 0) = gf mem a 3 6 (fun p => pR X d 9 0 Q (37, L, p :: st, mem, 0)) := q_get (ix := 69) (by decide +kernel) (by decide +kernel)
theorem r9_37 : pR X d 9 0 Q (37, [l0, some (.int x), l2, l3], st, mem, 0) = pR X d 9 0 Q (38, [l0, some (.int x), l2, l3], .int x :: st, mem, 0) := q_s (.ok (.iload_n 1, 1)) (by decide +kernel) rfl
theorem r9_38 : pR X d 9 0 Q (38, [l0, l1, some (.int x), l3], st, mem, 0) = pR X d 9 0 Q (39, [l0, l1, some (.int x), l3], .int x :: st, mem, 0) := q_s (.ok (.iload_n 2, 1)) (by decide +kernel) rfl
theorem r9_39 : pR X d 9 0 Q (39, L, .int z :: .int x :: .ref a :: st, mem, 0) = wi mem a x z (fun mem => pR X d 9 0 Q (40, L, st, mem, 0)) := q_wi (by decide +kernel)
theorem r9_40 : pR X d 9 0 Q (40, [l0, l1, l2, some (.int x)], st, mem, 0) = pR X d 9 0 Q (41, [l0, l1, l2, some (.int x)], .int x :: st, mem, 0) := q_s (.ok (.iload_n 3, 1)) (by decide +kernel) rfl
theorem r9_41 : pR X d 9 0 Q (41, L, [.int x], mem, 0) = Q (some (.int x)) mem := q_reti (by decide +kernel) rfl
theorem r10_0 : pR X d 10 0 Q (0, [some (.int x)], st, mem, 0) = pR X d 10 0 Q (1, [some (.int x)], .int x :: st, mem, 0) := q_s (.ok (.iload_n 0, 1)) (by decide +kernel) rfl
theorem r10_1 : pR X d 10 0 Q (1, L, st, mem, 0) = pR X d 10 0 Q (2, L, .int (iI (0)) :: st, mem, 0) := q_ic (by decide +kernel)
theorem r10_2 : pR X d 10 0 Q (2, L, st, mem, 0) = pR X d 10 0 Q (3, L, .int (iI (5)) :: st, mem, 0) := q_ic (by decide +kernel)
theorem r10_3 : pR X d 10 0 Q (3, L, .int y2 :: .int y1 :: .int y0 :: [], mem, 0) = Cw X d 7 [.int y0, .int y1, .int y2] mem (fun r mem => pR X d 10 0 Q (6, L, r.toList ++ [], mem, 0)) := q_stat (ix := 52) (kd := 1) (y2 := 7) (as := [.int y2, .int y1, .int y0]) (by decide +kernel) (by decide +kernel) (by decide) rfl rfl rfl (Nat.le_of_ble_eq_true rfl) (by decide)
theorem r10_6 : pR X d 10 0 Q (6, L, [.int x], mem, 0) = (zb .boolean x ∧ Q (some (.int x)) mem) := q_retz (by decide +kernel) rfl (by decide)
theorem r11_0 : pR X d 11 0 Q (0, [some (.int x)], st, mem, 0) = pR X d 11 0 Q (1, [some (.int x)], .int x :: st, mem, 0) := q_s (.ok (.iload_n 0, 1)) (by decide +kernel) rfl
theorem r11_1 : pR X d 11 0 Q (1, L, st, mem, 0) = pR X d 11 0 Q (2, L, .int (iI (0)) :: st, mem, 0) := q_ic (by decide +kernel)
theorem r11_2 : pR X d 11 0 Q (2, L, st, mem, 0) = pR X d 11 0 Q (5, L, .int (iI (7799)) :: st, mem, 0) := q_si (n := 7799) (by decide +kernel) (by decide +kernel)
theorem r11_5 : pR X d 11 0 Q (5, L, .int y2 :: .int y1 :: .int y0 :: [], mem, 0) = Cw X d 7 [.int y0, .int y1, .int y2] mem (fun r mem => pR X d 11 0 Q (8, L, r.toList ++ [], mem, 0)) := q_stat (ix := 52) (kd := 1) (y2 := 7) (as := [.int y2, .int y1, .int y0]) (by decide +kernel) (by decide +kernel) (by decide) rfl rfl rfl (Nat.le_of_ble_eq_true rfl) (by decide)
theorem r11_8 : pR X d 11 0 Q (8, L, .int x :: st, mem, 0) = ((x = 0 → pR X d 11 0 Q (24, L, st, mem, 0)) ∧ (¬ (x = 0) → pR X d 11 0 Q (11, L, st, mem, 0))) := r_if (c := .eq) (off := 16) (by decide +kernel) (by decide)
theorem r11_11 : pR X d 11 0 Q (11, [some (.int x)], st, mem, 0) = pR X d 11 0 Q (12, [some (.int x)], .int x :: st, mem, 0) := q_s (.ok (.iload_n 0, 1)) (by decide +kernel) rfl
theorem r11_12 : pR X d 11 0 Q (12, L, .int y0 :: [], mem, 0) = Cw X d 12 [.int y0] mem (fun r mem => pR X d 11 0 Q (15, L, r.toList ++ [], mem, 0)) := q_stat (ix := 278) (kd := 1) (y2 := 12) (as := [.int y0]) (by decide +kernel) (by decide +kernel) (by decide) rfl rfl rfl (Nat.le_of_ble_eq_true rfl) (by decide)
theorem r11_15 : pR X d 11 0 Q (15, L, st, mem, 0) = pR X d 11 0 Q (17, L, .int (iI (8)) :: st, mem, 0) := q_bi (n := 8) (by decide +kernel) (by decide +kernel)
theorem r11_17 : pR X d 11 0 Q (17, L, .int z :: .int x :: st, mem, 0) = ((z ≤ x → pR X d 11 0 Q (24, L, st, mem, 0)) ∧ (¬ (z ≤ x) → pR X d 11 0 Q (20, L, st, mem, 0))) := r_ic (c := .ge) (off := 7) (by decide +kernel) (by decide)
theorem r11_20 : pR X d 11 0 Q (20, L, st, mem, 0) = pR X d 11 0 Q (21, L, .int (iI (1)) :: st, mem, 0) := q_ic (by decide +kernel)
theorem r11_21 : pR X d 11 0 Q (21, L, st, mem, 0) = pR X d 11 0 Q (25, L, st, mem, 0) := q_s (.ok (.goto (4), 3)) (by decide +kernel) rfl
theorem r11_24 : pR X d 11 0 Q (24, L, st, mem, 0) = pR X d 11 0 Q (25, L, .int (iI (0)) :: st, mem, 0) := q_ic (by decide +kernel)
theorem r11_25 : pR X d 11 0 Q (25, L, [.int x], mem, 0) = (zb .boolean x ∧ Q (some (.int x)) mem) := q_retz (by decide +kernel) rfl (by decide)
theorem r12_0 : pR X d 12 0 Q (0, [some (.int x)], st, mem, 0) = pR X d 12 0 Q (1, [some (.int x)], .int x :: st, mem, 0) := q_s (.ok (.iload_n 0, 1)) (by decide +kernel) rfl
theorem r12_1 : pR X d 12 0 Q (1, L, st, mem, 0) = pR X d 12 0 Q (3, L, .int (iI (100)) :: st, mem, 0) := q_bi (n := 100) (by decide +kernel) (by decide +kernel)
theorem r12_3 : pR X d 12 0 Q (3, L, .int z :: .int x :: st, mem, 0) = (¬ z = 0 ∧ pR X d 12 0 Q (4, L, .int (x / z) :: st, mem, 0)) := q_div (by decide +kernel)
theorem r12_4 : pR X d 12 0 Q (4, L, st, mem, 0) = pR X d 12 0 Q (6, L, .int (iI (10)) :: st, mem, 0) := q_bi (n := 10) (by decide +kernel) (by decide +kernel)
theorem r12_6 : pR X d 12 0 Q (6, L, .int z :: .int x :: st, mem, 0) = (¬ z = 0 ∧ pR X d 12 0 Q (7, L, .int (x - x / z * z) :: st, mem, 0)) := q_rem (by decide +kernel)
theorem r12_7 : pR X d 12 0 Q (7, L, [.int x], mem, 0) = Q (some (.int x)) mem := q_reti (by decide +kernel) rfl
theorem r13_0 : pR X d 13 0 Q (0, [l0, some (.int x)], st, mem, 0) = pR X d 13 0 Q (1, [l0, some (.int x)], .int x :: st, mem, 0) := q_s (.ok (.iload_n 1, 1)) (by decide +kernel) rfl
theorem r13_1 : pR X d 13 0 Q (1, L, .int y0 :: [], mem, 0) = Cw X d 10 [.int y0] mem (fun r mem => pR X d 13 0 Q (4, L, r.toList ++ [], mem, 0)) := q_stat (ix := 63) (kd := 1) (y2 := 10) (as := [.int y0]) (by decide +kernel) (by decide +kernel) (by decide) rfl rfl rfl (Nat.le_of_ble_eq_true rfl) (by decide)
theorem r13_4 : pR X d 13 0 Q (4, L, .int x :: st, mem, 0) = ((x = 0 → pR X d 13 0 Q (19, L, st, mem, 0)) ∧ (¬ (x = 0) → pR X d 13 0 Q (7, L, st, mem, 0))) := r_if (c := .eq) (off := 15) (by decide +kernel) (by decide)
theorem r13_7 : pR X d 13 0 Q (7, [some (.ref a), l1], st, mem, 0) = pR X d 13 0 Q (8, [some (.ref a), l1], .ref a :: st, mem, 0) := q_s (.ok (.aload_n 0, 1)) (by decide +kernel) rfl
theorem r13_8 : pR X d 13 0 Q (8, L, .ref a :: st, mem, 0) = gf mem a 4 0 (fun p => pR X d 13 0 Q (11, L, p :: st, mem, 0)) := q_get (ix := 10) (by decide +kernel) (by decide +kernel)
theorem r13_11 : pR X d 13 0 Q (11, L, .ref a :: st, mem, 0) = gf mem a 3 6 (fun p => pR X d 13 0 Q (14, L, p :: st, mem, 0)) := q_get (ix := 69) (by decide +kernel) (by decide +kernel)
theorem r13_14 : pR X d 13 0 Q (14, [l0, some (.int x)], st, mem, 0) = pR X d 13 0 Q (15, [l0, some (.int x)], .int x :: st, mem, 0) := q_s (.ok (.iload_n 1, 1)) (by decide +kernel) rfl
theorem r13_15 : pR X d 13 0 Q (15, L, .int x :: .ref a :: st, mem, 0) = ri X mem a x (fun z => pR X d 13 0 Q (16, L, .int z :: st, mem, 0)) := q_ri (by decide +kernel)
theorem r13_16 : pR X d 13 0 Q (16, L, st, mem, 0) = pR X d 13 0 Q (24, L, st, mem, 0) := q_s (.ok (.goto (8), 3)) (by decide +kernel) rfl
theorem r13_19 : pR X d 13 0 Q (19, [some (.ref a), l1], st, mem, 0) = pR X d 13 0 Q (20, [some (.ref a), l1], .ref a :: st, mem, 0) := q_s (.ok (.aload_n 0, 1)) (by decide +kernel) rfl
theorem r13_20 : pR X d 13 0 Q (20, L, st, mem, 0) = pR X d 13 0 Q (21, L, .int (iI (0)) :: st, mem, 0) := q_ic (by decide +kernel)
theorem r13_21 : pR X d 13 0 Q (21, L, .int y0 :: .ref a :: [], mem, 0) = (prcv mem 4 a ∧ Cw X d 8 [.ref a, .int y0] mem (fun r mem => pR X d 13 0 Q (24, L, r.toList ++ [], mem, 0))) := q_virt (ix := 59) (y2 := 8) (as := [.int y0]) (by decide +kernel) (by decide +kernel) rfl rfl rfl (Nat.le_of_ble_eq_true rfl) (by decide)
theorem r13_24 : pR X d 13 0 Q (24, L, [.int x], mem, 0) = Q (some (.int x)) mem := q_reti (by decide +kernel) rfl
theorem r14_0 : pR X d 14 0 Q (0, [l0, some (.int x), l2], st, mem, 0) = pR X d 14 0 Q (1, [l0, some (.int x), l2], .int x :: st, mem, 0) := q_s (.ok (.iload_n 1, 1)) (by decide +kernel) rfl
theorem r14_1 : pR X d 14 0 Q (1, L, .int y0 :: [], mem, 0) = Cw X d 15 [.int y0] mem (fun r mem => pR X d 14 0 Q (4, L, r.toList ++ [], mem, 0)) := q_stat (ix := 72) (kd := 1) (y2 := 15) (as := [.int y0]) (by decide +kernel) (by decide +kernel) (by decide) rfl rfl rfl (Nat.le_of_ble_eq_true rfl) (by decide)
theorem r14_4 : pR X d 14 0 Q (4, L, .int x :: st, mem, 0) = ((x = 0 → pR X d 14 0 Q (18, L, st, mem, 0)) ∧ (¬ (x = 0) → pR X d 14 0 Q (7, L, st, mem, 0))) := r_if (c := .eq) (off := 14) (by decide +kernel) (by decide)
theorem r14_7 : pR X d 14 0 Q (7, [l0, l1, some (.int x)], st, mem, 0) = pR X d 14 0 Q (8, [l0, l1, some (.int x)], .int x :: st, mem, 0) := q_s (.ok (.iload_n 2, 1)) (by decide +kernel) rfl
theorem r14_8 : pR X d 14 0 Q (8, L, st, mem, 0) = pR X d 14 0 Q (9, L, .int (iI (0)) :: st, mem, 0) := q_ic (by decide +kernel)
theorem r14_9 : pR X d 14 0 Q (9, L, st, mem, 0) = pR X d 14 0 Q (12, L, .int (iI (999)) :: st, mem, 0) := q_si (n := 999) (by decide +kernel) (by decide +kernel)
theorem r14_12 : pR X d 14 0 Q (12, L, .int y2 :: .int y1 :: .int y0 :: [], mem, 0) = Cw X d 7 [.int y0, .int y1, .int y2] mem (fun r mem => pR X d 14 0 Q (15, L, r.toList ++ [], mem, 0)) := q_stat (ix := 52) (kd := 1) (y2 := 7) (as := [.int y2, .int y1, .int y0]) (by decide +kernel) (by decide +kernel) (by decide) rfl rfl rfl (Nat.le_of_ble_eq_true rfl) (by decide)
theorem r14_15 : pR X d 14 0 Q (15, L, .int x :: st, mem, 0) = ((¬ x = 0 → pR X d 14 0 Q (24, L, st, mem, 0)) ∧ (¬ (¬ x = 0) → pR X d 14 0 Q (18, L, st, mem, 0))) := r_if (c := .ne) (off := 9) (by decide +kernel) (by decide)
theorem r14_18 : pR X d 14 0 Q (18, [some (.ref a), l1, l2], st, mem, 0) = pR X d 14 0 Q (19, [some (.ref a), l1, l2], .ref a :: st, mem, 0) := q_s (.ok (.aload_n 0, 1)) (by decide +kernel) rfl
theorem r14_19 : pR X d 14 0 Q (19, L, st, mem, 0) = pR X d 14 0 Q (20, L, .int (iI (0)) :: st, mem, 0) := q_ic (by decide +kernel)
theorem r14_20 : pR X d 14 0 Q (20, L, .int y0 :: .ref a :: [], mem, 0) = (prcv mem 4 a ∧ Cw X d 8 [.ref a, .int y0] mem (fun r mem => pR X d 14 0 Q (23, L, r.toList ++ [], mem, 0))) := q_virt (ix := 59) (y2 := 8) (as := [.int y0]) (by decide +kernel) (by decide +kernel) rfl rfl rfl (Nat.le_of_ble_eq_true rfl) (by decide)
theorem r14_23 : pR X d 14 0 Q (23, L, [.int x], mem, 0) = Q (some (.int x)) mem := q_reti (by decide +kernel) rfl
theorem r14_24 : pR X d 14 0 Q (24, [some (.ref a), l1, l2], st, mem, 0) = pR X d 14 0 Q (25, [some (.ref a), l1, l2], .ref a :: st, mem, 0) := q_s (.ok (.aload_n 0, 1)) (by decide +kernel) rfl
theorem r14_25 : pR X d 14 0 Q (25, L, .ref a :: st, mem, 0) = gf mem a 4 0 (fun p => pR X d 14 0 Q (28, L, p :: st, mem, 0)) := q_get (ix := 10) (by decide +kernel) (by decide +kernel)
theorem r14_28 : pR X d 14 0 Q (28, L, .ref a :: [], mem, 0) = (prcv mem 3 a ∧ Cw X d 16 [.ref a] mem (fun r mem => pR X d 14 0 Q (31, L, r.toList ++ [], mem, 0))) := q_virt (ix := 75) (y2 := 16) (as := []) (by decide +kernel) (by decide +kernel) rfl rfl rfl (Nat.le_of_ble_eq_true rfl) (by decide)
theorem r14_31 : pR X d 14 0 Q (31, L, .int x :: st, mem, 0) = ((x = 0 → pR X d 14 0 Q (40, L, st, mem, 0)) ∧ (¬ (x = 0) → pR X d 14 0 Q (34, L, st, mem, 0))) := r_if (c := .eq) (off := 9) (by decide +kernel) (by decide)
theorem r14_34 : pR X d 14 0 Q (34, [some (.ref a), l1, l2], st, mem, 0) = pR X d 14 0 Q (35, [some (.ref a), l1, l2], .ref a :: st, mem, 0) := q_s (.ok (.aload_n 0, 1)) (by decide +kernel) rfl
theorem r14_35 : pR X d 14 0 Q (35, L, st, mem, 0) = pR X d 14 0 Q (36, L, .int (iI (1)) :: st, mem, 0) := q_ic (by decide +kernel)
theorem r14_36 : pR X d 14 0 Q (36, L, .int y0 :: .ref a :: [], mem, 0) = (prcv mem 4 a ∧ Cw X d 8 [.ref a, .int y0] mem (fun r mem => pR X d 14 0 Q (39, L, r.toList ++ [], mem, 0))) := q_virt (ix := 59) (y2 := 8) (as := [.int y0]) (by decide +kernel) (by decide +kernel) rfl rfl rfl (Nat.le_of_ble_eq_true rfl) (by decide)
theorem r14_39 : pR X d 14 0 Q (39, L, [.int x], mem, 0) = Q (some (.int x)) mem := q_reti (by decide +kernel) rfl
theorem r14_40 : pR X d 14 0 Q (40, [some (.ref a), l1, l2], st, mem, 0) = pR X d 14 0 Q (41, [some (.ref a), l1, l2], .ref a :: st, mem, 0) := q_s (.ok (.aload_n 0, 1)) (by decide +kernel) rfl
theorem r14_41 : pR X d 14 0 Q (41, L, .ref a :: st, mem, 0) = gf mem a 4 0 (fun p => pR X d 14 0 Q (44, L, p :: st, mem, 0)) := q_get (ix := 10) (by decide +kernel) (by decide +kernel)
theorem r14_44 : pR X d 14 0 Q (44, [l0, some (.int x), l2], st, mem, 0) = pR X d 14 0 Q (45, [l0, some (.int x), l2], .int x :: st, mem, 0) := q_s (.ok (.iload_n 1, 1)) (by decide +kernel) rfl
theorem r14_45 : pR X d 14 0 Q (45, [l0, l1, some (.int x)], st, mem, 0) = pR X d 14 0 Q (46, [l0, l1, some (.int x)], .int x :: st, mem, 0) := q_s (.ok (.iload_n 2, 1)) (by decide +kernel) rfl
theorem r14_46 : pR X d 14 0 Q (46, L, .int y1 :: .int y0 :: .ref a :: [], mem, 0) = (prcv mem 3 a ∧ Cw X d 17 [.ref a, .int y0, .int y1] mem (fun r mem => pR X d 14 0 Q (49, L, r.toList ++ [], mem, 0))) := q_virt (ix := 79) (y2 := 17) (as := [.int y1, .int y0]) (by decide +kernel) (by decide +kernel) rfl rfl rfl (Nat.le_of_ble_eq_true rfl) (by decide)
theorem r14_49 : pR X d 14 0 Q (49, L, [.int x], mem, 0) = Q (some (.int x)) mem := q_reti (by decide +kernel) rfl
theorem r15_0 : pR X d 15 0 Q (0, [some (.int x)], st, mem, 0) = pR X d 15 0 Q (1, [some (.int x)], .int x :: st, mem, 0) := q_s (.ok (.iload_n 0, 1)) (by decide +kernel) rfl
theorem r15_1 : pR X d 15 0 Q (1, L, st, mem, 0) = pR X d 15 0 Q (2, L, .int (iI (0)) :: st, mem, 0) := q_ic (by decide +kernel)
theorem r15_2 : pR X d 15 0 Q (2, L, st, mem, 0) = pR X d 15 0 Q (4, L, .int (iI (6)) :: st, mem, 0) := q_bi (n := 6) (by decide +kernel) (by decide +kernel)
theorem r15_4 : pR X d 15 0 Q (4, L, .int y2 :: .int y1 :: .int y0 :: [], mem, 0) = Cw X d 7 [.int y0, .int y1, .int y2] mem (fun r mem => pR X d 15 0 Q (7, L, r.toList ++ [], mem, 0)) := q_stat (ix := 52) (kd := 1) (y2 := 7) (as := [.int y2, .int y1, .int y0]) (by decide +kernel) (by decide +kernel) (by decide) rfl rfl rfl (Nat.le_of_ble_eq_true rfl) (by decide)
theorem r15_7 : pR X d 15 0 Q (7, L, [.int x], mem, 0) = (zb .boolean x ∧ Q (some (.int x)) mem) := q_retz (by decide +kernel) rfl (by decide)
theorem r16_0 : pR X d 16 0 Q (0, [some (.ref a)], st, mem, 0) = pR X d 16 0 Q (1, [some (.ref a)], .ref a :: st, mem, 0) := q_s (.ok (.aload_n 0, 1)) (by decide +kernel) rfl
theorem r16_1 : pR X d 16 0 Q (1, L, .ref a :: st, mem, 0) = gf mem a 3 4 (fun p => pR X d 16 0 Q (4, L, p :: st, mem, 0)) := q_get (ix := 24) (by decide +kernel) (by decide +kernel)
theorem r16_4 : pR X d 16 0 Q (4, L, st, mem, 0) = pR X d 16 0 Q (6, L, .int (iI (8)) :: st, mem, 0) := q_bi (n := 8) (by decide +kernel) (by decide +kernel)
theorem r16_6 : pR X d 16 0 Q (6, L, .int z :: .int x :: st, mem, 0) = ((x < z → pR X d 16 0 Q (13, L, st, mem, 0)) ∧ (¬ (x < z) → pR X d 16 0 Q (9, L, st, mem, 0))) := r_ic (c := .lt) (off := 7) (by decide +kernel) (by decide)
theorem r16_9 : pR X d 16 0 Q (9, L, st, mem, 0) = pR X d 16 0 Q (10, L, .int (iI (1)) :: st, mem, 0) := q_ic (by decide +kernel)
theorem r16_10 : pR X d 16 0 Q (10, L, st, mem, 0) = pR X d 16 0 Q (14, L, st, mem, 0) := q_s (.ok (.goto (4), 3)) (by decide +kernel) rfl
theorem r16_13 : pR X d 16 0 Q (13, L, st, mem, 0) = pR X d 16 0 Q (14, L, .int (iI (0)) :: st, mem, 0) := q_ic (by decide +kernel)
theorem r16_14 : pR X d 16 0 Q (14, L, [.int x], mem, 0) = (zb .boolean x ∧ Q (some (.int x)) mem) := q_retz (by decide +kernel) rfl (by decide)
theorem r17_0 : pR X d 17 0 Q (0, [some (.ref a), l1, l2, l3], st, mem, 0) = pR X d 17 0 Q (1, [some (.ref a), l1, l2, l3], .ref a :: st, mem, 0) := q_s (.ok (.aload_n 0, 1)) (by decide +kernel) rfl
theorem r17_1 : pR X d 17 0 Q (1, L, .ref a :: st, mem, 0) = gf mem a 3 4 (fun p => pR X d 17 0 Q (4, L, p :: st, mem, 0)) := q_get (ix := 24) (by decide +kernel) (by decide +kernel)
theorem r17_4 : pR X d 17 0 Q (4, [l0, l1, l2, l3], .int x :: st, mem, 0) = pR X d 17 0 Q (5, [l0, l1, cl1 l2, some (.int x)], st, mem, 0) := q_s (.ok (.istore_n 3, 1)) (by decide +kernel) rfl
theorem r17_5 : pR X d 17 0 Q (5, [some (.ref a), l1, l2, l3], st, mem, 0) = pR X d 17 0 Q (6, [some (.ref a), l1, l2, l3], .ref a :: st, mem, 0) := q_s (.ok (.aload_n 0, 1)) (by decide +kernel) rfl
theorem r17_6 : pR X d 17 0 Q (6, L, .ref a :: st, mem, 0) = gf mem a 3 5 (fun p => pR X d 17 0 Q (9, L, p :: st, mem, 0)) := q_get (ix := 29) (by decide +kernel) (by decide +kernel)
theorem r17_9 : pR X d 17 0 Q (9, [l0, l1, l2, some (.int x)], st, mem, 0) = pR X d 17 0 Q (10, [l0, l1, l2, some (.int x)], .int x :: st, mem, 0) := q_s (.ok (.iload_n 3, 1)) (by decide +kernel) rfl
theorem r17_10 : pR X d 17 0 Q (10, L, .int x :: .ref a :: st, mem, 0) = ra mem a x (fun b => pR X d 17 0 Q (11, L, .ref b :: st, mem, 0)) := q_ra (by decide +kernel)
theorem r17_11 : pR X d 17 0 Q (11, [l0, some (.int x), l2, l3], st, mem, 0) = pR X d 17 0 Q (12, [l0, some (.int x), l2, l3], .int x :: st, mem, 0) := q_s (.ok (.iload_n 1, 1)) (by decide +kernel) rfl
theorem r17_12 : pR X d 17 0 Q (12, [l0, l1, some (.int x), l3], st, mem, 0) = pR X d 17 0 Q (13, [l0, l1, some (.int x), l3], .int x :: st, mem, 0) := q_s (.ok (.iload_n 2, 1)) (by decide +kernel) rfl
theorem r17_13 : pR X d 17 0 Q (13, L, .int y1 :: .int y0 :: .ref a :: [], mem, 0) = (prcv mem 0 a ∧ Cw X d 18 [.ref a, .int y0, .int y1] mem (fun r mem => pR X d 17 0 Q (16, L, r.toList ++ [], mem, 0))) := q_virt (ix := 51) (y2 := 18) (as := [.int y1, .int y0]) (by decide +kernel) (by decide +kernel) rfl rfl rfl (Nat.le_of_ble_eq_true rfl) (by decide)
theorem r17_16 : pR X d 17 0 Q (16, [some (.ref a), l1, l2, l3], st, mem, 0) = pR X d 17 0 Q (17, [some (.ref a), l1, l2, l3], .ref a :: st, mem, 0) := q_s (.ok (.aload_n 0, 1)) (by decide +kernel) rfl
theorem r17_17 : pR X d 17 0 Q (17, L, .ref a :: st, mem, 0) = pR X d 17 0 Q (18, L, .ref a :: .ref a :: st, mem, 0) := q_s (.ok (.dup, 1)) (by decide +kernel) rfl
theorem r17_18 : pR X d 17 0 Q (18, L, .ref a :: st, mem, 0) = gf mem a 3 4 (fun p => pR X d 17 0 Q (21, L, p :: st, mem, 0)) := q_get (ix := 24) (by decide +kernel) (by decide +kernel)
theorem r17_21 : pR X d 17 0 Q (21, L, st, mem, 0) = pR X d 17 0 Q (22, L, .int (iI (1)) :: st, mem, 0) := q_ic (by decide +kernel)
theorem r17_22 : pR X d 17 0 Q (22, L, .int z :: .int x :: st, mem, 0) = pR X d 17 0 Q (23, L, .int (x + z) :: st, mem, 0) := q_s (.ok (.iadd, 1)) (by decide +kernel) rfl
theorem r17_23 : pR X d 17 0 Q (23, L, p :: .ref a :: st, mem, 0) = pf 17 mem a 3 4 p (fun mem => pR X d 17 0 Q (26, L, st, mem, 0)) := q_put (ix := 24) (by decide +kernel) (by decide +kernel) (by decide)
theorem r17_26 : pR X d 17 0 Q (26, [l0, l1, l2, some (.int x)], st, mem, 0) = pR X d 17 0 Q (27, [l0, l1, l2, some (.int x)], .int x :: st, mem, 0) := q_s (.ok (.iload_n 3, 1)) (by decide +kernel) rfl
theorem r17_27 : pR X d 17 0 Q (27, L, [.int x], mem, 0) = Q (some (.int x)) mem := q_reti (by decide +kernel) rfl
theorem r18_0 : pR X d 18 0 Q (0, [some (.ref a), l1, l2], st, mem, 0) = pR X d 18 0 Q (1, [some (.ref a), l1, l2], .ref a :: st, mem, 0) := q_s (.ok (.aload_n 0, 1)) (by decide +kernel) rfl
theorem r18_1 : pR X d 18 0 Q (1, [l0, some (.int x), l2], st, mem, 0) = pR X d 18 0 Q (2, [l0, some (.int x), l2], .int x :: st, mem, 0) := q_s (.ok (.iload_n 1, 1)) (by decide +kernel) rfl
theorem r18_2 : pR X d 18 0 Q (2, L, p :: .ref a :: st, mem, 0) = pf 18 mem a 0 0 p (fun mem => pR X d 18 0 Q (5, L, st, mem, 0)) := q_put (ix := 9) (by decide +kernel) (by decide +kernel) (by decide)
theorem r18_5 : pR X d 18 0 Q (5, [some (.ref a), l1, l2], st, mem, 0) = pR X d 18 0 Q (6, [some (.ref a), l1, l2], .ref a :: st, mem, 0) := q_s (.ok (.aload_n 0, 1)) (by decide +kernel) rfl
theorem r18_6 : pR X d 18 0 Q (6, [l0, l1, some (.int x)], st, mem, 0) = pR X d 18 0 Q (7, [l0, l1, some (.int x)], .int x :: st, mem, 0) := q_s (.ok (.iload_n 2, 1)) (by decide +kernel) rfl
theorem r18_7 : pR X d 18 0 Q (7, L, p :: .ref a :: st, mem, 0) = pf 18 mem a 0 1 p (fun mem => pR X d 18 0 Q (10, L, st, mem, 0)) := q_put (ix := 15) (by decide +kernel) (by decide +kernel) (by decide)
theorem r18_10 : pR X d 18 0 Q (10, [some (.ref a), l1, l2], st, mem, 0) = pR X d 18 0 Q (11, [some (.ref a), l1, l2], .ref a :: st, mem, 0) := q_s (.ok (.aload_n 0, 1)) (by decide +kernel) rfl
theorem r18_11 : pR X d 18 0 Q (11, L, st, mem, 0) = pR X d 18 0 Q (12, L, .int (iI (0)) :: st, mem, 0) := q_ic (by decide +kernel)
theorem r18_12 : pR X d 18 0 Q (12, L, p :: .ref a :: st, mem, 0) = pf 18 mem a 0 2 p (fun mem => pR X d 18 0 Q (15, L, st, mem, 0)) := q_put (ix := 18) (by decide +kernel) (by decide +kernel) (by decide)
theorem r18_15 : pR X d 18 0 Q (15, [some (.ref a), l1, l2], st, mem, 0) = pR X d 18 0 Q (16, [some (.ref a), l1, l2], .ref a :: st, mem, 0) := q_s (.ok (.aload_n 0, 1)) (by decide +kernel) rfl
theorem r18_16 : pR X d 18 0 Q (16, L, st, mem, 0) = pR X d 18 0 Q (17, L, .int (iI (0)) :: st, mem, 0) := q_ic (by decide +kernel)
theorem r18_17 : pR X d 18 0 Q (17, L, p :: .ref a :: st, mem, 0) = pf 18 mem a 0 3 p (fun mem => pR X d 18 0 Q (20, L, st, mem, 0)) := q_put (ix := 21) (by decide +kernel) (by decide +kernel) (by decide)
theorem r18_20 : pR X d 18 0 Q (20, [some (.ref a), l1, l2], st, mem, 0) = pR X d 18 0 Q (21, [some (.ref a), l1, l2], .ref a :: st, mem, 0) := q_s (.ok (.aload_n 0, 1)) (by decide +kernel) rfl
theorem r18_21 : pR X d 18 0 Q (21, L, st, mem, 0) = pR X d 18 0 Q (22, L, .int (iI (0)) :: st, mem, 0) := q_ic (by decide +kernel)
theorem r18_22 : pR X d 18 0 Q (22, L, p :: .ref a :: st, mem, 0) = pf 18 mem a 0 4 p (fun mem => pR X d 18 0 Q (25, L, st, mem, 0)) := q_put (ix := 24) (by decide +kernel) (by decide +kernel) (by decide)
theorem r18_25 : pR X d 18 0 Q (25, [some (.ref a), l1, l2], st, mem, 0) = pR X d 18 0 Q (26, [some (.ref a), l1, l2], .ref a :: st, mem, 0) := q_s (.ok (.aload_n 0, 1)) (by decide +kernel) rfl
theorem r18_26 : pR X d 18 0 Q (26, L, st, mem, 0) = pR X d 18 0 Q (27, L, .int (iI (0)) :: st, mem, 0) := q_ic (by decide +kernel)
theorem r18_27 : pR X d 18 0 Q (27, L, p :: .ref a :: st, mem, 0) = pf 18 mem a 0 5 p (fun mem => pR X d 18 0 Q (30, L, st, mem, 0)) := q_put (ix := 27) (by decide +kernel) (by decide +kernel) (by decide)
theorem r18_30 : pR X d 18 0 Q (30, L, [], mem, 0) = Q none mem := q_retv (by decide +kernel) rfl
theorem r19_0 : pR X d 19 0 Q (0, [some (.ref a), l1, l2], st, mem, 0) = pR X d 19 0 Q (1, [some (.ref a), l1, l2], .ref a :: st, mem, 0) := q_s (.ok (.aload_n 0, 1)) (by decide +kernel) rfl
theorem r19_1 : pR X d 19 0 Q (1, L, .ref a :: st, mem, 0) = gf mem a 4 0 (fun p => pR X d 19 0 Q (4, L, p :: st, mem, 0)) := q_get (ix := 10) (by decide +kernel) (by decide +kernel)
theorem r19_4 : pR X d 19 0 Q (4, [l0, some (.int x), l2], st, mem, 0) = pR X d 19 0 Q (5, [l0, some (.int x), l2], .int x :: st, mem, 0) := q_s (.ok (.iload_n 1, 1)) (by decide +kernel) rfl
theorem r19_5 : pR X d 19 0 Q (5, L, .int y0 :: .ref a :: [], mem, 0) = (prcv mem 3 a ∧ Cw X d 20 [.ref a, .int y0] mem (fun r mem => pR X d 19 0 Q (8, L, r.toList ++ [], mem, 0))) := q_virt (ix := 83) (y2 := 20) (as := [.int y0]) (by decide +kernel) (by decide +kernel) rfl rfl rfl (Nat.le_of_ble_eq_true rfl) (by decide)
theorem r19_8 : pR X d 19 0 Q (8, L, .int x :: st, mem, 0) = ((x = 0 → pR X d 19 0 Q (21, L, st, mem, 0)) ∧ (¬ (x = 0) → pR X d 19 0 Q (11, L, st, mem, 0))) := r_if (c := .eq) (off := 13) (by decide +kernel) (by decide)
theorem r19_11 : pR X d 19 0 Q (11, [l0, l1, some (.int x)], st, mem, 0) = pR X d 19 0 Q (12, [l0, l1, some (.int x)], .int x :: st, mem, 0) := q_s (.ok (.iload_n 2, 1)) (by decide +kernel) rfl
theorem r19_12 : pR X d 19 0 Q (12, L, st, mem, 0) = pR X d 19 0 Q (13, L, .int (iI (0)) :: st, mem, 0) := q_ic (by decide +kernel)
theorem r19_13 : pR X d 19 0 Q (13, L, st, mem, 0) = pR X d 19 0 Q (15, L, .int (iI (8)) :: st, mem, 0) := q_bi (n := 8) (by decide +kernel) (by decide +kernel)
theorem r19_15 : pR X d 19 0 Q (15, L, .int y2 :: .int y1 :: .int y0 :: [], mem, 0) = Cw X d 7 [.int y0, .int y1, .int y2] mem (fun r mem => pR X d 19 0 Q (18, L, r.toList ++ [], mem, 0)) := q_stat (ix := 52) (kd := 1) (y2 := 7) (as := [.int y2, .int y1, .int y0]) (by decide +kernel) (by decide +kernel) (by decide) rfl rfl rfl (Nat.le_of_ble_eq_true rfl) (by decide)
theorem r19_18 : pR X d 19 0 Q (18, L, .int x :: st, mem, 0) = ((¬ x = 0 → pR X d 19 0 Q (27, L, st, mem, 0)) ∧ (¬ (¬ x = 0) → pR X d 19 0 Q (21, L, st, mem, 0))) := r_if (c := .ne) (off := 9) (by decide +kernel) (by decide)
theorem r19_21 : pR X d 19 0 Q (21, [some (.ref a), l1, l2], st, mem, 0) = pR X d 19 0 Q (22, [some (.ref a), l1, l2], .ref a :: st, mem, 0) := q_s (.ok (.aload_n 0, 1)) (by decide +kernel) rfl
theorem r19_22 : pR X d 19 0 Q (22, L, st, mem, 0) = pR X d 19 0 Q (23, L, .int (iI (0)) :: st, mem, 0) := q_ic (by decide +kernel)
theorem r19_23 : pR X d 19 0 Q (23, L, .int y0 :: .ref a :: [], mem, 0) = (prcv mem 4 a ∧ Cw X d 8 [.ref a, .int y0] mem (fun r mem => pR X d 19 0 Q (26, L, r.toList ++ [], mem, 0))) := q_virt (ix := 59) (y2 := 8) (as := [.int y0]) (by decide +kernel) (by decide +kernel) rfl rfl rfl (Nat.le_of_ble_eq_true rfl) (by decide)
theorem r19_26 : pR X d 19 0 Q (26, L, [.int x], mem, 0) = Q (some (.int x)) mem := q_reti (by decide +kernel) rfl
theorem r19_27 : pR X d 19 0 Q (27, [some (.ref a), l1, l2], st, mem, 0) = pR X d 19 0 Q (28, [some (.ref a), l1, l2], .ref a :: st, mem, 0) := q_s (.ok (.aload_n 0, 1)) (by decide +kernel) rfl
theorem r19_28 : pR X d 19 0 Q (28, L, .ref a :: st, mem, 0) = gf mem a 4 0 (fun p => pR X d 19 0 Q (31, L, p :: st, mem, 0)) := q_get (ix := 10) (by decide +kernel) (by decide +kernel)
theorem r19_31 : pR X d 19 0 Q (31, [l0, some (.int x), l2], st, mem, 0) = pR X d 19 0 Q (32, [l0, some (.int x), l2], .int x :: st, mem, 0) := q_s (.ok (.iload_n 1, 1)) (by decide +kernel) rfl
theorem r19_32 : pR X d 19 0 Q (32, [l0, l1, some (.int x)], st, mem, 0) = pR X d 19 0 Q (33, [l0, l1, some (.int x)], .int x :: st, mem, 0) := q_s (.ok (.iload_n 2, 1)) (by decide +kernel) rfl
theorem r19_33 : pR X d 19 0 Q (33, L, .int y1 :: .int y0 :: .ref a :: [], mem, 0) = (prcv mem 3 a ∧ Cw X d 21 [.ref a, .int y0, .int y1] mem (fun r mem => pR X d 19 0 Q (36, L, r.toList ++ [], mem, 0))) := q_virt (ix := 86) (y2 := 21) (as := [.int y1, .int y0]) (by decide +kernel) (by decide +kernel) rfl rfl rfl (Nat.le_of_ble_eq_true rfl) (by decide)
theorem r19_36 : pR X d 19 0 Q (36, L, [.int x], mem, 0) = Q (some (.int x)) mem := q_reti (by decide +kernel) rfl
theorem r20_0 : pR X d 20 0 Q (0, [l0, some (.int x)], st, mem, 0) = pR X d 20 0 Q (1, [l0, some (.int x)], .int x :: st, mem, 0) := q_s (.ok (.iload_n 1, 1)) (by decide +kernel) rfl
theorem r20_1 : pR X d 20 0 Q (1, L, .int x :: st, mem, 0) = ((x < 0 → pR X d 20 0 Q (16, L, st, mem, 0)) ∧ (¬ (x < 0) → pR X d 20 0 Q (4, L, st, mem, 0))) := r_if (c := .lt) (off := 15) (by decide +kernel) (by decide)
theorem r20_4 : pR X d 20 0 Q (4, [l0, some (.int x)], st, mem, 0) = pR X d 20 0 Q (5, [l0, some (.int x)], .int x :: st, mem, 0) := q_s (.ok (.iload_n 1, 1)) (by decide +kernel) rfl
theorem r20_5 : pR X d 20 0 Q (5, [some (.ref a), l1], st, mem, 0) = pR X d 20 0 Q (6, [some (.ref a), l1], .ref a :: st, mem, 0) := q_s (.ok (.aload_n 0, 1)) (by decide +kernel) rfl
theorem r20_6 : pR X d 20 0 Q (6, L, .ref a :: st, mem, 0) = gf mem a 3 4 (fun p => pR X d 20 0 Q (9, L, p :: st, mem, 0)) := q_get (ix := 24) (by decide +kernel) (by decide +kernel)
theorem r20_9 : pR X d 20 0 Q (9, L, .int z :: .int x :: st, mem, 0) = ((z ≤ x → pR X d 20 0 Q (16, L, st, mem, 0)) ∧ (¬ (z ≤ x) → pR X d 20 0 Q (12, L, st, mem, 0))) := r_ic (c := .ge) (off := 7) (by decide +kernel) (by decide)
theorem r20_12 : pR X d 20 0 Q (12, L, st, mem, 0) = pR X d 20 0 Q (13, L, .int (iI (1)) :: st, mem, 0) := q_ic (by decide +kernel)
theorem r20_13 : pR X d 20 0 Q (13, L, st, mem, 0) = pR X d 20 0 Q (17, L, st, mem, 0) := q_s (.ok (.goto (4), 3)) (by decide +kernel) rfl
theorem r20_16 : pR X d 20 0 Q (16, L, st, mem, 0) = pR X d 20 0 Q (17, L, .int (iI (0)) :: st, mem, 0) := q_ic (by decide +kernel)
theorem r20_17 : pR X d 20 0 Q (17, L, [.int x], mem, 0) = (zb .boolean x ∧ Q (some (.int x)) mem) := q_retz (by decide +kernel) rfl (by decide)
theorem r21_0 : pR X d 21 0 Q (0, [l0, l1, some (.int x)], st, mem, 0) = pR X d 21 0 Q (1, [l0, l1, some (.int x)], .int x :: st, mem, 0) := q_s (.ok (.iload_n 2, 1)) (by decide +kernel) rfl
theorem r21_1 : pR X d 21 0 Q (1, L, .int x :: st, mem, 0) = (((x.toInt < 6 ∨ 8 < x.toInt) → pR X d 21 0 Q (66, L, st, mem, 0)) ∧ (x.toInt = 6 → pR X d 21 0 Q (28, L, st, mem, 0)) ∧ (x.toInt = 7 → pR X d 21 0 Q (34, L, st, mem, 0)) ∧ (x.toInt = 8 → pR X d 21 0 Q (48, L, st, mem, 0)) ∧ True) := q_tsl (dflt := 65) (lo := 6) (hi := 8) (offs := #[27, 33, 47]) (ll := 27) (by decide +kernel) (by decide) (by decide) (by decide)
theorem r21_28 : pR X d 21 0 Q (28, [some (.ref a), l1, l2], st, mem, 0) = pR X d 21 0 Q (29, [some (.ref a), l1, l2], .ref a :: st, mem, 0) := q_s (.ok (.aload_n 0, 1)) (by decide +kernel) rfl
theorem r21_29 : pR X d 21 0 Q (29, [l0, some (.int x), l2], st, mem, 0) = pR X d 21 0 Q (30, [l0, some (.int x), l2], .int x :: st, mem, 0) := q_s (.ok (.iload_n 1, 1)) (by decide +kernel) rfl
theorem r21_30 : pR X d 21 0 Q (30, L, .int y0 :: .ref a :: [], mem, 0) = (prcv mem 3 a ∧ Cw X d 22 [.ref a, .int y0] mem (fun r mem => pR X d 21 0 Q (33, L, r.toList ++ [], mem, 0))) := q_virt (ix := 55) (y2 := 22) (as := [.int y0]) (by decide +kernel) (by decide +kernel) rfl rfl rfl (Nat.le_of_ble_eq_true rfl) (by decide)
theorem r21_33 : pR X d 21 0 Q (33, L, [.int x], mem, 0) = Q (some (.int x)) mem := q_reti (by decide +kernel) rfl
theorem r21_34 : pR X d 21 0 Q (34, [some (.ref a), l1, l2], st, mem, 0) = pR X d 21 0 Q (35, [some (.ref a), l1, l2], .ref a :: st, mem, 0) := q_s (.ok (.aload_n 0, 1)) (by decide +kernel) rfl
theorem r21_35 : pR X d 21 0 Q (35, L, .ref a :: st, mem, 0) = gf mem a 3 5 (fun p => pR X d 21 0 Q (38, L, p :: st, mem, 0)) := q_get (ix := 29) (by decide +kernel) (by decide +kernel)
theorem r21_38 : pR X d 21 0 Q (38, [l0, some (.int x), l2], st, mem, 0) = pR X d 21 0 Q (39, [l0, some (.int x), l2], .int x :: st, mem, 0) := q_s (.ok (.iload_n 1, 1)) (by decide +kernel) rfl
theorem r21_39 : pR X d 21 0 Q (39, L, .int x :: .ref a :: st, mem, 0) = ra mem a x (fun b => pR X d 21 0 Q (40, L, .ref b :: st, mem, 0)) := q_ra (by decide +kernel)
theorem r21_40 : pR X d 21 0 Q (40, [some (.ref a), l1, l2], st, mem, 0) = pR X d 21 0 Q (41, [some (.ref a), l1, l2], .ref a :: st, mem, 0) := q_s (.ok (.aload_n 0, 1)) (by decide +kernel) rfl
theorem r21_41 : pR X d 21 0 Q (41, L, .ref a :: st, mem, 0) = gf mem a 3 2 (fun p => pR X d 21 0 Q (44, L, p :: st, mem, 0)) := q_get (ix := 18) (by decide +kernel) (by decide +kernel)
theorem r21_44 : pR X d 21 0 Q (44, L, .int y0 :: .ref a :: [], mem, 0) = (prcv mem 0 a ∧ Cw X d 24 [.ref a, .int y0] mem (fun r mem => pR X d 21 0 Q (47, L, r.toList ++ [], mem, 0))) := q_virt (ix := 59) (y2 := 24) (as := [.int y0]) (by decide +kernel) (by decide +kernel) rfl rfl rfl (Nat.le_of_ble_eq_true rfl) (by decide)
theorem r21_47 : pR X d 21 0 Q (47, L, [.int x], mem, 0) = Q (some (.int x)) mem := q_reti (by decide +kernel) rfl
theorem r21_48 : pR X d 21 0 Q (48, [some (.ref a), l1, l2], st, mem, 0) = pR X d 21 0 Q (49, [some (.ref a), l1, l2], .ref a :: st, mem, 0) := q_s (.ok (.aload_n 0, 1)) (by decide +kernel) rfl
theorem r21_49 : pR X d 21 0 Q (49, L, .ref a :: st, mem, 0) = gf mem a 3 5 (fun p => pR X d 21 0 Q (52, L, p :: st, mem, 0)) := q_get (ix := 29) (by decide +kernel) (by decide +kernel)
theorem r21_52 : pR X d 21 0 Q (52, [l0, some (.int x), l2], st, mem, 0) = pR X d 21 0 Q (53, [l0, some (.int x), l2], .int x :: st, mem, 0) := q_s (.ok (.iload_n 1, 1)) (by decide +kernel) rfl
theorem r21_53 : pR X d 21 0 Q (53, L, .int x :: .ref a :: st, mem, 0) = ra mem a x (fun b => pR X d 21 0 Q (54, L, .ref b :: st, mem, 0)) := q_ra (by decide +kernel)
theorem r21_54 : pR X d 21 0 Q (54, L, .ref a :: [], mem, 0) = (prcv mem 0 a ∧ Cw X d 25 [.ref a] mem (fun r mem => pR X d 21 0 Q (57, L, r.toList ++ [], mem, 0))) := q_virt (ix := 62) (y2 := 25) (as := []) (by decide +kernel) (by decide +kernel) rfl rfl rfl (Nat.le_of_ble_eq_true rfl) (by decide)
theorem r21_57 : pR X d 21 0 Q (57, L, .int x :: st, mem, 0) = ((x = 0 → pR X d 21 0 Q (64, L, st, mem, 0)) ∧ (¬ (x = 0) → pR X d 21 0 Q (60, L, st, mem, 0))) := r_if (c := .eq) (off := 7) (by decide +kernel) (by decide)
theorem r21_60 : pR X d 21 0 Q (60, L, st, mem, 0) = pR X d 21 0 Q (61, L, .int (iI (1)) :: st, mem, 0) := q_ic (by decide +kernel)
theorem r21_61 : pR X d 21 0 Q (61, L, st, mem, 0) = pR X d 21 0 Q (65, L, st, mem, 0) := q_s (.ok (.goto (4), 3)) (by decide +kernel) rfl
theorem r21_64 : pR X d 21 0 Q (64, L, st, mem, 0) = pR X d 21 0 Q (65, L, .int (iI (0)) :: st, mem, 0) := q_ic (by decide +kernel)
theorem r21_65 : pR X d 21 0 Q (65, L, [.int x], mem, 0) = Q (some (.int x)) mem := q_reti (by decide +kernel) rfl
theorem r21_66 : pR X d 21 0 Q (66, [some (.ref a), l1, l2], st, mem, 0) = pR X d 21 0 Q (67, [some (.ref a), l1, l2], .ref a :: st, mem, 0) := q_s (.ok (.aload_n 0, 1)) (by decide +kernel) rfl
theorem r21_67 : pR X d 21 0 Q (67, L, .ref a :: st, mem, 0) = gf mem a 3 5 (fun p => pR X d 21 0 Q (70, L, p :: st, mem, 0)) := q_get (ix := 29) (by decide +kernel) (by decide +kernel)
theorem r21_70 : pR X d 21 0 Q (70, [l0, some (.int x), l2], st, mem, 0) = pR X d 21 0 Q (71, [l0, some (.int x), l2], .int x :: st, mem, 0) := q_s (.ok (.iload_n 1, 1)) (by decide +kernel) rfl
theorem r21_71 : pR X d 21 0 Q (71, L, .int x :: .ref a :: st, mem, 0) = ra mem a x (fun b => pR X d 21 0 Q (72, L, .ref b :: st, mem, 0)) := q_ra (by decide +kernel)
theorem r21_72 : pR X d 21 0 Q (72, [l0, l1, some (.int x)], st, mem, 0) = pR X d 21 0 Q (73, [l0, l1, some (.int x)], .int x :: st, mem, 0) := q_s (.ok (.iload_n 2, 1)) (by decide +kernel) rfl
theorem r21_73 : pR X d 21 0 Q (73, L, .int y0 :: .ref a :: [], mem, 0) = (prcv mem 0 a ∧ Cw X d 26 [.ref a, .int y0] mem (fun r mem => pR X d 21 0 Q (76, L, r.toList ++ [], mem, 0))) := q_virt (ix := 66) (y2 := 26) (as := [.int y0]) (by decide +kernel) (by decide +kernel) rfl rfl rfl (Nat.le_of_ble_eq_true rfl) (by decide)
theorem r21_76 : pR X d 21 0 Q (76, L, [.int x], mem, 0) = Q (some (.int x)) mem := q_reti (by decide +kernel) rfl
theorem r22_0 : pR X d 22 0 Q (0, [some (.ref a), l1], st, mem, 0) = pR X d 22 0 Q (1, [some (.ref a), l1], .ref a :: st, mem, 0) := q_s (.ok (.aload_n 0, 1)) (by decide +kernel) rfl
theorem r22_1 : pR X d 22 0 Q (1, L, .ref a :: st, mem, 0) = gf mem a 3 5 (fun p => pR X d 22 0 Q (4, L, p :: st, mem, 0)) := q_get (ix := 29) (by decide +kernel) (by decide +kernel)
theorem r22_4 : pR X d 22 0 Q (4, [l0, some (.int x)], st, mem, 0) = pR X d 22 0 Q (5, [l0, some (.int x)], .int x :: st, mem, 0) := q_s (.ok (.iload_n 1, 1)) (by decide +kernel) rfl
theorem r22_5 : pR X d 22 0 Q (5, L, .int x :: .ref a :: st, mem, 0) = ra mem a x (fun b => pR X d 22 0 Q (6, L, .ref b :: st, mem, 0)) := q_ra (by decide +kernel)
theorem r22_6 : pR X d 22 0 Q (6, [some (.ref a), l1], st, mem, 0) = pR X d 22 0 Q (7, [some (.ref a), l1], .ref a :: st, mem, 0) := q_s (.ok (.aload_n 0, 1)) (by decide +kernel) rfl
theorem r22_7 : pR X d 22 0 Q (7, L, .ref a :: st, mem, 0) = gf mem a 3 0 (fun p => pR X d 22 0 Q (10, L, p :: st, mem, 0)) := q_get (ix := 9) (by decide +kernel) (by decide +kernel)
theorem r22_10 : pR X d 22 0 Q (10, L, .int y0 :: .ref a :: [], mem, 0) = (prcv mem 0 a ∧ Cw X d 23 [.ref a, .int y0] mem (fun r mem => pR X d 22 0 Q (13, L, r.toList ++ [], mem, 0))) := q_virt (ix := 69) (y2 := 23) (as := [.int y0]) (by decide +kernel) (by decide +kernel) rfl rfl rfl (Nat.le_of_ble_eq_true rfl) (by decide)
theorem r22_13 : pR X d 22 0 Q (13, L, [.int x], mem, 0) = Q (some (.int x)) mem := q_reti (by decide +kernel) rfl
theorem r23_0 : pR X d 23 0 Q (0, [some (.ref a), l1], st, mem, 0) = pR X d 23 0 Q (1, [some (.ref a), l1], .ref a :: st, mem, 0) := q_s (.ok (.aload_n 0, 1)) (by decide +kernel) rfl
theorem r23_1 : pR X d 23 0 Q (1, L, .ref a :: st, mem, 0) = gf mem a 0 1 (fun p => pR X d 23 0 Q (4, L, p :: st, mem, 0)) := q_get (ix := 15) (by decide +kernel) (by decide +kernel)
theorem r23_4 : pR X d 23 0 Q (4, [l0, some (.int x)], st, mem, 0) = pR X d 23 0 Q (5, [l0, some (.int x)], .int x :: st, mem, 0) := q_s (.ok (.iload_n 1, 1)) (by decide +kernel) rfl
theorem r23_5 : pR X d 23 0 Q (5, [some (.ref a), l1], st, mem, 0) = pR X d 23 0 Q (6, [some (.ref a), l1], .ref a :: st, mem, 0) := q_s (.ok (.aload_n 0, 1)) (by decide +kernel) rfl
theorem r23_6 : pR X d 23 0 Q (6, L, .ref a :: st, mem, 0) = gf mem a 0 2 (fun p => pR X d 23 0 Q (9, L, p :: st, mem, 0)) := q_get (ix := 18) (by decide +kernel) (by decide +kernel)
theorem r23_9 : pR X d 23 0 Q (9, L, .int z :: .int x :: st, mem, 0) = pR X d 23 0 Q (10, L, .int (x * z) :: st, mem, 0) := q_s (.ok (.imul, 1)) (by decide +kernel) rfl
theorem r23_10 : pR X d 23 0 Q (10, L, .int z :: .int x :: st, mem, 0) = pR X d 23 0 Q (11, L, .int (x + z) :: st, mem, 0) := q_s (.ok (.iadd, 1)) (by decide +kernel) rfl
theorem r23_11 : pR X d 23 0 Q (11, L, [.int x], mem, 0) = Q (some (.int x)) mem := q_reti (by decide +kernel) rfl
theorem r24_0 : pR X d 24 0 Q (0, [l0, some (.int x), l2], st, mem, 0) = pR X d 24 0 Q (1, [l0, some (.int x), l2], .int x :: st, mem, 0) := q_s (.ok (.iload_n 1, 1)) (by decide +kernel) rfl
theorem r24_1 : pR X d 24 0 Q (1, L, st, mem, 0) = pR X d 24 0 Q (3, L, .int (iI (7)) :: st, mem, 0) := q_bi (n := 7) (by decide +kernel) (by decide +kernel)
theorem r24_3 : pR X d 24 0 Q (3, L, .int z :: .int x :: st, mem, 0) = (¬ z = 0 ∧ pR X d 24 0 Q (4, L, .int (x - x / z * z) :: st, mem, 0)) := q_rem (by decide +kernel)
theorem r24_4 : pR X d 24 0 Q (4, L, st, mem, 0) = pR X d 24 0 Q (6, L, .int (iI (6)) :: st, mem, 0) := q_bi (n := 6) (by decide +kernel) (by decide +kernel)
theorem r24_6 : pR X d 24 0 Q (6, L, .int z :: .int x :: st, mem, 0) = ((¬ x = z → pR X d 24 0 Q (13, L, st, mem, 0)) ∧ (¬ (¬ x = z) → pR X d 24 0 Q (9, L, st, mem, 0))) := r_ic (c := .ne) (off := 7) (by decide +kernel) (by decide)
theorem r24_9 : pR X d 24 0 Q (9, L, st, mem, 0) = pR X d 24 0 Q (10, L, .int (iI (3)) :: st, mem, 0) := q_ic (by decide +kernel)
theorem r24_10 : pR X d 24 0 Q (10, L, st, mem, 0) = pR X d 24 0 Q (14, L, st, mem, 0) := q_s (.ok (.goto (4), 3)) (by decide +kernel) rfl
theorem r24_13 : pR X d 24 0 Q (13, L, st, mem, 0) = pR X d 24 0 Q (14, L, .int (iI (1)) :: st, mem, 0) := q_ic (by decide +kernel)
theorem r24_14 : pR X d 24 0 Q (14, [l0, l1, l2], .int x :: st, mem, 0) = pR X d 24 0 Q (15, [l0, cl1 l1, some (.int x)], st, mem, 0) := q_s (.ok (.istore_n 2, 1)) (by decide +kernel) rfl
theorem r24_15 : pR X d 24 0 Q (15, [some (.ref a), l1, l2], st, mem, 0) = pR X d 24 0 Q (16, [some (.ref a), l1, l2], .ref a :: st, mem, 0) := q_s (.ok (.aload_n 0, 1)) (by decide +kernel) rfl
theorem r24_16 : pR X d 24 0 Q (16, L, .ref a :: st, mem, 0) = gf mem a 0 0 (fun p => pR X d 24 0 Q (19, L, p :: st, mem, 0)) := q_get (ix := 9) (by decide +kernel) (by decide +kernel)
theorem r24_19 : pR X d 24 0 Q (19, L, .int x :: st, mem, 0) = (((x.toInt < 1 ∨ 6 < x.toInt) → pR X d 24 0 Q (72, L, st, mem, 0)) ∧ (x.toInt = 1 → pR X d 24 0 Q (56, L, st, mem, 0)) ∧ (x.toInt = 2 → pR X d 24 0 Q (60, L, st, mem, 0)) ∧ (x.toInt = 3 → pR X d 24 0 Q (62, L, st, mem, 0)) ∧ (x.toInt = 4 → pR X d 24 0 Q (62, L, st, mem, 0)) ∧ (x.toInt = 5 → pR X d 24 0 Q (56, L, st, mem, 0)) ∧ (x.toInt = 6 → pR X d 24 0 Q (58, L, st, mem, 0)) ∧ True) := q_tsl (dflt := 53) (lo := 1) (hi := 6) (offs := #[37, 41, 43, 43, 37, 39]) (ll := 37) (by decide +kernel) (by decide) (by decide) (by decide)
theorem r24_56 : pR X d 24 0 Q (56, L, st, mem, 0) = pR X d 24 0 Q (57, L, .int (iI (0)) :: st, mem, 0) := q_ic (by decide +kernel)
theorem r24_57 : pR X d 24 0 Q (57, L, [.int x], mem, 0) = Q (some (.int x)) mem := q_reti (by decide +kernel) rfl
theorem r24_58 : pR X d 24 0 Q (58, L, st, mem, 0) = pR X d 24 0 Q (59, L, .int (iI (5)) :: st, mem, 0) := q_ic (by decide +kernel)
theorem r24_59 : pR X d 24 0 Q (59, L, [.int x], mem, 0) = Q (some (.int x)) mem := q_reti (by decide +kernel) rfl
theorem r24_60 : pR X d 24 0 Q (60, [l0, l1, some (.int x)], st, mem, 0) = pR X d 24 0 Q (61, [l0, l1, some (.int x)], .int x :: st, mem, 0) := q_s (.ok (.iload_n 2, 1)) (by decide +kernel) rfl
theorem r24_61 : pR X d 24 0 Q (61, L, [.int x], mem, 0) = Q (some (.int x)) mem := q_reti (by decide +kernel) rfl
theorem r24_62 : pR X d 24 0 Q (62, [l0, l1, some (.int x)], st, mem, 0) = pR X d 24 0 Q (63, [l0, l1, some (.int x)], .int x :: st, mem, 0) := q_s (.ok (.iload_n 2, 1)) (by decide +kernel) rfl
theorem r24_63 : pR X d 24 0 Q (63, [some (.ref a), l1, l2], st, mem, 0) = pR X d 24 0 Q (64, [some (.ref a), l1, l2], .ref a :: st, mem, 0) := q_s (.ok (.aload_n 0, 1)) (by decide +kernel) rfl
theorem r24_64 : pR X d 24 0 Q (64, L, .ref a :: st, mem, 0) = gf mem a 0 2 (fun p => pR X d 24 0 Q (67, L, p :: st, mem, 0)) := q_get (ix := 18) (by decide +kernel) (by decide +kernel)
theorem r24_67 : pR X d 24 0 Q (67, L, st, mem, 0) = pR X d 24 0 Q (69, L, .int (iI (10)) :: st, mem, 0) := q_bi (n := 10) (by decide +kernel) (by decide +kernel)
theorem r24_69 : pR X d 24 0 Q (69, L, .int z :: .int x :: st, mem, 0) = (¬ z = 0 ∧ pR X d 24 0 Q (70, L, .int (x / z) :: st, mem, 0)) := q_div (by decide +kernel)
theorem r24_70 : pR X d 24 0 Q (70, L, .int z :: .int x :: st, mem, 0) = pR X d 24 0 Q (71, L, .int (x + z) :: st, mem, 0) := q_s (.ok (.iadd, 1)) (by decide +kernel) rfl
theorem r24_71 : pR X d 24 0 Q (71, L, [.int x], mem, 0) = Q (some (.int x)) mem := q_reti (by decide +kernel) rfl
theorem r24_72 : pR X d 24 0 Q (72, L, st, mem, 0) = pR X d 24 0 Q (73, L, .int (iI (1)) :: st, mem, 0) := q_ic (by decide +kernel)
theorem r24_73 : pR X d 24 0 Q (73, L, [.int x], mem, 0) = Q (some (.int x)) mem := q_reti (by decide +kernel) rfl
theorem r25_0 : pR X d 25 0 Q (0, [some (.ref a)], st, mem, 0) = pR X d 25 0 Q (1, [some (.ref a)], .ref a :: st, mem, 0) := q_s (.ok (.aload_n 0, 1)) (by decide +kernel) rfl
theorem r25_1 : pR X d 25 0 Q (1, L, .ref a :: st, mem, 0) = gf mem a 0 0 (fun p => pR X d 25 0 Q (4, L, p :: st, mem, 0)) := q_get (ix := 9) (by decide +kernel) (by decide +kernel)
theorem r25_4 : pR X d 25 0 Q (4, L, .int x :: st, mem, 0) = (((x.toInt < 1 ∨ 6 < x.toInt) → pR X d 25 0 Q (48, L, st, mem, 0)) ∧ (x.toInt = 1 → pR X d 25 0 Q (44, L, st, mem, 0)) ∧ (x.toInt = 2 → pR X d 25 0 Q (48, L, st, mem, 0)) ∧ (x.toInt = 3 → pR X d 25 0 Q (46, L, st, mem, 0)) ∧ (x.toInt = 4 → pR X d 25 0 Q (44, L, st, mem, 0)) ∧ (x.toInt = 5 → pR X d 25 0 Q (48, L, st, mem, 0)) ∧ (x.toInt = 6 → pR X d 25 0 Q (44, L, st, mem, 0)) ∧ True) := q_tsl (dflt := 44) (lo := 1) (hi := 6) (offs := #[40, 44, 42, 40, 44, 40]) (ll := 40) (by decide +kernel) (by decide) (by decide) (by decide)
theorem r25_44 : pR X d 25 0 Q (44, L, st, mem, 0) = pR X d 25 0 Q (45, L, .int (iI (1)) :: st, mem, 0) := q_ic (by decide +kernel)
theorem r25_45 : pR X d 25 0 Q (45, L, [.int x], mem, 0) = (zb .boolean x ∧ Q (some (.int x)) mem) := q_retz (by decide +kernel) rfl (by decide)
theorem r25_46 : pR X d 25 0 Q (46, L, st, mem, 0) = pR X d 25 0 Q (47, L, .int (iI (0)) :: st, mem, 0) := q_ic (by decide +kernel)
theorem r25_47 : pR X d 25 0 Q (47, L, [.int x], mem, 0) = (zb .boolean x ∧ Q (some (.int x)) mem) := q_retz (by decide +kernel) rfl (by decide)
theorem r25_48 : pR X d 25 0 Q (48, [some (.ref a)], st, mem, 0) = pR X d 25 0 Q (49, [some (.ref a)], .ref a :: st, mem, 0) := q_s (.ok (.aload_n 0, 1)) (by decide +kernel) rfl
theorem r25_49 : pR X d 25 0 Q (49, L, .ref a :: st, mem, 0) = gf mem a 0 1 (fun p => pR X d 25 0 Q (52, L, p :: st, mem, 0)) := q_get (ix := 15) (by decide +kernel) (by decide +kernel)
theorem r25_52 : pR X d 25 0 Q (52, L, st, mem, 0) = pR X d 25 0 Q (54, L, .int (iI (100)) :: st, mem, 0) := q_bi (n := 100) (by decide +kernel) (by decide +kernel)
theorem r25_54 : pR X d 25 0 Q (54, L, .int z :: .int x :: st, mem, 0) = ((x < z → pR X d 25 0 Q (61, L, st, mem, 0)) ∧ (¬ (x < z) → pR X d 25 0 Q (57, L, st, mem, 0))) := r_ic (c := .lt) (off := 7) (by decide +kernel) (by decide)
theorem r25_57 : pR X d 25 0 Q (57, L, st, mem, 0) = pR X d 25 0 Q (58, L, .int (iI (1)) :: st, mem, 0) := q_ic (by decide +kernel)
theorem r25_58 : pR X d 25 0 Q (58, L, st, mem, 0) = pR X d 25 0 Q (62, L, st, mem, 0) := q_s (.ok (.goto (4), 3)) (by decide +kernel) rfl
theorem r25_61 : pR X d 25 0 Q (61, L, st, mem, 0) = pR X d 25 0 Q (62, L, .int (iI (0)) :: st, mem, 0) := q_ic (by decide +kernel)
theorem r25_62 : pR X d 25 0 Q (62, L, [.int x], mem, 0) = (zb .boolean x ∧ Q (some (.int x)) mem) := q_retz (by decide +kernel) rfl (by decide)
theorem r26_0 : pR X d 26 0 Q (0, [l0, some (.int x)], st, mem, 0) = pR X d 26 0 Q (1, [l0, some (.int x)], .int x :: st, mem, 0) := q_s (.ok (.iload_n 1, 1)) (by decide +kernel) rfl
theorem r26_1 : pR X d 26 0 Q (1, L, .int x :: st, mem, 0) = (((x.toInt < 0 ∨ 4 < x.toInt) → pR X d 26 0 Q (61, L, st, mem, 0)) ∧ (x.toInt = 0 → pR X d 26 0 Q (36, L, st, mem, 0)) ∧ (x.toInt = 1 → pR X d 26 0 Q (41, L, st, mem, 0)) ∧ (x.toInt = 2 → pR X d 26 0 Q (46, L, st, mem, 0)) ∧ (x.toInt = 3 → pR X d 26 0 Q (51, L, st, mem, 0)) ∧ (x.toInt = 4 → pR X d 26 0 Q (56, L, st, mem, 0)) ∧ True) := q_tsl (dflt := 60) (lo := 0) (hi := 4) (offs := #[35, 40, 45, 50, 55]) (ll := 35) (by decide +kernel) (by decide) (by decide) (by decide)
theorem r26_36 : pR X d 26 0 Q (36, [some (.ref a), l1], st, mem, 0) = pR X d 26 0 Q (37, [some (.ref a), l1], .ref a :: st, mem, 0) := q_s (.ok (.aload_n 0, 1)) (by decide +kernel) rfl
theorem r26_37 : pR X d 26 0 Q (37, L, .ref a :: st, mem, 0) = gf mem a 0 0 (fun p => pR X d 26 0 Q (40, L, p :: st, mem, 0)) := q_get (ix := 9) (by decide +kernel) (by decide +kernel)
theorem r26_40 : pR X d 26 0 Q (40, L, [.int x], mem, 0) = Q (some (.int x)) mem := q_reti (by decide +kernel) rfl
theorem r26_41 : pR X d 26 0 Q (41, [some (.ref a), l1], st, mem, 0) = pR X d 26 0 Q (42, [some (.ref a), l1], .ref a :: st, mem, 0) := q_s (.ok (.aload_n 0, 1)) (by decide +kernel) rfl
theorem r26_42 : pR X d 26 0 Q (42, L, .ref a :: st, mem, 0) = gf mem a 0 1 (fun p => pR X d 26 0 Q (45, L, p :: st, mem, 0)) := q_get (ix := 15) (by decide +kernel) (by decide +kernel)
theorem r26_45 : pR X d 26 0 Q (45, L, [.int x], mem, 0) = Q (some (.int x)) mem := q_reti (by decide +kernel) rfl
theorem r26_46 : pR X d 26 0 Q (46, [some (.ref a), l1], st, mem, 0) = pR X d 26 0 Q (47, [some (.ref a), l1], .ref a :: st, mem, 0) := q_s (.ok (.aload_n 0, 1)) (by decide +kernel) rfl
theorem r26_47 : pR X d 26 0 Q (47, L, .ref a :: st, mem, 0) = gf mem a 0 2 (fun p => pR X d 26 0 Q (50, L, p :: st, mem, 0)) := q_get (ix := 18) (by decide +kernel) (by decide +kernel)
theorem r26_50 : pR X d 26 0 Q (50, L, [.int x], mem, 0) = Q (some (.int x)) mem := q_reti (by decide +kernel) rfl
theorem r26_51 : pR X d 26 0 Q (51, [some (.ref a), l1], st, mem, 0) = pR X d 26 0 Q (52, [some (.ref a), l1], .ref a :: st, mem, 0) := q_s (.ok (.aload_n 0, 1)) (by decide +kernel) rfl
theorem r26_52 : pR X d 26 0 Q (52, L, .ref a :: st, mem, 0) = gf mem a 0 3 (fun p => pR X d 26 0 Q (55, L, p :: st, mem, 0)) := q_get (ix := 21) (by decide +kernel) (by decide +kernel)
theorem r26_55 : pR X d 26 0 Q (55, L, [.int x], mem, 0) = Q (some (.int x)) mem := q_reti (by decide +kernel) rfl
theorem r26_56 : pR X d 26 0 Q (56, [some (.ref a), l1], st, mem, 0) = pR X d 26 0 Q (57, [some (.ref a), l1], .ref a :: st, mem, 0) := q_s (.ok (.aload_n 0, 1)) (by decide +kernel) rfl
theorem r26_57 : pR X d 26 0 Q (57, L, .ref a :: st, mem, 0) = gf mem a 0 4 (fun p => pR X d 26 0 Q (60, L, p :: st, mem, 0)) := q_get (ix := 24) (by decide +kernel) (by decide +kernel)
theorem r26_60 : pR X d 26 0 Q (60, L, [.int x], mem, 0) = Q (some (.int x)) mem := q_reti (by decide +kernel) rfl
theorem r26_61 : pR X d 26 0 Q (61, [some (.ref a), l1], st, mem, 0) = pR X d 26 0 Q (62, [some (.ref a), l1], .ref a :: st, mem, 0) := q_s (.ok (.aload_n 0, 1)) (by decide +kernel) rfl
theorem r26_62 : pR X d 26 0 Q (62, L, .ref a :: st, mem, 0) = gf mem a 0 5 (fun p => pR X d 26 0 Q (65, L, p :: st, mem, 0)) := q_get (ix := 27) (by decide +kernel) (by decide +kernel)
theorem r26_65 : pR X d 26 0 Q (65, L, [.int x], mem, 0) = Q (some (.int x)) mem := q_reti (by decide +kernel) rfl
theorem r27_0 : pR X d 27 0 Q (0, [some (.ref a), l1, l2, l3, l4, l5], st, mem, 0) = pR X d 27 0 Q (1, [some (.ref a), l1, l2, l3, l4, l5], .ref a :: st, mem, 0) := q_s (.ok (.aload_n 0, 1)) (by decide +kernel) rfl
theorem r27_1 : pR X d 27 0 Q (1, L, .ref a :: st, mem, 0) = gf mem a 4 0 (fun p => pR X d 27 0 Q (4, L, p :: st, mem, 0)) := q_get (ix := 10) (by decide +kernel) (by decide +kernel)
theorem r27_4 : pR X d 27 0 Q (4, [l0, some (.int x), l2, l3, l4, l5], st, mem, 0) = pR X d 27 0 Q (5, [l0, some (.int x), l2, l3, l4, l5], .int x :: st, mem, 0) := q_s (.ok (.iload_n 1, 1)) (by decide +kernel) rfl
theorem r27_5 : pR X d 27 0 Q (5, L, .int y0 :: .ref a :: [], mem, 0) = (prcv mem 3 a ∧ Cw X d 20 [.ref a, .int y0] mem (fun r mem => pR X d 27 0 Q (8, L, r.toList ++ [], mem, 0))) := q_virt (ix := 83) (y2 := 20) (as := [.int y0]) (by decide +kernel) (by decide +kernel) rfl rfl rfl (Nat.le_of_ble_eq_true rfl) (by decide)
theorem r27_8 : pR X d 27 0 Q (8, L, .int x :: st, mem, 0) = ((x = 0 → pR X d 27 0 Q (32, L, st, mem, 0)) ∧ (¬ (x = 0) → pR X d 27 0 Q (11, L, st, mem, 0))) := r_if (c := .eq) (off := 24) (by decide +kernel) (by decide)
theorem r27_11 : pR X d 27 0 Q (11, [l0, l1, some (.int x), l3, l4, l5], st, mem, 0) = pR X d 27 0 Q (12, [l0, l1, some (.int x), l3, l4, l5], .int x :: st, mem, 0) := q_s (.ok (.iload_n 2, 1)) (by decide +kernel) rfl
theorem r27_12 : pR X d 27 0 Q (12, L, st, mem, 0) = pR X d 27 0 Q (13, L, .int (iI (0)) :: st, mem, 0) := q_ic (by decide +kernel)
theorem r27_13 : pR X d 27 0 Q (13, L, st, mem, 0) = pR X d 27 0 Q (14, L, .int (iI (5)) :: st, mem, 0) := q_ic (by decide +kernel)
theorem r27_14 : pR X d 27 0 Q (14, L, .int y2 :: .int y1 :: .int y0 :: [], mem, 0) = Cw X d 7 [.int y0, .int y1, .int y2] mem (fun r mem => pR X d 27 0 Q (17, L, r.toList ++ [], mem, 0)) := q_stat (ix := 52) (kd := 1) (y2 := 7) (as := [.int y2, .int y1, .int y0]) (by decide +kernel) (by decide +kernel) (by decide) rfl rfl rfl (Nat.le_of_ble_eq_true rfl) (by decide)
theorem r27_17 : pR X d 27 0 Q (17, L, .int x :: st, mem, 0) = ((x = 0 → pR X d 27 0 Q (32, L, st, mem, 0)) ∧ (¬ (x = 0) → pR X d 27 0 Q (20, L, st, mem, 0))) := r_if (c := .eq) (off := 15) (by decide +kernel) (by decide)
theorem r27_20 : pR X d 27 0 Q (20, [l0, l1, l2, some (.int x), l4, l5], st, mem, 0) = pR X d 27 0 Q (21, [l0, l1, l2, some (.int x), l4, l5], .int x :: st, mem, 0) := q_s (.ok (.iload_n 3, 1)) (by decide +kernel) rfl
theorem r27_21 : pR X d 27 0 Q (21, L, st, mem, 0) = pR X d 27 0 Q (22, L, .int (iI (0)) :: st, mem, 0) := q_ic (by decide +kernel)
theorem r27_22 : pR X d 27 0 Q (22, [l0, l1, some (.int x), l3, l4, l5], st, mem, 0) = pR X d 27 0 Q (23, [l0, l1, some (.int x), l3, l4, l5], .int x :: st, mem, 0) := q_s (.ok (.iload_n 2, 1)) (by decide +kernel) rfl
theorem r27_23 : pR X d 27 0 Q (23, L, .int y0 :: [.int k0, .int k1], mem, 0) = Cw X d 28 [.int y0] mem (fun r mem => pR X d 27 0 Q (26, L, r.toList ++ [.int k0, .int k1], mem, 0)) := q_stat (ix := 89) (kd := 1) (y2 := 28) (as := [.int y0]) (by decide +kernel) (by decide +kernel) (by decide) rfl rfl rfl (Nat.le_of_ble_eq_true rfl) (by decide)
theorem r27_26 : pR X d 27 0 Q (26, L, .int y2 :: .int y1 :: .int y0 :: [], mem, 0) = Cw X d 7 [.int y0, .int y1, .int y2] mem (fun r mem => pR X d 27 0 Q (29, L, r.toList ++ [], mem, 0)) := q_stat (ix := 52) (kd := 1) (y2 := 7) (as := [.int y2, .int y1, .int y0]) (by decide +kernel) (by decide +kernel) (by decide) rfl rfl rfl (Nat.le_of_ble_eq_true rfl) (by decide)
theorem r27_29 : pR X d 27 0 Q (29, L, .int x :: st, mem, 0) = ((¬ x = 0 → pR X d 27 0 Q (38, L, st, mem, 0)) ∧ (¬ (¬ x = 0) → pR X d 27 0 Q (32, L, st, mem, 0))) := r_if (c := .ne) (off := 9) (by decide +kernel) (by decide)
theorem r27_32 : pR X d 27 0 Q (32, [some (.ref a), l1, l2, l3, l4, l5], st, mem, 0) = pR X d 27 0 Q (33, [some (.ref a), l1, l2, l3, l4, l5], .ref a :: st, mem, 0) := q_s (.ok (.aload_n 0, 1)) (by decide +kernel) rfl
theorem r27_33 : pR X d 27 0 Q (33, L, st, mem, 0) = pR X d 27 0 Q (34, L, .int (iI (0)) :: st, mem, 0) := q_ic (by decide +kernel)
theorem r27_34 : pR X d 27 0 Q (34, L, .int y0 :: .ref a :: [], mem, 0) = (prcv mem 4 a ∧ Cw X d 8 [.ref a, .int y0] mem (fun r mem => pR X d 27 0 Q (37, L, r.toList ++ [], mem, 0))) := q_virt (ix := 59) (y2 := 8) (as := [.int y0]) (by decide +kernel) (by decide +kernel) rfl rfl rfl (Nat.le_of_ble_eq_true rfl) (by decide)
theorem r27_37 : pR X d 27 0 Q (37, L, [.int x], mem, 0) = Q (some (.int x)) mem := q_reti (by decide +kernel) rfl
theorem r27_38 : pR X d 27 0 Q (38, [some (.ref a), l1, l2, l3, l4, l5], st, mem, 0) = pR X d 27 0 Q (39, [some (.ref a), l1, l2, l3, l4, l5], .ref a :: st, mem, 0) := q_s (.ok (.aload_n 0, 1)) (by decide +kernel) rfl
theorem r27_39 : pR X d 27 0 Q (39, L, .ref a :: st, mem, 0) = gf mem a 4 0 (fun p => pR X d 27 0 Q (42, L, p :: st, mem, 0)) := q_get (ix := 10) (by decide +kernel) (by decide +kernel)
theorem r27_42 : pR X d 27 0 Q (42, L, .ref a :: st, mem, 0) = gf mem a 3 5 (fun p => pR X d 27 0 Q (45, L, p :: st, mem, 0)) := q_get (ix := 92) (by decide +kernel) (by decide +kernel)
theorem r27_45 : pR X d 27 0 Q (45, [l0, some (.int x), l2, l3, l4, l5], st, mem, 0) = pR X d 27 0 Q (46, [l0, some (.int x), l2, l3, l4, l5], .int x :: st, mem, 0) := q_s (.ok (.iload_n 1, 1)) (by decide +kernel) rfl
theorem r27_46 : pR X d 27 0 Q (46, L, .int x :: .ref a :: st, mem, 0) = ra mem a x (fun b => pR X d 27 0 Q (47, L, .ref b :: st, mem, 0)) := q_ra (by decide +kernel)
theorem r27_47 : pR X d 27 0 Q (47, [l0, l1, l2, l3, l4, l5], .ref a :: st, mem, 0) = pR X d 27 0 Q (49, [l0, l1, l2, cl1 l3, some (.ref a), l5], st, mem, 0) := q_s (.ok (.astore 4, 2)) (by decide +kernel) rfl
theorem r27_49 : pR X d 27 0 Q (49, [l0, l1, l2, l3, some (.ref a), l5], st, mem, 0) = pR X d 27 0 Q (51, [l0, l1, l2, l3, some (.ref a), l5], .ref a :: st, mem, 0) := q_s (.ok (.aload 4, 2)) (by decide +kernel) rfl
theorem r27_51 : pR X d 27 0 Q (51, [l0, l1, some (.int x), l3, l4, l5], st, mem, 0) = pR X d 27 0 Q (52, [l0, l1, some (.int x), l3, l4, l5], .int x :: st, mem, 0) := q_s (.ok (.iload_n 2, 1)) (by decide +kernel) rfl
theorem r27_52 : pR X d 27 0 Q (52, L, .int y0 :: .ref a :: [], mem, 0) = (prcv mem 0 a ∧ Cw X d 26 [.ref a, .int y0] mem (fun r mem => pR X d 27 0 Q (55, L, r.toList ++ [], mem, 0))) := q_virt (ix := 96) (y2 := 26) (as := [.int y0]) (by decide +kernel) (by decide +kernel) rfl rfl rfl (Nat.le_of_ble_eq_true rfl) (by decide)
theorem r27_55 : pR X d 27 0 Q (55, [l0, l1, l2, l3, l4, l5], .int x :: st, mem, 0) = pR X d 27 0 Q (57, [l0, l1, l2, l3, cl1 l4, some (.int x)], st, mem, 0) := q_s (.ok (.istore 5, 2)) (by decide +kernel) rfl
theorem r27_57 : pR X d 27 0 Q (57, [l0, l1, l2, l3, some (.ref a), l5], st, mem, 0) = pR X d 27 0 Q (59, [l0, l1, l2, l3, some (.ref a), l5], .ref a :: st, mem, 0) := q_s (.ok (.aload 4, 2)) (by decide +kernel) rfl
theorem r27_59 : pR X d 27 0 Q (59, [l0, l1, some (.int x), l3, l4, l5], st, mem, 0) = pR X d 27 0 Q (60, [l0, l1, some (.int x), l3, l4, l5], .int x :: st, mem, 0) := q_s (.ok (.iload_n 2, 1)) (by decide +kernel) rfl
theorem r27_60 : pR X d 27 0 Q (60, [l0, l1, l2, some (.int x), l4, l5], st, mem, 0) = pR X d 27 0 Q (61, [l0, l1, l2, some (.int x), l4, l5], .int x :: st, mem, 0) := q_s (.ok (.iload_n 3, 1)) (by decide +kernel) rfl
theorem r27_61 : pR X d 27 0 Q (61, L, .int y1 :: .int y0 :: .ref a :: [], mem, 0) = (prcv mem 0 a ∧ Cw X d 29 [.ref a, .int y0, .int y1] mem (fun r mem => pR X d 27 0 Q (64, L, r.toList ++ [], mem, 0))) := q_virt (ix := 101) (y2 := 29) (as := [.int y1, .int y0]) (by decide +kernel) (by decide +kernel) rfl rfl rfl (Nat.le_of_ble_eq_true rfl) (by decide)
theorem r27_64 : pR X d 27 0 Q (64, [l0, l1, l2, l3, l4, some (.int x)], st, mem, 0) = pR X d 27 0 Q (66, [l0, l1, l2, l3, l4, some (.int x)], .int x :: st, mem, 0) := q_s (.ok (.iload 5, 2)) (by decide +kernel) rfl
theorem r27_66 : pR X d 27 0 Q (66, L, [.int x], mem, 0) = Q (some (.int x)) mem := q_reti (by decide +kernel) rfl
theorem r28_0 : pR X d 28 0 Q (0, [some (.int x)], st, mem, 0) = pR X d 28 0 Q (1, [some (.int x)], .int x :: st, mem, 0) := q_s (.ok (.iload_n 0, 1)) (by decide +kernel) rfl
theorem r28_1 : pR X d 28 0 Q (1, L, .int x :: st, mem, 0) = (((x.toInt < 0 ∨ 4 < x.toInt) → pR X d 28 0 Q (54, L, st, mem, 0)) ∧ (x.toInt = 0 → pR X d 28 0 Q (36, L, st, mem, 0)) ∧ (x.toInt = 1 → pR X d 28 0 Q (39, L, st, mem, 0)) ∧ (x.toInt = 2 → pR X d 28 0 Q (43, L, st, mem, 0)) ∧ (x.toInt = 3 → pR X d 28 0 Q (47, L, st, mem, 0)) ∧ (x.toInt = 4 → pR X d 28 0 Q (51, L, st, mem, 0)) ∧ True) := q_tsl (dflt := 53) (lo := 0) (hi := 4) (offs := #[35, 38, 42, 46, 50]) (ll := 35) (by decide +kernel) (by decide) (by decide) (by decide)
theorem r28_36 : pR X d 28 0 Q (36, L, st, mem, 0) = pR X d 28 0 Q (38, L, .int (iI (6)) :: st, mem, 0) := q_bi (n := 6) (by decide +kernel) (by decide +kernel)
theorem r28_38 : pR X d 28 0 Q (38, L, [.int x], mem, 0) = Q (some (.int x)) mem := q_reti (by decide +kernel) rfl
theorem r28_39 : pR X d 28 0 Q (39, L, st, mem, 0) = pR X d 28 0 Q (42, L, .int (iI (999)) :: st, mem, 0) := q_si (n := 999) (by decide +kernel) (by decide +kernel)
theorem r28_42 : pR X d 28 0 Q (42, L, [.int x], mem, 0) = Q (some (.int x)) mem := q_reti (by decide +kernel) rfl
theorem r28_43 : pR X d 28 0 Q (43, L, st, mem, 0) = pR X d 28 0 Q (46, L, .int (iI (999)) :: st, mem, 0) := q_si (n := 999) (by decide +kernel) (by decide +kernel)
theorem r28_46 : pR X d 28 0 Q (46, L, [.int x], mem, 0) = Q (some (.int x)) mem := q_reti (by decide +kernel) rfl
theorem r28_47 : pR X d 28 0 Q (47, L, st, mem, 0) = pR X d 28 0 Q (50, L, .int (iI (9999)) :: st, mem, 0) := q_si (n := 9999) (by decide +kernel) (by decide +kernel)
theorem r28_50 : pR X d 28 0 Q (50, L, [.int x], mem, 0) = Q (some (.int x)) mem := q_reti (by decide +kernel) rfl
theorem r28_51 : pR X d 28 0 Q (51, L, st, mem, 0) = pR X d 28 0 Q (53, L, .int (iI (99)) :: st, mem, 0) := q_bi (n := 99) (by decide +kernel) (by decide +kernel)
theorem r28_53 : pR X d 28 0 Q (53, L, [.int x], mem, 0) = Q (some (.int x)) mem := q_reti (by decide +kernel) rfl
theorem r28_54 : pR X d 28 0 Q (54, L, st, mem, 0) = pR X d 28 0 Q (57, L, .int (iI (9999)) :: st, mem, 0) := q_si (n := 9999) (by decide +kernel) (by decide +kernel)
theorem r28_57 : pR X d 28 0 Q (57, L, [.int x], mem, 0) = Q (some (.int x)) mem := q_reti (by decide +kernel) rfl
theorem r29_0 : pR X d 29 0 Q (0, [l0, some (.int x), l2], st, mem, 0) = pR X d 29 0 Q (1, [l0, some (.int x), l2], .int x :: st, mem, 0) := q_s (.ok (.iload_n 1, 1)) (by decide +kernel) rfl
theorem r29_1 : pR X d 29 0 Q (1, L, .int x :: st, mem, 0) = (((x.toInt < 0 ∨ 4 < x.toInt) → pR X d 29 0 Q (76, L, st, mem, 0)) ∧ (x.toInt = 0 → pR X d 29 0 Q (36, L, st, mem, 0)) ∧ (x.toInt = 1 → pR X d 29 0 Q (44, L, st, mem, 0)) ∧ (x.toInt = 2 → pR X d 29 0 Q (52, L, st, mem, 0)) ∧ (x.toInt = 3 → pR X d 29 0 Q (60, L, st, mem, 0)) ∧ (x.toInt = 4 → pR X d 29 0 Q (68, L, st, mem, 0)) ∧ True) := q_tsl (dflt := 75) (lo := 0) (hi := 4) (offs := #[35, 43, 51, 59, 67]) (ll := 35) (by decide +kernel) (by decide) (by decide) (by decide)
theorem r29_36 : pR X d 29 0 Q (36, [some (.ref a), l1, l2], st, mem, 0) = pR X d 29 0 Q (37, [some (.ref a), l1, l2], .ref a :: st, mem, 0) := q_s (.ok (.aload_n 0, 1)) (by decide +kernel) rfl
theorem r29_37 : pR X d 29 0 Q (37, [l0, l1, some (.int x)], st, mem, 0) = pR X d 29 0 Q (38, [l0, l1, some (.int x)], .int x :: st, mem, 0) := q_s (.ok (.iload_n 2, 1)) (by decide +kernel) rfl
theorem r29_38 : pR X d 29 0 Q (38, L, p :: .ref a :: st, mem, 0) = pf 29 mem a 0 0 p (fun mem => pR X d 29 0 Q (41, L, st, mem, 0)) := q_put (ix := 9) (by decide +kernel) (by decide +kernel) (by decide)
theorem r29_41 : pR X d 29 0 Q (41, L, st, mem, 0) = pR X d 29 0 Q (81, L, st, mem, 0) := q_s (.ok (.goto (40), 3)) (by decide +kernel) rfl
theorem r29_44 : pR X d 29 0 Q (44, [some (.ref a), l1, l2], st, mem, 0) = pR X d 29 0 Q (45, [some (.ref a), l1, l2], .ref a :: st, mem, 0) := q_s (.ok (.aload_n 0, 1)) (by decide +kernel) rfl
theorem r29_45 : pR X d 29 0 Q (45, [l0, l1, some (.int x)], st, mem, 0) = pR X d 29 0 Q (46, [l0, l1, some (.int x)], .int x :: st, mem, 0) := q_s (.ok (.iload_n 2, 1)) (by decide +kernel) rfl
theorem r29_46 : pR X d 29 0 Q (46, L, p :: .ref a :: st, mem, 0) = pf 29 mem a 0 1 p (fun mem => pR X d 29 0 Q (49, L, st, mem, 0)) := q_put (ix := 15) (by decide +kernel) (by decide +kernel) (by decide)
theorem r29_49 : pR X d 29 0 Q (49, L, st, mem, 0) = pR X d 29 0 Q (81, L, st, mem, 0) := q_s (.ok (.goto (32), 3)) (by decide +kernel) rfl
theorem r29_52 : pR X d 29 0 Q (52, [some (.ref a), l1, l2], st, mem, 0) = pR X d 29 0 Q (53, [some (.ref a), l1, l2], .ref a :: st, mem, 0) := q_s (.ok (.aload_n 0, 1)) (by decide +kernel) rfl
theorem r29_53 : pR X d 29 0 Q (53, [l0, l1, some (.int x)], st, mem, 0) = pR X d 29 0 Q (54, [l0, l1, some (.int x)], .int x :: st, mem, 0) := q_s (.ok (.iload_n 2, 1)) (by decide +kernel) rfl
theorem r29_54 : pR X d 29 0 Q (54, L, p :: .ref a :: st, mem, 0) = pf 29 mem a 0 2 p (fun mem => pR X d 29 0 Q (57, L, st, mem, 0)) := q_put (ix := 18) (by decide +kernel) (by decide +kernel) (by decide)
theorem r29_57 : pR X d 29 0 Q (57, L, st, mem, 0) = pR X d 29 0 Q (81, L, st, mem, 0) := q_s (.ok (.goto (24), 3)) (by decide +kernel) rfl
theorem r29_60 : pR X d 29 0 Q (60, [some (.ref a), l1, l2], st, mem, 0) = pR X d 29 0 Q (61, [some (.ref a), l1, l2], .ref a :: st, mem, 0) := q_s (.ok (.aload_n 0, 1)) (by decide +kernel) rfl
theorem r29_61 : pR X d 29 0 Q (61, [l0, l1, some (.int x)], st, mem, 0) = pR X d 29 0 Q (62, [l0, l1, some (.int x)], .int x :: st, mem, 0) := q_s (.ok (.iload_n 2, 1)) (by decide +kernel) rfl
theorem r29_62 : pR X d 29 0 Q (62, L, p :: .ref a :: st, mem, 0) = pf 29 mem a 0 3 p (fun mem => pR X d 29 0 Q (65, L, st, mem, 0)) := q_put (ix := 21) (by decide +kernel) (by decide +kernel) (by decide)
theorem r29_65 : pR X d 29 0 Q (65, L, st, mem, 0) = pR X d 29 0 Q (81, L, st, mem, 0) := q_s (.ok (.goto (16), 3)) (by decide +kernel) rfl
theorem r29_68 : pR X d 29 0 Q (68, [some (.ref a), l1, l2], st, mem, 0) = pR X d 29 0 Q (69, [some (.ref a), l1, l2], .ref a :: st, mem, 0) := q_s (.ok (.aload_n 0, 1)) (by decide +kernel) rfl
theorem r29_69 : pR X d 29 0 Q (69, [l0, l1, some (.int x)], st, mem, 0) = pR X d 29 0 Q (70, [l0, l1, some (.int x)], .int x :: st, mem, 0) := q_s (.ok (.iload_n 2, 1)) (by decide +kernel) rfl
theorem r29_70 : pR X d 29 0 Q (70, L, p :: .ref a :: st, mem, 0) = pf 29 mem a 0 4 p (fun mem => pR X d 29 0 Q (73, L, st, mem, 0)) := q_put (ix := 24) (by decide +kernel) (by decide +kernel) (by decide)
theorem r29_73 : pR X d 29 0 Q (73, L, st, mem, 0) = pR X d 29 0 Q (81, L, st, mem, 0) := q_s (.ok (.goto (8), 3)) (by decide +kernel) rfl
theorem r29_76 : pR X d 29 0 Q (76, [some (.ref a), l1, l2], st, mem, 0) = pR X d 29 0 Q (77, [some (.ref a), l1, l2], .ref a :: st, mem, 0) := q_s (.ok (.aload_n 0, 1)) (by decide +kernel) rfl
theorem r29_77 : pR X d 29 0 Q (77, [l0, l1, some (.int x)], st, mem, 0) = pR X d 29 0 Q (78, [l0, l1, some (.int x)], .int x :: st, mem, 0) := q_s (.ok (.iload_n 2, 1)) (by decide +kernel) rfl
theorem r29_78 : pR X d 29 0 Q (78, L, p :: .ref a :: st, mem, 0) = pf 29 mem a 0 5 p (fun mem => pR X d 29 0 Q (81, L, st, mem, 0)) := q_put (ix := 27) (by decide +kernel) (by decide +kernel) (by decide)
theorem r29_81 : pR X d 29 0 Q (81, L, [], mem, 0) = Q none mem := q_retv (by decide +kernel) rfl
theorem r30_0 : pR X d 30 0 Q (0, [some (.ref a), l1, l2, l3, l4], st, mem, 0) = pR X d 30 0 Q (1, [some (.ref a), l1, l2, l3, l4], .ref a :: st, mem, 0) := q_s (.ok (.aload_n 0, 1)) (by decide +kernel) rfl
theorem r30_1 : pR X d 30 0 Q (1, L, .ref a :: st, mem, 0) = gf mem a 4 0 (fun p => pR X d 30 0 Q (4, L, p :: st, mem, 0)) := q_get (ix := 10) (by decide +kernel) (by decide +kernel)
theorem r30_4 : pR X d 30 0 Q (4, [l0, some (.int x), l2, l3, l4], st, mem, 0) = pR X d 30 0 Q (5, [l0, some (.int x), l2, l3, l4], .int x :: st, mem, 0) := q_s (.ok (.iload_n 1, 1)) (by decide +kernel) rfl
theorem r30_5 : pR X d 30 0 Q (5, L, .int y0 :: .ref a :: [], mem, 0) = (prcv mem 3 a ∧ Cw X d 20 [.ref a, .int y0] mem (fun r mem => pR X d 30 0 Q (8, L, r.toList ++ [], mem, 0))) := q_virt (ix := 83) (y2 := 20) (as := [.int y0]) (by decide +kernel) (by decide +kernel) rfl rfl rfl (Nat.le_of_ble_eq_true rfl) (by decide)
theorem r30_8 : pR X d 30 0 Q (8, L, .int x :: st, mem, 0) = ((x = 0 → pR X d 30 0 Q (27, L, st, mem, 0)) ∧ (¬ (x = 0) → pR X d 30 0 Q (11, L, st, mem, 0))) := r_if (c := .eq) (off := 19) (by decide +kernel) (by decide)
theorem r30_11 : pR X d 30 0 Q (11, [l0, l1, some (.int x), l3, l4], st, mem, 0) = pR X d 30 0 Q (12, [l0, l1, some (.int x), l3, l4], .int x :: st, mem, 0) := q_s (.ok (.iload_n 2, 1)) (by decide +kernel) rfl
theorem r30_12 : pR X d 30 0 Q (12, L, st, mem, 0) = pR X d 30 0 Q (13, L, .int (iI (0)) :: st, mem, 0) := q_ic (by decide +kernel)
theorem r30_13 : pR X d 30 0 Q (13, L, st, mem, 0) = pR X d 30 0 Q (14, L, .int (iI (1)) :: st, mem, 0) := q_ic (by decide +kernel)
theorem r30_14 : pR X d 30 0 Q (14, L, .int y2 :: .int y1 :: .int y0 :: [], mem, 0) = Cw X d 7 [.int y0, .int y1, .int y2] mem (fun r mem => pR X d 30 0 Q (17, L, r.toList ++ [], mem, 0)) := q_stat (ix := 52) (kd := 1) (y2 := 7) (as := [.int y2, .int y1, .int y0]) (by decide +kernel) (by decide +kernel) (by decide) rfl rfl rfl (Nat.le_of_ble_eq_true rfl) (by decide)
theorem r30_17 : pR X d 30 0 Q (17, L, .int x :: st, mem, 0) = ((x = 0 → pR X d 30 0 Q (27, L, st, mem, 0)) ∧ (¬ (x = 0) → pR X d 30 0 Q (20, L, st, mem, 0))) := r_if (c := .eq) (off := 10) (by decide +kernel) (by decide)
theorem r30_20 : pR X d 30 0 Q (20, [l0, l1, l2, some (.int x), l4], st, mem, 0) = pR X d 30 0 Q (21, [l0, l1, l2, some (.int x), l4], .int x :: st, mem, 0) := q_s (.ok (.iload_n 3, 1)) (by decide +kernel) rfl
theorem r30_21 : pR X d 30 0 Q (21, L, .int y0 :: [], mem, 0) = Cw X d 31 [.int y0] mem (fun r mem => pR X d 30 0 Q (24, L, r.toList ++ [], mem, 0)) := q_stat (ix := 105) (kd := 1) (y2 := 31) (as := [.int y0]) (by decide +kernel) (by decide +kernel) (by decide) rfl rfl rfl (Nat.le_of_ble_eq_true rfl) (by decide)
theorem r30_24 : pR X d 30 0 Q (24, L, .int x :: st, mem, 0) = ((¬ x = 0 → pR X d 30 0 Q (33, L, st, mem, 0)) ∧ (¬ (¬ x = 0) → pR X d 30 0 Q (27, L, st, mem, 0))) := r_if (c := .ne) (off := 9) (by decide +kernel) (by decide)
theorem r30_27 : pR X d 30 0 Q (27, [some (.ref a), l1, l2, l3, l4], st, mem, 0) = pR X d 30 0 Q (28, [some (.ref a), l1, l2, l3, l4], .ref a :: st, mem, 0) := q_s (.ok (.aload_n 0, 1)) (by decide +kernel) rfl
theorem r30_28 : pR X d 30 0 Q (28, L, st, mem, 0) = pR X d 30 0 Q (29, L, .int (iI (0)) :: st, mem, 0) := q_ic (by decide +kernel)
theorem r30_29 : pR X d 30 0 Q (29, L, .int y0 :: .ref a :: [], mem, 0) = (prcv mem 4 a ∧ Cw X d 8 [.ref a, .int y0] mem (fun r mem => pR X d 30 0 Q (32, L, r.toList ++ [], mem, 0))) := q_virt (ix := 59) (y2 := 8) (as := [.int y0]) (by decide +kernel) (by decide +kernel) rfl rfl rfl (Nat.le_of_ble_eq_true rfl) (by decide)
theorem r30_32 : pR X d 30 0 Q (32, L, [.int x], mem, 0) = Q (some (.int x)) mem := q_reti (by decide +kernel) rfl
theorem r30_33 : pR X d 30 0 Q (33, [some (.ref a), l1, l2, l3, l4], st, mem, 0) = pR X d 30 0 Q (34, [some (.ref a), l1, l2, l3, l4], .ref a :: st, mem, 0) := q_s (.ok (.aload_n 0, 1)) (by decide +kernel) rfl
theorem r30_34 : pR X d 30 0 Q (34, L, .ref a :: st, mem, 0) = gf mem a 4 0 (fun p => pR X d 30 0 Q (37, L, p :: st, mem, 0)) := q_get (ix := 10) (by decide +kernel) (by decide +kernel)
theorem r30_37 : pR X d 30 0 Q (37, L, .ref a :: st, mem, 0) = gf mem a 3 5 (fun p => pR X d 30 0 Q (40, L, p :: st, mem, 0)) := q_get (ix := 92) (by decide +kernel) (by decide +kernel)
theorem r30_40 : pR X d 30 0 Q (40, [l0, some (.int x), l2, l3, l4], st, mem, 0) = pR X d 30 0 Q (41, [l0, some (.int x), l2, l3, l4], .int x :: st, mem, 0) := q_s (.ok (.iload_n 1, 1)) (by decide +kernel) rfl
theorem r30_41 : pR X d 30 0 Q (41, L, .int x :: .ref a :: st, mem, 0) = ra mem a x (fun b => pR X d 30 0 Q (42, L, .ref b :: st, mem, 0)) := q_ra (by decide +kernel)
theorem r30_42 : pR X d 30 0 Q (42, [l0, l1, l2, l3, l4], .ref a :: st, mem, 0) = pR X d 30 0 Q (44, [l0, l1, l2, cl1 l3, some (.ref a)], st, mem, 0) := q_s (.ok (.astore 4, 2)) (by decide +kernel) rfl
theorem r30_44 : pR X d 30 0 Q (44, [l0, l1, some (.int x), l3, l4], st, mem, 0) = pR X d 30 0 Q (45, [l0, l1, some (.int x), l3, l4], .int x :: st, mem, 0) := q_s (.ok (.iload_n 2, 1)) (by decide +kernel) rfl
theorem r30_45 : pR X d 30 0 Q (45, L, .int x :: st, mem, 0) = ((¬ x = 0 → pR X d 30 0 Q (64, L, st, mem, 0)) ∧ (¬ (¬ x = 0) → pR X d 30 0 Q (48, L, st, mem, 0))) := r_if (c := .ne) (off := 19) (by decide +kernel) (by decide)
theorem r30_48 : pR X d 30 0 Q (48, [l0, l1, l2, l3, some (.ref a)], st, mem, 0) = pR X d 30 0 Q (50, [l0, l1, l2, l3, some (.ref a)], .ref a :: st, mem, 0) := q_s (.ok (.aload 4, 2)) (by decide +kernel) rfl
theorem r30_50 : pR X d 30 0 Q (50, [l0, l1, l2, some (.int x), l4], st, mem, 0) = pR X d 30 0 Q (51, [l0, l1, l2, some (.int x), l4], .int x :: st, mem, 0) := q_s (.ok (.iload_n 3, 1)) (by decide +kernel) rfl
theorem r30_51 : pR X d 30 0 Q (51, [some (.ref a), l1, l2, l3, l4], st, mem, 0) = pR X d 30 0 Q (52, [some (.ref a), l1, l2, l3, l4], .ref a :: st, mem, 0) := q_s (.ok (.aload_n 0, 1)) (by decide +kernel) rfl
theorem r30_52 : pR X d 30 0 Q (52, L, .ref a :: st, mem, 0) = gf mem a 4 0 (fun p => pR X d 30 0 Q (55, L, p :: st, mem, 0)) := q_get (ix := 10) (by decide +kernel) (by decide +kernel)
theorem r30_55 : pR X d 30 0 Q (55, L, .ref a :: st, mem, 0) = gf mem a 3 0 (fun p => pR X d 30 0 Q (58, L, p :: st, mem, 0)) := q_get (ix := 48) (by decide +kernel) (by decide +kernel)
theorem r30_58 : pR X d 30 0 Q (58, L, .int y1 :: .int y0 :: .ref a :: [], mem, 0) = (prcv mem 0 a ∧ Cw X d 32 [.ref a, .int y0, .int y1] mem (fun r mem => pR X d 30 0 Q (61, L, r.toList ++ [], mem, 0))) := q_virt (ix := 108) (y2 := 32) (as := [.int y1, .int y0]) (by decide +kernel) (by decide +kernel) rfl rfl rfl (Nat.le_of_ble_eq_true rfl) (by decide)
theorem r30_61 : pR X d 30 0 Q (61, L, st, mem, 0) = pR X d 30 0 Q (70, L, st, mem, 0) := q_s (.ok (.goto (9), 3)) (by decide +kernel) rfl
theorem r30_64 : pR X d 30 0 Q (64, [l0, l1, l2, l3, some (.ref a)], st, mem, 0) = pR X d 30 0 Q (66, [l0, l1, l2, l3, some (.ref a)], .ref a :: st, mem, 0) := q_s (.ok (.aload 4, 2)) (by decide +kernel) rfl
theorem r30_66 : pR X d 30 0 Q (66, [l0, l1, l2, some (.int x), l4], st, mem, 0) = pR X d 30 0 Q (67, [l0, l1, l2, some (.int x), l4], .int x :: st, mem, 0) := q_s (.ok (.iload_n 3, 1)) (by decide +kernel) rfl
theorem r30_67 : pR X d 30 0 Q (67, L, .int y0 :: .ref a :: [], mem, 0) = (prcv mem 0 a ∧ Cw X d 33 [.ref a, .int y0] mem (fun r mem => pR X d 30 0 Q (70, L, r.toList ++ [], mem, 0))) := q_virt (ix := 111) (y2 := 33) (as := [.int y0]) (by decide +kernel) (by decide +kernel) rfl rfl rfl (Nat.le_of_ble_eq_true rfl) (by decide)
theorem r30_70 : pR X d 30 0 Q (70, L, [.int x], mem, 0) = Q (some (.int x)) mem := q_reti (by decide +kernel) rfl
theorem r31_0 : pR X d 31 0 Q (0, [some (.int x)], st, mem, 0) = pR X d 31 0 Q (1, [some (.int x)], .int x :: st, mem, 0) := q_s (.ok (.iload_n 0, 1)) (by decide +kernel) rfl
theorem r31_1 : pR X d 31 0 Q (1, L, st, mem, 0) = pR X d 31 0 Q (2, L, .int (iI (0)) :: st, mem, 0) := q_ic (by decide +kernel)
theorem r31_2 : pR X d 31 0 Q (2, L, st, mem, 0) = pR X d 31 0 Q (4, L, .int (iI (99)) :: st, mem, 0) := q_bi (n := 99) (by decide +kernel) (by decide +kernel)
theorem r31_4 : pR X d 31 0 Q (4, L, .int y2 :: .int y1 :: .int y0 :: [], mem, 0) = Cw X d 7 [.int y0, .int y1, .int y2] mem (fun r mem => pR X d 31 0 Q (7, L, r.toList ++ [], mem, 0)) := q_stat (ix := 52) (kd := 1) (y2 := 7) (as := [.int y2, .int y1, .int y0]) (by decide +kernel) (by decide +kernel) (by decide) rfl rfl rfl (Nat.le_of_ble_eq_true rfl) (by decide)
theorem r31_7 : pR X d 31 0 Q (7, L, [.int x], mem, 0) = (zb .boolean x ∧ Q (some (.int x)) mem) := q_retz (by decide +kernel) rfl (by decide)
theorem r32_0 : pR X d 32 0 Q (0, [l0, some (.int x), l2, l3, l4, l5], st, mem, 0) = pR X d 32 0 Q (1, [l0, some (.int x), l2, l3, l4, l5], .int x :: st, mem, 0) := q_s (.ok (.iload_n 1, 1)) (by decide +kernel) rfl
theorem r32_1 : pR X d 32 0 Q (1, [l0, some (.int x), l2, l3, l4, l5], st, mem, 0) = pR X d 32 0 Q (2, [l0, some (.int x), l2, l3, l4, l5], .int x :: st, mem, 0) := q_s (.ok (.iload_n 1, 1)) (by decide +kernel) rfl
theorem r32_2 : pR X d 32 0 Q (2, L, st, mem, 0) = pR X d 32 0 Q (4, L, .int (iI (10)) :: st, mem, 0) := q_bi (n := 10) (by decide +kernel) (by decide +kernel)
theorem r32_4 : pR X d 32 0 Q (4, L, .int z :: .int x :: st, mem, 0) = (¬ z = 0 ∧ pR X d 32 0 Q (5, L, .int (x / z) :: st, mem, 0)) := q_div (by decide +kernel)
theorem r32_5 : pR X d 32 0 Q (5, L, .int z :: .int x :: st, mem, 0) = pR X d 32 0 Q (6, L, .int (x - z) :: st, mem, 0) := q_s (.ok (.isub, 1)) (by decide +kernel) rfl
theorem r32_6 : pR X d 32 0 Q (6, [l0, l1, l2, l3, l4, l5], .int x :: st, mem, 0) = pR X d 32 0 Q (7, [l0, l1, cl1 l2, some (.int x), l4, l5], st, mem, 0) := q_s (.ok (.istore_n 3, 1)) (by decide +kernel) rfl
theorem r32_7 : pR X d 32 0 Q (7, [some (.ref a), l1, l2, l3, l4, l5], st, mem, 0) = pR X d 32 0 Q (8, [some (.ref a), l1, l2, l3, l4, l5], .ref a :: st, mem, 0) := q_s (.ok (.aload_n 0, 1)) (by decide +kernel) rfl
theorem r32_8 : pR X d 32 0 Q (8, L, .ref a :: st, mem, 0) = gf mem a 0 4 (fun p => pR X d 32 0 Q (11, L, p :: st, mem, 0)) := q_get (ix := 24) (by decide +kernel) (by decide +kernel)
theorem r32_11 : pR X d 32 0 Q (11, L, st, mem, 0) = pR X d 32 0 Q (13, L, .int (iI (50)) :: st, mem, 0) := q_bi (n := 50) (by decide +kernel) (by decide +kernel)
theorem r32_13 : pR X d 32 0 Q (13, L, .int z :: .int x :: st, mem, 0) = ((x < z → pR X d 32 0 Q (22, L, st, mem, 0)) ∧ (¬ (x < z) → pR X d 32 0 Q (16, L, st, mem, 0))) := r_ic (c := .lt) (off := 9) (by decide +kernel) (by decide)
theorem r32_16 : pR X d 32 0 Q (16, [l0, some (.int x), l2, l3, l4, l5], st, mem, 0) = pR X d 32 0 Q (17, [l0, some (.int x), l2, l3, l4, l5], .int x :: st, mem, 0) := q_s (.ok (.iload_n 1, 1)) (by decide +kernel) rfl
theorem r32_17 : pR X d 32 0 Q (17, L, st, mem, 0) = pR X d 32 0 Q (18, L, .int (iI (1)) :: st, mem, 0) := q_ic (by decide +kernel)
theorem r32_18 : pR X d 32 0 Q (18, L, .int z :: .int x :: st, mem, 0) = pR X d 32 0 Q (19, L, .int (x + z) :: st, mem, 0) := q_s (.ok (.iadd, 1)) (by decide +kernel) rfl
theorem r32_19 : pR X d 32 0 Q (19, L, st, mem, 0) = pR X d 32 0 Q (23, L, st, mem, 0) := q_s (.ok (.goto (4), 3)) (by decide +kernel) rfl
theorem r32_22 : pR X d 32 0 Q (22, [l0, some (.int x), l2, l3, l4, l5], st, mem, 0) = pR X d 32 0 Q (23, [l0, some (.int x), l2, l3, l4, l5], .int x :: st, mem, 0) := q_s (.ok (.iload_n 1, 1)) (by decide +kernel) rfl
theorem r32_23 : pR X d 32 0 Q (23, [l0, l1, l2, l3, l4, l5], .int x :: st, mem, 0) = pR X d 32 0 Q (25, [l0, l1, l2, cl1 l3, some (.int x), l5], st, mem, 0) := q_s (.ok (.istore 4, 2)) (by decide +kernel) rfl
theorem r32_25 : pR X d 32 0 Q (25, [l0, l1, l2, l3, some (.int x), l5], st, mem, 0) = pR X d 32 0 Q (27, [l0, l1, l2, l3, some (.int x), l5], .int x :: st, mem, 0) := q_s (.ok (.iload 4, 2)) (by decide +kernel) rfl
theorem r32_27 : pR X d 32 0 Q (27, L, st, mem, 0) = pR X d 32 0 Q (28, L, .int (iI (2)) :: st, mem, 0) := q_ic (by decide +kernel)
theorem r32_28 : pR X d 32 0 Q (28, L, .int z :: .int x :: st, mem, 0) = pR X d 32 0 Q (29, L, .int (x - z) :: st, mem, 0) := q_s (.ok (.isub, 1)) (by decide +kernel) rfl
theorem r32_29 : pR X d 32 0 Q (29, L, st, mem, 0) = pR X d 32 0 Q (30, L, .int (iI (0)) :: st, mem, 0) := q_ic (by decide +kernel)
theorem r32_30 (h1 : 1 ≤ d) : pR X d 32 0 Q (30, L, .int z :: .int x :: [], mem, 0) = pR X d 32 0 Q (33, L, .int (if x < z then z else x) :: [], mem, 0) := q_mx (ix := 30) (yy := 0) (by decide +kernel) (by decide +kernel) (Nat.le_of_ble_eq_true rfl) h1
theorem r32_33 : pR X d 32 0 Q (33, [l0, l1, l2, l3, l4, l5], .int x :: st, mem, 0) = pR X d 32 0 Q (35, [l0, l1, l2, l3, cl1 l4, some (.int x)], st, mem, 0) := q_s (.ok (.istore 5, 2)) (by decide +kernel) rfl
theorem r32_35 : pR X d 32 0 Q (35, [some (.ref a), l1, l2, l3, l4, l5], st, mem, 0) = pR X d 32 0 Q (36, [some (.ref a), l1, l2, l3, l4, l5], .ref a :: st, mem, 0) := q_s (.ok (.aload_n 0, 1)) (by decide +kernel) rfl
theorem r32_36 : pR X d 32 0 Q (36, L, .ref a :: st, mem, 0) = gf mem a 0 0 (fun p => pR X d 32 0 Q (39, L, p :: st, mem, 0)) := q_get (ix := 9) (by decide +kernel) (by decide +kernel)
theorem r32_39 : pR X d 32 0 Q (39, L, .int x :: st, mem, 0) = (((x.toInt < 1 ∨ 6 < x.toInt) → pR X d 32 0 Q (99, L, st, mem, 0)) ∧ (x.toInt = 1 → pR X d 32 0 Q (76, L, st, mem, 0)) ∧ (x.toInt = 2 → pR X d 32 0 Q (82, L, st, mem, 0)) ∧ (x.toInt = 3 → pR X d 32 0 Q (85, L, st, mem, 0)) ∧ (x.toInt = 4 → pR X d 32 0 Q (88, L, st, mem, 0)) ∧ (x.toInt = 5 → pR X d 32 0 Q (95, L, st, mem, 0)) ∧ (x.toInt = 6 → pR X d 32 0 Q (78, L, st, mem, 0)) ∧ True) := q_tsl (dflt := 60) (lo := 1) (hi := 6) (offs := #[37, 43, 46, 49, 56, 39]) (ll := 37) (by decide +kernel) (by decide) (by decide) (by decide)
theorem r32_76 : pR X d 32 0 Q (76, [l0, l1, l2, some (.int x), l4, l5], st, mem, 0) = pR X d 32 0 Q (77, [l0, l1, l2, some (.int x), l4, l5], .int x :: st, mem, 0) := q_s (.ok (.iload_n 3, 1)) (by decide +kernel) rfl
theorem r32_77 : pR X d 32 0 Q (77, L, [.int x], mem, 0) = Q (some (.int x)) mem := q_reti (by decide +kernel) rfl
theorem r32_78 : pR X d 32 0 Q (78, [l0, l1, l2, some (.int x), l4, l5], st, mem, 0) = pR X d 32 0 Q (79, [l0, l1, l2, some (.int x), l4, l5], .int x :: st, mem, 0) := q_s (.ok (.iload_n 3, 1)) (by decide +kernel) rfl
theorem r32_79 : pR X d 32 0 Q (79, L, st, mem, 0) = pR X d 32 0 Q (80, L, .int (iI (2)) :: st, mem, 0) := q_ic (by decide +kernel)
theorem r32_80 : pR X d 32 0 Q (80, L, .int z :: .int x :: st, mem, 0) = (¬ z = 0 ∧ pR X d 32 0 Q (81, L, .int (x / z) :: st, mem, 0)) := q_div (by decide +kernel)
theorem r32_81 : pR X d 32 0 Q (81, L, [.int x], mem, 0) = Q (some (.int x)) mem := q_reti (by decide +kernel) rfl
theorem r32_82 : pR X d 32 0 Q (82, [l0, l1, l2, l3, some (.int x), l5], st, mem, 0) = pR X d 32 0 Q (84, [l0, l1, l2, l3, some (.int x), l5], .int x :: st, mem, 0) := q_s (.ok (.iload 4, 2)) (by decide +kernel) rfl
theorem r32_84 : pR X d 32 0 Q (84, L, [.int x], mem, 0) = Q (some (.int x)) mem := q_reti (by decide +kernel) rfl
theorem r32_85 : pR X d 32 0 Q (85, [l0, l1, l2, l3, l4, some (.int x)], st, mem, 0) = pR X d 32 0 Q (87, [l0, l1, l2, l3, l4, some (.int x)], .int x :: st, mem, 0) := q_s (.ok (.iload 5, 2)) (by decide +kernel) rfl
theorem r32_87 : pR X d 32 0 Q (87, L, [.int x], mem, 0) = Q (some (.int x)) mem := q_reti (by decide +kernel) rfl
theorem r32_88 : pR X d 32 0 Q (88, [l0, l1, l2, l3, l4, some (.int x)], st, mem, 0) = pR X d 32 0 Q (90, [l0, l1, l2, l3, l4, some (.int x)], .int x :: st, mem, 0) := q_s (.ok (.iload 5, 2)) (by decide +kernel) rfl
theorem r32_90 : pR X d 32 0 Q (90, [l0, l1, some (.int x), l3, l4, l5], st, mem, 0) = pR X d 32 0 Q (91, [l0, l1, some (.int x), l3, l4, l5], .int x :: st, mem, 0) := q_s (.ok (.iload_n 2, 1)) (by decide +kernel) rfl
theorem r32_91 (h1 : 1 ≤ d) : pR X d 32 0 Q (91, L, .int z :: .int x :: [], mem, 0) = pR X d 32 0 Q (94, L, .int (if x < z then z else x) :: [], mem, 0) := q_mx (ix := 30) (yy := 0) (by decide +kernel) (by decide +kernel) (Nat.le_of_ble_eq_true rfl) h1
theorem r32_94 : pR X d 32 0 Q (94, L, [.int x], mem, 0) = Q (some (.int x)) mem := q_reti (by decide +kernel) rfl
theorem r32_95 : pR X d 32 0 Q (95, L, st, mem, 0) = pR X d 32 0 Q (96, L, .int (iI (3)) :: st, mem, 0) := q_ic (by decide +kernel)
theorem r32_96 : pR X d 32 0 Q (96, [l0, some (.int x), l2, l3, l4, l5], st, mem, 0) = pR X d 32 0 Q (97, [l0, some (.int x), l2, l3, l4, l5], .int x :: st, mem, 0) := q_s (.ok (.iload_n 1, 1)) (by decide +kernel) rfl
theorem r32_97 : pR X d 32 0 Q (97, L, .int z :: .int x :: st, mem, 0) = pR X d 32 0 Q (98, L, .int (x * z) :: st, mem, 0) := q_s (.ok (.imul, 1)) (by decide +kernel) rfl
theorem r32_98 : pR X d 32 0 Q (98, L, [.int x], mem, 0) = Q (some (.int x)) mem := q_reti (by decide +kernel) rfl
theorem r32_99 : pR X d 32 0 Q (99, [l0, some (.int x), l2, l3, l4, l5], st, mem, 0) = pR X d 32 0 Q (100, [l0, some (.int x), l2, l3, l4, l5], .int x :: st, mem, 0) := q_s (.ok (.iload_n 1, 1)) (by decide +kernel) rfl
theorem r32_100 : pR X d 32 0 Q (100, L, [.int x], mem, 0) = Q (some (.int x)) mem := q_reti (by decide +kernel) rfl
theorem r33_0 : pR X d 33 0 Q (0, [some (.ref a), l1], st, mem, 0) = pR X d 33 0 Q (1, [some (.ref a), l1], .ref a :: st, mem, 0) := q_s (.ok (.aload_n 0, 1)) (by decide +kernel) rfl
theorem r33_1 : pR X d 33 0 Q (1, L, .ref a :: st, mem, 0) = gf mem a 0 0 (fun p => pR X d 33 0 Q (4, L, p :: st, mem, 0)) := q_get (ix := 9) (by decide +kernel) (by decide +kernel)
theorem r33_4 : pR X d 33 0 Q (4, L, .int x :: st, mem, 0) = (((x.toInt < 1 ∨ 6 < x.toInt) → pR X d 33 0 Q (58, L, st, mem, 0)) ∧ (x.toInt = 1 → pR X d 33 0 Q (44, L, st, mem, 0)) ∧ (x.toInt = 2 → pR X d 33 0 Q (58, L, st, mem, 0)) ∧ (x.toInt = 3 → pR X d 33 0 Q (50, L, st, mem, 0)) ∧ (x.toInt = 4 → pR X d 33 0 Q (50, L, st, mem, 0)) ∧ (x.toInt = 5 → pR X d 33 0 Q (54, L, st, mem, 0)) ∧ (x.toInt = 6 → pR X d 33 0 Q (44, L, st, mem, 0)) ∧ True) := q_tsl (dflt := 54) (lo := 1) (hi := 6) (offs := #[40, 54, 46, 46, 50, 40]) (ll := 40) (by decide +kernel) (by decide) (by decide) (by decide)
theorem r33_44 : pR X d 33 0 Q (44, [l0, some (.int x)], st, mem, 0) = pR X d 33 0 Q (45, [l0, some (.int x)], .int x :: st, mem, 0) := q_s (.ok (.iload_n 1, 1)) (by decide +kernel) rfl
theorem r33_45 : pR X d 33 0 Q (45, [l0, some (.int x)], st, mem, 0) = pR X d 33 0 Q (46, [l0, some (.int x)], .int x :: st, mem, 0) := q_s (.ok (.iload_n 1, 1)) (by decide +kernel) rfl
theorem r33_46 : pR X d 33 0 Q (46, L, st, mem, 0) = pR X d 33 0 Q (47, L, .int (iI (5)) :: st, mem, 0) := q_ic (by decide +kernel)
theorem r33_47 : pR X d 33 0 Q (47, L, .int z :: .int x :: st, mem, 0) = (¬ z = 0 ∧ pR X d 33 0 Q (48, L, .int (x / z) :: st, mem, 0)) := q_div (by decide +kernel)
theorem r33_48 : pR X d 33 0 Q (48, L, .int z :: .int x :: st, mem, 0) = pR X d 33 0 Q (49, L, .int (x + z) :: st, mem, 0) := q_s (.ok (.iadd, 1)) (by decide +kernel) rfl
theorem r33_49 : pR X d 33 0 Q (49, L, [.int x], mem, 0) = Q (some (.int x)) mem := q_reti (by decide +kernel) rfl
theorem r33_50 : pR X d 33 0 Q (50, [l0, some (.int x)], st, mem, 0) = pR X d 33 0 Q (51, [l0, some (.int x)], .int x :: st, mem, 0) := q_s (.ok (.iload_n 1, 1)) (by decide +kernel) rfl
theorem r33_51 : pR X d 33 0 Q (51, L, st, mem, 0) = pR X d 33 0 Q (52, L, .int (iI (1)) :: st, mem, 0) := q_ic (by decide +kernel)
theorem r33_52 : pR X d 33 0 Q (52, L, .int z :: .int x :: st, mem, 0) = pR X d 33 0 Q (53, L, .int (x + z) :: st, mem, 0) := q_s (.ok (.iadd, 1)) (by decide +kernel) rfl
theorem r33_53 : pR X d 33 0 Q (53, L, [.int x], mem, 0) = Q (some (.int x)) mem := q_reti (by decide +kernel) rfl
theorem r33_54 : pR X d 33 0 Q (54, [l0, some (.int x)], st, mem, 0) = pR X d 33 0 Q (55, [l0, some (.int x)], .int x :: st, mem, 0) := q_s (.ok (.iload_n 1, 1)) (by decide +kernel) rfl
theorem r33_55 : pR X d 33 0 Q (55, L, st, mem, 0) = pR X d 33 0 Q (56, L, .int (iI (2)) :: st, mem, 0) := q_ic (by decide +kernel)
theorem r33_56 : pR X d 33 0 Q (56, L, .int z :: .int x :: st, mem, 0) = (¬ z = 0 ∧ pR X d 33 0 Q (57, L, .int (x / z) :: st, mem, 0)) := q_div (by decide +kernel)
theorem r33_57 : pR X d 33 0 Q (57, L, [.int x], mem, 0) = Q (some (.int x)) mem := q_reti (by decide +kernel) rfl
theorem r33_58 : pR X d 33 0 Q (58, [l0, some (.int x)], st, mem, 0) = pR X d 33 0 Q (59, [l0, some (.int x)], .int x :: st, mem, 0) := q_s (.ok (.iload_n 1, 1)) (by decide +kernel) rfl
theorem r33_59 : pR X d 33 0 Q (59, L, [.int x], mem, 0) = Q (some (.int x)) mem := q_reti (by decide +kernel) rfl
theorem r34_0 : pR X d 34 0 Q (0, [some (.ref a), l1, l2, l3], st, mem, 0) = pR X d 34 0 Q (1, [some (.ref a), l1, l2, l3], .ref a :: st, mem, 0) := q_s (.ok (.aload_n 0, 1)) (by decide +kernel) rfl
theorem r34_1 : pR X d 34 0 Q (1, L, .ref a :: st, mem, 0) = gf mem a 4 0 (fun p => pR X d 34 0 Q (4, L, p :: st, mem, 0)) := q_get (ix := 10) (by decide +kernel) (by decide +kernel)
theorem r34_4 : pR X d 34 0 Q (4, [l0, some (.int x), l2, l3], st, mem, 0) = pR X d 34 0 Q (5, [l0, some (.int x), l2, l3], .int x :: st, mem, 0) := q_s (.ok (.iload_n 1, 1)) (by decide +kernel) rfl
theorem r34_5 : pR X d 34 0 Q (5, [l0, l1, some (.int x), l3], st, mem, 0) = pR X d 34 0 Q (6, [l0, l1, some (.int x), l3], .int x :: st, mem, 0) := q_s (.ok (.iload_n 2, 1)) (by decide +kernel) rfl
theorem r34_6 : pR X d 34 0 Q (6, L, .int y1 :: .int y0 :: .ref a :: [], mem, 0) = (prcv mem 3 a ∧ Cw X d 35 [.ref a, .int y0, .int y1] mem (fun r mem => pR X d 34 0 Q (9, L, r.toList ++ [], mem, 0))) := q_virt (ix := 114) (y2 := 35) (as := [.int y1, .int y0]) (by decide +kernel) (by decide +kernel) rfl rfl rfl (Nat.le_of_ble_eq_true rfl) (by decide)
theorem r34_9 : pR X d 34 0 Q (9, L, .int x :: st, mem, 0) = ((x = 0 → pR X d 34 0 Q (22, L, st, mem, 0)) ∧ (¬ (x = 0) → pR X d 34 0 Q (12, L, st, mem, 0))) := r_if (c := .eq) (off := 13) (by decide +kernel) (by decide)
theorem r34_12 : pR X d 34 0 Q (12, [l0, l1, l2, some (.int x)], st, mem, 0) = pR X d 34 0 Q (13, [l0, l1, l2, some (.int x)], .int x :: st, mem, 0) := q_s (.ok (.iload_n 3, 1)) (by decide +kernel) rfl
theorem r34_13 : pR X d 34 0 Q (13, L, st, mem, 0) = pR X d 34 0 Q (14, L, .int (iI (1)) :: st, mem, 0) := q_ic (by decide +kernel)
theorem r34_14 : pR X d 34 0 Q (14, L, st, mem, 0) = pR X d 34 0 Q (16, L, .int (iI (99)) :: st, mem, 0) := q_bi (n := 99) (by decide +kernel) (by decide +kernel)
theorem r34_16 : pR X d 34 0 Q (16, L, .int y2 :: .int y1 :: .int y0 :: [], mem, 0) = Cw X d 7 [.int y0, .int y1, .int y2] mem (fun r mem => pR X d 34 0 Q (19, L, r.toList ++ [], mem, 0)) := q_stat (ix := 52) (kd := 1) (y2 := 7) (as := [.int y2, .int y1, .int y0]) (by decide +kernel) (by decide +kernel) (by decide) rfl rfl rfl (Nat.le_of_ble_eq_true rfl) (by decide)
theorem r34_19 : pR X d 34 0 Q (19, L, .int x :: st, mem, 0) = ((¬ x = 0 → pR X d 34 0 Q (28, L, st, mem, 0)) ∧ (¬ (¬ x = 0) → pR X d 34 0 Q (22, L, st, mem, 0))) := r_if (c := .ne) (off := 9) (by decide +kernel) (by decide)
theorem r34_22 : pR X d 34 0 Q (22, [some (.ref a), l1, l2, l3], st, mem, 0) = pR X d 34 0 Q (23, [some (.ref a), l1, l2, l3], .ref a :: st, mem, 0) := q_s (.ok (.aload_n 0, 1)) (by decide +kernel) rfl
theorem r34_23 : pR X d 34 0 Q (23, L, st, mem, 0) = pR X d 34 0 Q (24, L, .int (iI (0)) :: st, mem, 0) := q_ic (by decide +kernel)
theorem r34_24 : pR X d 34 0 Q (24, L, .int y0 :: .ref a :: [], mem, 0) = (prcv mem 4 a ∧ Cw X d 8 [.ref a, .int y0] mem (fun r mem => pR X d 34 0 Q (27, L, r.toList ++ [], mem, 0))) := q_virt (ix := 59) (y2 := 8) (as := [.int y0]) (by decide +kernel) (by decide +kernel) rfl rfl rfl (Nat.le_of_ble_eq_true rfl) (by decide)
theorem r34_27 : pR X d 34 0 Q (27, L, [.int x], mem, 0) = Q (some (.int x)) mem := q_reti (by decide +kernel) rfl
theorem r34_28 : pR X d 34 0 Q (28, [some (.ref a), l1, l2, l3], st, mem, 0) = pR X d 34 0 Q (29, [some (.ref a), l1, l2, l3], .ref a :: st, mem, 0) := q_s (.ok (.aload_n 0, 1)) (by decide +kernel) rfl
theorem r34_29 : pR X d 34 0 Q (29, L, .ref a :: st, mem, 0) = gf mem a 4 0 (fun p => pR X d 34 0 Q (32, L, p :: st, mem, 0)) := q_get (ix := 10) (by decide +kernel) (by decide +kernel)
theorem r34_32 : pR X d 34 0 Q (32, [l0, some (.int x), l2, l3], st, mem, 0) = pR X d 34 0 Q (33, [l0, some (.int x), l2, l3], .int x :: st, mem, 0) := q_s (.ok (.iload_n 1, 1)) (by decide +kernel) rfl
theorem r34_33 : pR X d 34 0 Q (33, [l0, l1, some (.int x), l3], st, mem, 0) = pR X d 34 0 Q (34, [l0, l1, some (.int x), l3], .int x :: st, mem, 0) := q_s (.ok (.iload_n 2, 1)) (by decide +kernel) rfl
theorem r34_34 : pR X d 34 0 Q (34, [l0, l1, l2, some (.int x)], st, mem, 0) = pR X d 34 0 Q (35, [l0, l1, l2, some (.int x)], .int x :: st, mem, 0) := q_s (.ok (.iload_n 3, 1)) (by decide +kernel) rfl
theorem r34_35 : pR X d 34 0 Q (35, L, .int y2 :: .int y1 :: .int y0 :: .ref a :: [], mem, 0) = (prcv mem 3 a ∧ Cw X d 36 [.ref a, .int y0, .int y1, .int y2] mem (fun r mem => pR X d 34 0 Q (38, L, r.toList ++ [], mem, 0))) := q_virt (ix := 118) (y2 := 36) (as := [.int y2, .int y1, .int y0]) (by decide +kernel) (by decide +kernel) rfl rfl rfl (Nat.le_of_ble_eq_true rfl) (by decide)
theorem r34_38 : pR X d 34 0 Q (38, L, [.int x], mem, 0) = Q (some (.int x)) mem := q_reti (by decide +kernel) rfl
end

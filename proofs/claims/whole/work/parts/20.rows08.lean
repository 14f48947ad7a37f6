section
variable {X : pXX} {d lim u : Nat} {Q : Option Value → List pME → Prop} {L : List (Option Value)} {st : List Value} {mem : List pME} {x z z1 z2 z3 y0 y1 y2 y3 y4 k0 k1 k2 k3 k4 k5 k6 : Int32} {v w v0 v1 v2 w0 w1 w2 : Int64} {a b b0 b1 b2 b3 c0 c1 c2 c3 c4 c5 : Nat} {p : Value} {l0 l1 l2 l3 l4 l5 l6 l7 l8 l9 : Option Value}
theorem r202_0 : pR X d 202 0 Q (0, [some (.ref a), l1], st, mem, 0) = pR X d 202 0 Q (1, [some (.ref a), l1], .ref a :: st, mem, 0) := q_s (.ok (.aload_n 0, 1)) (by decide +kernel) rfl
theorem r202_1 : pR X d 202 0 Q (1, L, st, mem, 0) = pR X d 202 0 Q (2, L, .int (iI (0)) :: st, mem, 0) := q_ic (by decide +kernel)
theorem r202_2 : pR X d 202 0 Q (2, L, p :: .ref a :: st, mem, 0) = pf 202 mem a 5 9 p (fun mem => pR X d 202 0 Q (5, L, st, mem, 0)) := q_put (ix := 204) (by decide +kernel) (by decide +kernel) (by decide)
theorem r202_5 : pR X d 202 0 Q (5, [some (.ref a), l1], st, mem, 0) = pR X d 202 0 Q (6, [some (.ref a), l1], .ref a :: st, mem, 0) := q_s (.ok (.aload_n 0, 1)) (by decide +kernel) rfl
theorem r202_6 : pR X d 202 0 Q (6, L, st, mem, 0) = pR X d 202 0 Q (7, L, .int (iI (-1)) :: st, mem, 0) := q_ic (by decide +kernel)
theorem r202_7 : pR X d 202 0 Q (7, L, p :: .ref a :: st, mem, 0) = pf 202 mem a 5 13 p (fun mem => pR X d 202 0 Q (10, L, st, mem, 0)) := q_put (ix := 234) (by decide +kernel) (by decide +kernel) (by decide)
theorem r202_10 : pR X d 202 0 Q (10, [some (.ref a), l1], st, mem, 0) = pR X d 202 0 Q (11, [some (.ref a), l1], .ref a :: st, mem, 0) := q_s (.ok (.aload_n 0, 1)) (by decide +kernel) rfl
theorem r202_11 : pR X d 202 0 Q (11, L, .ref a :: [], mem, 0) = (prcv mem 5 a ∧ Cw X d 203 [.ref a] mem (fun r mem => pR X d 202 0 Q (14, L, r.toList ++ [], mem, 0))) := q_virt (ix := 258) (y2 := 203) (as := []) (by decide +kernel) (by decide +kernel) rfl rfl rfl (Nat.le_of_ble_eq_true rfl) (by decide)
theorem r202_14 : pR X d 202 0 Q (14, [some (.ref a), l1], st, mem, 0) = pR X d 202 0 Q (15, [some (.ref a), l1], .ref a :: st, mem, 0) := q_s (.ok (.aload_n 0, 1)) (by decide +kernel) rfl
theorem r202_15 : pR X d 202 0 Q (15, L, .ref a :: [], mem, 0) = (prcv mem 5 a ∧ Cw X d 207 [.ref a] mem (fun r mem => pR X d 202 0 Q (18, L, r.toList ++ [], mem, 0))) := q_virt (ix := 287) (y2 := 207) (as := []) (by decide +kernel) (by decide +kernel) rfl rfl rfl (Nat.le_of_ble_eq_true rfl) (by decide)
theorem r202_18 : pR X d 202 0 Q (18, L, st, mem, 0) = pR X d 202 0 Q (19, L, .int (iI (1)) :: st, mem, 0) := q_ic (by decide +kernel)
theorem r202_19 : pR X d 202 0 Q (19, [l0, l1], .int x :: st, mem, 0) = pR X d 202 0 Q (20, [cl1 l0, some (.int x)], st, mem, 0) := q_s (.ok (.istore_n 1, 1)) (by decide +kernel) rfl
theorem r202_20 : pR X d 202 0 Q (20, [some (.ref a), l1], st, mem, 0) = pR X d 202 0 Q (21, [some (.ref a), l1], .ref a :: st, mem, 0) := q_s (.ok (.aload_n 0, 1)) (by decide +kernel) rfl
theorem r202_21 : pR X d 202 0 Q (21, L, .ref a :: st, mem, 0) = gf mem a 5 13 (fun p => pR X d 202 0 Q (24, L, p :: st, mem, 0)) := q_get (ix := 234) (by decide +kernel) (by decide +kernel)
theorem r202_24 : pR X d 202 0 Q (24, L, .int x :: st, mem, 0) = ((0 ≤ x → pR X d 202 0 Q (49, L, st, mem, 0)) ∧ (¬ (0 ≤ x) → pR X d 202 0 Q (27, L, st, mem, 0))) := r_if (c := .ge) (off := 25) (by decide +kernel) (by decide)
theorem r202_27 : pR X d 202 0 Q (27, [some (.ref a), l1], st, mem, 0) = pR X d 202 0 Q (28, [some (.ref a), l1], .ref a :: st, mem, 0) := q_s (.ok (.aload_n 0, 1)) (by decide +kernel) rfl
theorem r202_28 : pR X d 202 0 Q (28, L, .ref a :: st, mem, 0) = gf mem a 5 10 (fun p => pR X d 202 0 Q (31, L, p :: st, mem, 0)) := q_get (ix := 217) (by decide +kernel) (by decide +kernel)
theorem r202_31 : pR X d 202 0 Q (31, L, st, mem, 0) = pR X d 202 0 Q (32, L, .int (iI (3)) :: st, mem, 0) := q_ic (by decide +kernel)
theorem r202_32 : pR X d 202 0 Q (32, L, .int z :: .int x :: st, mem, 0) = ((¬ x = z → pR X d 202 0 Q (49, L, st, mem, 0)) ∧ (¬ (¬ x = z) → pR X d 202 0 Q (35, L, st, mem, 0))) := r_ic (c := .ne) (off := 17) (by decide +kernel) (by decide)
theorem r202_35 : pR X d 202 0 Q (35, [some (.ref a), l1], st, mem, 0) = pR X d 202 0 Q (36, [some (.ref a), l1], .ref a :: st, mem, 0) := q_s (.ok (.aload_n 0, 1)) (by decide +kernel) rfl
theorem r202_36 : pR X d 202 0 Q (36, L, .ref a :: [], mem, 0) = (prcv mem 5 a ∧ Cw X d 203 [.ref a] mem (fun r mem => pR X d 202 0 Q (39, L, r.toList ++ [], mem, 0))) := q_virt (ix := 258) (y2 := 203) (as := []) (by decide +kernel) (by decide +kernel) rfl rfl rfl (Nat.le_of_ble_eq_true rfl) (by decide)
theorem r202_39 : pR X d 202 0 Q (39, [some (.ref a), l1], st, mem, 0) = pR X d 202 0 Q (40, [some (.ref a), l1], .ref a :: st, mem, 0) := q_s (.ok (.aload_n 0, 1)) (by decide +kernel) rfl
theorem r202_40 : pR X d 202 0 Q (40, L, .ref a :: [], mem, 0) = (prcv mem 5 a ∧ Cw X d 207 [.ref a] mem (fun r mem => pR X d 202 0 Q (43, L, r.toList ++ [], mem, 0))) := q_virt (ix := 287) (y2 := 207) (as := []) (by decide +kernel) (by decide +kernel) rfl rfl rfl (Nat.le_of_ble_eq_true rfl) (by decide)
theorem r202_43 : pR X d 202 0 Q (43, [l0, some (.int x)], st, mem, 0) = pR X d 202 0 Q (46, [cl1 l0, some (.int (x + iI (1)))], st, mem, 0) := q_s (.ok (.iinc 1 (1), 3)) (by decide +kernel) rfl
theorem r202_46 : pR X d 202 0 Q (46, L, st, mem, 0) = pR X d 202 0 Q (20, L, st, mem, 0) := q_s (.ok (.goto (-26), 3)) (by decide +kernel) rfl
theorem r202_49 : pR X d 202 0 Q (49, [some (.ref a), l1], st, mem, 0) = pR X d 202 0 Q (50, [some (.ref a), l1], .ref a :: st, mem, 0) := q_s (.ok (.aload_n 0, 1)) (by decide +kernel) rfl
theorem r202_50 : pR X d 202 0 Q (50, L, .ref a :: st, mem, 0) = gf mem a 5 13 (fun p => pR X d 202 0 Q (53, L, p :: st, mem, 0)) := q_get (ix := 234) (by decide +kernel) (by decide +kernel)
theorem r202_53 : pR X d 202 0 Q (53, L, .int x :: st, mem, 0) = ((0 ≤ x → pR X d 202 0 Q (67, L, st, mem, 0)) ∧ (¬ (0 ≤ x) → pR X d 202 0 Q (56, L, st, mem, 0))) := r_if (c := .ge) (off := 14) (by decide +kernel) (by decide)
theorem r202_56 : pR X d 202 0 Q (56, [some (.ref a), l1], st, mem, 0) = pR X d 202 0 Q (57, [some (.ref a), l1], .ref a :: st, mem, 0) := q_s (.ok (.aload_n 0, 1)) (by decide +kernel) rfl
theorem r202_57 : pR X d 202 0 Q (57, L, .ref a :: st, mem, 0) = gf mem a 5 10 (fun p => pR X d 202 0 Q (60, L, p :: st, mem, 0)) := q_get (ix := 217) (by decide +kernel) (by decide +kernel)
theorem r202_60 : pR X d 202 0 Q (60, L, .int x :: st, mem, 0) = ((x = 0 → pR X d 202 0 Q (67, L, st, mem, 0)) ∧ (¬ (x = 0) → pR X d 202 0 Q (63, L, st, mem, 0))) := r_if (c := .eq) (off := 7) (by decide +kernel) (by decide)
theorem r202_63 : pR X d 202 0 Q (63, [some (.ref a), l1], st, mem, 0) = pR X d 202 0 Q (64, [some (.ref a), l1], .ref a :: st, mem, 0) := q_s (.ok (.aload_n 0, 1)) (by decide +kernel) rfl
theorem r202_64 : pR X d 202 0 Q (64, L, .ref a :: [], mem, 0) = (prcv mem 5 a ∧ Cw X d 211 [.ref a] mem (fun r mem => pR X d 202 0 Q (67, L, r.toList ++ [], mem, 0))) := q_virt (ix := 255) (y2 := 211) (as := []) (by decide +kernel) (by decide +kernel) rfl rfl rfl (Nat.le_of_ble_eq_true rfl) (by decide)
theorem r202_67 : pR X d 202 0 Q (67, [l0, some (.int x)], st, mem, 0) = pR X d 202 0 Q (68, [l0, some (.int x)], .int x :: st, mem, 0) := q_s (.ok (.iload_n 1, 1)) (by decide +kernel) rfl
theorem r202_68 : pR X d 202 0 Q (68, L, [.int x], mem, 0) = Q (some (.int x)) mem := q_reti (by decide +kernel) rfl
theorem r203_0 : pR X d 203 0 Q (0, [some (.ref a), l1], st, mem, 0) = pR X d 203 0 Q (1, [some (.ref a), l1], .ref a :: st, mem, 0) := q_s (.ok (.aload_n 0, 1)) (by decide +kernel) rfl
theorem r203_1 : pR X d 203 0 Q (1, [some (.ref a), l1], st, mem, 0) = pR X d 203 0 Q (2, [some (.ref a), l1], .ref a :: st, mem, 0) := q_s (.ok (.aload_n 0, 1)) (by decide +kernel) rfl
theorem r203_2 : pR X d 203 0 Q (2, L, .ref a :: st, mem, 0) = gf mem a 5 9 (fun p => pR X d 203 0 Q (5, L, p :: st, mem, 0)) := q_get (ix := 204) (by decide +kernel) (by decide +kernel)
theorem r203_5 : pR X d 203 0 Q (5, L, .int y0 :: .ref a :: [], mem, 0) = (prcv mem 5 a ∧ Cw X d 204 [.ref a, .int y0] mem (fun r mem => pR X d 203 0 Q (8, L, r.toList ++ [], mem, 0))) := q_virt (ix := 207) (y2 := 204) (as := [.int y0]) (by decide +kernel) (by decide +kernel) rfl rfl rfl (Nat.le_of_ble_eq_true rfl) (by decide)
theorem r203_8 : pR X d 203 0 Q (8, L, st, mem, 0) = pR X d 203 0 Q (10, L, .int (iI (32)) :: st, mem, 0) := q_bi (n := 32) (by decide +kernel) (by decide +kernel)
theorem r203_10 : pR X d 203 0 Q (10, L, .int z :: .int x :: st, mem, 0) = ((¬ x = z → pR X d 203 0 Q (26, L, st, mem, 0)) ∧ (¬ (¬ x = z) → pR X d 203 0 Q (13, L, st, mem, 0))) := r_ic (c := .ne) (off := 16) (by decide +kernel) (by decide)
theorem r203_13 : pR X d 203 0 Q (13, [some (.ref a), l1], st, mem, 0) = pR X d 203 0 Q (14, [some (.ref a), l1], .ref a :: st, mem, 0) := q_s (.ok (.aload_n 0, 1)) (by decide +kernel) rfl
theorem r203_14 : pR X d 203 0 Q (14, L, .ref a :: st, mem, 0) = pR X d 203 0 Q (15, L, .ref a :: .ref a :: st, mem, 0) := q_s (.ok (.dup, 1)) (by decide +kernel) rfl
theorem r203_15 : pR X d 203 0 Q (15, L, .ref a :: st, mem, 0) = gf mem a 5 9 (fun p => pR X d 203 0 Q (18, L, p :: st, mem, 0)) := q_get (ix := 204) (by decide +kernel) (by decide +kernel)
theorem r203_18 : pR X d 203 0 Q (18, L, st, mem, 0) = pR X d 203 0 Q (19, L, .int (iI (1)) :: st, mem, 0) := q_ic (by decide +kernel)
theorem r203_19 : pR X d 203 0 Q (19, L, .int z :: .int x :: st, mem, 0) = pR X d 203 0 Q (20, L, .int (x + z) :: st, mem, 0) := q_s (.ok (.iadd, 1)) (by decide +kernel) rfl
theorem r203_20 : pR X d 203 0 Q (20, L, p :: .ref a :: st, mem, 0) = pf 203 mem a 5 9 p (fun mem => pR X d 203 0 Q (23, L, st, mem, 0)) := q_put (ix := 204) (by decide +kernel) (by decide +kernel) (by decide)
theorem r203_23 : pR X d 203 0 Q (23, L, st, mem, 0) = pR X d 203 0 Q (0, L, st, mem, 0) := q_s (.ok (.goto (-23), 3)) (by decide +kernel) rfl
theorem r203_26 : pR X d 203 0 Q (26, [some (.ref a), l1], st, mem, 0) = pR X d 203 0 Q (27, [some (.ref a), l1], .ref a :: st, mem, 0) := q_s (.ok (.aload_n 0, 1)) (by decide +kernel) rfl
theorem r203_27 : pR X d 203 0 Q (27, [some (.ref a), l1], st, mem, 0) = pR X d 203 0 Q (28, [some (.ref a), l1], .ref a :: st, mem, 0) := q_s (.ok (.aload_n 0, 1)) (by decide +kernel) rfl
theorem r203_28 : pR X d 203 0 Q (28, L, .ref a :: st, mem, 0) = gf mem a 5 9 (fun p => pR X d 203 0 Q (31, L, p :: st, mem, 0)) := q_get (ix := 204) (by decide +kernel) (by decide +kernel)
theorem r203_31 : pR X d 203 0 Q (31, L, p :: .ref a :: st, mem, 0) = pf 203 mem a 5 11 p (fun mem => pR X d 203 0 Q (34, L, st, mem, 0)) := q_put (ix := 210) (by decide +kernel) (by decide +kernel) (by decide)
theorem r203_34 : pR X d 203 0 Q (34, [some (.ref a), l1], st, mem, 0) = pR X d 203 0 Q (35, [some (.ref a), l1], .ref a :: st, mem, 0) := q_s (.ok (.aload_n 0, 1)) (by decide +kernel) rfl
theorem r203_35 : pR X d 203 0 Q (35, L, st, mem, 0) = pR X d 203 0 Q (36, L, .long (lI (0)) :: st, mem, 0) := q_lc (n := 0) (by decide +kernel) (by decide +kernel)
theorem r203_36 : pR X d 203 0 Q (36, L, p :: .ref a :: st, mem, 0) = pf 203 mem a 5 12 p (fun mem => pR X d 203 0 Q (39, L, st, mem, 0)) := q_put (ix := 213) (by decide +kernel) (by decide +kernel) (by decide)
theorem r203_39 : pR X d 203 0 Q (39, [some (.ref a), l1], st, mem, 0) = pR X d 203 0 Q (40, [some (.ref a), l1], .ref a :: st, mem, 0) := q_s (.ok (.aload_n 0, 1)) (by decide +kernel) rfl
theorem r203_40 : pR X d 203 0 Q (40, [some (.ref a), l1], st, mem, 0) = pR X d 203 0 Q (41, [some (.ref a), l1], .ref a :: st, mem, 0) := q_s (.ok (.aload_n 0, 1)) (by decide +kernel) rfl
theorem r203_41 : pR X d 203 0 Q (41, L, .ref a :: st, mem, 0) = gf mem a 5 9 (fun p => pR X d 203 0 Q (44, L, p :: st, mem, 0)) := q_get (ix := 204) (by decide +kernel) (by decide +kernel)
theorem r203_44 : pR X d 203 0 Q (44, L, .int y0 :: .ref a :: [], mem, 0) = (prcv mem 5 a ∧ Cw X d 204 [.ref a, .int y0] mem (fun r mem => pR X d 203 0 Q (47, L, r.toList ++ [], mem, 0))) := q_virt (ix := 207) (y2 := 204) (as := [.int y0]) (by decide +kernel) (by decide +kernel) rfl rfl rfl (Nat.le_of_ble_eq_true rfl) (by decide)
theorem r203_47 : pR X d 203 0 Q (47, [l0, l1], .int x :: st, mem, 0) = pR X d 203 0 Q (48, [cl1 l0, some (.int x)], st, mem, 0) := q_s (.ok (.istore_n 1, 1)) (by decide +kernel) rfl
theorem r203_48 : pR X d 203 0 Q (48, [some (.ref a), l1], st, mem, 0) = pR X d 203 0 Q (49, [some (.ref a), l1], .ref a :: st, mem, 0) := q_s (.ok (.aload_n 0, 1)) (by decide +kernel) rfl
theorem r203_49 : pR X d 203 0 Q (49, L, .ref a :: st, mem, 0) = gf mem a 5 9 (fun p => pR X d 203 0 Q (52, L, p :: st, mem, 0)) := q_get (ix := 204) (by decide +kernel) (by decide +kernel)
theorem r203_52 : pR X d 203 0 Q (52, [some (.ref a), l1], st, mem, 0) = pR X d 203 0 Q (53, [some (.ref a), l1], .ref a :: st, mem, 0) := q_s (.ok (.aload_n 0, 1)) (by decide +kernel) rfl
theorem r203_53 : pR X d 203 0 Q (53, L, .ref a :: st, mem, 0) = gf mem a 5 7 (fun p => pR X d 203 0 Q (56, L, p :: st, mem, 0)) := q_get (ix := 201) (by decide +kernel) (by decide +kernel)
theorem r203_56 : pR X d 203 0 Q (56, L, .int z :: .int x :: st, mem, 0) = ((¬ x = z → pR X d 203 0 Q (67, L, st, mem, 0)) ∧ (¬ (¬ x = z) → pR X d 203 0 Q (59, L, st, mem, 0))) := r_ic (c := .ne) (off := 11) (by decide +kernel) (by decide)
theorem r203_59 : pR X d 203 0 Q (59, [some (.ref a), l1], st, mem, 0) = pR X d 203 0 Q (60, [some (.ref a), l1], .ref a :: st, mem, 0) := q_s (.ok (.aload_n 0, 1)) (by decide +kernel) rfl
theorem r203_60 : pR X d 203 0 Q (60, L, st, mem, 0) = pR X d 203 0 Q (61, L, .int (iI (0)) :: st, mem, 0) := q_ic (by decide +kernel)
theorem r203_61 : pR X d 203 0 Q (61, L, p :: .ref a :: st, mem, 0) = pf 203 mem a 5 10 p (fun mem => pR X d 203 0 Q (64, L, st, mem, 0)) := q_put (ix := 217) (by decide +kernel) (by decide +kernel) (by decide)
theorem r203_64 : pR X d 203 0 Q (64, L, st, mem, 0) = pR X d 203 0 Q (261, L, st, mem, 0) := q_s (.ok (.goto (197), 3)) (by decide +kernel) rfl
theorem r203_67 : pR X d 203 0 Q (67, [l0, some (.int x)], st, mem, 0) = pR X d 203 0 Q (68, [l0, some (.int x)], .int x :: st, mem, 0) := q_s (.ok (.iload_n 1, 1)) (by decide +kernel) rfl
theorem r203_68 : pR X d 203 0 Q (68, L, st, mem, 0) = pR X d 203 0 Q (70, L, .int (iI (59)) :: st, mem, 0) := q_bi (n := 59) (by decide +kernel) (by decide +kernel)
theorem r203_70 : pR X d 203 0 Q (70, L, .int z :: .int x :: st, mem, 0) = ((¬ x = z → pR X d 203 0 Q (91, L, st, mem, 0)) ∧ (¬ (¬ x = z) → pR X d 203 0 Q (73, L, st, mem, 0))) := r_ic (c := .ne) (off := 21) (by decide +kernel) (by decide)
theorem r203_73 : pR X d 203 0 Q (73, [some (.ref a), l1], st, mem, 0) = pR X d 203 0 Q (74, [some (.ref a), l1], .ref a :: st, mem, 0) := q_s (.ok (.aload_n 0, 1)) (by decide +kernel) rfl
theorem r203_74 : pR X d 203 0 Q (74, L, st, mem, 0) = pR X d 203 0 Q (75, L, .int (iI (3)) :: st, mem, 0) := q_ic (by decide +kernel)
theorem r203_75 : pR X d 203 0 Q (75, L, p :: .ref a :: st, mem, 0) = pf 203 mem a 5 10 p (fun mem => pR X d 203 0 Q (78, L, st, mem, 0)) := q_put (ix := 217) (by decide +kernel) (by decide +kernel) (by decide)
theorem r203_78 : pR X d 203 0 Q (78, [some (.ref a), l1], st, mem, 0) = pR X d 203 0 Q (79, [some (.ref a), l1], .ref a :: st, mem, 0) := q_s (.ok (.aload_n 0, 1)) (by decide +kernel) rfl
theorem r203_79 : pR X d 203 0 Q (79, L, .ref a :: st, mem, 0) = pR X d 203 0 Q (80, L, .ref a :: .ref a :: st, mem, 0) := q_s (.ok (.dup, 1)) (by decide +kernel) rfl
theorem r203_80 : pR X d 203 0 Q (80, L, .ref a :: st, mem, 0) = gf mem a 5 9 (fun p => pR X d 203 0 Q (83, L, p :: st, mem, 0)) := q_get (ix := 204) (by decide +kernel) (by decide +kernel)
theorem r203_83 : pR X d 203 0 Q (83, L, st, mem, 0) = pR X d 203 0 Q (84, L, .int (iI (1)) :: st, mem, 0) := q_ic (by decide +kernel)
theorem r203_84 : pR X d 203 0 Q (84, L, .int z :: .int x :: st, mem, 0) = pR X d 203 0 Q (85, L, .int (x + z) :: st, mem, 0) := q_s (.ok (.iadd, 1)) (by decide +kernel) rfl
theorem r203_85 : pR X d 203 0 Q (85, L, p :: .ref a :: st, mem, 0) = pf 203 mem a 5 9 p (fun mem => pR X d 203 0 Q (88, L, st, mem, 0)) := q_put (ix := 204) (by decide +kernel) (by decide +kernel) (by decide)
theorem r203_88 : pR X d 203 0 Q (88, L, st, mem, 0) = pR X d 203 0 Q (261, L, st, mem, 0) := q_s (.ok (.goto (173), 3)) (by decide +kernel) rfl
theorem r203_91 : pR X d 203 0 Q (91, [l0, some (.int x)], st, mem, 0) = pR X d 203 0 Q (92, [l0, some (.int x)], .int x :: st, mem, 0) := q_s (.ok (.iload_n 1, 1)) (by decide +kernel) rfl
theorem r203_92 : pR X d 203 0 Q (92, L, .int y0 :: [], mem, 0) = Cw X d 205 [.int y0] mem (fun r mem => pR X d 203 0 Q (95, L, r.toList ++ [], mem, 0)) := q_stat (ix := 220) (kd := 1) (y2 := 205) (as := [.int y0]) (by decide +kernel) (by decide +kernel) (by decide) rfl rfl rfl (Nat.le_of_ble_eq_true rfl) (by decide)
theorem r203_95 : pR X d 203 0 Q (95, L, .int x :: st, mem, 0) = ((x ≤ 0 → pR X d 203 0 Q (173, L, st, mem, 0)) ∧ (¬ (x ≤ 0) → pR X d 203 0 Q (98, L, st, mem, 0))) := r_if (c := .le) (off := 78) (by decide +kernel) (by decide)
theorem r203_98 : pR X d 203 0 Q (98, [some (.ref a), l1], st, mem, 0) = pR X d 203 0 Q (99, [some (.ref a), l1], .ref a :: st, mem, 0) := q_s (.ok (.aload_n 0, 1)) (by decide +kernel) rfl
theorem r203_99 : pR X d 203 0 Q (99, L, st, mem, 0) = pR X d 203 0 Q (100, L, .int (iI (1)) :: st, mem, 0) := q_ic (by decide +kernel)
theorem r203_100 : pR X d 203 0 Q (100, L, p :: .ref a :: st, mem, 0) = pf 203 mem a 5 10 p (fun mem => pR X d 203 0 Q (103, L, st, mem, 0)) := q_put (ix := 217) (by decide +kernel) (by decide +kernel) (by decide)
theorem r203_103 : pR X d 203 0 Q (103, [some (.ref a), l1], st, mem, 0) = pR X d 203 0 Q (104, [some (.ref a), l1], .ref a :: st, mem, 0) := q_s (.ok (.aload_n 0, 1)) (by decide +kernel) rfl
theorem r203_104 : pR X d 203 0 Q (104, [some (.ref a), l1], st, mem, 0) = pR X d 203 0 Q (105, [some (.ref a), l1], .ref a :: st, mem, 0) := q_s (.ok (.aload_n 0, 1)) (by decide +kernel) rfl
theorem r203_105 : pR X d 203 0 Q (105, L, .ref a :: st, mem, 0) = gf mem a 5 9 (fun p => pR X d 203 0 Q (108, L, p :: st, mem, 0)) := q_get (ix := 204) (by decide +kernel) (by decide +kernel)
theorem r203_108 : pR X d 203 0 Q (108, L, .int y0 :: .ref a :: [], mem, 0) = (prcv mem 5 a ∧ Cw X d 204 [.ref a, .int y0] mem (fun r mem => pR X d 203 0 Q (111, L, r.toList ++ [], mem, 0))) := q_virt (ix := 207) (y2 := 204) (as := [.int y0]) (by decide +kernel) (by decide +kernel) rfl rfl rfl (Nat.le_of_ble_eq_true rfl) (by decide)
theorem r203_111 : pR X d 203 0 Q (111, L, .int y0 :: [], mem, 0) = Cw X d 205 [.int y0] mem (fun r mem => pR X d 203 0 Q (114, L, r.toList ++ [], mem, 0)) := q_stat (ix := 220) (kd := 1) (y2 := 205) (as := [.int y0]) (by decide +kernel) (by decide +kernel) (by decide) rfl rfl rfl (Nat.le_of_ble_eq_true rfl) (by decide)
theorem r203_114 : pR X d 203 0 Q (114, L, .int x :: st, mem, 0) = ((x ≤ 0 → pR X d 203 0 Q (261, L, st, mem, 0)) ∧ (¬ (x ≤ 0) → pR X d 203 0 Q (117, L, st, mem, 0))) := r_if (c := .le) (off := 147) (by decide +kernel) (by decide)
theorem r203_117 : pR X d 203 0 Q (117, [some (.ref a), l1], st, mem, 0) = pR X d 203 0 Q (118, [some (.ref a), l1], .ref a :: st, mem, 0) := q_s (.ok (.aload_n 0, 1)) (by decide +kernel) rfl
theorem r203_118 : pR X d 203 0 Q (118, [some (.ref a), l1], st, mem, 0) = pR X d 203 0 Q (119, [some (.ref a), l1], .ref a :: st, mem, 0) := q_s (.ok (.aload_n 0, 1)) (by decide +kernel) rfl
theorem r203_119 : pR X d 203 0 Q (119, L, .ref a :: st, mem, 0) = gf mem a 5 12 (fun p => pR X d 203 0 Q (122, L, p :: st, mem, 0)) := q_get (ix := 213) (by decide +kernel) (by decide +kernel)
theorem r203_122 : pR X d 203 0 Q (122, L, st, mem, 0) = pR X d 203 0 Q (125, L, .long (lI (100000000000000000)) :: st, mem, 0) := q_ldc2 (k := 223) (by decide +kernel) (by decide +kernel)
theorem r203_125 : pR X d 203 0 Q (125, L, .long w :: .long v :: st, mem, 0) = pR X d 203 0 Q (126, L, .int (lg_cmp v w) :: st, mem, 0) := q_s (.ok (.lcmp, 1)) (by decide +kernel) rfl
theorem r203_126 : pR X d 203 0 Q (126, L, .int x :: st, mem, 0) = ((x ≤ 0 → pR X d 203 0 Q (136, L, st, mem, 0)) ∧ (¬ (x ≤ 0) → pR X d 203 0 Q (129, L, st, mem, 0))) := r_if (c := .le) (off := 10) (by decide +kernel) (by decide)
theorem r203_129 : pR X d 203 0 Q (129, [some (.ref a), l1], st, mem, 0) = pR X d 203 0 Q (130, [some (.ref a), l1], .ref a :: st, mem, 0) := q_s (.ok (.aload_n 0, 1)) (by decide +kernel) rfl
theorem r203_130 : pR X d 203 0 Q (130, L, .ref a :: st, mem, 0) = gf mem a 5 12 (fun p => pR X d 203 0 Q (133, L, p :: st, mem, 0)) := q_get (ix := 213) (by decide +kernel) (by decide +kernel)
theorem r203_133 : pR X d 203 0 Q (133, L, st, mem, 0) = pR X d 203 0 Q (157, L, st, mem, 0) := q_s (.ok (.goto (24), 3)) (by decide +kernel) rfl
theorem r203_136 : pR X d 203 0 Q (136, [some (.ref a), l1], st, mem, 0) = pR X d 203 0 Q (137, [some (.ref a), l1], .ref a :: st, mem, 0) := q_s (.ok (.aload_n 0, 1)) (by decide +kernel) rfl
theorem r203_137 : pR X d 203 0 Q (137, L, .ref a :: st, mem, 0) = gf mem a 5 12 (fun p => pR X d 203 0 Q (140, L, p :: st, mem, 0)) := q_get (ix := 213) (by decide +kernel) (by decide +kernel)
theorem r203_140 : pR X d 203 0 Q (140, L, st, mem, 0) = pR X d 203 0 Q (143, L, .long (lI (27)) :: st, mem, 0) := q_ldc2 (k := 225) (by decide +kernel) (by decide +kernel)
theorem r203_143 : pR X d 203 0 Q (143, L, .long w :: .long v :: st, mem, 0) = pR X d 203 0 Q (144, L, .long (v * w) :: st, mem, 0) := q_s (.ok (.lmul, 1)) (by decide +kernel) rfl
theorem r203_144 : pR X d 203 0 Q (144, [some (.ref a), l1], st, mem, 0) = pR X d 203 0 Q (145, [some (.ref a), l1], .ref a :: st, mem, 0) := q_s (.ok (.aload_n 0, 1)) (by decide +kernel) rfl
theorem r203_145 : pR X d 203 0 Q (145, [some (.ref a), l1], st, mem, 0) = pR X d 203 0 Q (146, [some (.ref a), l1], .ref a :: st, mem, 0) := q_s (.ok (.aload_n 0, 1)) (by decide +kernel) rfl
theorem r203_146 : pR X d 203 0 Q (146, L, .ref a :: st, mem, 0) = gf mem a 5 9 (fun p => pR X d 203 0 Q (149, L, p :: st, mem, 0)) := q_get (ix := 204) (by decide +kernel) (by decide +kernel)
theorem r203_149 : pR X d 203 0 Q (149, L, .int y0 :: .ref a :: [.long w0, .ref c1], mem, 0) = (prcv mem 5 a ∧ Cw X d 204 [.ref a, .int y0] mem (fun r mem => pR X d 203 0 Q (152, L, r.toList ++ [.long w0, .ref c1], mem, 0))) := q_virt (ix := 207) (y2 := 204) (as := [.int y0]) (by decide +kernel) (by decide +kernel) rfl rfl rfl (Nat.le_of_ble_eq_true rfl) (by decide)
theorem r203_152 : pR X d 203 0 Q (152, L, .int y0 :: [.long w0, .ref c1], mem, 0) = Cw X d 205 [.int y0] mem (fun r mem => pR X d 203 0 Q (155, L, r.toList ++ [.long w0, .ref c1], mem, 0)) := q_stat (ix := 220) (kd := 1) (y2 := 205) (as := [.int y0]) (by decide +kernel) (by decide +kernel) (by decide) rfl rfl rfl (Nat.le_of_ble_eq_true rfl) (by decide)
theorem r203_155 : pR X d 203 0 Q (155, L, .int x :: st, mem, 0) = pR X d 203 0 Q (156, L, .long x.toInt64 :: st, mem, 0) := q_s (.ok (.i2l, 1)) (by decide +kernel) rfl
theorem r203_156 : pR X d 203 0 Q (156, L, .long w :: .long v :: st, mem, 0) = pR X d 203 0 Q (157, L, .long (v + w) :: st, mem, 0) := q_s (.ok (.ladd, 1)) (by decide +kernel) rfl
theorem r203_157 : pR X d 203 0 Q (157, L, p :: .ref a :: st, mem, 0) = pf 203 mem a 5 12 p (fun mem => pR X d 203 0 Q (160, L, st, mem, 0)) := q_put (ix := 213) (by decide +kernel) (by decide +kernel) (by decide)
theorem r203_160 : pR X d 203 0 Q (160, [some (.ref a), l1], st, mem, 0) = pR X d 203 0 Q (161, [some (.ref a), l1], .ref a :: st, mem, 0) := q_s (.ok (.aload_n 0, 1)) (by decide +kernel) rfl
theorem r203_161 : pR X d 203 0 Q (161, L, .ref a :: st, mem, 0) = pR X d 203 0 Q (162, L, .ref a :: .ref a :: st, mem, 0) := q_s (.ok (.dup, 1)) (by decide +kernel) rfl
theorem r203_162 : pR X d 203 0 Q (162, L, .ref a :: st, mem, 0) = gf mem a 5 9 (fun p => pR X d 203 0 Q (165, L, p :: st, mem, 0)) := q_get (ix := 204) (by decide +kernel) (by decide +kernel)
theorem r203_165 : pR X d 203 0 Q (165, L, st, mem, 0) = pR X d 203 0 Q (166, L, .int (iI (1)) :: st, mem, 0) := q_ic (by decide +kernel)
theorem r203_166 : pR X d 203 0 Q (166, L, .int z :: .int x :: st, mem, 0) = pR X d 203 0 Q (167, L, .int (x + z) :: st, mem, 0) := q_s (.ok (.iadd, 1)) (by decide +kernel) rfl
theorem r203_167 : pR X d 203 0 Q (167, L, p :: .ref a :: st, mem, 0) = pf 203 mem a 5 9 p (fun mem => pR X d 203 0 Q (170, L, st, mem, 0)) := q_put (ix := 204) (by decide +kernel) (by decide +kernel) (by decide)
theorem r203_170 : pR X d 203 0 Q (170, L, st, mem, 0) = pR X d 203 0 Q (103, L, st, mem, 0) := q_s (.ok (.goto (-67), 3)) (by decide +kernel) rfl
theorem r203_173 : pR X d 203 0 Q (173, [l0, some (.int x)], st, mem, 0) = pR X d 203 0 Q (174, [l0, some (.int x)], .int x :: st, mem, 0) := q_s (.ok (.iload_n 1, 1)) (by decide +kernel) rfl
theorem r203_174 : pR X d 203 0 Q (174, L, .int y0 :: [], mem, 0) = Cw X d 206 [.int y0] mem (fun r mem => pR X d 203 0 Q (177, L, r.toList ++ [], mem, 0)) := q_stat (ix := 227) (kd := 1) (y2 := 206) (as := [.int y0]) (by decide +kernel) (by decide +kernel) (by decide) rfl rfl rfl (Nat.le_of_ble_eq_true rfl) (by decide)
theorem r203_177 : pR X d 203 0 Q (177, L, .int x :: st, mem, 0) = ((x = 0 → pR X d 203 0 Q (256, L, st, mem, 0)) ∧ (¬ (x = 0) → pR X d 203 0 Q (180, L, st, mem, 0))) := r_if (c := .eq) (off := 79) (by decide +kernel) (by decide)
theorem r203_180 : pR X d 203 0 Q (180, [some (.ref a), l1], st, mem, 0) = pR X d 203 0 Q (181, [some (.ref a), l1], .ref a :: st, mem, 0) := q_s (.ok (.aload_n 0, 1)) (by decide +kernel) rfl
theorem r203_181 : pR X d 203 0 Q (181, L, st, mem, 0) = pR X d 203 0 Q (182, L, .int (iI (2)) :: st, mem, 0) := q_ic (by decide +kernel)
theorem r203_182 : pR X d 203 0 Q (182, L, p :: .ref a :: st, mem, 0) = pf 203 mem a 5 10 p (fun mem => pR X d 203 0 Q (185, L, st, mem, 0)) := q_put (ix := 217) (by decide +kernel) (by decide +kernel) (by decide)
theorem r203_185 : pR X d 203 0 Q (185, [some (.ref a), l1], st, mem, 0) = pR X d 203 0 Q (186, [some (.ref a), l1], .ref a :: st, mem, 0) := q_s (.ok (.aload_n 0, 1)) (by decide +kernel) rfl
theorem r203_186 : pR X d 203 0 Q (186, [some (.ref a), l1], st, mem, 0) = pR X d 203 0 Q (187, [some (.ref a), l1], .ref a :: st, mem, 0) := q_s (.ok (.aload_n 0, 1)) (by decide +kernel) rfl
theorem r203_187 : pR X d 203 0 Q (187, L, .ref a :: st, mem, 0) = gf mem a 5 9 (fun p => pR X d 203 0 Q (190, L, p :: st, mem, 0)) := q_get (ix := 204) (by decide +kernel) (by decide +kernel)
theorem r203_190 : pR X d 203 0 Q (190, L, .int y0 :: .ref a :: [], mem, 0) = (prcv mem 5 a ∧ Cw X d 204 [.ref a, .int y0] mem (fun r mem => pR X d 203 0 Q (193, L, r.toList ++ [], mem, 0))) := q_virt (ix := 207) (y2 := 204) (as := [.int y0]) (by decide +kernel) (by decide +kernel) rfl rfl rfl (Nat.le_of_ble_eq_true rfl) (by decide)
theorem r203_193 : pR X d 203 0 Q (193, L, .int y0 :: [], mem, 0) = Cw X d 206 [.int y0] mem (fun r mem => pR X d 203 0 Q (196, L, r.toList ++ [], mem, 0)) := q_stat (ix := 227) (kd := 1) (y2 := 206) (as := [.int y0]) (by decide +kernel) (by decide +kernel) (by decide) rfl rfl rfl (Nat.le_of_ble_eq_true rfl) (by decide)
theorem r203_196 : pR X d 203 0 Q (196, L, .int x :: st, mem, 0) = ((x = 0 → pR X d 203 0 Q (261, L, st, mem, 0)) ∧ (¬ (x = 0) → pR X d 203 0 Q (199, L, st, mem, 0))) := r_if (c := .eq) (off := 65) (by decide +kernel) (by decide)
theorem r203_199 : pR X d 203 0 Q (199, [some (.ref a), l1], st, mem, 0) = pR X d 203 0 Q (200, [some (.ref a), l1], .ref a :: st, mem, 0) := q_s (.ok (.aload_n 0, 1)) (by decide +kernel) rfl
theorem r203_200 : pR X d 203 0 Q (200, [some (.ref a), l1], st, mem, 0) = pR X d 203 0 Q (201, [some (.ref a), l1], .ref a :: st, mem, 0) := q_s (.ok (.aload_n 0, 1)) (by decide +kernel) rfl
theorem r203_201 : pR X d 203 0 Q (201, L, .ref a :: st, mem, 0) = gf mem a 5 12 (fun p => pR X d 203 0 Q (204, L, p :: st, mem, 0)) := q_get (ix := 213) (by decide +kernel) (by decide +kernel)
theorem r203_204 : pR X d 203 0 Q (204, L, st, mem, 0) = pR X d 203 0 Q (207, L, .long (lI (9999)) :: st, mem, 0) := q_ldc2 (k := 101) (by decide +kernel) (by decide +kernel)
theorem r203_207 : pR X d 203 0 Q (207, L, .long w :: .long v :: st, mem, 0) = pR X d 203 0 Q (208, L, .int (lg_cmp v w) :: st, mem, 0) := q_s (.ok (.lcmp, 1)) (by decide +kernel) rfl
theorem r203_208 : pR X d 203 0 Q (208, L, .int x :: st, mem, 0) = ((x ≤ 0 → pR X d 203 0 Q (218, L, st, mem, 0)) ∧ (¬ (x ≤ 0) → pR X d 203 0 Q (211, L, st, mem, 0))) := r_if (c := .le) (off := 10) (by decide +kernel) (by decide)
theorem r203_211 : pR X d 203 0 Q (211, [some (.ref a), l1], st, mem, 0) = pR X d 203 0 Q (212, [some (.ref a), l1], .ref a :: st, mem, 0) := q_s (.ok (.aload_n 0, 1)) (by decide +kernel) rfl
theorem r203_212 : pR X d 203 0 Q (212, L, .ref a :: st, mem, 0) = gf mem a 5 12 (fun p => pR X d 203 0 Q (215, L, p :: st, mem, 0)) := q_get (ix := 213) (by decide +kernel) (by decide +kernel)
theorem r203_215 : pR X d 203 0 Q (215, L, st, mem, 0) = pR X d 203 0 Q (240, L, st, mem, 0) := q_s (.ok (.goto (25), 3)) (by decide +kernel) rfl
theorem r203_218 : pR X d 203 0 Q (218, [some (.ref a), l1], st, mem, 0) = pR X d 203 0 Q (219, [some (.ref a), l1], .ref a :: st, mem, 0) := q_s (.ok (.aload_n 0, 1)) (by decide +kernel) rfl
theorem r203_219 : pR X d 203 0 Q (219, L, .ref a :: st, mem, 0) = gf mem a 5 12 (fun p => pR X d 203 0 Q (222, L, p :: st, mem, 0)) := q_get (ix := 213) (by decide +kernel) (by decide +kernel)
theorem r203_222 : pR X d 203 0 Q (222, L, st, mem, 0) = pR X d 203 0 Q (225, L, .long (lI (10)) :: st, mem, 0) := q_ldc2 (k := 230) (by decide +kernel) (by decide +kernel)
theorem r203_225 : pR X d 203 0 Q (225, L, .long w :: .long v :: st, mem, 0) = pR X d 203 0 Q (226, L, .long (v * w) :: st, mem, 0) := q_s (.ok (.lmul, 1)) (by decide +kernel) rfl
theorem r203_226 : pR X d 203 0 Q (226, [some (.ref a), l1], st, mem, 0) = pR X d 203 0 Q (227, [some (.ref a), l1], .ref a :: st, mem, 0) := q_s (.ok (.aload_n 0, 1)) (by decide +kernel) rfl
theorem r203_227 : pR X d 203 0 Q (227, [some (.ref a), l1], st, mem, 0) = pR X d 203 0 Q (228, [some (.ref a), l1], .ref a :: st, mem, 0) := q_s (.ok (.aload_n 0, 1)) (by decide +kernel) rfl
theorem r203_228 : pR X d 203 0 Q (228, L, .ref a :: st, mem, 0) = gf mem a 5 9 (fun p => pR X d 203 0 Q (231, L, p :: st, mem, 0)) := q_get (ix := 204) (by decide +kernel) (by decide +kernel)
theorem r203_231 : pR X d 203 0 Q (231, L, .int y0 :: .ref a :: [.long w0, .ref c1], mem, 0) = (prcv mem 5 a ∧ Cw X d 204 [.ref a, .int y0] mem (fun r mem => pR X d 203 0 Q (234, L, r.toList ++ [.long w0, .ref c1], mem, 0))) := q_virt (ix := 207) (y2 := 204) (as := [.int y0]) (by decide +kernel) (by decide +kernel) rfl rfl rfl (Nat.le_of_ble_eq_true rfl) (by decide)
theorem r203_234 : pR X d 203 0 Q (234, L, .int x :: st, mem, 0) = pR X d 203 0 Q (235, L, .long x.toInt64 :: st, mem, 0) := q_s (.ok (.i2l, 1)) (by decide +kernel) rfl
theorem r203_235 : pR X d 203 0 Q (235, L, .long w :: .long v :: st, mem, 0) = pR X d 203 0 Q (236, L, .long (v + w) :: st, mem, 0) := q_s (.ok (.ladd, 1)) (by decide +kernel) rfl
theorem r203_236 : pR X d 203 0 Q (236, L, st, mem, 0) = pR X d 203 0 Q (239, L, .long (lI (48)) :: st, mem, 0) := q_ldc2 (k := 232) (by decide +kernel) (by decide +kernel)
theorem r203_239 : pR X d 203 0 Q (239, L, .long w :: .long v :: st, mem, 0) = pR X d 203 0 Q (240, L, .long (v - w) :: st, mem, 0) := q_s (.ok (.lsub, 1)) (by decide +kernel) rfl
theorem r203_240 : pR X d 203 0 Q (240, L, p :: .ref a :: st, mem, 0) = pf 203 mem a 5 12 p (fun mem => pR X d 203 0 Q (243, L, st, mem, 0)) := q_put (ix := 213) (by decide +kernel) (by decide +kernel) (by decide)
theorem r203_243 : pR X d 203 0 Q (243, [some (.ref a), l1], st, mem, 0) = pR X d 203 0 Q (244, [some (.ref a), l1], .ref a :: st, mem, 0) := q_s (.ok (.aload_n 0, 1)) (by decide +kernel) rfl
theorem r203_244 : pR X d 203 0 Q (244, L, .ref a :: st, mem, 0) = pR X d 203 0 Q (245, L, .ref a :: .ref a :: st, mem, 0) := q_s (.ok (.dup, 1)) (by decide +kernel) rfl
theorem r203_245 : pR X d 203 0 Q (245, L, .ref a :: st, mem, 0) = gf mem a 5 9 (fun p => pR X d 203 0 Q (248, L, p :: st, mem, 0)) := q_get (ix := 204) (by decide +kernel) (by decide +kernel)
theorem r203_248 : pR X d 203 0 Q (248, L, st, mem, 0) = pR X d 203 0 Q (249, L, .int (iI (1)) :: st, mem, 0) := q_ic (by decide +kernel)
theorem r203_249 : pR X d 203 0 Q (249, L, .int z :: .int x :: st, mem, 0) = pR X d 203 0 Q (250, L, .int (x + z) :: st, mem, 0) := q_s (.ok (.iadd, 1)) (by decide +kernel) rfl
theorem r203_250 : pR X d 203 0 Q (250, L, p :: .ref a :: st, mem, 0) = pf 203 mem a 5 9 p (fun mem => pR X d 203 0 Q (253, L, st, mem, 0)) := q_put (ix := 204) (by decide +kernel) (by decide +kernel) (by decide)
theorem r203_253 : pR X d 203 0 Q (253, L, st, mem, 0) = pR X d 203 0 Q (185, L, st, mem, 0) := q_s (.ok (.goto (-68), 3)) (by decide +kernel) rfl
theorem r203_256 : pR X d 203 0 Q (256, [some (.ref a), l1], st, mem, 0) = pR X d 203 0 Q (257, [some (.ref a), l1], .ref a :: st, mem, 0) := q_s (.ok (.aload_n 0, 1)) (by decide +kernel) rfl
theorem r203_257 : pR X d 203 0 Q (257, L, st, mem, 0) = pR X d 203 0 Q (258, L, .int (iI (4)) :: st, mem, 0) := q_ic (by decide +kernel)
theorem r203_258 : pR X d 203 0 Q (258, L, p :: .ref a :: st, mem, 0) = pf 203 mem a 5 10 p (fun mem => pR X d 203 0 Q (261, L, st, mem, 0)) := q_put (ix := 217) (by decide +kernel) (by decide +kernel) (by decide)
theorem r203_261 : pR X d 203 0 Q (261, L, [], mem, 0) = Q none mem := q_retv (by decide +kernel) rfl
theorem r204_0 : pR X d 204 0 Q (0, [l0, some (.int x)], st, mem, 0) = pR X d 204 0 Q (1, [l0, some (.int x)], .int x :: st, mem, 0) := q_s (.ok (.iload_n 1, 1)) (by decide +kernel) rfl
theorem r204_1 : pR X d 204 0 Q (1, [some (.ref a), l1], st, mem, 0) = pR X d 204 0 Q (2, [some (.ref a), l1], .ref a :: st, mem, 0) := q_s (.ok (.aload_n 0, 1)) (by decide +kernel) rfl
theorem r204_2 : pR X d 204 0 Q (2, L, .ref a :: st, mem, 0) = gf mem a 5 7 (fun p => pR X d 204 0 Q (5, L, p :: st, mem, 0)) := q_get (ix := 201) (by decide +kernel) (by decide +kernel)
theorem r204_5 : pR X d 204 0 Q (5, L, .int z :: .int x :: st, mem, 0) = ((z ≤ x → pR X d 204 0 Q (17, L, st, mem, 0)) ∧ (¬ (z ≤ x) → pR X d 204 0 Q (8, L, st, mem, 0))) := r_ic (c := .ge) (off := 12) (by decide +kernel) (by decide)
theorem r204_8 : pR X d 204 0 Q (8, [some (.ref a), l1], st, mem, 0) = pR X d 204 0 Q (9, [some (.ref a), l1], .ref a :: st, mem, 0) := q_s (.ok (.aload_n 0, 1)) (by decide +kernel) rfl
theorem r204_9 : pR X d 204 0 Q (9, L, .ref a :: st, mem, 0) = gf mem a 5 6 (fun p => pR X d 204 0 Q (12, L, p :: st, mem, 0)) := q_get (ix := 25) (by decide +kernel) (by decide +kernel)
theorem r204_12 : pR X d 204 0 Q (12, [l0, some (.int x)], st, mem, 0) = pR X d 204 0 Q (13, [l0, some (.int x)], .int x :: st, mem, 0) := q_s (.ok (.iload_n 1, 1)) (by decide +kernel) rfl
theorem r204_13 : pR X d 204 0 Q (13, L, .int x :: .ref a :: st, mem, 0) = rb mem a x (fun z => pR X d 204 0 Q (14, L, .int z :: st, mem, 0)) := q_rb (by decide +kernel)
theorem r204_14 : pR X d 204 0 Q (14, L, st, mem, 0) = pR X d 204 0 Q (18, L, st, mem, 0) := q_s (.ok (.goto (4), 3)) (by decide +kernel) rfl
theorem r204_17 : pR X d 204 0 Q (17, L, st, mem, 0) = pR X d 204 0 Q (18, L, .int (iI (-1)) :: st, mem, 0) := q_ic (by decide +kernel)
theorem r204_18 : pR X d 204 0 Q (18, L, [.int x], mem, 0) = Q (some (.int x)) mem := q_reti (by decide +kernel) rfl
theorem r205_0 : pR X d 205 0 Q (0, [some (.int x)], st, mem, 0) = pR X d 205 0 Q (1, [some (.int x)], .int x :: st, mem, 0) := q_s (.ok (.iload_n 0, 1)) (by decide +kernel) rfl
theorem r205_1 : pR X d 205 0 Q (1, L, st, mem, 0) = pR X d 205 0 Q (3, L, .int (iI (97)) :: st, mem, 0) := q_bi (n := 97) (by decide +kernel) (by decide +kernel)
theorem r205_3 : pR X d 205 0 Q (3, L, .int z :: .int x :: st, mem, 0) = ((x < z → pR X d 205 0 Q (21, L, st, mem, 0)) ∧ (¬ (x < z) → pR X d 205 0 Q (6, L, st, mem, 0))) := r_ic (c := .lt) (off := 18) (by decide +kernel) (by decide)
theorem r205_6 : pR X d 205 0 Q (6, [some (.int x)], st, mem, 0) = pR X d 205 0 Q (7, [some (.int x)], .int x :: st, mem, 0) := q_s (.ok (.iload_n 0, 1)) (by decide +kernel) rfl
theorem r205_7 : pR X d 205 0 Q (7, L, st, mem, 0) = pR X d 205 0 Q (9, L, .int (iI (122)) :: st, mem, 0) := q_bi (n := 122) (by decide +kernel) (by decide +kernel)
theorem r205_9 : pR X d 205 0 Q (9, L, .int z :: .int x :: st, mem, 0) = ((z < x → pR X d 205 0 Q (21, L, st, mem, 0)) ∧ (¬ (z < x) → pR X d 205 0 Q (12, L, st, mem, 0))) := r_ic (c := .gt) (off := 12) (by decide +kernel) (by decide)
theorem r205_12 : pR X d 205 0 Q (12, [some (.int x)], st, mem, 0) = pR X d 205 0 Q (13, [some (.int x)], .int x :: st, mem, 0) := q_s (.ok (.iload_n 0, 1)) (by decide +kernel) rfl
theorem r205_13 : pR X d 205 0 Q (13, L, st, mem, 0) = pR X d 205 0 Q (15, L, .int (iI (97)) :: st, mem, 0) := q_bi (n := 97) (by decide +kernel) (by decide +kernel)
theorem r205_15 : pR X d 205 0 Q (15, L, .int z :: .int x :: st, mem, 0) = pR X d 205 0 Q (16, L, .int (x - z) :: st, mem, 0) := q_s (.ok (.isub, 1)) (by decide +kernel) rfl
theorem r205_16 : pR X d 205 0 Q (16, L, st, mem, 0) = pR X d 205 0 Q (17, L, .int (iI (1)) :: st, mem, 0) := q_ic (by decide +kernel)
theorem r205_17 : pR X d 205 0 Q (17, L, .int z :: .int x :: st, mem, 0) = pR X d 205 0 Q (18, L, .int (x + z) :: st, mem, 0) := q_s (.ok (.iadd, 1)) (by decide +kernel) rfl
theorem r205_18 : pR X d 205 0 Q (18, L, st, mem, 0) = pR X d 205 0 Q (22, L, st, mem, 0) := q_s (.ok (.goto (4), 3)) (by decide +kernel) rfl
theorem r205_21 : pR X d 205 0 Q (21, L, st, mem, 0) = pR X d 205 0 Q (22, L, .int (iI (0)) :: st, mem, 0) := q_ic (by decide +kernel)
theorem r205_22 : pR X d 205 0 Q (22, L, [.int x], mem, 0) = Q (some (.int x)) mem := q_reti (by decide +kernel) rfl
theorem r206_0 : pR X d 206 0 Q (0, [some (.int x)], st, mem, 0) = pR X d 206 0 Q (1, [some (.int x)], .int x :: st, mem, 0) := q_s (.ok (.iload_n 0, 1)) (by decide +kernel) rfl
theorem r206_1 : pR X d 206 0 Q (1, L, st, mem, 0) = pR X d 206 0 Q (3, L, .int (iI (48)) :: st, mem, 0) := q_bi (n := 48) (by decide +kernel) (by decide +kernel)
theorem r206_3 : pR X d 206 0 Q (3, L, .int z :: .int x :: st, mem, 0) = ((x < z → pR X d 206 0 Q (16, L, st, mem, 0)) ∧ (¬ (x < z) → pR X d 206 0 Q (6, L, st, mem, 0))) := r_ic (c := .lt) (off := 13) (by decide +kernel) (by decide)
theorem r206_6 : pR X d 206 0 Q (6, [some (.int x)], st, mem, 0) = pR X d 206 0 Q (7, [some (.int x)], .int x :: st, mem, 0) := q_s (.ok (.iload_n 0, 1)) (by decide +kernel) rfl
theorem r206_7 : pR X d 206 0 Q (7, L, st, mem, 0) = pR X d 206 0 Q (9, L, .int (iI (57)) :: st, mem, 0) := q_bi (n := 57) (by decide +kernel) (by decide +kernel)
theorem r206_9 : pR X d 206 0 Q (9, L, .int z :: .int x :: st, mem, 0) = ((z < x → pR X d 206 0 Q (16, L, st, mem, 0)) ∧ (¬ (z < x) → pR X d 206 0 Q (12, L, st, mem, 0))) := r_ic (c := .gt) (off := 7) (by decide +kernel) (by decide)
theorem r206_12 : pR X d 206 0 Q (12, L, st, mem, 0) = pR X d 206 0 Q (13, L, .int (iI (1)) :: st, mem, 0) := q_ic (by decide +kernel)
theorem r206_13 : pR X d 206 0 Q (13, L, st, mem, 0) = pR X d 206 0 Q (17, L, st, mem, 0) := q_s (.ok (.goto (4), 3)) (by decide +kernel) rfl
theorem r206_16 : pR X d 206 0 Q (16, L, st, mem, 0) = pR X d 206 0 Q (17, L, .int (iI (0)) :: st, mem, 0) := q_ic (by decide +kernel)
theorem r206_17 : pR X d 206 0 Q (17, L, [.int x], mem, 0) = (zb .boolean x ∧ Q (some (.int x)) mem) := q_retz (by decide +kernel) rfl (by decide)
theorem r207_0 : pR X d 207 0 Q (0, [some (.ref a), l1], st, mem, 0) = pR X d 207 0 Q (1, [some (.ref a), l1], .ref a :: st, mem, 0) := q_s (.ok (.aload_n 0, 1)) (by decide +kernel) rfl
theorem r207_1 : pR X d 207 0 Q (1, L, .ref a :: [], mem, 0) = (prcv mem 5 a ∧ Cw X d 208 [.ref a] mem (fun r mem => pR X d 207 0 Q (4, L, r.toList ++ [], mem, 0))) := q_virt (ix := 274) (y2 := 208) (as := []) (by decide +kernel) (by decide +kernel) rfl rfl rfl (Nat.le_of_ble_eq_true rfl) (by decide)
theorem r207_4 : pR X d 207 0 Q (4, [l0, l1], .int x :: st, mem, 0) = pR X d 207 0 Q (5, [cl1 l0, some (.int x)], st, mem, 0) := q_s (.ok (.istore_n 1, 1)) (by decide +kernel) rfl
theorem r207_5 : pR X d 207 0 Q (5, [l0, some (.int x)], st, mem, 0) = pR X d 207 0 Q (6, [l0, some (.int x)], .int x :: st, mem, 0) := q_s (.ok (.iload_n 1, 1)) (by decide +kernel) rfl
theorem r207_6 : pR X d 207 0 Q (6, L, .int x :: st, mem, 0) = ((x < 0 → pR X d 207 0 Q (17, L, st, mem, 0)) ∧ (¬ (x < 0) → pR X d 207 0 Q (9, L, st, mem, 0))) := r_if (c := .lt) (off := 11) (by decide +kernel) (by decide)
theorem r207_9 : pR X d 207 0 Q (9, [some (.ref a), l1], st, mem, 0) = pR X d 207 0 Q (10, [some (.ref a), l1], .ref a :: st, mem, 0) := q_s (.ok (.aload_n 0, 1)) (by decide +kernel) rfl
theorem r207_10 : pR X d 207 0 Q (10, [l0, some (.int x)], st, mem, 0) = pR X d 207 0 Q (11, [l0, some (.int x)], .int x :: st, mem, 0) := q_s (.ok (.iload_n 1, 1)) (by decide +kernel) rfl
theorem r207_11 : pR X d 207 0 Q (11, L, .int y0 :: .ref a :: [], mem, 0) = (prcv mem 5 a ∧ Cw X d 210 [.ref a, .int y0] mem (fun r mem => pR X d 207 0 Q (14, L, r.toList ++ [], mem, 0))) := q_virt (ix := 277) (y2 := 210) (as := [.int y0]) (by decide +kernel) (by decide +kernel) rfl rfl rfl (Nat.le_of_ble_eq_true rfl) (by decide)
theorem r207_14 : pR X d 207 0 Q (14, L, st, mem, 0) = pR X d 207 0 Q (68, L, st, mem, 0) := q_s (.ok (.goto (54), 3)) (by decide +kernel) rfl
theorem r207_17 : pR X d 207 0 Q (17, [some (.ref a), l1], st, mem, 0) = pR X d 207 0 Q (18, [some (.ref a), l1], .ref a :: st, mem, 0) := q_s (.ok (.aload_n 0, 1)) (by decide +kernel) rfl
theorem r207_18 : pR X d 207 0 Q (18, L, st, mem, 0) = pR X d 207 0 Q (21, L, .long (lI (11716)) :: st, mem, 0) := q_ldc2 (k := 280) (by decide +kernel) (by decide +kernel)
theorem r207_21 : pR X d 207 0 Q (21, L, .long v0 :: .ref a :: [], mem, 0) = (prcv mem 5 a ∧ Cw X d 209 [.ref a, .long v0] mem (fun r mem => pR X d 207 0 Q (24, L, r.toList ++ [], mem, 0))) := q_virt (ix := 239) (y2 := 209) (as := [.long v0]) (by decide +kernel) (by decide +kernel) rfl rfl rfl (Nat.le_of_ble_eq_true rfl) (by decide)
theorem r207_24 : pR X d 207 0 Q (24, L, .int x :: st, mem, 0) = ((x = 0 → pR X d 207 0 Q (34, L, st, mem, 0)) ∧ (¬ (x = 0) → pR X d 207 0 Q (27, L, st, mem, 0))) := r_if (c := .eq) (off := 10) (by decide +kernel) (by decide)
theorem r207_27 : pR X d 207 0 Q (27, [some (.ref a), l1], st, mem, 0) = pR X d 207 0 Q (28, [some (.ref a), l1], .ref a :: st, mem, 0) := q_s (.ok (.aload_n 0, 1)) (by decide +kernel) rfl
theorem r207_28 : pR X d 207 0 Q (28, L, .ref a :: [], mem, 0) = (prcv mem 5 a ∧ Cw X d 214 [.ref a] mem (fun r mem => pR X d 207 0 Q (31, L, r.toList ++ [], mem, 0))) := q_virt (ix := 282) (y2 := 214) (as := []) (by decide +kernel) (by decide +kernel) rfl rfl rfl (Nat.le_of_ble_eq_true rfl) (by decide)
theorem r207_31 : pR X d 207 0 Q (31, L, st, mem, 0) = pR X d 207 0 Q (68, L, st, mem, 0) := q_s (.ok (.goto (37), 3)) (by decide +kernel) rfl
theorem r207_34 : pR X d 207 0 Q (34, [some (.ref a), l1], st, mem, 0) = pR X d 207 0 Q (35, [some (.ref a), l1], .ref a :: st, mem, 0) := q_s (.ok (.aload_n 0, 1)) (by decide +kernel) rfl
theorem r207_35 : pR X d 207 0 Q (35, L, st, mem, 0) = pR X d 207 0 Q (38, L, .long (lI (355568)) :: st, mem, 0) := q_ldc2 (k := 285) (by decide +kernel) (by decide +kernel)
theorem r207_38 : pR X d 207 0 Q (38, L, .long v0 :: .ref a :: [], mem, 0) = (prcv mem 5 a ∧ Cw X d 209 [.ref a, .long v0] mem (fun r mem => pR X d 207 0 Q (41, L, r.toList ++ [], mem, 0))) := q_virt (ix := 239) (y2 := 209) (as := [.long v0]) (by decide +kernel) (by decide +kernel) rfl rfl rfl (Nat.le_of_ble_eq_true rfl) (by decide)
theorem r207_41 : pR X d 207 0 Q (41, L, .int x :: st, mem, 0) = ((x = 0 → pR X d 207 0 Q (64, L, st, mem, 0)) ∧ (¬ (x = 0) → pR X d 207 0 Q (44, L, st, mem, 0))) := r_if (c := .eq) (off := 23) (by decide +kernel) (by decide)
theorem r207_44 : pR X d 207 0 Q (44, [some (.ref a), l1], st, mem, 0) = pR X d 207 0 Q (45, [some (.ref a), l1], .ref a :: st, mem, 0) := q_s (.ok (.aload_n 0, 1)) (by decide +kernel) rfl
theorem r207_45 : pR X d 207 0 Q (45, L, .ref a :: [], mem, 0) = (prcv mem 5 a ∧ Cw X d 203 [.ref a] mem (fun r mem => pR X d 207 0 Q (48, L, r.toList ++ [], mem, 0))) := q_virt (ix := 258) (y2 := 203) (as := []) (by decide +kernel) (by decide +kernel) rfl rfl rfl (Nat.le_of_ble_eq_true rfl) (by decide)
theorem r207_48 : pR X d 207 0 Q (48, [some (.ref a), l1], st, mem, 0) = pR X d 207 0 Q (49, [some (.ref a), l1], .ref a :: st, mem, 0) := q_s (.ok (.aload_n 0, 1)) (by decide +kernel) rfl
theorem r207_49 : pR X d 207 0 Q (49, L, .ref a :: st, mem, 0) = gf mem a 5 0 (fun p => pR X d 207 0 Q (52, L, p :: st, mem, 0)) := q_get (ix := 7) (by decide +kernel) (by decide +kernel)
theorem r207_52 : pR X d 207 0 Q (52, L, st, mem, 0) = pR X d 207 0 Q (53, L, .int (iI (3)) :: st, mem, 0) := q_ic (by decide +kernel)
theorem r207_53 : pR X d 207 0 Q (53, [some (.ref a), l1], st, mem, 0) = pR X d 207 0 Q (54, [some (.ref a), l1], .ref a :: st, mem, 0) := q_s (.ok (.aload_n 0, 1)) (by decide +kernel) rfl
theorem r207_54 : pR X d 207 0 Q (54, L, st, mem, 0) = pR X d 207 0 Q (55, L, .int (iI (2)) :: st, mem, 0) := q_ic (by decide +kernel)
theorem r207_55 : pR X d 207 0 Q (55, L, st, mem, 0) = pR X d 207 0 Q (57, L, .int (iI (30)) :: st, mem, 0) := q_bi (n := 30) (by decide +kernel) (by decide +kernel)
theorem r207_57 : pR X d 207 0 Q (57, L, .int y1 :: .int y0 :: .ref a :: [.int k0, .ref c1], mem, 0) = (prcv mem 5 a ∧ Cw X d 213 [.ref a, .int y0, .int y1] mem (fun r mem => pR X d 207 0 Q (60, L, r.toList ++ [.int k0, .ref c1], mem, 0))) := q_virt (ix := 261) (y2 := 213) (as := [.int y1, .int y0]) (by decide +kernel) (by decide +kernel) rfl rfl rfl (Nat.le_of_ble_eq_true rfl) (by decide)
theorem r207_60 : pR X d 207 0 Q (60, L, .int z :: .int x :: .ref a :: st, mem, 0) = wi mem a x z (fun mem => pR X d 207 0 Q (61, L, st, mem, 0)) := q_wi (by decide +kernel)
theorem r207_61 : pR X d 207 0 Q (61, L, st, mem, 0) = pR X d 207 0 Q (68, L, st, mem, 0) := q_s (.ok (.goto (7), 3)) (by decide +kernel) rfl
theorem r207_64 : pR X d 207 0 Q (64, [some (.ref a), l1], st, mem, 0) = pR X d 207 0 Q (65, [some (.ref a), l1], .ref a :: st, mem, 0) := q_s (.ok (.aload_n 0, 1)) (by decide +kernel) rfl
theorem r207_65 : pR X d 207 0 Q (65, L, .ref a :: [], mem, 0) = (prcv mem 5 a ∧ Cw X d 211 [.ref a] mem (fun r mem => pR X d 207 0 Q (68, L, r.toList ++ [], mem, 0))) := q_virt (ix := 255) (y2 := 211) (as := []) (by decide +kernel) (by decide +kernel) rfl rfl rfl (Nat.le_of_ble_eq_true rfl) (by decide)
theorem r207_68 : pR X d 207 0 Q (68, L, [], mem, 0) = Q none mem := q_retv (by decide +kernel) rfl
theorem r208_0 : pR X d 208 0 Q (0, [some (.ref a)], st, mem, 0) = pR X d 208 0 Q (1, [some (.ref a)], .ref a :: st, mem, 0) := q_s (.ok (.aload_n 0, 1)) (by decide +kernel) rfl
theorem r208_1 : pR X d 208 0 Q (1, L, st, mem, 0) = pR X d 208 0 Q (4, L, .long (lI (232608281)) :: st, mem, 0) := q_ldc2 (k := 237) (by decide +kernel) (by decide +kernel)
theorem r208_4 : pR X d 208 0 Q (4, L, .long v0 :: .ref a :: [], mem, 0) = (prcv mem 5 a ∧ Cw X d 209 [.ref a, .long v0] mem (fun r mem => pR X d 208 0 Q (7, L, r.toList ++ [], mem, 0))) := q_virt (ix := 239) (y2 := 209) (as := [.long v0]) (by decide +kernel) (by decide +kernel) rfl rfl rfl (Nat.le_of_ble_eq_true rfl) (by decide)
theorem r208_7 : pR X d 208 0 Q (7, L, .int x :: st, mem, 0) = ((x = 0 → pR X d 208 0 Q (14, L, st, mem, 0)) ∧ (¬ (x = 0) → pR X d 208 0 Q (10, L, st, mem, 0))) := r_if (c := .eq) (off := 7) (by decide +kernel) (by decide)
theorem r208_10 : pR X d 208 0 Q (10, L, st, mem, 0) = pR X d 208 0 Q (11, L, .int (iI (0)) :: st, mem, 0) := q_ic (by decide +kernel)
theorem r208_11 : pR X d 208 0 Q (11, L, st, mem, 0) = pR X d 208 0 Q (100, L, st, mem, 0) := q_s (.ok (.goto (89), 3)) (by decide +kernel) rfl
theorem r208_14 : pR X d 208 0 Q (14, [some (.ref a)], st, mem, 0) = pR X d 208 0 Q (15, [some (.ref a)], .ref a :: st, mem, 0) := q_s (.ok (.aload_n 0, 1)) (by decide +kernel) rfl
theorem r208_15 : pR X d 208 0 Q (15, L, st, mem, 0) = pR X d 208 0 Q (18, L, .long (lI (160605414)) :: st, mem, 0) := q_ldc2 (k := 243) (by decide +kernel) (by decide +kernel)
theorem r208_18 : pR X d 208 0 Q (18, L, .long v0 :: .ref a :: [], mem, 0) = (prcv mem 5 a ∧ Cw X d 209 [.ref a, .long v0] mem (fun r mem => pR X d 208 0 Q (21, L, r.toList ++ [], mem, 0))) := q_virt (ix := 239) (y2 := 209) (as := [.long v0]) (by decide +kernel) (by decide +kernel) rfl rfl rfl (Nat.le_of_ble_eq_true rfl) (by decide)
theorem r208_21 : pR X d 208 0 Q (21, L, .int x :: st, mem, 0) = ((x = 0 → pR X d 208 0 Q (28, L, st, mem, 0)) ∧ (¬ (x = 0) → pR X d 208 0 Q (24, L, st, mem, 0))) := r_if (c := .eq) (off := 7) (by decide +kernel) (by decide)
theorem r208_24 : pR X d 208 0 Q (24, L, st, mem, 0) = pR X d 208 0 Q (25, L, .int (iI (1)) :: st, mem, 0) := q_ic (by decide +kernel)
theorem r208_25 : pR X d 208 0 Q (25, L, st, mem, 0) = pR X d 208 0 Q (100, L, st, mem, 0) := q_s (.ok (.goto (75), 3)) (by decide +kernel) rfl
theorem r208_28 : pR X d 208 0 Q (28, [some (.ref a)], st, mem, 0) = pR X d 208 0 Q (29, [some (.ref a)], .ref a :: st, mem, 0) := q_s (.ok (.aload_n 0, 1)) (by decide +kernel) rfl
theorem r208_29 : pR X d 208 0 Q (29, L, st, mem, 0) = pR X d 208 0 Q (32, L, .long (lI (2896470)) :: st, mem, 0) := q_ldc2 (k := 245) (by decide +kernel) (by decide +kernel)
theorem r208_32 : pR X d 208 0 Q (32, L, .long v0 :: .ref a :: [], mem, 0) = (prcv mem 5 a ∧ Cw X d 209 [.ref a, .long v0] mem (fun r mem => pR X d 208 0 Q (35, L, r.toList ++ [], mem, 0))) := q_virt (ix := 239) (y2 := 209) (as := [.long v0]) (by decide +kernel) (by decide +kernel) rfl rfl rfl (Nat.le_of_ble_eq_true rfl) (by decide)
theorem r208_35 : pR X d 208 0 Q (35, L, .int x :: st, mem, 0) = ((x = 0 → pR X d 208 0 Q (42, L, st, mem, 0)) ∧ (¬ (x = 0) → pR X d 208 0 Q (38, L, st, mem, 0))) := r_if (c := .eq) (off := 7) (by decide +kernel) (by decide)
theorem r208_38 : pR X d 208 0 Q (38, L, st, mem, 0) = pR X d 208 0 Q (39, L, .int (iI (2)) :: st, mem, 0) := q_ic (by decide +kernel)
theorem r208_39 : pR X d 208 0 Q (39, L, st, mem, 0) = pR X d 208 0 Q (100, L, st, mem, 0) := q_s (.ok (.goto (61), 3)) (by decide +kernel) rfl
theorem r208_42 : pR X d 208 0 Q (42, [some (.ref a)], st, mem, 0) = pR X d 208 0 Q (43, [some (.ref a)], .ref a :: st, mem, 0) := q_s (.ok (.aload_n 0, 1)) (by decide +kernel) rfl
theorem r208_43 : pR X d 208 0 Q (43, L, st, mem, 0) = pR X d 208 0 Q (46, L, .long (lI (7099884)) :: st, mem, 0) := q_ldc2 (k := 247) (by decide +kernel) (by decide +kernel)
theorem r208_46 : pR X d 208 0 Q (46, L, .long v0 :: .ref a :: [], mem, 0) = (prcv mem 5 a ∧ Cw X d 209 [.ref a, .long v0] mem (fun r mem => pR X d 208 0 Q (49, L, r.toList ++ [], mem, 0))) := q_virt (ix := 239) (y2 := 209) (as := [.long v0]) (by decide +kernel) (by decide +kernel) rfl rfl rfl (Nat.le_of_ble_eq_true rfl) (by decide)
theorem r208_49 : pR X d 208 0 Q (49, L, .int x :: st, mem, 0) = ((x = 0 → pR X d 208 0 Q (56, L, st, mem, 0)) ∧ (¬ (x = 0) → pR X d 208 0 Q (52, L, st, mem, 0))) := r_if (c := .eq) (off := 7) (by decide +kernel) (by decide)
theorem r208_52 : pR X d 208 0 Q (52, L, st, mem, 0) = pR X d 208 0 Q (53, L, .int (iI (3)) :: st, mem, 0) := q_ic (by decide +kernel)
theorem r208_53 : pR X d 208 0 Q (53, L, st, mem, 0) = pR X d 208 0 Q (100, L, st, mem, 0) := q_s (.ok (.goto (47), 3)) (by decide +kernel) rfl
theorem r208_56 : pR X d 208 0 Q (56, [some (.ref a)], st, mem, 0) = pR X d 208 0 Q (57, [some (.ref a)], .ref a :: st, mem, 0) := q_s (.ok (.aload_n 0, 1)) (by decide +kernel) rfl
theorem r208_57 : pR X d 208 0 Q (57, L, st, mem, 0) = pR X d 208 0 Q (60, L, .long (lI (5730863)) :: st, mem, 0) := q_ldc2 (k := 249) (by decide +kernel) (by decide +kernel)
theorem r208_60 : pR X d 208 0 Q (60, L, .long v0 :: .ref a :: [], mem, 0) = (prcv mem 5 a ∧ Cw X d 209 [.ref a, .long v0] mem (fun r mem => pR X d 208 0 Q (63, L, r.toList ++ [], mem, 0))) := q_virt (ix := 239) (y2 := 209) (as := [.long v0]) (by decide +kernel) (by decide +kernel) rfl rfl rfl (Nat.le_of_ble_eq_true rfl) (by decide)
theorem r208_63 : pR X d 208 0 Q (63, L, .int x :: st, mem, 0) = ((x = 0 → pR X d 208 0 Q (70, L, st, mem, 0)) ∧ (¬ (x = 0) → pR X d 208 0 Q (66, L, st, mem, 0))) := r_if (c := .eq) (off := 7) (by decide +kernel) (by decide)
theorem r208_66 : pR X d 208 0 Q (66, L, st, mem, 0) = pR X d 208 0 Q (67, L, .int (iI (4)) :: st, mem, 0) := q_ic (by decide +kernel)
theorem r208_67 : pR X d 208 0 Q (67, L, st, mem, 0) = pR X d 208 0 Q (100, L, st, mem, 0) := q_s (.ok (.goto (33), 3)) (by decide +kernel) rfl
theorem r208_70 : pR X d 208 0 Q (70, [some (.ref a)], st, mem, 0) = pR X d 208 0 Q (71, [some (.ref a)], .ref a :: st, mem, 0) := q_s (.ok (.aload_n 0, 1)) (by decide +kernel) rfl
theorem r208_71 : pR X d 208 0 Q (71, L, st, mem, 0) = pR X d 208 0 Q (74, L, .long (lI (54562550)) :: st, mem, 0) := q_ldc2 (k := 251) (by decide +kernel) (by decide +kernel)
theorem r208_74 : pR X d 208 0 Q (74, L, .long v0 :: .ref a :: [], mem, 0) = (prcv mem 5 a ∧ Cw X d 209 [.ref a, .long v0] mem (fun r mem => pR X d 208 0 Q (77, L, r.toList ++ [], mem, 0))) := q_virt (ix := 239) (y2 := 209) (as := [.long v0]) (by decide +kernel) (by decide +kernel) rfl rfl rfl (Nat.le_of_ble_eq_true rfl) (by decide)
theorem r208_77 : pR X d 208 0 Q (77, L, .int x :: st, mem, 0) = ((x = 0 → pR X d 208 0 Q (84, L, st, mem, 0)) ∧ (¬ (x = 0) → pR X d 208 0 Q (80, L, st, mem, 0))) := r_if (c := .eq) (off := 7) (by decide +kernel) (by decide)
theorem r208_80 : pR X d 208 0 Q (80, L, st, mem, 0) = pR X d 208 0 Q (81, L, .int (iI (5)) :: st, mem, 0) := q_ic (by decide +kernel)
theorem r208_81 : pR X d 208 0 Q (81, L, st, mem, 0) = pR X d 208 0 Q (100, L, st, mem, 0) := q_s (.ok (.goto (19), 3)) (by decide +kernel) rfl
theorem r208_84 : pR X d 208 0 Q (84, [some (.ref a)], st, mem, 0) = pR X d 208 0 Q (85, [some (.ref a)], .ref a :: st, mem, 0) := q_s (.ok (.aload_n 0, 1)) (by decide +kernel) rfl
theorem r208_85 : pR X d 208 0 Q (85, L, st, mem, 0) = pR X d 208 0 Q (88, L, .long (lI (94424607)) :: st, mem, 0) := q_ldc2 (k := 253) (by decide +kernel) (by decide +kernel)
theorem r208_88 : pR X d 208 0 Q (88, L, .long v0 :: .ref a :: [], mem, 0) = (prcv mem 5 a ∧ Cw X d 209 [.ref a, .long v0] mem (fun r mem => pR X d 208 0 Q (91, L, r.toList ++ [], mem, 0))) := q_virt (ix := 239) (y2 := 209) (as := [.long v0]) (by decide +kernel) (by decide +kernel) rfl rfl rfl (Nat.le_of_ble_eq_true rfl) (by decide)
theorem r208_91 : pR X d 208 0 Q (91, L, .int x :: st, mem, 0) = ((x = 0 → pR X d 208 0 Q (99, L, st, mem, 0)) ∧ (¬ (x = 0) → pR X d 208 0 Q (94, L, st, mem, 0))) := r_if (c := .eq) (off := 8) (by decide +kernel) (by decide)
theorem r208_94 : pR X d 208 0 Q (94, L, st, mem, 0) = pR X d 208 0 Q (96, L, .int (iI (6)) :: st, mem, 0) := q_bi (n := 6) (by decide +kernel) (by decide +kernel)
theorem r208_96 : pR X d 208 0 Q (96, L, st, mem, 0) = pR X d 208 0 Q (100, L, st, mem, 0) := q_s (.ok (.goto (4), 3)) (by decide +kernel) rfl
theorem r208_99 : pR X d 208 0 Q (99, L, st, mem, 0) = pR X d 208 0 Q (100, L, .int (iI (-1)) :: st, mem, 0) := q_ic (by decide +kernel)
theorem r208_100 : pR X d 208 0 Q (100, L, [.int x], mem, 0) = Q (some (.int x)) mem := q_reti (by decide +kernel) rfl
theorem r209_0 : pR X d 209 0 Q (0, [some (.ref a), l1, l2], st, mem, 0) = pR X d 209 0 Q (1, [some (.ref a), l1, l2], .ref a :: st, mem, 0) := q_s (.ok (.aload_n 0, 1)) (by decide +kernel) rfl
theorem r209_1 : pR X d 209 0 Q (1, L, .ref a :: st, mem, 0) = gf mem a 5 10 (fun p => pR X d 209 0 Q (4, L, p :: st, mem, 0)) := q_get (ix := 217) (by decide +kernel) (by decide +kernel)
theorem r209_4 : pR X d 209 0 Q (4, L, st, mem, 0) = pR X d 209 0 Q (5, L, .int (iI (1)) :: st, mem, 0) := q_ic (by decide +kernel)
theorem r209_5 : pR X d 209 0 Q (5, L, .int z :: .int x :: st, mem, 0) = ((¬ x = z → pR X d 209 0 Q (21, L, st, mem, 0)) ∧ (¬ (¬ x = z) → pR X d 209 0 Q (8, L, st, mem, 0))) := r_ic (c := .ne) (off := 16) (by decide +kernel) (by decide)
theorem r209_8 : pR X d 209 0 Q (8, [some (.ref a), l1, l2], st, mem, 0) = pR X d 209 0 Q (9, [some (.ref a), l1, l2], .ref a :: st, mem, 0) := q_s (.ok (.aload_n 0, 1)) (by decide +kernel) rfl
theorem r209_9 : pR X d 209 0 Q (9, L, .ref a :: st, mem, 0) = gf mem a 5 12 (fun p => pR X d 209 0 Q (12, L, p :: st, mem, 0)) := q_get (ix := 213) (by decide +kernel) (by decide +kernel)
theorem r209_12 : pR X d 209 0 Q (12, [l0, some (.long v), l2], st, mem, 0) = pR X d 209 0 Q (13, [l0, some (.long v), l2], .long v :: st, mem, 0) := q_s (.ok (.lload_n 1, 1)) (by decide +kernel) rfl
theorem r209_13 : pR X d 209 0 Q (13, L, .long w :: .long v :: st, mem, 0) = pR X d 209 0 Q (14, L, .int (lg_cmp v w) :: st, mem, 0) := q_s (.ok (.lcmp, 1)) (by decide +kernel) rfl
theorem r209_14 : pR X d 209 0 Q (14, L, .int x :: st, mem, 0) = ((¬ x = 0 → pR X d 209 0 Q (21, L, st, mem, 0)) ∧ (¬ (¬ x = 0) → pR X d 209 0 Q (17, L, st, mem, 0))) := r_if (c := .ne) (off := 7) (by decide +kernel) (by decide)
theorem r209_17 : pR X d 209 0 Q (17, L, st, mem, 0) = pR X d 209 0 Q (18, L, .int (iI (1)) :: st, mem, 0) := q_ic (by decide +kernel)
theorem r209_18 : pR X d 209 0 Q (18, L, st, mem, 0) = pR X d 209 0 Q (22, L, st, mem, 0) := q_s (.ok (.goto (4), 3)) (by decide +kernel) rfl
theorem r209_21 : pR X d 209 0 Q (21, L, st, mem, 0) = pR X d 209 0 Q (22, L, .int (iI (0)) :: st, mem, 0) := q_ic (by decide +kernel)
theorem r209_22 : pR X d 209 0 Q (22, L, [.int x], mem, 0) = (zb .boolean x ∧ Q (some (.int x)) mem) := q_retz (by decide +kernel) rfl (by decide)
theorem r210_0 : pR X d 210 0 Q (0, [some (.ref a), l1, l2], st, mem, 0) = pR X d 210 0 Q (1, [some (.ref a), l1, l2], .ref a :: st, mem, 0) := q_s (.ok (.aload_n 0, 1)) (by decide +kernel) rfl
theorem r210_1 : pR X d 210 0 Q (1, L, .ref a :: st, mem, 0) = gf mem a 5 0 (fun p => pR X d 210 0 Q (4, L, p :: st, mem, 0)) := q_get (ix := 7) (by decide +kernel) (by decide +kernel)
theorem r210_4 : pR X d 210 0 Q (4, L, st, mem, 0) = pR X d 210 0 Q (5, L, .int (iI (0)) :: st, mem, 0) := q_ic (by decide +kernel)
theorem r210_5 : pR X d 210 0 Q (5, L, .int x :: .ref a :: st, mem, 0) = ri X mem a x (fun z => pR X d 210 0 Q (6, L, .int z :: st, mem, 0)) := q_ri (by decide +kernel)
theorem r210_6 : pR X d 210 0 Q (6, L, st, mem, 0) = pR X d 210 0 Q (8, L, .int (iI (8)) :: st, mem, 0) := q_bi (n := 8) (by decide +kernel) (by decide +kernel)
theorem r210_8 : pR X d 210 0 Q (8, L, .int z :: .int x :: st, mem, 0) = ((¬ x = z → pR X d 210 0 Q (16, L, st, mem, 0)) ∧ (¬ (¬ x = z) → pR X d 210 0 Q (11, L, st, mem, 0))) := r_ic (c := .ne) (off := 8) (by decide +kernel) (by decide)
theorem r210_11 : pR X d 210 0 Q (11, [some (.ref a), l1, l2], st, mem, 0) = pR X d 210 0 Q (12, [some (.ref a), l1, l2], .ref a :: st, mem, 0) := q_s (.ok (.aload_n 0, 1)) (by decide +kernel) rfl
theorem r210_12 : pR X d 210 0 Q (12, L, .ref a :: [], mem, 0) = (prcv mem 5 a ∧ Cw X d 211 [.ref a] mem (fun r mem => pR X d 210 0 Q (15, L, r.toList ++ [], mem, 0))) := q_virt (ix := 255) (y2 := 211) (as := []) (by decide +kernel) (by decide +kernel) rfl rfl rfl (Nat.le_of_ble_eq_true rfl) (by decide)
theorem r210_15 : pR X d 210 0 Q (15, L, [], mem, 0) = Q none mem := q_retv (by decide +kernel) rfl
theorem r210_16 : pR X d 210 0 Q (16, [some (.ref a), l1, l2], st, mem, 0) = pR X d 210 0 Q (17, [some (.ref a), l1, l2], .ref a :: st, mem, 0) := q_s (.ok (.aload_n 0, 1)) (by decide +kernel) rfl
theorem r210_17 : pR X d 210 0 Q (17, L, .ref a :: [], mem, 0) = (prcv mem 5 a ∧ Cw X d 203 [.ref a] mem (fun r mem => pR X d 210 0 Q (20, L, r.toList ++ [], mem, 0))) := q_virt (ix := 258) (y2 := 203) (as := []) (by decide +kernel) (by decide +kernel) rfl rfl rfl (Nat.le_of_ble_eq_true rfl) (by decide)
theorem r210_20 : pR X d 210 0 Q (20, [some (.ref a), l1, l2], st, mem, 0) = pR X d 210 0 Q (21, [some (.ref a), l1, l2], .ref a :: st, mem, 0) := q_s (.ok (.aload_n 0, 1)) (by decide +kernel) rfl
theorem r210_21 : pR X d 210 0 Q (21, [l0, some (.int x), l2], st, mem, 0) = pR X d 210 0 Q (22, [l0, some (.int x), l2], .int x :: st, mem, 0) := q_s (.ok (.iload_n 1, 1)) (by decide +kernel) rfl
theorem r210_22 : pR X d 210 0 Q (22, L, st, mem, 0) = pR X d 210 0 Q (24, L, .int (iI (20)) :: st, mem, 0) := q_bi (n := 20) (by decide +kernel) (by decide +kernel)
theorem r210_24 : pR X d 210 0 Q (24, L, .int y1 :: .int y0 :: .ref a :: [], mem, 0) = (prcv mem 5 a ∧ Cw X d 143 [.ref a, .int y0, .int y1] mem (fun r mem => pR X d 210 0 Q (27, L, r.toList ++ [], mem, 0))) := q_virt (ix := 119) (y2 := 143) (as := [.int y1, .int y0]) (by decide +kernel) (by decide +kernel) rfl rfl rfl (Nat.le_of_ble_eq_true rfl) (by decide)
theorem r210_27 : pR X d 210 0 Q (27, [l0, l1, l2], .int x :: st, mem, 0) = pR X d 210 0 Q (28, [l0, cl1 l1, some (.int x)], st, mem, 0) := q_s (.ok (.istore_n 2, 1)) (by decide +kernel) rfl
theorem r210_28 : pR X d 210 0 Q (28, [some (.ref a), l1, l2], st, mem, 0) = pR X d 210 0 Q (29, [some (.ref a), l1, l2], .ref a :: st, mem, 0) := q_s (.ok (.aload_n 0, 1)) (by decide +kernel) rfl
theorem r210_29 : pR X d 210 0 Q (29, L, st, mem, 0) = pR X d 210 0 Q (32, L, .long (lI (10354323)) :: st, mem, 0) := q_ldc2 (k := 264) (by decide +kernel) (by decide +kernel)
theorem r210_32 : pR X d 210 0 Q (32, [l0, l1, some (.int x)], st, mem, 0) = pR X d 210 0 Q (33, [l0, l1, some (.int x)], .int x :: st, mem, 0) := q_s (.ok (.iload_n 2, 1)) (by decide +kernel) rfl
theorem r210_33 : pR X d 210 0 Q (33, L, st, mem, 0) = pR X d 210 0 Q (34, L, .int (iI (1)) :: st, mem, 0) := q_ic (by decide +kernel)
theorem r210_34 : pR X d 210 0 Q (34, L, .int y2 :: .int y1 :: .long v0 :: .ref a :: [], mem, 0) = (prcv mem 5 a ∧ Cw X d 212 [.ref a, .long v0, .int y1, .int y2] mem (fun r mem => pR X d 210 0 Q (37, L, r.toList ++ [], mem, 0))) := q_virt (ix := 266) (y2 := 212) (as := [.int y2, .int y1, .long v0]) (by decide +kernel) (by decide +kernel) rfl rfl rfl (Nat.le_of_ble_eq_true rfl) (by decide)
theorem r210_37 : pR X d 210 0 Q (37, [some (.ref a), l1, l2], st, mem, 0) = pR X d 210 0 Q (38, [some (.ref a), l1, l2], .ref a :: st, mem, 0) := q_s (.ok (.aload_n 0, 1)) (by decide +kernel) rfl
theorem r210_38 : pR X d 210 0 Q (38, L, st, mem, 0) = pR X d 210 0 Q (41, L, .long (lI (383153)) :: st, mem, 0) := q_ldc2 (k := 270) (by decide +kernel) (by decide +kernel)
theorem r210_41 : pR X d 210 0 Q (41, [l0, l1, some (.int x)], st, mem, 0) = pR X d 210 0 Q (42, [l0, l1, some (.int x)], .int x :: st, mem, 0) := q_s (.ok (.iload_n 2, 1)) (by decide +kernel) rfl
theorem r210_42 : pR X d 210 0 Q (42, L, st, mem, 0) = pR X d 210 0 Q (43, L, .int (iI (2)) :: st, mem, 0) := q_ic (by decide +kernel)
theorem r210_43 : pR X d 210 0 Q (43, L, .int y2 :: .int y1 :: .long v0 :: .ref a :: [], mem, 0) = (prcv mem 5 a ∧ Cw X d 212 [.ref a, .long v0, .int y1, .int y2] mem (fun r mem => pR X d 210 0 Q (46, L, r.toList ++ [], mem, 0))) := q_virt (ix := 266) (y2 := 212) (as := [.int y2, .int y1, .long v0]) (by decide +kernel) (by decide +kernel) rfl rfl rfl (Nat.le_of_ble_eq_true rfl) (by decide)
theorem r210_46 : pR X d 210 0 Q (46, [some (.ref a), l1, l2], st, mem, 0) = pR X d 210 0 Q (47, [some (.ref a), l1, l2], .ref a :: st, mem, 0) := q_s (.ok (.aload_n 0, 1)) (by decide +kernel) rfl
theorem r210_47 : pR X d 210 0 Q (47, L, st, mem, 0) = pR X d 210 0 Q (50, L, .long (lI (312166)) :: st, mem, 0) := q_ldc2 (k := 272) (by decide +kernel) (by decide +kernel)
theorem r210_50 : pR X d 210 0 Q (50, [l0, l1, some (.int x)], st, mem, 0) = pR X d 210 0 Q (51, [l0, l1, some (.int x)], .int x :: st, mem, 0) := q_s (.ok (.iload_n 2, 1)) (by decide +kernel) rfl
theorem r210_51 : pR X d 210 0 Q (51, L, st, mem, 0) = pR X d 210 0 Q (52, L, .int (iI (3)) :: st, mem, 0) := q_ic (by decide +kernel)
theorem r210_52 : pR X d 210 0 Q (52, L, .int y2 :: .int y1 :: .long v0 :: .ref a :: [], mem, 0) = (prcv mem 5 a ∧ Cw X d 212 [.ref a, .long v0, .int y1, .int y2] mem (fun r mem => pR X d 210 0 Q (55, L, r.toList ++ [], mem, 0))) := q_virt (ix := 266) (y2 := 212) (as := [.int y2, .int y1, .long v0]) (by decide +kernel) (by decide +kernel) rfl rfl rfl (Nat.le_of_ble_eq_true rfl) (by decide)
theorem r210_55 : pR X d 210 0 Q (55, L, [], mem, 0) = Q none mem := q_retv (by decide +kernel) rfl
theorem r211_0 : pR X d 211 0 Q (0, [some (.ref a)], st, mem, 0) = pR X d 211 0 Q (1, [some (.ref a)], .ref a :: st, mem, 0) := q_s (.ok (.aload_n 0, 1)) (by decide +kernel) rfl
theorem r211_1 : pR X d 211 0 Q (1, [some (.ref a)], st, mem, 0) = pR X d 211 0 Q (2, [some (.ref a)], .ref a :: st, mem, 0) := q_s (.ok (.aload_n 0, 1)) (by decide +kernel) rfl
theorem r211_2 : pR X d 211 0 Q (2, L, .ref a :: st, mem, 0) = gf mem a 5 13 (fun p => pR X d 211 0 Q (5, L, p :: st, mem, 0)) := q_get (ix := 234) (by decide +kernel) (by decide +kernel)
theorem r211_5 : pR X d 211 0 Q (5, L, .int x :: st, mem, 0) = ((0 ≤ x → pR X d 211 0 Q (15, L, st, mem, 0)) ∧ (¬ (0 ≤ x) → pR X d 211 0 Q (8, L, st, mem, 0))) := r_if (c := .ge) (off := 10) (by decide +kernel) (by decide)
theorem r211_8 : pR X d 211 0 Q (8, [some (.ref a)], st, mem, 0) = pR X d 211 0 Q (9, [some (.ref a)], .ref a :: st, mem, 0) := q_s (.ok (.aload_n 0, 1)) (by decide +kernel) rfl
theorem r211_9 : pR X d 211 0 Q (9, L, .ref a :: st, mem, 0) = gf mem a 5 11 (fun p => pR X d 211 0 Q (12, L, p :: st, mem, 0)) := q_get (ix := 210) (by decide +kernel) (by decide +kernel)
theorem r211_12 : pR X d 211 0 Q (12, L, st, mem, 0) = pR X d 211 0 Q (19, L, st, mem, 0) := q_s (.ok (.goto (7), 3)) (by decide +kernel) rfl
theorem r211_15 : pR X d 211 0 Q (15, [some (.ref a)], st, mem, 0) = pR X d 211 0 Q (16, [some (.ref a)], .ref a :: st, mem, 0) := q_s (.ok (.aload_n 0, 1)) (by decide +kernel) rfl
theorem r211_16 : pR X d 211 0 Q (16, L, .ref a :: st, mem, 0) = gf mem a 5 13 (fun p => pR X d 211 0 Q (19, L, p :: st, mem, 0)) := q_get (ix := 234) (by decide +kernel) (by decide +kernel)
theorem r211_19 : pR X d 211 0 Q (19, L, p :: .ref a :: st, mem, 0) = pf 211 mem a 5 13 p (fun mem => pR X d 211 0 Q (22, L, st, mem, 0)) := q_put (ix := 234) (by decide +kernel) (by decide +kernel) (by decide)
theorem r211_22 : pR X d 211 0 Q (22, L, [], mem, 0) = Q none mem := q_retv (by decide +kernel) rfl
theorem r212_0 : pR X d 212 0 Q (0, [some (.ref a), l1, l2, l3, l4, l5], st, mem, 0) = pR X d 212 0 Q (1, [some (.ref a), l1, l2, l3, l4, l5], .ref a :: st, mem, 0) := q_s (.ok (.aload_n 0, 1)) (by decide +kernel) rfl
theorem r212_1 : pR X d 212 0 Q (1, L, .ref a :: st, mem, 0) = gf mem a 5 13 (fun p => pR X d 212 0 Q (4, L, p :: st, mem, 0)) := q_get (ix := 234) (by decide +kernel) (by decide +kernel)
theorem r212_4 : pR X d 212 0 Q (4, L, .int x :: st, mem, 0) = ((0 ≤ x → pR X d 212 0 Q (47, L, st, mem, 0)) ∧ (¬ (0 ≤ x) → pR X d 212 0 Q (7, L, st, mem, 0))) := r_if (c := .ge) (off := 43) (by decide +kernel) (by decide)
theorem r212_7 : pR X d 212 0 Q (7, [some (.ref a), l1, l2, l3, l4, l5], st, mem, 0) = pR X d 212 0 Q (8, [some (.ref a), l1, l2, l3, l4, l5], .ref a :: st, mem, 0) := q_s (.ok (.aload_n 0, 1)) (by decide +kernel) rfl
theorem r212_8 : pR X d 212 0 Q (8, [l0, some (.long v), l2, l3, l4, l5], st, mem, 0) = pR X d 212 0 Q (9, [l0, some (.long v), l2, l3, l4, l5], .long v :: st, mem, 0) := q_s (.ok (.lload_n 1, 1)) (by decide +kernel) rfl
theorem r212_9 : pR X d 212 0 Q (9, L, .long v0 :: .ref a :: [], mem, 0) = (prcv mem 5 a ∧ Cw X d 209 [.ref a, .long v0] mem (fun r mem => pR X d 212 0 Q (12, L, r.toList ++ [], mem, 0))) := q_virt (ix := 239) (y2 := 209) (as := [.long v0]) (by decide +kernel) (by decide +kernel) rfl rfl rfl (Nat.le_of_ble_eq_true rfl) (by decide)
theorem r212_12 : pR X d 212 0 Q (12, L, .int x :: st, mem, 0) = ((x = 0 → pR X d 212 0 Q (47, L, st, mem, 0)) ∧ (¬ (x = 0) → pR X d 212 0 Q (15, L, st, mem, 0))) := r_if (c := .eq) (off := 35) (by decide +kernel) (by decide)
theorem r212_15 : pR X d 212 0 Q (15, [some (.ref a), l1, l2, l3, l4, l5], st, mem, 0) = pR X d 212 0 Q (16, [some (.ref a), l1, l2, l3, l4, l5], .ref a :: st, mem, 0) := q_s (.ok (.aload_n 0, 1)) (by decide +kernel) rfl
theorem r212_16 : pR X d 212 0 Q (16, L, .ref a :: [], mem, 0) = (prcv mem 5 a ∧ Cw X d 203 [.ref a] mem (fun r mem => pR X d 212 0 Q (19, L, r.toList ++ [], mem, 0))) := q_virt (ix := 258) (y2 := 203) (as := []) (by decide +kernel) (by decide +kernel) rfl rfl rfl (Nat.le_of_ble_eq_true rfl) (by decide)
theorem r212_19 : pR X d 212 0 Q (19, [some (.ref a), l1, l2, l3, l4, l5], st, mem, 0) = pR X d 212 0 Q (20, [some (.ref a), l1, l2, l3, l4, l5], .ref a :: st, mem, 0) := q_s (.ok (.aload_n 0, 1)) (by decide +kernel) rfl
theorem r212_20 : pR X d 212 0 Q (20, L, st, mem, 0) = pR X d 212 0 Q (21, L, .int (iI (0)) :: st, mem, 0) := q_ic (by decide +kernel)
theorem r212_21 : pR X d 212 0 Q (21, [l0, l1, l2, l3, some (.int x), l5], st, mem, 0) = pR X d 212 0 Q (23, [l0, l1, l2, l3, some (.int x), l5], .int x :: st, mem, 0) := q_s (.ok (.iload 4, 2)) (by decide +kernel) rfl
theorem r212_23 : pR X d 212 0 Q (23, L, .int y0 :: [.int k0, .ref c1], mem, 0) = Cw X d 152 [.int y0] mem (fun r mem => pR X d 212 0 Q (26, L, r.toList ++ [.int k0, .ref c1], mem, 0)) := q_stat (ix := 127) (kd := 1) (y2 := 152) (as := [.int y0]) (by decide +kernel) (by decide +kernel) (by decide) rfl rfl rfl (Nat.le_of_ble_eq_true rfl) (by decide)
theorem r212_26 : pR X d 212 0 Q (26, L, .int y1 :: .int y0 :: .ref a :: [], mem, 0) = (prcv mem 5 a ∧ Cw X d 213 [.ref a, .int y0, .int y1] mem (fun r mem => pR X d 212 0 Q (29, L, r.toList ++ [], mem, 0))) := q_virt (ix := 261) (y2 := 213) (as := [.int y1, .int y0]) (by decide +kernel) (by decide +kernel) rfl rfl rfl (Nat.le_of_ble_eq_true rfl) (by decide)
theorem r212_29 : pR X d 212 0 Q (29, [l0, l1, l2, l3, l4, l5], .int x :: st, mem, 0) = pR X d 212 0 Q (31, [l0, l1, l2, l3, cl1 l4, some (.int x)], st, mem, 0) := q_s (.ok (.istore 5, 2)) (by decide +kernel) rfl
theorem r212_31 : pR X d 212 0 Q (31, [some (.ref a), l1, l2, l3, l4, l5], st, mem, 0) = pR X d 212 0 Q (32, [some (.ref a), l1, l2, l3, l4, l5], .ref a :: st, mem, 0) := q_s (.ok (.aload_n 0, 1)) (by decide +kernel) rfl
theorem r212_32 : pR X d 212 0 Q (32, L, .ref a :: st, mem, 0) = gf mem a 5 13 (fun p => pR X d 212 0 Q (35, L, p :: st, mem, 0)) := q_get (ix := 234) (by decide +kernel) (by decide +kernel)
theorem r212_35 : pR X d 212 0 Q (35, L, .int x :: st, mem, 0) = ((0 ≤ x → pR X d 212 0 Q (47, L, st, mem, 0)) ∧ (¬ (0 ≤ x) → pR X d 212 0 Q (38, L, st, mem, 0))) := r_if (c := .ge) (off := 12) (by decide +kernel) (by decide)
theorem r212_38 : pR X d 212 0 Q (38, [some (.ref a), l1, l2, l3, l4, l5], st, mem, 0) = pR X d 212 0 Q (39, [some (.ref a), l1, l2, l3, l4, l5], .ref a :: st, mem, 0) := q_s (.ok (.aload_n 0, 1)) (by decide +kernel) rfl
theorem r212_39 : pR X d 212 0 Q (39, [l0, l1, l2, some (.int x), l4, l5], st, mem, 0) = pR X d 212 0 Q (40, [l0, l1, l2, some (.int x), l4, l5], .int x :: st, mem, 0) := q_s (.ok (.iload_n 3, 1)) (by decide +kernel) rfl
theorem r212_40 : pR X d 212 0 Q (40, [l0, l1, l2, l3, some (.int x), l5], st, mem, 0) = pR X d 212 0 Q (42, [l0, l1, l2, l3, some (.int x), l5], .int x :: st, mem, 0) := q_s (.ok (.iload 4, 2)) (by decide +kernel) rfl
theorem r212_42 : pR X d 212 0 Q (42, [l0, l1, l2, l3, l4, some (.int x)], st, mem, 0) = pR X d 212 0 Q (44, [l0, l1, l2, l3, l4, some (.int x)], .int x :: st, mem, 0) := q_s (.ok (.iload 5, 2)) (by decide +kernel) rfl
theorem r212_44 : pR X d 212 0 Q (44, L, .int y2 :: .int y1 :: .int y0 :: .ref a :: [], mem, 0) = (prcv mem 5 a ∧ Cw X d 144 [.ref a, .int y0, .int y1, .int y2] mem (fun r mem => pR X d 212 0 Q (47, L, r.toList ++ [], mem, 0))) := q_virt (ix := 58) (y2 := 144) (as := [.int y2, .int y1, .int y0]) (by decide +kernel) (by decide +kernel) rfl rfl rfl (Nat.le_of_ble_eq_true rfl) (by decide)
theorem r212_47 : pR X d 212 0 Q (47, L, [], mem, 0) = Q none mem := q_retv (by decide +kernel) rfl
theorem r213_0 : pR X d 213 0 Q (0, [some (.ref a), l1, l2, l3], st, mem, 0) = pR X d 213 0 Q (1, [some (.ref a), l1, l2, l3], .ref a :: st, mem, 0) := q_s (.ok (.aload_n 0, 1)) (by decide +kernel) rfl
theorem r213_1 : pR X d 213 0 Q (1, L, .ref a :: st, mem, 0) = gf mem a 5 12 (fun p => pR X d 213 0 Q (4, L, p :: st, mem, 0)) := q_get (ix := 213) (by decide +kernel) (by decide +kernel)
theorem r213_4 : pR X d 213 0 Q (4, L, .long v :: st, mem, 0) = pR X d 213 0 Q (5, L, .int v.toInt32 :: st, mem, 0) := q_s (.ok (.l2i, 1)) (by decide +kernel) rfl
theorem r213_5 : pR X d 213 0 Q (5, [l0, l1, l2, l3], .int x :: st, mem, 0) = pR X d 213 0 Q (6, [l0, l1, cl1 l2, some (.int x)], st, mem, 0) := q_s (.ok (.istore_n 3, 1)) (by decide +kernel) rfl
theorem r213_6 : pR X d 213 0 Q (6, [some (.ref a), l1, l2, l3], st, mem, 0) = pR X d 213 0 Q (7, [some (.ref a), l1, l2, l3], .ref a :: st, mem, 0) := q_s (.ok (.aload_n 0, 1)) (by decide +kernel) rfl
theorem r213_7 : pR X d 213 0 Q (7, L, .ref a :: st, mem, 0) = gf mem a 5 10 (fun p => pR X d 213 0 Q (10, L, p :: st, mem, 0)) := q_get (ix := 217) (by decide +kernel) (by decide +kernel)
theorem r213_10 : pR X d 213 0 Q (10, L, st, mem, 0) = pR X d 213 0 Q (11, L, .int (iI (2)) :: st, mem, 0) := q_ic (by decide +kernel)
theorem r213_11 : pR X d 213 0 Q (11, L, .int z :: .int x :: st, mem, 0) = ((¬ x = z → pR X d 213 0 Q (28, L, st, mem, 0)) ∧ (¬ (¬ x = z) → pR X d 213 0 Q (14, L, st, mem, 0))) := r_ic (c := .ne) (off := 17) (by decide +kernel) (by decide)
theorem r213_14 : pR X d 213 0 Q (14, [some (.ref a), l1, l2, l3], st, mem, 0) = pR X d 213 0 Q (15, [some (.ref a), l1, l2, l3], .ref a :: st, mem, 0) := q_s (.ok (.aload_n 0, 1)) (by decide +kernel) rfl
theorem r213_15 : pR X d 213 0 Q (15, L, .ref a :: st, mem, 0) = gf mem a 5 12 (fun p => pR X d 213 0 Q (18, L, p :: st, mem, 0)) := q_get (ix := 213) (by decide +kernel) (by decide +kernel)
theorem r213_18 : pR X d 213 0 Q (18, [l0, some (.int x), l2, l3], st, mem, 0) = pR X d 213 0 Q (19, [l0, some (.int x), l2, l3], .int x :: st, mem, 0) := q_s (.ok (.iload_n 1, 1)) (by decide +kernel) rfl
theorem r213_19 : pR X d 213 0 Q (19, L, .int x :: st, mem, 0) = pR X d 213 0 Q (20, L, .long x.toInt64 :: st, mem, 0) := q_s (.ok (.i2l, 1)) (by decide +kernel) rfl
theorem r213_20 : pR X d 213 0 Q (20, [l0, l1, some (.int x), l3], st, mem, 0) = pR X d 213 0 Q (21, [l0, l1, some (.int x), l3], .int x :: st, mem, 0) := q_s (.ok (.iload_n 2, 1)) (by decide +kernel) rfl
theorem r213_21 : pR X d 213 0 Q (21, L, .int x :: st, mem, 0) = pR X d 213 0 Q (22, L, .long x.toInt64 :: st, mem, 0) := q_s (.ok (.i2l, 1)) (by decide +kernel) rfl
theorem r213_22 : pR X d 213 0 Q (22, L, .long v2 :: .long v1 :: .long v0 :: [], mem, 0) = Cw X d 135 [.long v0, .long v1, .long v2] mem (fun r mem => pR X d 213 0 Q (25, L, r.toList ++ [], mem, 0)) := q_stat (ix := 42) (kd := 1) (y2 := 135) (as := [.long v2, .long v1, .long v0]) (by decide +kernel) (by decide +kernel) (by decide) rfl rfl rfl (Nat.le_of_ble_eq_true rfl) (by decide)
theorem r213_25 : pR X d 213 0 Q (25, L, .int x :: st, mem, 0) = ((¬ x = 0 → pR X d 213 0 Q (34, L, st, mem, 0)) ∧ (¬ (¬ x = 0) → pR X d 213 0 Q (28, L, st, mem, 0))) := r_if (c := .ne) (off := 9) (by decide +kernel) (by decide)
theorem r213_28 : pR X d 213 0 Q (28, [some (.ref a), l1, l2, l3], st, mem, 0) = pR X d 213 0 Q (29, [some (.ref a), l1, l2, l3], .ref a :: st, mem, 0) := q_s (.ok (.aload_n 0, 1)) (by decide +kernel) rfl
theorem r213_29 : pR X d 213 0 Q (29, L, .ref a :: [], mem, 0) = (prcv mem 5 a ∧ Cw X d 211 [.ref a] mem (fun r mem => pR X d 213 0 Q (32, L, r.toList ++ [], mem, 0))) := q_virt (ix := 255) (y2 := 211) (as := []) (by decide +kernel) (by decide +kernel) rfl rfl rfl (Nat.le_of_ble_eq_true rfl) (by decide)
theorem r213_32 : pR X d 213 0 Q (32, L, st, mem, 0) = pR X d 213 0 Q (33, L, .int (iI (0)) :: st, mem, 0) := q_ic (by decide +kernel)
theorem r213_33 : pR X d 213 0 Q (33, L, [.int x], mem, 0) = Q (some (.int x)) mem := q_reti (by decide +kernel) rfl
theorem r213_34 : pR X d 213 0 Q (34, [some (.ref a), l1, l2, l3], st, mem, 0) = pR X d 213 0 Q (35, [some (.ref a), l1, l2, l3], .ref a :: st, mem, 0) := q_s (.ok (.aload_n 0, 1)) (by decide +kernel) rfl
theorem r213_35 : pR X d 213 0 Q (35, L, .ref a :: [], mem, 0) = (prcv mem 5 a ∧ Cw X d 203 [.ref a] mem (fun r mem => pR X d 213 0 Q (38, L, r.toList ++ [], mem, 0))) := q_virt (ix := 258) (y2 := 203) (as := []) (by decide +kernel) (by decide +kernel) rfl rfl rfl (Nat.le_of_ble_eq_true rfl) (by decide)
theorem r213_38 : pR X d 213 0 Q (38, [l0, l1, l2, some (.int x)], st, mem, 0) = pR X d 213 0 Q (39, [l0, l1, l2, some (.int x)], .int x :: st, mem, 0) := q_s (.ok (.iload_n 3, 1)) (by decide +kernel) rfl
theorem r213_39 : pR X d 213 0 Q (39, L, [.int x], mem, 0) = Q (some (.int x)) mem := q_reti (by decide +kernel) rfl
theorem r214_0 : pR X d 214 0 Q (0, [some (.ref a), l1, l2, l3, l4], st, mem, 0) = pR X d 214 0 Q (1, [some (.ref a), l1, l2, l3, l4], .ref a :: st, mem, 0) := q_s (.ok (.aload_n 0, 1)) (by decide +kernel) rfl
theorem r214_1 : pR X d 214 0 Q (1, L, .ref a :: [], mem, 0) = (prcv mem 5 a ∧ Cw X d 203 [.ref a] mem (fun r mem => pR X d 214 0 Q (4, L, r.toList ++ [], mem, 0))) := q_virt (ix := 258) (y2 := 203) (as := []) (by decide +kernel) (by decide +kernel) rfl rfl rfl (Nat.le_of_ble_eq_true rfl) (by decide)
theorem r214_4 : pR X d 214 0 Q (4, [some (.ref a), l1, l2, l3, l4], st, mem, 0) = pR X d 214 0 Q (5, [some (.ref a), l1, l2, l3, l4], .ref a :: st, mem, 0) := q_s (.ok (.aload_n 0, 1)) (by decide +kernel) rfl
theorem r214_5 : pR X d 214 0 Q (5, L, st, mem, 0) = pR X d 214 0 Q (6, L, .int (iI (0)) :: st, mem, 0) := q_ic (by decide +kernel)
theorem r214_6 : pR X d 214 0 Q (6, L, st, mem, 0) = pR X d 214 0 Q (7, L, .int (iI (5)) :: st, mem, 0) := q_ic (by decide +kernel)
theorem r214_7 : pR X d 214 0 Q (7, L, .int y1 :: .int y0 :: .ref a :: [], mem, 0) = (prcv mem 5 a ∧ Cw X d 213 [.ref a, .int y0, .int y1] mem (fun r mem => pR X d 214 0 Q (10, L, r.toList ++ [], mem, 0))) := q_virt (ix := 261) (y2 := 213) (as := [.int y1, .int y0]) (by decide +kernel) (by decide +kernel) rfl rfl rfl (Nat.le_of_ble_eq_true rfl) (by decide)
theorem r214_10 : pR X d 214 0 Q (10, [l0, l1, l2, l3, l4], .int x :: st, mem, 0) = pR X d 214 0 Q (11, [cl1 l0, some (.int x), l2, l3, l4], st, mem, 0) := q_s (.ok (.istore_n 1, 1)) (by decide +kernel) rfl
theorem r214_11 : pR X d 214 0 Q (11, [some (.ref a), l1, l2, l3, l4], st, mem, 0) = pR X d 214 0 Q (12, [some (.ref a), l1, l2, l3, l4], .ref a :: st, mem, 0) := q_s (.ok (.aload_n 0, 1)) (by decide +kernel) rfl
theorem r214_12 : pR X d 214 0 Q (12, L, .ref a :: st, mem, 0) = gf mem a 5 13 (fun p => pR X d 214 0 Q (15, L, p :: st, mem, 0)) := q_get (ix := 234) (by decide +kernel) (by decide +kernel)
theorem r214_15 : pR X d 214 0 Q (15, L, .int x :: st, mem, 0) = ((0 ≤ x → pR X d 214 0 Q (28, L, st, mem, 0)) ∧ (¬ (0 ≤ x) → pR X d 214 0 Q (18, L, st, mem, 0))) := r_if (c := .ge) (off := 13) (by decide +kernel) (by decide)
theorem r214_18 : pR X d 214 0 Q (18, [some (.ref a), l1, l2, l3, l4], st, mem, 0) = pR X d 214 0 Q (19, [some (.ref a), l1, l2, l3, l4], .ref a :: st, mem, 0) := q_s (.ok (.aload_n 0, 1)) (by decide +kernel) rfl
theorem r214_19 : pR X d 214 0 Q (19, L, st, mem, 0) = pR X d 214 0 Q (20, L, .int (iI (0)) :: st, mem, 0) := q_ic (by decide +kernel)
theorem r214_20 : pR X d 214 0 Q (20, L, st, mem, 0) = pR X d 214 0 Q (22, L, .int (iI (7)) :: st, mem, 0) := q_bi (n := 7) (by decide +kernel) (by decide +kernel)
theorem r214_22 : pR X d 214 0 Q (22, L, .int y1 :: .int y0 :: .ref a :: [], mem, 0) = (prcv mem 5 a ∧ Cw X d 213 [.ref a, .int y0, .int y1] mem (fun r mem => pR X d 214 0 Q (25, L, r.toList ++ [], mem, 0))) := q_virt (ix := 261) (y2 := 213) (as := [.int y1, .int y0]) (by decide +kernel) (by decide +kernel) rfl rfl rfl (Nat.le_of_ble_eq_true rfl) (by decide)
theorem r214_25 : pR X d 214 0 Q (25, L, st, mem, 0) = pR X d 214 0 Q (29, L, st, mem, 0) := q_s (.ok (.goto (4), 3)) (by decide +kernel) rfl
theorem r214_28 : pR X d 214 0 Q (28, L, st, mem, 0) = pR X d 214 0 Q (29, L, .int (iI (0)) :: st, mem, 0) := q_ic (by decide +kernel)
theorem r214_29 : pR X d 214 0 Q (29, [l0, l1, l2, l3, l4], .int x :: st, mem, 0) = pR X d 214 0 Q (30, [l0, cl1 l1, some (.int x), l3, l4], st, mem, 0) := q_s (.ok (.istore_n 2, 1)) (by decide +kernel) rfl
theorem r214_30 : pR X d 214 0 Q (30, [some (.ref a), l1, l2, l3, l4], st, mem, 0) = pR X d 214 0 Q (31, [some (.ref a), l1, l2, l3, l4], .ref a :: st, mem, 0) := q_s (.ok (.aload_n 0, 1)) (by decide +kernel) rfl
theorem r214_31 : pR X d 214 0 Q (31, L, .ref a :: st, mem, 0) = gf mem a 5 13 (fun p => pR X d 214 0 Q (34, L, p :: st, mem, 0)) := q_get (ix := 234) (by decide +kernel) (by decide +kernel)
theorem r214_34 : pR X d 214 0 Q (34, L, .int x :: st, mem, 0) = ((0 ≤ x → pR X d 214 0 Q (47, L, st, mem, 0)) ∧ (¬ (0 ≤ x) → pR X d 214 0 Q (37, L, st, mem, 0))) := r_if (c := .ge) (off := 13) (by decide +kernel) (by decide)
theorem r214_37 : pR X d 214 0 Q (37, [some (.ref a), l1, l2, l3, l4], st, mem, 0) = pR X d 214 0 Q (38, [some (.ref a), l1, l2, l3, l4], .ref a :: st, mem, 0) := q_s (.ok (.aload_n 0, 1)) (by decide +kernel) rfl
theorem r214_38 : pR X d 214 0 Q (38, L, st, mem, 0) = pR X d 214 0 Q (39, L, .int (iI (0)) :: st, mem, 0) := q_ic (by decide +kernel)
theorem r214_39 : pR X d 214 0 Q (39, L, st, mem, 0) = pR X d 214 0 Q (41, L, .int (iI (7)) :: st, mem, 0) := q_bi (n := 7) (by decide +kernel) (by decide +kernel)
theorem r214_41 : pR X d 214 0 Q (41, L, .int y1 :: .int y0 :: .ref a :: [], mem, 0) = (prcv mem 5 a ∧ Cw X d 213 [.ref a, .int y0, .int y1] mem (fun r mem => pR X d 214 0 Q (44, L, r.toList ++ [], mem, 0))) := q_virt (ix := 261) (y2 := 213) (as := [.int y1, .int y0]) (by decide +kernel) (by decide +kernel) rfl rfl rfl (Nat.le_of_ble_eq_true rfl) (by decide)
theorem r214_44 : pR X d 214 0 Q (44, L, st, mem, 0) = pR X d 214 0 Q (48, L, st, mem, 0) := q_s (.ok (.goto (4), 3)) (by decide +kernel) rfl
theorem r214_47 : pR X d 214 0 Q (47, L, st, mem, 0) = pR X d 214 0 Q (48, L, .int (iI (0)) :: st, mem, 0) := q_ic (by decide +kernel)
theorem r214_48 : pR X d 214 0 Q (48, [l0, l1, l2, l3, l4], .int x :: st, mem, 0) = pR X d 214 0 Q (49, [l0, l1, cl1 l2, some (.int x), l4], st, mem, 0) := q_s (.ok (.istore_n 3, 1)) (by decide +kernel) rfl
theorem r214_49 : pR X d 214 0 Q (49, [some (.ref a), l1, l2, l3, l4], st, mem, 0) = pR X d 214 0 Q (50, [some (.ref a), l1, l2, l3, l4], .ref a :: st, mem, 0) := q_s (.ok (.aload_n 0, 1)) (by decide +kernel) rfl
theorem r214_50 : pR X d 214 0 Q (50, L, .ref a :: st, mem, 0) = gf mem a 5 13 (fun p => pR X d 214 0 Q (53, L, p :: st, mem, 0)) := q_get (ix := 234) (by decide +kernel) (by decide +kernel)
theorem r214_53 : pR X d 214 0 Q (53, L, .int x :: st, mem, 0) = ((0 ≤ x → pR X d 214 0 Q (66, L, st, mem, 0)) ∧ (¬ (0 ≤ x) → pR X d 214 0 Q (56, L, st, mem, 0))) := r_if (c := .ge) (off := 13) (by decide +kernel) (by decide)
theorem r214_56 : pR X d 214 0 Q (56, [some (.ref a), l1, l2, l3, l4], st, mem, 0) = pR X d 214 0 Q (57, [some (.ref a), l1, l2, l3, l4], .ref a :: st, mem, 0) := q_s (.ok (.aload_n 0, 1)) (by decide +kernel) rfl
theorem r214_57 : pR X d 214 0 Q (57, L, st, mem, 0) = pR X d 214 0 Q (58, L, .int (iI (0)) :: st, mem, 0) := q_ic (by decide +kernel)
theorem r214_58 : pR X d 214 0 Q (58, L, st, mem, 0) = pR X d 214 0 Q (60, L, .int (iI (99)) :: st, mem, 0) := q_bi (n := 99) (by decide +kernel) (by decide +kernel)
theorem r214_60 : pR X d 214 0 Q (60, L, .int y1 :: .int y0 :: .ref a :: [], mem, 0) = (prcv mem 5 a ∧ Cw X d 213 [.ref a, .int y0, .int y1] mem (fun r mem => pR X d 214 0 Q (63, L, r.toList ++ [], mem, 0))) := q_virt (ix := 261) (y2 := 213) (as := [.int y1, .int y0]) (by decide +kernel) (by decide +kernel) rfl rfl rfl (Nat.le_of_ble_eq_true rfl) (by decide)
theorem r214_63 : pR X d 214 0 Q (63, L, st, mem, 0) = pR X d 214 0 Q (67, L, st, mem, 0) := q_s (.ok (.goto (4), 3)) (by decide +kernel) rfl
theorem r214_66 : pR X d 214 0 Q (66, L, st, mem, 0) = pR X d 214 0 Q (67, L, .int (iI (0)) :: st, mem, 0) := q_ic (by decide +kernel)
theorem r214_67 : pR X d 214 0 Q (67, [l0, l1, l2, l3, l4], .int x :: st, mem, 0) = pR X d 214 0 Q (69, [l0, l1, l2, cl1 l3, some (.int x)], st, mem, 0) := q_s (.ok (.istore 4, 2)) (by decide +kernel) rfl
theorem r214_69 : pR X d 214 0 Q (69, [some (.ref a), l1, l2, l3, l4], st, mem, 0) = pR X d 214 0 Q (70, [some (.ref a), l1, l2, l3, l4], .ref a :: st, mem, 0) := q_s (.ok (.aload_n 0, 1)) (by decide +kernel) rfl
theorem r214_70 : pR X d 214 0 Q (70, L, .ref a :: st, mem, 0) = gf mem a 5 13 (fun p => pR X d 214 0 Q (73, L, p :: st, mem, 0)) := q_get (ix := 234) (by decide +kernel) (by decide +kernel)
theorem r214_73 : pR X d 214 0 Q (73, L, .int x :: st, mem, 0) = ((0 ≤ x → pR X d 214 0 Q (97, L, st, mem, 0)) ∧ (¬ (0 ≤ x) → pR X d 214 0 Q (76, L, st, mem, 0))) := r_if (c := .ge) (off := 24) (by decide +kernel) (by decide)
theorem r214_76 : pR X d 214 0 Q (76, [some (.ref a), l1, l2, l3, l4], st, mem, 0) = pR X d 214 0 Q (77, [some (.ref a), l1, l2, l3, l4], .ref a :: st, mem, 0) := q_s (.ok (.aload_n 0, 1)) (by decide +kernel) rfl
theorem r214_77 : pR X d 214 0 Q (77, L, .ref a :: st, mem, 0) = gf mem a 5 0 (fun p => pR X d 214 0 Q (80, L, p :: st, mem, 0)) := q_get (ix := 7) (by decide +kernel) (by decide +kernel)
theorem r214_80 : pR X d 214 0 Q (80, L, st, mem, 0) = pR X d 214 0 Q (81, L, .int (iI (5)) :: st, mem, 0) := q_ic (by decide +kernel)
theorem r214_81 : pR X d 214 0 Q (81, [l0, some (.int x), l2, l3, l4], st, mem, 0) = pR X d 214 0 Q (82, [l0, some (.int x), l2, l3, l4], .int x :: st, mem, 0) := q_s (.ok (.iload_n 1, 1)) (by decide +kernel) rfl
theorem r214_82 : pR X d 214 0 Q (82, L, .int z :: .int x :: st, mem, 0) = pR X d 214 0 Q (83, L, .int (x + z) :: st, mem, 0) := q_s (.ok (.iadd, 1)) (by decide +kernel) rfl
theorem r214_83 : pR X d 214 0 Q (83, L, st, mem, 0) = pR X d 214 0 Q (86, L, .int (iI (1000)) :: st, mem, 0) := q_si (n := 1000) (by decide +kernel) (by decide +kernel)
theorem r214_86 : pR X d 214 0 Q (86, [l0, l1, some (.int x), l3, l4], st, mem, 0) = pR X d 214 0 Q (87, [l0, l1, some (.int x), l3, l4], .int x :: st, mem, 0) := q_s (.ok (.iload_n 2, 1)) (by decide +kernel) rfl
theorem r214_87 : pR X d 214 0 Q (87, L, .int z :: .int x :: st, mem, 0) = pR X d 214 0 Q (88, L, .int (x * z) :: st, mem, 0) := q_s (.ok (.imul, 1)) (by decide +kernel) rfl
theorem r214_88 : pR X d 214 0 Q (88, L, st, mem, 0) = pR X d 214 0 Q (90, L, .int (iI (100)) :: st, mem, 0) := q_bi (n := 100) (by decide +kernel) (by decide +kernel)
theorem r214_90 : pR X d 214 0 Q (90, [l0, l1, l2, some (.int x), l4], st, mem, 0) = pR X d 214 0 Q (91, [l0, l1, l2, some (.int x), l4], .int x :: st, mem, 0) := q_s (.ok (.iload_n 3, 1)) (by decide +kernel) rfl
theorem r214_91 : pR X d 214 0 Q (91, L, .int z :: .int x :: st, mem, 0) = pR X d 214 0 Q (92, L, .int (x * z) :: st, mem, 0) := q_s (.ok (.imul, 1)) (by decide +kernel) rfl
theorem r214_92 : pR X d 214 0 Q (92, L, .int z :: .int x :: st, mem, 0) = pR X d 214 0 Q (93, L, .int (x + z) :: st, mem, 0) := q_s (.ok (.iadd, 1)) (by decide +kernel) rfl
theorem r214_93 : pR X d 214 0 Q (93, [l0, l1, l2, l3, some (.int x)], st, mem, 0) = pR X d 214 0 Q (95, [l0, l1, l2, l3, some (.int x)], .int x :: st, mem, 0) := q_s (.ok (.iload 4, 2)) (by decide +kernel) rfl
theorem r214_95 : pR X d 214 0 Q (95, L, .int z :: .int x :: st, mem, 0) = pR X d 214 0 Q (96, L, .int (x + z) :: st, mem, 0) := q_s (.ok (.iadd, 1)) (by decide +kernel) rfl
theorem r214_96 : pR X d 214 0 Q (96, L, .int z :: .int x :: .ref a :: st, mem, 0) = wi mem a x z (fun mem => pR X d 214 0 Q (97, L, st, mem, 0)) := q_wi (by decide +kernel)
theorem r214_97 : pR X d 214 0 Q (97, L, [], mem, 0) = Q none mem := q_retv (by decide +kernel) rfl
theorem r215_0 : pR X d 215 0 Q (0, [l0, some (.int x), l2], st, mem, 0) = pR X d 215 0 Q (1, [l0, some (.int x), l2], .int x :: st, mem, 0) := q_s (.ok (.iload_n 1, 1)) (by decide +kernel) rfl
theorem r215_1 : pR X d 215 0 Q (1, L, .int x :: st, mem, 0) = pR X d 215 0 Q (2, L, .long x.toInt64 :: st, mem, 0) := q_s (.ok (.i2l, 1)) (by decide +kernel) rfl
theorem r215_2 : pR X d 215 0 Q (2, L, st, mem, 0) = pR X d 215 0 Q (3, L, .long (lI (0)) :: st, mem, 0) := q_lc (n := 0) (by decide +kernel) (by decide +kernel)
theorem r215_3 : pR X d 215 0 Q (3, L, st, mem, 0) = pR X d 215 0 Q (6, L, .long (lI (9)) :: st, mem, 0) := q_ldc2 (k := 194) (by decide +kernel) (by decide +kernel)
theorem r215_6 : pR X d 215 0 Q (6, L, .long v2 :: .long v1 :: .long v0 :: [], mem, 0) = Cw X d 135 [.long v0, .long v1, .long v2] mem (fun r mem => pR X d 215 0 Q (9, L, r.toList ++ [], mem, 0)) := q_stat (ix := 42) (kd := 1) (y2 := 135) (as := [.long v2, .long v1, .long v0]) (by decide +kernel) (by decide +kernel) (by decide) rfl rfl rfl (Nat.le_of_ble_eq_true rfl) (by decide)
theorem r215_9 : pR X d 215 0 Q (9, L, .int x :: st, mem, 0) = ((x = 0 → pR X d 215 0 Q (32, L, st, mem, 0)) ∧ (¬ (x = 0) → pR X d 215 0 Q (12, L, st, mem, 0))) := r_if (c := .eq) (off := 23) (by decide +kernel) (by decide)
theorem r215_12 : pR X d 215 0 Q (12, [l0, l1, some (.int x)], st, mem, 0) = pR X d 215 0 Q (13, [l0, l1, some (.int x)], .int x :: st, mem, 0) := q_s (.ok (.iload_n 2, 1)) (by decide +kernel) rfl
theorem r215_13 : pR X d 215 0 Q (13, L, .int x :: st, mem, 0) = pR X d 215 0 Q (14, L, .long x.toInt64 :: st, mem, 0) := q_s (.ok (.i2l, 1)) (by decide +kernel) rfl
theorem r215_14 : pR X d 215 0 Q (14, L, st, mem, 0) = pR X d 215 0 Q (17, L, .long (lI (-1)) :: st, mem, 0) := q_ldc2 (k := 293) (by decide +kernel) (by decide +kernel)
theorem r215_17 : pR X d 215 0 Q (17, [some (.ref a), l1, l2], st, mem, 0) = pR X d 215 0 Q (18, [some (.ref a), l1, l2], .ref a :: st, mem, 0) := q_s (.ok (.aload_n 0, 1)) (by decide +kernel) rfl
theorem r215_18 : pR X d 215 0 Q (18, L, .ref a :: st, mem, 0) = gf mem a 5 0 (fun p => pR X d 215 0 Q (21, L, p :: st, mem, 0)) := q_get (ix := 7) (by decide +kernel) (by decide +kernel)
theorem r215_21 : pR X d 215 0 Q (21, L, st, mem, 0) = pR X d 215 0 Q (22, L, .int (iI (0)) :: st, mem, 0) := q_ic (by decide +kernel)
theorem r215_22 : pR X d 215 0 Q (22, L, .int x :: .ref a :: st, mem, 0) = ri X mem a x (fun z => pR X d 215 0 Q (23, L, .int z :: st, mem, 0)) := q_ri (by decide +kernel)
theorem r215_23 : pR X d 215 0 Q (23, L, st, mem, 0) = pR X d 215 0 Q (24, L, .int (iI (1)) :: st, mem, 0) := q_ic (by decide +kernel)
theorem r215_24 : pR X d 215 0 Q (24, L, .int z :: .int x :: st, mem, 0) = pR X d 215 0 Q (25, L, .int (x - z) :: st, mem, 0) := q_s (.ok (.isub, 1)) (by decide +kernel) rfl
theorem r215_25 : pR X d 215 0 Q (25, L, .int x :: st, mem, 0) = pR X d 215 0 Q (26, L, .long x.toInt64 :: st, mem, 0) := q_s (.ok (.i2l, 1)) (by decide +kernel) rfl
theorem r215_26 : pR X d 215 0 Q (26, L, .long v2 :: .long v1 :: .long v0 :: [], mem, 0) = Cw X d 135 [.long v0, .long v1, .long v2] mem (fun r mem => pR X d 215 0 Q (29, L, r.toList ++ [], mem, 0)) := q_stat (ix := 42) (kd := 1) (y2 := 135) (as := [.long v2, .long v1, .long v0]) (by decide +kernel) (by decide +kernel) (by decide) rfl rfl rfl (Nat.le_of_ble_eq_true rfl) (by decide)
theorem r215_29 : pR X d 215 0 Q (29, L, .int x :: st, mem, 0) = ((¬ x = 0 → pR X d 215 0 Q (38, L, st, mem, 0)) ∧ (¬ (¬ x = 0) → pR X d 215 0 Q (32, L, st, mem, 0))) := r_if (c := .ne) (off := 9) (by decide +kernel) (by decide)
theorem r215_32 : pR X d 215 0 Q (32, [some (.ref a), l1, l2], st, mem, 0) = pR X d 215 0 Q (33, [some (.ref a), l1, l2], .ref a :: st, mem, 0) := q_s (.ok (.aload_n 0, 1)) (by decide +kernel) rfl
theorem r215_33 : pR X d 215 0 Q (33, L, st, mem, 0) = pR X d 215 0 Q (34, L, .int (iI (0)) :: st, mem, 0) := q_ic (by decide +kernel)
theorem r215_34 : pR X d 215 0 Q (34, L, .int y0 :: .ref a :: [], mem, 0) = (prcv mem 5 a ∧ Cw X d 137 [.ref a, .int y0] mem (fun r mem => pR X d 215 0 Q (37, L, r.toList ++ [], mem, 0))) := q_virt (ix := 106) (y2 := 137) (as := [.int y0]) (by decide +kernel) (by decide +kernel) rfl rfl rfl (Nat.le_of_ble_eq_true rfl) (by decide)
theorem r215_37 : pR X d 215 0 Q (37, L, [.int x], mem, 0) = Q (some (.int x)) mem := q_reti (by decide +kernel) rfl
theorem r215_38 : pR X d 215 0 Q (38, [some (.ref a), l1, l2], st, mem, 0) = pR X d 215 0 Q (39, [some (.ref a), l1, l2], .ref a :: st, mem, 0) := q_s (.ok (.aload_n 0, 1)) (by decide +kernel) rfl
theorem r215_39 : pR X d 215 0 Q (39, L, .ref a :: st, mem, 0) = gf mem a 5 0 (fun p => pR X d 215 0 Q (42, L, p :: st, mem, 0)) := q_get (ix := 7) (by decide +kernel) (by decide +kernel)
theorem r215_42 : pR X d 215 0 Q (42, L, st, mem, 0) = pR X d 215 0 Q (44, L, .int (iI (59)) :: st, mem, 0) := q_bi (n := 59) (by decide +kernel) (by decide +kernel)
theorem r215_44 : pR X d 215 0 Q (44, [l0, some (.int x), l2], st, mem, 0) = pR X d 215 0 Q (45, [l0, some (.int x), l2], .int x :: st, mem, 0) := q_s (.ok (.iload_n 1, 1)) (by decide +kernel) rfl
theorem r215_45 : pR X d 215 0 Q (45, L, .int z :: .int x :: st, mem, 0) = pR X d 215 0 Q (46, L, .int (x + z) :: st, mem, 0) := q_s (.ok (.iadd, 1)) (by decide +kernel) rfl
theorem r215_46 : pR X d 215 0 Q (46, [l0, l1, some (.int x)], st, mem, 0) = pR X d 215 0 Q (47, [l0, l1, some (.int x)], .int x :: st, mem, 0) := q_s (.ok (.iload_n 2, 1)) (by decide +kernel) rfl
theorem r215_47 : pR X d 215 0 Q (47, L, st, mem, 0) = pR X d 215 0 Q (48, L, .int (iI (1)) :: st, mem, 0) := q_ic (by decide +kernel)
theorem r215_48 : pR X d 215 0 Q (48, L, .int z :: .int x :: st, mem, 0) = pR X d 215 0 Q (49, L, .int (x + z) :: st, mem, 0) := q_s (.ok (.iadd, 1)) (by decide +kernel) rfl
theorem r215_49 : pR X d 215 0 Q (49, L, .int z :: .int x :: .ref a :: st, mem, 0) = wi mem a x z (fun mem => pR X d 215 0 Q (50, L, st, mem, 0)) := q_wi (by decide +kernel)
theorem r215_50 : pR X d 215 0 Q (50, L, st, mem, 0) = pR X d 215 0 Q (51, L, .int (iI (1)) :: st, mem, 0) := q_ic (by decide +kernel)
theorem r215_51 : pR X d 215 0 Q (51, L, [.int x], mem, 0) = Q (some (.int x)) mem := q_reti (by decide +kernel) rfl
theorem r216_0 : pR X d 216 0 Q (0, [l0, some (.int x), l2, l3, l4], st, mem, 0) = pR X d 216 0 Q (1, [l0, some (.int x), l2, l3, l4], .int x :: st, mem, 0) := q_s (.ok (.iload_n 1, 1)) (by decide +kernel) rfl
theorem r216_1 : pR X d 216 0 Q (1, L, .int x :: st, mem, 0) = pR X d 216 0 Q (2, L, .long x.toInt64 :: st, mem, 0) := q_s (.ok (.i2l, 1)) (by decide +kernel) rfl
theorem r216_2 : pR X d 216 0 Q (2, L, st, mem, 0) = pR X d 216 0 Q (3, L, .long (lI (0)) :: st, mem, 0) := q_lc (n := 0) (by decide +kernel) (by decide +kernel)
theorem r216_3 : pR X d 216 0 Q (3, L, st, mem, 0) = pR X d 216 0 Q (6, L, .long (lI (9)) :: st, mem, 0) := q_ldc2 (k := 194) (by decide +kernel) (by decide +kernel)
theorem r216_6 : pR X d 216 0 Q (6, L, .long v2 :: .long v1 :: .long v0 :: [], mem, 0) = Cw X d 135 [.long v0, .long v1, .long v2] mem (fun r mem => pR X d 216 0 Q (9, L, r.toList ++ [], mem, 0)) := q_stat (ix := 42) (kd := 1) (y2 := 135) (as := [.long v2, .long v1, .long v0]) (by decide +kernel) (by decide +kernel) (by decide) rfl rfl rfl (Nat.le_of_ble_eq_true rfl) (by decide)
theorem r216_9 : pR X d 216 0 Q (9, L, .int x :: st, mem, 0) = ((x = 0 → pR X d 216 0 Q (24, L, st, mem, 0)) ∧ (¬ (x = 0) → pR X d 216 0 Q (12, L, st, mem, 0))) := r_if (c := .eq) (off := 15) (by decide +kernel) (by decide)
theorem r216_12 : pR X d 216 0 Q (12, [l0, l1, some (.int x), l3, l4], st, mem, 0) = pR X d 216 0 Q (13, [l0, l1, some (.int x), l3, l4], .int x :: st, mem, 0) := q_s (.ok (.iload_n 2, 1)) (by decide +kernel) rfl
theorem r216_13 : pR X d 216 0 Q (13, L, .int x :: st, mem, 0) = pR X d 216 0 Q (14, L, .long x.toInt64 :: st, mem, 0) := q_s (.ok (.i2l, 1)) (by decide +kernel) rfl
theorem r216_14 : pR X d 216 0 Q (14, L, st, mem, 0) = pR X d 216 0 Q (15, L, .long (lI (0)) :: st, mem, 0) := q_lc (n := 0) (by decide +kernel) (by decide +kernel)
theorem r216_15 : pR X d 216 0 Q (15, L, st, mem, 0) = pR X d 216 0 Q (18, L, .long (lI (6)) :: st, mem, 0) := q_ldc2 (k := 115) (by decide +kernel) (by decide +kernel)
theorem r216_18 : pR X d 216 0 Q (18, L, .long v2 :: .long v1 :: .long v0 :: [], mem, 0) = Cw X d 135 [.long v0, .long v1, .long v2] mem (fun r mem => pR X d 216 0 Q (21, L, r.toList ++ [], mem, 0)) := q_stat (ix := 42) (kd := 1) (y2 := 135) (as := [.long v2, .long v1, .long v0]) (by decide +kernel) (by decide +kernel) (by decide) rfl rfl rfl (Nat.le_of_ble_eq_true rfl) (by decide)
theorem r216_21 : pR X d 216 0 Q (21, L, .int x :: st, mem, 0) = ((¬ x = 0 → pR X d 216 0 Q (30, L, st, mem, 0)) ∧ (¬ (¬ x = 0) → pR X d 216 0 Q (24, L, st, mem, 0))) := r_if (c := .ne) (off := 9) (by decide +kernel) (by decide)
theorem r216_24 : pR X d 216 0 Q (24, [some (.ref a), l1, l2, l3, l4], st, mem, 0) = pR X d 216 0 Q (25, [some (.ref a), l1, l2, l3, l4], .ref a :: st, mem, 0) := q_s (.ok (.aload_n 0, 1)) (by decide +kernel) rfl
theorem r216_25 : pR X d 216 0 Q (25, L, st, mem, 0) = pR X d 216 0 Q (26, L, .int (iI (0)) :: st, mem, 0) := q_ic (by decide +kernel)
theorem r216_26 : pR X d 216 0 Q (26, L, .int y0 :: .ref a :: [], mem, 0) = (prcv mem 5 a ∧ Cw X d 137 [.ref a, .int y0] mem (fun r mem => pR X d 216 0 Q (29, L, r.toList ++ [], mem, 0))) := q_virt (ix := 106) (y2 := 137) (as := [.int y0]) (by decide +kernel) (by decide +kernel) rfl rfl rfl (Nat.le_of_ble_eq_true rfl) (by decide)
theorem r216_29 : pR X d 216 0 Q (29, L, [.int x], mem, 0) = Q (some (.int x)) mem := q_reti (by decide +kernel) rfl
theorem r216_30 : pR X d 216 0 Q (30, [some (.ref a), l1, l2, l3, l4], st, mem, 0) = pR X d 216 0 Q (31, [some (.ref a), l1, l2, l3, l4], .ref a :: st, mem, 0) := q_s (.ok (.aload_n 0, 1)) (by decide +kernel) rfl
theorem r216_31 : pR X d 216 0 Q (31, L, .ref a :: st, mem, 0) = gf mem a 5 0 (fun p => pR X d 216 0 Q (34, L, p :: st, mem, 0)) := q_get (ix := 7) (by decide +kernel) (by decide +kernel)
theorem r216_34 : pR X d 216 0 Q (34, L, st, mem, 0) = pR X d 216 0 Q (36, L, .int (iI (59)) :: st, mem, 0) := q_bi (n := 59) (by decide +kernel) (by decide +kernel)
theorem r216_36 : pR X d 216 0 Q (36, [l0, some (.int x), l2, l3, l4], st, mem, 0) = pR X d 216 0 Q (37, [l0, some (.int x), l2, l3, l4], .int x :: st, mem, 0) := q_s (.ok (.iload_n 1, 1)) (by decide +kernel) rfl
theorem r216_37 : pR X d 216 0 Q (37, L, .int z :: .int x :: st, mem, 0) = pR X d 216 0 Q (38, L, .int (x + z) :: st, mem, 0) := q_s (.ok (.iadd, 1)) (by decide +kernel) rfl
theorem r216_38 : pR X d 216 0 Q (38, L, .int x :: .ref a :: st, mem, 0) = ri X mem a x (fun z => pR X d 216 0 Q (39, L, .int z :: st, mem, 0)) := q_ri (by decide +kernel)
theorem r216_39 : pR X d 216 0 Q (39, L, .int x :: st, mem, 0) = ((¬ x = 0 → pR X d 216 0 Q (48, L, st, mem, 0)) ∧ (¬ (¬ x = 0) → pR X d 216 0 Q (42, L, st, mem, 0))) := r_if (c := .ne) (off := 9) (by decide +kernel) (by decide)
theorem r216_42 : pR X d 216 0 Q (42, [some (.ref a), l1, l2, l3, l4], st, mem, 0) = pR X d 216 0 Q (43, [some (.ref a), l1, l2, l3, l4], .ref a :: st, mem, 0) := q_s (.ok (.aload_n 0, 1)) (by decide +kernel) rfl
theorem r216_43 : pR X d 216 0 Q (43, L, st, mem, 0) = pR X d 216 0 Q (44, L, .int (iI (5)) :: st, mem, 0) := q_ic (by decide +kernel)
theorem r216_44 : pR X d 216 0 Q (44, L, .int y0 :: .ref a :: [], mem, 0) = (prcv mem 5 a ∧ Cw X d 137 [.ref a, .int y0] mem (fun r mem => pR X d 216 0 Q (47, L, r.toList ++ [], mem, 0))) := q_virt (ix := 106) (y2 := 137) (as := [.int y0]) (by decide +kernel) (by decide +kernel) rfl rfl rfl (Nat.le_of_ble_eq_true rfl) (by decide)
theorem r216_47 : pR X d 216 0 Q (47, L, [.int x], mem, 0) = Q (some (.int x)) mem := q_reti (by decide +kernel) rfl
theorem r216_48 : pR X d 216 0 Q (48, [some (.ref a), l1, l2, l3, l4], st, mem, 0) = pR X d 216 0 Q (49, [some (.ref a), l1, l2, l3, l4], .ref a :: st, mem, 0) := q_s (.ok (.aload_n 0, 1)) (by decide +kernel) rfl
theorem r216_49 : pR X d 216 0 Q (49, L, .ref a :: st, mem, 0) = gf mem a 5 0 (fun p => pR X d 216 0 Q (52, L, p :: st, mem, 0)) := q_get (ix := 7) (by decide +kernel) (by decide +kernel)
theorem r216_52 : pR X d 216 0 Q (52, L, st, mem, 0) = pR X d 216 0 Q (54, L, .int (iI (59)) :: st, mem, 0) := q_bi (n := 59) (by decide +kernel) (by decide +kernel)
theorem r216_54 : pR X d 216 0 Q (54, [l0, some (.int x), l2, l3, l4], st, mem, 0) = pR X d 216 0 Q (55, [l0, some (.int x), l2, l3, l4], .int x :: st, mem, 0) := q_s (.ok (.iload_n 1, 1)) (by decide +kernel) rfl
theorem r216_55 : pR X d 216 0 Q (55, L, .int z :: .int x :: st, mem, 0) = pR X d 216 0 Q (56, L, .int (x + z) :: st, mem, 0) := q_s (.ok (.iadd, 1)) (by decide +kernel) rfl
theorem r216_56 : pR X d 216 0 Q (56, L, .int x :: .ref a :: st, mem, 0) = ri X mem a x (fun z => pR X d 216 0 Q (57, L, .int z :: st, mem, 0)) := q_ri (by decide +kernel)
theorem r216_57 : pR X d 216 0 Q (57, L, st, mem, 0) = pR X d 216 0 Q (58, L, .int (iI (1)) :: st, mem, 0) := q_ic (by decide +kernel)
theorem r216_58 : pR X d 216 0 Q (58, L, .int z :: .int x :: st, mem, 0) = pR X d 216 0 Q (59, L, .int (x - z) :: st, mem, 0) := q_s (.ok (.isub, 1)) (by decide +kernel) rfl
theorem r216_59 : pR X d 216 0 Q (59, [l0, l1, l2, l3, l4], .int x :: st, mem, 0) = pR X d 216 0 Q (60, [l0, l1, cl1 l2, some (.int x), l4], st, mem, 0) := q_s (.ok (.istore_n 3, 1)) (by decide +kernel) rfl
theorem r216_60 : pR X d 216 0 Q (60, [some (.ref a), l1, l2, l3, l4], st, mem, 0) = pR X d 216 0 Q (61, [some (.ref a), l1, l2, l3, l4], .ref a :: st, mem, 0) := q_s (.ok (.aload_n 0, 1)) (by decide +kernel) rfl
theorem r216_61 : pR X d 216 0 Q (61, [l0, l1, l2, some (.int x), l4], st, mem, 0) = pR X d 216 0 Q (62, [l0, l1, l2, some (.int x), l4], .int x :: st, mem, 0) := q_s (.ok (.iload_n 3, 1)) (by decide +kernel) rfl
theorem r216_62 : pR X d 216 0 Q (62, L, st, mem, 0) = pR X d 216 0 Q (63, L, .int (iI (0)) :: st, mem, 0) := q_ic (by decide +kernel)
theorem r216_63 : pR X d 216 0 Q (63, L, .int y1 :: .int y0 :: .ref a :: [], mem, 0) = (prcv mem 5 a ∧ Cw X d 148 [.ref a, .int y0, .int y1] mem (fun r mem => pR X d 216 0 Q (66, L, r.toList ++ [], mem, 0))) := q_virt (ix := 50) (y2 := 148) (as := [.int y1, .int y0]) (by decide +kernel) (by decide +kernel) rfl rfl rfl (Nat.le_of_ble_eq_true rfl) (by decide)
theorem r216_66 : pR X d 216 0 Q (66, [l0, l1, l2, l3, l4], .int x :: st, mem, 0) = pR X d 216 0 Q (68, [l0, l1, l2, cl1 l3, some (.int x)], st, mem, 0) := q_s (.ok (.istore 4, 2)) (by decide +kernel) rfl
theorem r216_68 : pR X d 216 0 Q (68, [l0, l1, some (.int x), l3, l4], st, mem, 0) = pR X d 216 0 Q (69, [l0, l1, some (.int x), l3, l4], .int x :: st, mem, 0) := q_s (.ok (.iload_n 2, 1)) (by decide +kernel) rfl
theorem r216_69 : pR X d 216 0 Q (69, L, .int x :: st, mem, 0) = ((x = 0 → pR X d 216 0 Q (99, L, st, mem, 0)) ∧ (¬ (x = 0) → pR X d 216 0 Q (72, L, st, mem, 0))) := r_if (c := .eq) (off := 30) (by decide +kernel) (by decide)
theorem r216_72 : pR X d 216 0 Q (72, [l0, l1, some (.int x), l3, l4], st, mem, 0) = pR X d 216 0 Q (73, [l0, l1, some (.int x), l3, l4], .int x :: st, mem, 0) := q_s (.ok (.iload_n 2, 1)) (by decide +kernel) rfl
theorem r216_73 : pR X d 216 0 Q (73, [l0, l1, l2, l3, some (.int x)], st, mem, 0) = pR X d 216 0 Q (75, [l0, l1, l2, l3, some (.int x)], .int x :: st, mem, 0) := q_s (.ok (.iload 4, 2)) (by decide +kernel) rfl
theorem r216_75 : pR X d 216 0 Q (75, L, .int z :: .int x :: st, mem, 0) = ((x = z → pR X d 216 0 Q (99, L, st, mem, 0)) ∧ (¬ (x = z) → pR X d 216 0 Q (78, L, st, mem, 0))) := r_ic (c := .eq) (off := 24) (by decide +kernel) (by decide)
theorem r216_78 : pR X d 216 0 Q (78, [l0, l1, some (.int x), l3, l4], st, mem, 0) = pR X d 216 0 Q (79, [l0, l1, some (.int x), l3, l4], .int x :: st, mem, 0) := q_s (.ok (.iload_n 2, 1)) (by decide +kernel) rfl
theorem r216_79 : pR X d 216 0 Q (79, [l0, l1, l2, l3, some (.int x)], st, mem, 0) = pR X d 216 0 Q (81, [l0, l1, l2, l3, some (.int x)], .int x :: st, mem, 0) := q_s (.ok (.iload 4, 2)) (by decide +kernel) rfl
theorem r216_81 : pR X d 216 0 Q (81, L, .int y0 :: [.int k0], mem, 0) = Cw X d 217 [.int y0] mem (fun r mem => pR X d 216 0 Q (84, L, r.toList ++ [.int k0], mem, 0)) := q_stat (ix := 295) (kd := 1) (y2 := 217) (as := [.int y0]) (by decide +kernel) (by decide +kernel) (by decide) rfl rfl rfl (Nat.le_of_ble_eq_true rfl) (by decide)
theorem r216_84 : pR X d 216 0 Q (84, L, .int z :: .int x :: st, mem, 0) = ((x = z → pR X d 216 0 Q (99, L, st, mem, 0)) ∧ (¬ (x = z) → pR X d 216 0 Q (87, L, st, mem, 0))) := r_ic (c := .eq) (off := 15) (by decide +kernel) (by decide)
theorem r216_87 : pR X d 216 0 Q (87, [l0, l1, some (.int x), l3, l4], st, mem, 0) = pR X d 216 0 Q (88, [l0, l1, some (.int x), l3, l4], .int x :: st, mem, 0) := q_s (.ok (.iload_n 2, 1)) (by decide +kernel) rfl
theorem r216_88 : pR X d 216 0 Q (88, [l0, l1, l2, l3, some (.int x)], st, mem, 0) = pR X d 216 0 Q (90, [l0, l1, l2, l3, some (.int x)], .int x :: st, mem, 0) := q_s (.ok (.iload 4, 2)) (by decide +kernel) rfl
theorem r216_90 : pR X d 216 0 Q (90, L, .int y0 :: [.int k0], mem, 0) = Cw X d 217 [.int y0] mem (fun r mem => pR X d 216 0 Q (93, L, r.toList ++ [.int k0], mem, 0)) := q_stat (ix := 295) (kd := 1) (y2 := 217) (as := [.int y0]) (by decide +kernel) (by decide +kernel) (by decide) rfl rfl rfl (Nat.le_of_ble_eq_true rfl) (by decide)
theorem r216_93 : pR X d 216 0 Q (93, L, .int y0 :: [.int k0], mem, 0) = Cw X d 217 [.int y0] mem (fun r mem => pR X d 216 0 Q (96, L, r.toList ++ [.int k0], mem, 0)) := q_stat (ix := 295) (kd := 1) (y2 := 217) (as := [.int y0]) (by decide +kernel) (by decide +kernel) (by decide) rfl rfl rfl (Nat.le_of_ble_eq_true rfl) (by decide)
theorem r216_96 : pR X d 216 0 Q (96, L, .int z :: .int x :: st, mem, 0) = ((¬ x = z → pR X d 216 0 Q (103, L, st, mem, 0)) ∧ (¬ (¬ x = z) → pR X d 216 0 Q (99, L, st, mem, 0))) := r_ic (c := .ne) (off := 7) (by decide +kernel) (by decide)
theorem r216_99 : pR X d 216 0 Q (99, [l0, l1, l2, some (.int x), l4], st, mem, 0) = pR X d 216 0 Q (100, [l0, l1, l2, some (.int x), l4], .int x :: st, mem, 0) := q_s (.ok (.iload_n 3, 1)) (by decide +kernel) rfl
theorem r216_100 : pR X d 216 0 Q (100, L, st, mem, 0) = pR X d 216 0 Q (108, L, st, mem, 0) := q_s (.ok (.goto (8), 3)) (by decide +kernel) rfl
theorem r216_103 : pR X d 216 0 Q (103, [some (.ref a), l1, l2, l3, l4], st, mem, 0) = pR X d 216 0 Q (104, [some (.ref a), l1, l2, l3, l4], .ref a :: st, mem, 0) := q_s (.ok (.aload_n 0, 1)) (by decide +kernel) rfl
theorem r216_104 : pR X d 216 0 Q (104, L, st, mem, 0) = pR X d 216 0 Q (105, L, .int (iI (2)) :: st, mem, 0) := q_ic (by decide +kernel)
theorem r216_105 : pR X d 216 0 Q (105, L, .int y0 :: .ref a :: [], mem, 0) = (prcv mem 5 a ∧ Cw X d 137 [.ref a, .int y0] mem (fun r mem => pR X d 216 0 Q (108, L, r.toList ++ [], mem, 0))) := q_virt (ix := 106) (y2 := 137) (as := [.int y0]) (by decide +kernel) (by decide +kernel) rfl rfl rfl (Nat.le_of_ble_eq_true rfl) (by decide)
theorem r216_108 : pR X d 216 0 Q (108, L, [.int x], mem, 0) = Q (some (.int x)) mem := q_reti (by decide +kernel) rfl
theorem r217_0 : pR X d 217 0 Q (0, [some (.int x)], st, mem, 0) = pR X d 217 0 Q (1, [some (.int x)], .int x :: st, mem, 0) := q_s (.ok (.iload_n 0, 1)) (by decide +kernel) rfl
theorem r217_1 : pR X d 217 0 Q (1, L, st, mem, 0) = pR X d 217 0 Q (2, L, .int (iI (3)) :: st, mem, 0) := q_ic (by decide +kernel)
theorem r217_2 : pR X d 217 0 Q (2, L, .int z :: .int x :: st, mem, 0) = ((¬ x = z → pR X d 217 0 Q (9, L, st, mem, 0)) ∧ (¬ (¬ x = z) → pR X d 217 0 Q (5, L, st, mem, 0))) := r_ic (c := .ne) (off := 7) (by decide +kernel) (by decide)
theorem r217_5 : pR X d 217 0 Q (5, L, st, mem, 0) = pR X d 217 0 Q (6, L, .int (iI (2)) :: st, mem, 0) := q_ic (by decide +kernel)
theorem r217_6 : pR X d 217 0 Q (6, L, st, mem, 0) = pR X d 217 0 Q (29, L, st, mem, 0) := q_s (.ok (.goto (23), 3)) (by decide +kernel) rfl
theorem r217_9 : pR X d 217 0 Q (9, [some (.int x)], st, mem, 0) = pR X d 217 0 Q (10, [some (.int x)], .int x :: st, mem, 0) := q_s (.ok (.iload_n 0, 1)) (by decide +kernel) rfl
theorem r217_10 : pR X d 217 0 Q (10, L, st, mem, 0) = pR X d 217 0 Q (11, L, .int (iI (4)) :: st, mem, 0) := q_ic (by decide +kernel)
theorem r217_11 : pR X d 217 0 Q (11, L, .int z :: .int x :: st, mem, 0) = ((¬ x = z → pR X d 217 0 Q (18, L, st, mem, 0)) ∧ (¬ (¬ x = z) → pR X d 217 0 Q (14, L, st, mem, 0))) := r_ic (c := .ne) (off := 7) (by decide +kernel) (by decide)
theorem r217_14 : pR X d 217 0 Q (14, L, st, mem, 0) = pR X d 217 0 Q (15, L, .int (iI (3)) :: st, mem, 0) := q_ic (by decide +kernel)
theorem r217_15 : pR X d 217 0 Q (15, L, st, mem, 0) = pR X d 217 0 Q (29, L, st, mem, 0) := q_s (.ok (.goto (14), 3)) (by decide +kernel) rfl
theorem r217_18 : pR X d 217 0 Q (18, [some (.int x)], st, mem, 0) = pR X d 217 0 Q (19, [some (.int x)], .int x :: st, mem, 0) := q_s (.ok (.iload_n 0, 1)) (by decide +kernel) rfl
theorem r217_19 : pR X d 217 0 Q (19, L, st, mem, 0) = pR X d 217 0 Q (21, L, .int (iI (6)) :: st, mem, 0) := q_bi (n := 6) (by decide +kernel) (by decide +kernel)
theorem r217_21 : pR X d 217 0 Q (21, L, .int z :: .int x :: st, mem, 0) = ((¬ x = z → pR X d 217 0 Q (28, L, st, mem, 0)) ∧ (¬ (¬ x = z) → pR X d 217 0 Q (24, L, st, mem, 0))) := r_ic (c := .ne) (off := 7) (by decide +kernel) (by decide)
theorem r217_24 : pR X d 217 0 Q (24, L, st, mem, 0) = pR X d 217 0 Q (25, L, .int (iI (1)) :: st, mem, 0) := q_ic (by decide +kernel)
theorem r217_25 : pR X d 217 0 Q (25, L, st, mem, 0) = pR X d 217 0 Q (29, L, st, mem, 0) := q_s (.ok (.goto (4), 3)) (by decide +kernel) rfl
theorem r217_28 : pR X d 217 0 Q (28, L, st, mem, 0) = pR X d 217 0 Q (29, L, .int (iI (0)) :: st, mem, 0) := q_ic (by decide +kernel)
theorem r217_29 : pR X d 217 0 Q (29, L, [.int x], mem, 0) = Q (some (.int x)) mem := q_reti (by decide +kernel) rfl
theorem r218_0 : pR X d 218 0 Q (0, [l0, some (.int x), l2, l3, l4], st, mem, 0) = pR X d 218 0 Q (1, [l0, some (.int x), l2, l3, l4], .int x :: st, mem, 0) := q_s (.ok (.iload_n 1, 1)) (by decide +kernel) rfl
theorem r218_1 : pR X d 218 0 Q (1, L, .int y0 :: [], mem, 0) = Cw X d 189 [.int y0] mem (fun r mem => pR X d 218 0 Q (4, L, r.toList ++ [], mem, 0)) := q_stat (ix := 300) (kd := 1) (y2 := 189) (as := [.int y0]) (by decide +kernel) (by decide +kernel) (by decide) rfl rfl rfl (Nat.le_of_ble_eq_true rfl) (by decide)
theorem r218_4 : pR X d 218 0 Q (4, L, .int x :: st, mem, 0) = ((x = 0 → pR X d 218 0 Q (29, L, st, mem, 0)) ∧ (¬ (x = 0) → pR X d 218 0 Q (7, L, st, mem, 0))) := r_if (c := .eq) (off := 25) (by decide +kernel) (by decide)
theorem r218_7 : pR X d 218 0 Q (7, [l0, l1, some (.int x), l3, l4], st, mem, 0) = pR X d 218 0 Q (8, [l0, l1, some (.int x), l3, l4], .int x :: st, mem, 0) := q_s (.ok (.iload_n 2, 1)) (by decide +kernel) rfl
theorem r218_8 : pR X d 218 0 Q (8, L, .int x :: st, mem, 0) = ((x = 0 → pR X d 218 0 Q (35, L, st, mem, 0)) ∧ (¬ (x = 0) → pR X d 218 0 Q (11, L, st, mem, 0))) := r_if (c := .eq) (off := 27) (by decide +kernel) (by decide)
theorem r218_11 : pR X d 218 0 Q (11, [l0, l1, some (.int x), l3, l4], st, mem, 0) = pR X d 218 0 Q (12, [l0, l1, some (.int x), l3, l4], .int x :: st, mem, 0) := q_s (.ok (.iload_n 2, 1)) (by decide +kernel) rfl
theorem r218_12 : pR X d 218 0 Q (12, L, st, mem, 0) = pR X d 218 0 Q (14, L, .int (iI (8)) :: st, mem, 0) := q_bi (n := 8) (by decide +kernel) (by decide +kernel)
theorem r218_14 : pR X d 218 0 Q (14, L, .int z :: .int x :: st, mem, 0) = ((x = z → pR X d 218 0 Q (35, L, st, mem, 0)) ∧ (¬ (x = z) → pR X d 218 0 Q (17, L, st, mem, 0))) := r_ic (c := .eq) (off := 21) (by decide +kernel) (by decide)
theorem r218_17 : pR X d 218 0 Q (17, [l0, l1, some (.int x), l3, l4], st, mem, 0) = pR X d 218 0 Q (18, [l0, l1, some (.int x), l3, l4], .int x :: st, mem, 0) := q_s (.ok (.iload_n 2, 1)) (by decide +kernel) rfl
theorem r218_18 : pR X d 218 0 Q (18, L, st, mem, 0) = pR X d 218 0 Q (20, L, .int (iI (16)) :: st, mem, 0) := q_bi (n := 16) (by decide +kernel) (by decide +kernel)
theorem r218_20 : pR X d 218 0 Q (20, L, .int z :: .int x :: st, mem, 0) = ((x = z → pR X d 218 0 Q (35, L, st, mem, 0)) ∧ (¬ (x = z) → pR X d 218 0 Q (23, L, st, mem, 0))) := r_ic (c := .eq) (off := 15) (by decide +kernel) (by decide)
theorem r218_23 : pR X d 218 0 Q (23, [l0, l1, some (.int x), l3, l4], st, mem, 0) = pR X d 218 0 Q (24, [l0, l1, some (.int x), l3, l4], .int x :: st, mem, 0) := q_s (.ok (.iload_n 2, 1)) (by decide +kernel) rfl
theorem r218_24 : pR X d 218 0 Q (24, L, st, mem, 0) = pR X d 218 0 Q (26, L, .int (iI (32)) :: st, mem, 0) := q_bi (n := 32) (by decide +kernel) (by decide +kernel)
theorem r218_26 : pR X d 218 0 Q (26, L, .int z :: .int x :: st, mem, 0) = ((x = z → pR X d 218 0 Q (35, L, st, mem, 0)) ∧ (¬ (x = z) → pR X d 218 0 Q (29, L, st, mem, 0))) := r_ic (c := .eq) (off := 9) (by decide +kernel) (by decide)
theorem r218_29 : pR X d 218 0 Q (29, [some (.ref a), l1, l2, l3, l4], st, mem, 0) = pR X d 218 0 Q (30, [some (.ref a), l1, l2, l3, l4], .ref a :: st, mem, 0) := q_s (.ok (.aload_n 0, 1)) (by decide +kernel) rfl
theorem r218_30 : pR X d 218 0 Q (30, L, st, mem, 0) = pR X d 218 0 Q (31, L, .int (iI (0)) :: st, mem, 0) := q_ic (by decide +kernel)
theorem r218_31 : pR X d 218 0 Q (31, L, .int y0 :: .ref a :: [], mem, 0) = (prcv mem 5 a ∧ Cw X d 137 [.ref a, .int y0] mem (fun r mem => pR X d 218 0 Q (34, L, r.toList ++ [], mem, 0))) := q_virt (ix := 106) (y2 := 137) (as := [.int y0]) (by decide +kernel) (by decide +kernel) rfl rfl rfl (Nat.le_of_ble_eq_true rfl) (by decide)
theorem r218_34 : pR X d 218 0 Q (34, L, [.int x], mem, 0) = Q (some (.int x)) mem := q_reti (by decide +kernel) rfl
theorem r218_35 : pR X d 218 0 Q (35, [l0, l1, l2, some (.int x), l4], st, mem, 0) = pR X d 218 0 Q (36, [l0, l1, l2, some (.int x), l4], .int x :: st, mem, 0) := q_s (.ok (.iload_n 3, 1)) (by decide +kernel) rfl
theorem r218_36 : pR X d 218 0 Q (36, L, .int x :: st, mem, 0) = ((0 ≤ x → pR X d 218 0 Q (46, L, st, mem, 0)) ∧ (¬ (0 ≤ x) → pR X d 218 0 Q (39, L, st, mem, 0))) := r_if (c := .ge) (off := 10) (by decide +kernel) (by decide)
theorem r218_39 : pR X d 218 0 Q (39, [some (.ref a), l1, l2, l3, l4], st, mem, 0) = pR X d 218 0 Q (40, [some (.ref a), l1, l2, l3, l4], .ref a :: st, mem, 0) := q_s (.ok (.aload_n 0, 1)) (by decide +kernel) rfl
theorem r218_40 : pR X d 218 0 Q (40, L, st, mem, 0) = pR X d 218 0 Q (42, L, .int (iI (6)) :: st, mem, 0) := q_bi (n := 6) (by decide +kernel) (by decide +kernel)
theorem r218_42 : pR X d 218 0 Q (42, L, .int y0 :: .ref a :: [], mem, 0) = (prcv mem 5 a ∧ Cw X d 137 [.ref a, .int y0] mem (fun r mem => pR X d 218 0 Q (45, L, r.toList ++ [], mem, 0))) := q_virt (ix := 106) (y2 := 137) (as := [.int y0]) (by decide +kernel) (by decide +kernel) rfl rfl rfl (Nat.le_of_ble_eq_true rfl) (by decide)
theorem r218_45 : pR X d 218 0 Q (45, L, [.int x], mem, 0) = Q (some (.int x)) mem := q_reti (by decide +kernel) rfl
theorem r218_46 : pR X d 218 0 Q (46, [l0, l1, l2, some (.int x), l4], st, mem, 0) = pR X d 218 0 Q (47, [l0, l1, l2, some (.int x), l4], .int x :: st, mem, 0) := q_s (.ok (.iload_n 3, 1)) (by decide +kernel) rfl
theorem r218_47 : pR X d 218 0 Q (47, L, st, mem, 0) = pR X d 218 0 Q (49, L, .int (iI (40)) :: st, mem, 0) := q_bi (n := 40) (by decide +kernel) (by decide +kernel)
theorem r218_49 : pR X d 218 0 Q (49, L, .int z :: .int x :: st, mem, 0) = ((x ≤ z → pR X d 218 0 Q (58, L, st, mem, 0)) ∧ (¬ (x ≤ z) → pR X d 218 0 Q (52, L, st, mem, 0))) := r_ic (c := .le) (off := 9) (by decide +kernel) (by decide)
theorem r218_52 : pR X d 218 0 Q (52, [some (.ref a), l1, l2, l3, l4], st, mem, 0) = pR X d 218 0 Q (53, [some (.ref a), l1, l2, l3, l4], .ref a :: st, mem, 0) := q_s (.ok (.aload_n 0, 1)) (by decide +kernel) rfl
theorem r218_53 : pR X d 218 0 Q (53, L, st, mem, 0) = pR X d 218 0 Q (54, L, .int (iI (0)) :: st, mem, 0) := q_ic (by decide +kernel)
theorem r218_54 : pR X d 218 0 Q (54, L, .int y0 :: .ref a :: [], mem, 0) = (prcv mem 5 a ∧ Cw X d 137 [.ref a, .int y0] mem (fun r mem => pR X d 218 0 Q (57, L, r.toList ++ [], mem, 0))) := q_virt (ix := 106) (y2 := 137) (as := [.int y0]) (by decide +kernel) (by decide +kernel) rfl rfl rfl (Nat.le_of_ble_eq_true rfl) (by decide)
theorem r218_57 : pR X d 218 0 Q (57, L, [.int x], mem, 0) = Q (some (.int x)) mem := q_reti (by decide +kernel) rfl
theorem r218_58 : pR X d 218 0 Q (58, [some (.ref a), l1, l2, l3, l4], st, mem, 0) = pR X d 218 0 Q (59, [some (.ref a), l1, l2, l3, l4], .ref a :: st, mem, 0) := q_s (.ok (.aload_n 0, 1)) (by decide +kernel) rfl
theorem r218_59 : pR X d 218 0 Q (59, L, .ref a :: st, mem, 0) = gf mem a 5 14 (fun p => pR X d 218 0 Q (62, L, p :: st, mem, 0)) := q_get (ix := 29) (by decide +kernel) (by decide +kernel)
theorem r218_62 : pR X d 218 0 Q (62, [l0, some (.int x), l2, l3, l4], st, mem, 0) = pR X d 218 0 Q (63, [l0, some (.int x), l2, l3, l4], .int x :: st, mem, 0) := q_s (.ok (.iload_n 1, 1)) (by decide +kernel) rfl
theorem r218_63 : pR X d 218 0 Q (63, [l0, l1, some (.int x), l3, l4], st, mem, 0) = pR X d 218 0 Q (64, [l0, l1, some (.int x), l3, l4], .int x :: st, mem, 0) := q_s (.ok (.iload_n 2, 1)) (by decide +kernel) rfl
theorem r218_64 : pR X d 218 0 Q (64, L, .int z :: .int x :: .ref a :: st, mem, 0) = wi mem a x z (fun mem => pR X d 218 0 Q (65, L, st, mem, 0)) := q_wi (by decide +kernel)
theorem r218_65 : pR X d 218 0 Q (65, [some (.ref a), l1, l2, l3, l4], st, mem, 0) = pR X d 218 0 Q (66, [some (.ref a), l1, l2, l3, l4], .ref a :: st, mem, 0) := q_s (.ok (.aload_n 0, 1)) (by decide +kernel) rfl
theorem r218_66 : pR X d 218 0 Q (66, L, .ref a :: st, mem, 0) = gf mem a 5 15 (fun p => pR X d 218 0 Q (69, L, p :: st, mem, 0)) := q_get (ix := 32) (by decide +kernel) (by decide +kernel)
theorem r218_69 : pR X d 218 0 Q (69, [l0, some (.int x), l2, l3, l4], st, mem, 0) = pR X d 218 0 Q (70, [l0, some (.int x), l2, l3, l4], .int x :: st, mem, 0) := q_s (.ok (.iload_n 1, 1)) (by decide +kernel) rfl
theorem r218_70 : pR X d 218 0 Q (70, [l0, l1, some (.int x), l3, l4], st, mem, 0) = pR X d 218 0 Q (71, [l0, l1, some (.int x), l3, l4], .int x :: st, mem, 0) := q_s (.ok (.iload_n 2, 1)) (by decide +kernel) rfl
theorem r218_71 : pR X d 218 0 Q (71, L, .int x :: st, mem, 0) = ((¬ x = 0 → pR X d 218 0 Q (78, L, st, mem, 0)) ∧ (¬ (¬ x = 0) → pR X d 218 0 Q (74, L, st, mem, 0))) := r_if (c := .ne) (off := 7) (by decide +kernel) (by decide)
theorem r218_74 : pR X d 218 0 Q (74, L, st, mem, 0) = pR X d 218 0 Q (75, L, .int (iI (0)) :: st, mem, 0) := q_ic (by decide +kernel)
theorem r218_75 : pR X d 218 0 Q (75, L, st, mem, 0) = pR X d 218 0 Q (79, L, st, mem, 0) := q_s (.ok (.goto (4), 3)) (by decide +kernel) rfl
theorem r218_78 : pR X d 218 0 Q (78, [l0, l1, l2, some (.int x), l4], st, mem, 0) = pR X d 218 0 Q (79, [l0, l1, l2, some (.int x), l4], .int x :: st, mem, 0) := q_s (.ok (.iload_n 3, 1)) (by decide +kernel) rfl
theorem r218_79 : pR X d 218 0 Q (79, L, .int z :: .int x :: .ref a :: st, mem, 0) = wi mem a x z (fun mem => pR X d 218 0 Q (80, L, st, mem, 0)) := q_wi (by decide +kernel)
theorem r218_80 : pR X d 218 0 Q (80, L, st, mem, 0) = pR X d 218 0 Q (81, L, .int (iI (0)) :: st, mem, 0) := q_ic (by decide +kernel)
theorem r218_81 : pR X d 218 0 Q (81, [l0, l1, l2, l3, l4], .int x :: st, mem, 0) = pR X d 218 0 Q (83, [l0, l1, l2, cl1 l3, some (.int x)], st, mem, 0) := q_s (.ok (.istore 4, 2)) (by decide +kernel) rfl
theorem r218_83 : pR X d 218 0 Q (83, [l0, l1, l2, l3, some (.int x)], st, mem, 0) = pR X d 218 0 Q (85, [l0, l1, l2, l3, some (.int x)], .int x :: st, mem, 0) := q_s (.ok (.iload 4, 2)) (by decide +kernel) rfl
theorem r218_85 : pR X d 218 0 Q (85, L, st, mem, 0) = pR X d 218 0 Q (87, L, .int (iI (40)) :: st, mem, 0) := q_bi (n := 40) (by decide +kernel) (by decide +kernel)
theorem r218_87 : pR X d 218 0 Q (87, L, .int z :: .int x :: st, mem, 0) = ((z ≤ x → pR X d 218 0 Q (109, L, st, mem, 0)) ∧ (¬ (z ≤ x) → pR X d 218 0 Q (90, L, st, mem, 0))) := r_ic (c := .ge) (off := 22) (by decide +kernel) (by decide)
theorem r218_90 : pR X d 218 0 Q (90, [some (.ref a), l1, l2, l3, l4], st, mem, 0) = pR X d 218 0 Q (91, [some (.ref a), l1, l2, l3, l4], .ref a :: st, mem, 0) := q_s (.ok (.aload_n 0, 1)) (by decide +kernel) rfl
theorem r218_91 : pR X d 218 0 Q (91, L, .ref a :: st, mem, 0) = gf mem a 5 16 (fun p => pR X d 218 0 Q (94, L, p :: st, mem, 0)) := q_get (ix := 35) (by decide +kernel) (by decide +kernel)
theorem r218_94 : pR X d 218 0 Q (94, L, st, mem, 0) = pR X d 218 0 Q (96, L, .int (iI (40)) :: st, mem, 0) := q_bi (n := 40) (by decide +kernel) (by decide +kernel)
theorem r218_96 : pR X d 218 0 Q (96, [l0, some (.int x), l2, l3, l4], st, mem, 0) = pR X d 218 0 Q (97, [l0, some (.int x), l2, l3, l4], .int x :: st, mem, 0) := q_s (.ok (.iload_n 1, 1)) (by decide +kernel) rfl
theorem r218_97 : pR X d 218 0 Q (97, L, .int z :: .int x :: st, mem, 0) = pR X d 218 0 Q (98, L, .int (x * z) :: st, mem, 0) := q_s (.ok (.imul, 1)) (by decide +kernel) rfl
theorem r218_98 : pR X d 218 0 Q (98, [l0, l1, l2, l3, some (.int x)], st, mem, 0) = pR X d 218 0 Q (100, [l0, l1, l2, l3, some (.int x)], .int x :: st, mem, 0) := q_s (.ok (.iload 4, 2)) (by decide +kernel) rfl
theorem r218_100 : pR X d 218 0 Q (100, L, .int z :: .int x :: st, mem, 0) = pR X d 218 0 Q (101, L, .int (x + z) :: st, mem, 0) := q_s (.ok (.iadd, 1)) (by decide +kernel) rfl
theorem r218_101 : pR X d 218 0 Q (101, L, st, mem, 0) = pR X d 218 0 Q (102, L, .int (iI (0)) :: st, mem, 0) := q_ic (by decide +kernel)
theorem r218_102 : pR X d 218 0 Q (102, L, .int z :: .int x :: .ref a :: st, mem, 0) = wi mem a x z (fun mem => pR X d 218 0 Q (103, L, st, mem, 0)) := q_wi (by decide +kernel)
theorem r218_103 : pR X d 218 0 Q (103, [l0, l1, l2, l3, some (.int x)], st, mem, 0) = pR X d 218 0 Q (106, [l0, l1, l2, cl1 l3, some (.int (x + iI (1)))], st, mem, 0) := q_s (.ok (.iinc 4 (1), 3)) (by decide +kernel) rfl
theorem r218_106 : pR X d 218 0 Q (106, L, st, mem, 0) = pR X d 218 0 Q (83, L, st, mem, 0) := q_s (.ok (.goto (-23), 3)) (by decide +kernel) rfl
theorem r218_109 : pR X d 218 0 Q (109, [some (.ref a), l1, l2, l3, l4], st, mem, 0) = pR X d 218 0 Q (110, [some (.ref a), l1, l2, l3, l4], .ref a :: st, mem, 0) := q_s (.ok (.aload_n 0, 1)) (by decide +kernel) rfl
theorem r218_110 : pR X d 218 0 Q (110, L, .ref a :: st, mem, 0) = gf mem a 5 15 (fun p => pR X d 218 0 Q (113, L, p :: st, mem, 0)) := q_get (ix := 32) (by decide +kernel) (by decide +kernel)
theorem r218_113 : pR X d 218 0 Q (113, [l0, some (.int x), l2, l3, l4], st, mem, 0) = pR X d 218 0 Q (114, [l0, some (.int x), l2, l3, l4], .int x :: st, mem, 0) := q_s (.ok (.iload_n 1, 1)) (by decide +kernel) rfl
theorem r218_114 : pR X d 218 0 Q (114, L, .int x :: .ref a :: st, mem, 0) = ri X mem a x (fun z => pR X d 218 0 Q (115, L, .int z :: st, mem, 0)) := q_ri (by decide +kernel)
theorem r218_115 : pR X d 218 0 Q (115, L, [.int x], mem, 0) = Q (some (.int x)) mem := q_reti (by decide +kernel) rfl
theorem r219_0 : pR X d 219 0 Q (0, [some (.ref a), l1, l2, l3, l4], st, mem, 0) = pR X d 219 0 Q (1, [some (.ref a), l1, l2, l3, l4], .ref a :: st, mem, 0) := q_s (.ok (.aload_n 0, 1)) (by decide +kernel) rfl
theorem r219_1 : pR X d 219 0 Q (1, [l0, some (.int x), l2, l3, l4], st, mem, 0) = pR X d 219 0 Q (2, [l0, some (.int x), l2, l3, l4], .int x :: st, mem, 0) := q_s (.ok (.iload_n 1, 1)) (by decide +kernel) rfl
theorem r219_2 : pR X d 219 0 Q (2, L, .int y0 :: .ref a :: [], mem, 0) = (prcv mem 5 a ∧ Cw X d 188 [.ref a, .int y0] mem (fun r mem => pR X d 219 0 Q (5, L, r.toList ++ [], mem, 0))) := q_virt (ix := 176) (y2 := 188) (as := [.int y0]) (by decide +kernel) (by decide +kernel) rfl rfl rfl (Nat.le_of_ble_eq_true rfl) (by decide)
theorem r219_5 : pR X d 219 0 Q (5, [l0, l1, l2, l3, l4], .int x :: st, mem, 0) = pR X d 219 0 Q (7, [l0, l1, l2, cl1 l3, some (.int x)], st, mem, 0) := q_s (.ok (.istore 4, 2)) (by decide +kernel) rfl
theorem r219_7 : pR X d 219 0 Q (7, [l0, l1, l2, l3, some (.int x)], st, mem, 0) = pR X d 219 0 Q (9, [l0, l1, l2, l3, some (.int x)], .int x :: st, mem, 0) := q_s (.ok (.iload 4, 2)) (by decide +kernel) rfl
theorem r219_9 : pR X d 219 0 Q (9, L, .int x :: st, mem, 0) = ((0 ≤ x → pR X d 219 0 Q (34, L, st, mem, 0)) ∧ (¬ (0 ≤ x) → pR X d 219 0 Q (12, L, st, mem, 0))) := r_if (c := .ge) (off := 25) (by decide +kernel) (by decide)
theorem r219_12 : pR X d 219 0 Q (12, [l0, l1, some (.int x), l3, l4], st, mem, 0) = pR X d 219 0 Q (13, [l0, l1, some (.int x), l3, l4], .int x :: st, mem, 0) := q_s (.ok (.iload_n 2, 1)) (by decide +kernel) rfl
theorem r219_13 : pR X d 219 0 Q (13, L, .int x :: st, mem, 0) = pR X d 219 0 Q (14, L, .long x.toInt64 :: st, mem, 0) := q_s (.ok (.i2l, 1)) (by decide +kernel) rfl
theorem r219_14 : pR X d 219 0 Q (14, L, st, mem, 0) = pR X d 219 0 Q (15, L, .long (lI (0)) :: st, mem, 0) := q_lc (n := 0) (by decide +kernel) (by decide +kernel)
theorem r219_15 : pR X d 219 0 Q (15, [some (.ref a), l1, l2, l3, l4], st, mem, 0) = pR X d 219 0 Q (16, [some (.ref a), l1, l2, l3, l4], .ref a :: st, mem, 0) := q_s (.ok (.aload_n 0, 1)) (by decide +kernel) rfl
theorem r219_16 : pR X d 219 0 Q (16, L, .ref a :: st, mem, 0) = gf mem a 5 15 (fun p => pR X d 219 0 Q (19, L, p :: st, mem, 0)) := q_get (ix := 32) (by decide +kernel) (by decide +kernel)
theorem r219_19 : pR X d 219 0 Q (19, [l0, some (.int x), l2, l3, l4], st, mem, 0) = pR X d 219 0 Q (20, [l0, some (.int x), l2, l3, l4], .int x :: st, mem, 0) := q_s (.ok (.iload_n 1, 1)) (by decide +kernel) rfl
theorem r219_20 : pR X d 219 0 Q (20, L, .int x :: .ref a :: st, mem, 0) = ri X mem a x (fun z => pR X d 219 0 Q (21, L, .int z :: st, mem, 0)) := q_ri (by decide +kernel)
theorem r219_21 : pR X d 219 0 Q (21, L, st, mem, 0) = pR X d 219 0 Q (22, L, .int (iI (1)) :: st, mem, 0) := q_ic (by decide +kernel)
theorem r219_22 : pR X d 219 0 Q (22, L, .int z :: .int x :: st, mem, 0) = pR X d 219 0 Q (23, L, .int (x - z) :: st, mem, 0) := q_s (.ok (.isub, 1)) (by decide +kernel) rfl
theorem r219_23 : pR X d 219 0 Q (23, L, .int x :: st, mem, 0) = pR X d 219 0 Q (24, L, .long x.toInt64 :: st, mem, 0) := q_s (.ok (.i2l, 1)) (by decide +kernel) rfl
theorem r219_24 : pR X d 219 0 Q (24, L, .long v2 :: .long v1 :: .long v0 :: [], mem, 0) = Cw X d 135 [.long v0, .long v1, .long v2] mem (fun r mem => pR X d 219 0 Q (27, L, r.toList ++ [], mem, 0)) := q_stat (ix := 42) (kd := 1) (y2 := 135) (as := [.long v2, .long v1, .long v0]) (by decide +kernel) (by decide +kernel) (by decide) rfl rfl rfl (Nat.le_of_ble_eq_true rfl) (by decide)
theorem r219_27 : pR X d 219 0 Q (27, L, .int x :: st, mem, 0) = ((¬ x = 0 → pR X d 219 0 Q (34, L, st, mem, 0)) ∧ (¬ (¬ x = 0) → pR X d 219 0 Q (30, L, st, mem, 0))) := r_if (c := .ne) (off := 7) (by decide +kernel) (by decide)
theorem r219_30 : pR X d 219 0 Q (30, L, st, mem, 0) = pR X d 219 0 Q (31, L, .int (iI (0)) :: st, mem, 0) := q_ic (by decide +kernel)
theorem r219_31 : pR X d 219 0 Q (31, L, st, mem, 0) = pR X d 219 0 Q (36, L, st, mem, 0) := q_s (.ok (.goto (5), 3)) (by decide +kernel) rfl
theorem r219_34 : pR X d 219 0 Q (34, [l0, l1, l2, l3, some (.int x)], st, mem, 0) = pR X d 219 0 Q (36, [l0, l1, l2, l3, some (.int x)], .int x :: st, mem, 0) := q_s (.ok (.iload 4, 2)) (by decide +kernel) rfl
theorem r219_36 : pR X d 219 0 Q (36, [l0, l1, l2, l3, l4], .int x :: st, mem, 0) = pR X d 219 0 Q (38, [l0, l1, l2, cl1 l3, some (.int x)], st, mem, 0) := q_s (.ok (.istore 4, 2)) (by decide +kernel) rfl
theorem r219_38 : pR X d 219 0 Q (38, [l0, l1, l2, l3, some (.int x)], st, mem, 0) = pR X d 219 0 Q (40, [l0, l1, l2, l3, some (.int x)], .int x :: st, mem, 0) := q_s (.ok (.iload 4, 2)) (by decide +kernel) rfl
theorem r219_40 : pR X d 219 0 Q (40, L, .int x :: st, mem, 0) = ((x < 0 → pR X d 219 0 Q (50, L, st, mem, 0)) ∧ (¬ (x < 0) → pR X d 219 0 Q (43, L, st, mem, 0))) := r_if (c := .lt) (off := 10) (by decide +kernel) (by decide)
theorem r219_43 : pR X d 219 0 Q (43, [some (.ref a), l1, l2, l3, l4], st, mem, 0) = pR X d 219 0 Q (44, [some (.ref a), l1, l2, l3, l4], .ref a :: st, mem, 0) := q_s (.ok (.aload_n 0, 1)) (by decide +kernel) rfl
theorem r219_44 : pR X d 219 0 Q (44, [l0, l1, l2, l3, some (.int x)], st, mem, 0) = pR X d 219 0 Q (46, [l0, l1, l2, l3, some (.int x)], .int x :: st, mem, 0) := q_s (.ok (.iload 4, 2)) (by decide +kernel) rfl
theorem r219_46 : pR X d 219 0 Q (46, L, .int y0 :: .ref a :: [], mem, 0) = (prcv mem 5 a ∧ Cw X d 137 [.ref a, .int y0] mem (fun r mem => pR X d 219 0 Q (49, L, r.toList ++ [], mem, 0))) := q_virt (ix := 106) (y2 := 137) (as := [.int y0]) (by decide +kernel) (by decide +kernel) rfl rfl rfl (Nat.le_of_ble_eq_true rfl) (by decide)
theorem r219_49 : pR X d 219 0 Q (49, L, [.int x], mem, 0) = Q (some (.int x)) mem := q_reti (by decide +kernel) rfl
theorem r219_50 : pR X d 219 0 Q (50, [some (.ref a), l1, l2, l3, l4], st, mem, 0) = pR X d 219 0 Q (51, [some (.ref a), l1, l2, l3, l4], .ref a :: st, mem, 0) := q_s (.ok (.aload_n 0, 1)) (by decide +kernel) rfl
theorem r219_51 : pR X d 219 0 Q (51, L, .ref a :: st, mem, 0) = gf mem a 5 16 (fun p => pR X d 219 0 Q (54, L, p :: st, mem, 0)) := q_get (ix := 35) (by decide +kernel) (by decide +kernel)
theorem r219_54 : pR X d 219 0 Q (54, L, st, mem, 0) = pR X d 219 0 Q (56, L, .int (iI (40)) :: st, mem, 0) := q_bi (n := 40) (by decide +kernel) (by decide +kernel)
theorem r219_56 : pR X d 219 0 Q (56, [l0, some (.int x), l2, l3, l4], st, mem, 0) = pR X d 219 0 Q (57, [l0, some (.int x), l2, l3, l4], .int x :: st, mem, 0) := q_s (.ok (.iload_n 1, 1)) (by decide +kernel) rfl
theorem r219_57 : pR X d 219 0 Q (57, L, .int z :: .int x :: st, mem, 0) = pR X d 219 0 Q (58, L, .int (x * z) :: st, mem, 0) := q_s (.ok (.imul, 1)) (by decide +kernel) rfl
theorem r219_58 : pR X d 219 0 Q (58, [l0, l1, some (.int x), l3, l4], st, mem, 0) = pR X d 219 0 Q (59, [l0, l1, some (.int x), l3, l4], .int x :: st, mem, 0) := q_s (.ok (.iload_n 2, 1)) (by decide +kernel) rfl
theorem r219_59 : pR X d 219 0 Q (59, L, .int z :: .int x :: st, mem, 0) = pR X d 219 0 Q (60, L, .int (x + z) :: st, mem, 0) := q_s (.ok (.iadd, 1)) (by decide +kernel) rfl
theorem r219_60 : pR X d 219 0 Q (60, [some (.ref a), l1, l2, l3, l4], st, mem, 0) = pR X d 219 0 Q (61, [some (.ref a), l1, l2, l3, l4], .ref a :: st, mem, 0) := q_s (.ok (.aload_n 0, 1)) (by decide +kernel) rfl
theorem r219_61 : pR X d 219 0 Q (61, L, .ref a :: st, mem, 0) = gf mem a 5 14 (fun p => pR X d 219 0 Q (64, L, p :: st, mem, 0)) := q_get (ix := 29) (by decide +kernel) (by decide +kernel)
theorem r219_64 : pR X d 219 0 Q (64, [l0, some (.int x), l2, l3, l4], st, mem, 0) = pR X d 219 0 Q (65, [l0, some (.int x), l2, l3, l4], .int x :: st, mem, 0) := q_s (.ok (.iload_n 1, 1)) (by decide +kernel) rfl
theorem r219_65 : pR X d 219 0 Q (65, L, .int x :: .ref a :: st, mem, 0) = ri X mem a x (fun z => pR X d 219 0 Q (66, L, .int z :: st, mem, 0)) := q_ri (by decide +kernel)
theorem r219_66 : pR X d 219 0 Q (66, L, st, mem, 0) = pR X d 219 0 Q (68, L, .int (iI (8)) :: st, mem, 0) := q_bi (n := 8) (by decide +kernel) (by decide +kernel)
theorem r219_68 : pR X d 219 0 Q (68, L, .int z :: .int x :: st, mem, 0) = ((¬ x = z → pR X d 219 0 Q (76, L, st, mem, 0)) ∧ (¬ (¬ x = z) → pR X d 219 0 Q (71, L, st, mem, 0))) := r_ic (c := .ne) (off := 8) (by decide +kernel) (by decide)
theorem r219_71 : pR X d 219 0 Q (71, [l0, l1, l2, some (.int x), l4], st, mem, 0) = pR X d 219 0 Q (72, [l0, l1, l2, some (.int x), l4], .int x :: st, mem, 0) := q_s (.ok (.iload_n 3, 1)) (by decide +kernel) rfl
theorem r219_72 : pR X d 219 0 Q (72, L, .int x :: st, mem, 0) = pR X d 219 0 Q (73, L, .int x.toInt8.toInt32 :: st, mem, 0) := q_s (.ok (.i2b, 1)) (by decide +kernel) rfl
theorem r219_73 : pR X d 219 0 Q (73, L, st, mem, 0) = pR X d 219 0 Q (93, L, st, mem, 0) := q_s (.ok (.goto (20), 3)) (by decide +kernel) rfl
theorem r219_76 : pR X d 219 0 Q (76, [some (.ref a), l1, l2, l3, l4], st, mem, 0) = pR X d 219 0 Q (77, [some (.ref a), l1, l2, l3, l4], .ref a :: st, mem, 0) := q_s (.ok (.aload_n 0, 1)) (by decide +kernel) rfl
theorem r219_77 : pR X d 219 0 Q (77, L, .ref a :: st, mem, 0) = gf mem a 5 14 (fun p => pR X d 219 0 Q (80, L, p :: st, mem, 0)) := q_get (ix := 29) (by decide +kernel) (by decide +kernel)
theorem r219_80 : pR X d 219 0 Q (80, [l0, some (.int x), l2, l3, l4], st, mem, 0) = pR X d 219 0 Q (81, [l0, some (.int x), l2, l3, l4], .int x :: st, mem, 0) := q_s (.ok (.iload_n 1, 1)) (by decide +kernel) rfl
theorem r219_81 : pR X d 219 0 Q (81, L, .int x :: .ref a :: st, mem, 0) = ri X mem a x (fun z => pR X d 219 0 Q (82, L, .int z :: st, mem, 0)) := q_ri (by decide +kernel)
theorem r219_82 : pR X d 219 0 Q (82, L, st, mem, 0) = pR X d 219 0 Q (84, L, .int (iI (16)) :: st, mem, 0) := q_bi (n := 16) (by decide +kernel) (by decide +kernel)
theorem r219_84 : pR X d 219 0 Q (84, L, .int z :: .int x :: st, mem, 0) = ((¬ x = z → pR X d 219 0 Q (92, L, st, mem, 0)) ∧ (¬ (¬ x = z) → pR X d 219 0 Q (87, L, st, mem, 0))) := r_ic (c := .ne) (off := 8) (by decide +kernel) (by decide)
theorem r219_87 : pR X d 219 0 Q (87, [l0, l1, l2, some (.int x), l4], st, mem, 0) = pR X d 219 0 Q (88, [l0, l1, l2, some (.int x), l4], .int x :: st, mem, 0) := q_s (.ok (.iload_n 3, 1)) (by decide +kernel) rfl
theorem r219_88 : pR X d 219 0 Q (88, L, .int x :: st, mem, 0) = pR X d 219 0 Q (89, L, .int x.toInt16.toInt32 :: st, mem, 0) := q_s (.ok (.i2s, 1)) (by decide +kernel) rfl
theorem r219_89 : pR X d 219 0 Q (89, L, st, mem, 0) = pR X d 219 0 Q (93, L, st, mem, 0) := q_s (.ok (.goto (4), 3)) (by decide +kernel) rfl
theorem r219_92 : pR X d 219 0 Q (92, [l0, l1, l2, some (.int x), l4], st, mem, 0) = pR X d 219 0 Q (93, [l0, l1, l2, some (.int x), l4], .int x :: st, mem, 0) := q_s (.ok (.iload_n 3, 1)) (by decide +kernel) rfl
theorem r219_93 : pR X d 219 0 Q (93, L, .int z :: .int x :: .ref a :: st, mem, 0) = wi mem a x z (fun mem => pR X d 219 0 Q (94, L, st, mem, 0)) := q_wi (by decide +kernel)
theorem r219_94 : pR X d 219 0 Q (94, L, st, mem, 0) = pR X d 219 0 Q (95, L, .int (iI (1)) :: st, mem, 0) := q_ic (by decide +kernel)
theorem r219_95 : pR X d 219 0 Q (95, L, [.int x], mem, 0) = Q (some (.int x)) mem := q_reti (by decide +kernel) rfl
end

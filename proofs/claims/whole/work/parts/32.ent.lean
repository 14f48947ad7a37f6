/-! the entries of the methods -/
section
variable {X : pXX} {d : Nat} {K : Option Value → List pME → Prop} {mem : List pME} {i0 i1 i2 i3 i4 i5 : Int32} {a0 a1 a2 a3 : Nat} {v0 v1 v2 v3 : Int64} {p2 : Value}
theorem n0 : Cw X (d + 1) 0 [.ref a0] mem K = pR X d 0 48 K (0, [some (.ref a0), none], [], mem, 0) := q_ent (by decide) (Nat.le_of_ble_eq_true rfl) rfl rfl
theorem n1 : Cw X (d + 1) 1 [.ref a0] mem K = pR X d 1 11 K (0, [some (.ref a0), none], [], mem, 0) := q_ent (by decide) (Nat.le_of_ble_eq_true rfl) rfl rfl
theorem n2 : Cw X (d + 1) 2 [.ref a0] mem K = pR X d 2 0 K (0, [some (.ref a0)], [], mem, 0) := q_ent (by decide) (Nat.le_of_ble_eq_true rfl) rfl rfl
theorem n3 : Cw X (d + 1) 3 [.ref a0] mem K = pR X d 3 1 K (0, [some (.ref a0)], [], mem, 0) := q_ent (by decide) (Nat.le_of_ble_eq_true rfl) rfl rfl
theorem n4 : Cw X (d + 1) 4 [.ref a0] mem K = pR X d 4 1 K (0, [some (.ref a0)], [], mem, 0) := q_ent (by decide) (Nat.le_of_ble_eq_true rfl) rfl rfl
theorem n5 : Cw X (d + 1) 5 [.ref a0, .int i1, .int i2] mem K = pR X d 5 0 K (0, [some (.ref a0), some (.int i1), some (.int i2), none], [], mem, 0) := q_ent (by decide) (Nat.le_of_ble_eq_true rfl) rfl rfl
theorem n6 : Cw X (d + 1) 6 [.int i0] mem K = pR X d 6 0 K (0, [some (.int i0)], [], mem, 0) := q_ent (by decide) (Nat.le_of_ble_eq_true rfl) rfl rfl
theorem n7 : Cw X (d + 1) 7 [.int i0, .int i1, .int i2] mem K = pR X d 7 0 K (0, [some (.int i0), some (.int i1), some (.int i2)], [], mem, 0) := q_ent (by decide) (Nat.le_of_ble_eq_true rfl) rfl rfl
theorem n8 : Cw X (d + 1) 8 [.ref a0, .int i1] mem K = pR X d 8 0 K (0, [some (.ref a0), some (.int i1)], [], mem, 0) := q_ent (by decide) (Nat.le_of_ble_eq_true rfl) rfl rfl
theorem n9 : Cw X (d + 1) 9 [.ref a0, .int i1, .int i2] mem K = pR X d 9 0 K (0, [some (.ref a0), some (.int i1), some (.int i2), none], [], mem, 0) := q_ent (by decide) (Nat.le_of_ble_eq_true rfl) rfl rfl
theorem n10 : Cw X (d + 1) 10 [.int i0] mem K = pR X d 10 0 K (0, [some (.int i0)], [], mem, 0) := q_ent (by decide) (Nat.le_of_ble_eq_true rfl) rfl rfl
theorem n11 : Cw X (d + 1) 11 [.int i0] mem K = pR X d 11 0 K (0, [some (.int i0)], [], mem, 0) := q_ent (by decide) (Nat.le_of_ble_eq_true rfl) rfl rfl
theorem n12 : Cw X (d + 1) 12 [.int i0] mem K = pR X d 12 0 K (0, [some (.int i0)], [], mem, 0) := q_ent (by decide) (Nat.le_of_ble_eq_true rfl) rfl rfl
theorem n13 : Cw X (d + 1) 13 [.ref a0, .int i1] mem K = pR X d 13 0 K (0, [some (.ref a0), some (.int i1)], [], mem, 0) := q_ent (by decide) (Nat.le_of_ble_eq_true rfl) rfl rfl
theorem n14 : Cw X (d + 1) 14 [.ref a0, .int i1, .int i2] mem K = pR X d 14 0 K (0, [some (.ref a0), some (.int i1), some (.int i2)], [], mem, 0) := q_ent (by decide) (Nat.le_of_ble_eq_true rfl) rfl rfl
theorem n15 : Cw X (d + 1) 15 [.int i0] mem K = pR X d 15 0 K (0, [some (.int i0)], [], mem, 0) := q_ent (by decide) (Nat.le_of_ble_eq_true rfl) rfl rfl
theorem n16 : Cw X (d + 1) 16 [.ref a0] mem K = pR X d 16 0 K (0, [some (.ref a0)], [], mem, 0) := q_ent (by decide) (Nat.le_of_ble_eq_true rfl) rfl rfl
theorem n17 : Cw X (d + 1) 17 [.ref a0, .int i1, .int i2] mem K = pR X d 17 0 K (0, [some (.ref a0), some (.int i1), some (.int i2), none], [], mem, 0) := q_ent (by decide) (Nat.le_of_ble_eq_true rfl) rfl rfl
theorem n18 : Cw X (d + 1) 18 [.ref a0, .int i1, .int i2] mem K = pR X d 18 0 K (0, [some (.ref a0), some (.int i1), some (.int i2)], [], mem, 0) := q_ent (by decide) (Nat.le_of_ble_eq_true rfl) rfl rfl
theorem n19 : Cw X (d + 1) 19 [.ref a0, .int i1, .int i2] mem K = pR X d 19 0 K (0, [some (.ref a0), some (.int i1), some (.int i2)], [], mem, 0) := q_ent (by decide) (Nat.le_of_ble_eq_true rfl) rfl rfl
theorem n20 : Cw X (d + 1) 20 [.ref a0, .int i1] mem K = pR X d 20 0 K (0, [some (.ref a0), some (.int i1)], [], mem, 0) := q_ent (by decide) (Nat.le_of_ble_eq_true rfl) rfl rfl
theorem n21 : Cw X (d + 1) 21 [.ref a0, .int i1, .int i2] mem K = pR X d 21 0 K (0, [some (.ref a0), some (.int i1), some (.int i2)], [], mem, 0) := q_ent (by decide) (Nat.le_of_ble_eq_true rfl) rfl rfl
theorem n22 : Cw X (d + 1) 22 [.ref a0, .int i1] mem K = pR X d 22 0 K (0, [some (.ref a0), some (.int i1)], [], mem, 0) := q_ent (by decide) (Nat.le_of_ble_eq_true rfl) rfl rfl
theorem n23 : Cw X (d + 1) 23 [.ref a0, .int i1] mem K = pR X d 23 0 K (0, [some (.ref a0), some (.int i1)], [], mem, 0) := q_ent (by decide) (Nat.le_of_ble_eq_true rfl) rfl rfl
theorem n24 : Cw X (d + 1) 24 [.ref a0, .int i1] mem K = pR X d 24 0 K (0, [some (.ref a0), some (.int i1), none], [], mem, 0) := q_ent (by decide) (Nat.le_of_ble_eq_true rfl) rfl rfl
theorem n25 : Cw X (d + 1) 25 [.ref a0] mem K = pR X d 25 0 K (0, [some (.ref a0)], [], mem, 0) := q_ent (by decide) (Nat.le_of_ble_eq_true rfl) rfl rfl
theorem n26 : Cw X (d + 1) 26 [.ref a0, .int i1] mem K = pR X d 26 0 K (0, [some (.ref a0), some (.int i1)], [], mem, 0) := q_ent (by decide) (Nat.le_of_ble_eq_true rfl) rfl rfl
theorem n27 : Cw X (d + 1) 27 [.ref a0, .int i1, .int i2, .int i3] mem K = pR X d 27 0 K (0, [some (.ref a0), some (.int i1), some (.int i2), some (.int i3), none, none], [], mem, 0) := q_ent (by decide) (Nat.le_of_ble_eq_true rfl) rfl rfl
theorem n28 : Cw X (d + 1) 28 [.int i0] mem K = pR X d 28 0 K (0, [some (.int i0)], [], mem, 0) := q_ent (by decide) (Nat.le_of_ble_eq_true rfl) rfl rfl
theorem n29 : Cw X (d + 1) 29 [.ref a0, .int i1, .int i2] mem K = pR X d 29 0 K (0, [some (.ref a0), some (.int i1), some (.int i2)], [], mem, 0) := q_ent (by decide) (Nat.le_of_ble_eq_true rfl) rfl rfl
theorem n30 : Cw X (d + 1) 30 [.ref a0, .int i1, .int i2, .int i3] mem K = pR X d 30 0 K (0, [some (.ref a0), some (.int i1), some (.int i2), some (.int i3), none], [], mem, 0) := q_ent (by decide) (Nat.le_of_ble_eq_true rfl) rfl rfl
theorem n31 : Cw X (d + 1) 31 [.int i0] mem K = pR X d 31 0 K (0, [some (.int i0)], [], mem, 0) := q_ent (by decide) (Nat.le_of_ble_eq_true rfl) rfl rfl
theorem n32 : Cw X (d + 1) 32 [.ref a0, .int i1, .int i2] mem K = pR X d 32 0 K (0, [some (.ref a0), some (.int i1), some (.int i2), none, none, none], [], mem, 0) := q_ent (by decide) (Nat.le_of_ble_eq_true rfl) rfl rfl
theorem n33 : Cw X (d + 1) 33 [.ref a0, .int i1] mem K = pR X d 33 0 K (0, [some (.ref a0), some (.int i1)], [], mem, 0) := q_ent (by decide) (Nat.le_of_ble_eq_true rfl) rfl rfl
theorem n34 : Cw X (d + 1) 34 [.ref a0, .int i1, .int i2, .int i3] mem K = pR X d 34 0 K (0, [some (.ref a0), some (.int i1), some (.int i2), some (.int i3)], [], mem, 0) := q_ent (by decide) (Nat.le_of_ble_eq_true rfl) rfl rfl
theorem n35 : Cw X (d + 1) 35 [.ref a0, .int i1, .int i2] mem K = pR X d 35 0 K (0, [some (.ref a0), some (.int i1), some (.int i2)], [], mem, 0) := q_ent (by decide) (Nat.le_of_ble_eq_true rfl) rfl rfl
theorem n36 : Cw X (d + 1) 36 [.ref a0, .int i1, .int i2, .int i3] mem K = pR X d 36 0 K (0, [some (.ref a0), some (.int i1), some (.int i2), some (.int i3), none, none], [], mem, 0) := q_ent (by decide) (Nat.le_of_ble_eq_true rfl) rfl rfl
theorem n37 : Cw X (d + 1) 37 [.ref a0, .int i1, .int i2] mem K = pR X d 37 0 K (0, [some (.ref a0), some (.int i1), some (.int i2), none], [], mem, 0) := q_ent (by decide) (Nat.le_of_ble_eq_true rfl) rfl rfl
theorem n38 : Cw X (d + 1) 38 [.ref a0, .int i1, .int i2] mem K = pR X d 38 0 K (0, [some (.ref a0), some (.int i1), some (.int i2), none], [], mem, 0) := q_ent (by decide) (Nat.le_of_ble_eq_true rfl) rfl rfl
theorem n39 : Cw X (d + 1) 39 [.ref a0, .int i1] mem K = pR X d 39 0 K (0, [some (.ref a0), some (.int i1)], [], mem, 0) := q_ent (by decide) (Nat.le_of_ble_eq_true rfl) rfl rfl
theorem n40 : Cw X (d + 1) 40 [.ref a0, .int i1] mem K = pR X d 40 0 K (0, [some (.ref a0), some (.int i1), none], [], mem, 0) := q_ent (by decide) (Nat.le_of_ble_eq_true rfl) rfl rfl
theorem n41 : Cw X (d + 1) 41 [.ref a0] mem K = pR X d 41 0 K (0, [some (.ref a0), none, none, none, none], [], mem, 0) := q_ent (by decide) (Nat.le_of_ble_eq_true rfl) rfl rfl
theorem n42 : Cw X (d + 1) 42 [.ref a0] mem K = pR X d 42 0 K (0, [some (.ref a0)], [], mem, 0) := q_ent (by decide) (Nat.le_of_ble_eq_true rfl) rfl rfl
theorem n43 : Cw X (d + 1) 43 [.int i0] mem K = pR X d 43 0 K (0, [some (.int i0)], [], mem, 0) := q_ent (by decide) (Nat.le_of_ble_eq_true rfl) rfl rfl
theorem n44 : Cw X (d + 1) 44 [.int i0] mem K = pR X d 44 0 K (0, [some (.int i0)], [], mem, 0) := q_ent (by decide) (Nat.le_of_ble_eq_true rfl) rfl rfl
theorem n45 : Cw X (d + 1) 45 [.ref a0, .int i1] mem K = pR X d 45 0 K (0, [some (.ref a0), some (.int i1), none], [], mem, 0) := q_ent (by decide) (Nat.le_of_ble_eq_true rfl) rfl rfl
theorem n46 : Cw X (d + 1) 46 [.ref a0, .int i1] mem K = pR X d 46 0 K (0, [some (.ref a0), some (.int i1), none], [], mem, 0) := q_ent (by decide) (Nat.le_of_ble_eq_true rfl) rfl rfl
theorem n47 : Cw X (d + 1) 47 [.ref a0] mem K = pR X d 47 0 K (0, [some (.ref a0)], [], mem, 0) := q_ent (by decide) (Nat.le_of_ble_eq_true rfl) rfl rfl
theorem n48 : Cw X (d + 1) 48 [.ref a0, .int i1] mem K = pR X d 48 0 K (0, [some (.ref a0), some (.int i1), none, none], [], mem, 0) := q_ent (by decide) (Nat.le_of_ble_eq_true rfl) rfl rfl
theorem n49 : Cw X (d + 1) 49 [.ref a0, .int i1] mem K = pR X d 49 0 K (0, [some (.ref a0), some (.int i1)], [], mem, 0) := q_ent (by decide) (Nat.le_of_ble_eq_true rfl) rfl rfl
theorem n50 : Cw X (d + 1) 50 [.ref a0] mem K = pR X d 50 0 K (0, [some (.ref a0), none, none], [], mem, 0) := q_ent (by decide) (Nat.le_of_ble_eq_true rfl) rfl rfl
theorem n51 : Cw X (d + 1) 51 [.ref a0] mem K = pR X d 51 0 K (0, [some (.ref a0), none, none, none], [], mem, 0) := q_ent (by decide) (Nat.le_of_ble_eq_true rfl) rfl rfl
theorem n52 : Cw X (d + 1) 52 [.ref a0, .int i1, .int i2, .int i3] mem K = pR X d 52 0 K (0, [some (.ref a0), some (.int i1), some (.int i2), some (.int i3)], [], mem, 0) := q_ent (by decide) (Nat.le_of_ble_eq_true rfl) rfl rfl
theorem n53 : Cw X (d + 1) 53 [.ref a0, .ref a1] mem K = pR X d 53 0 K (0, [some (.ref a0), some (.ref a1), none], [], mem, 0) := q_ent (by decide) (Nat.le_of_ble_eq_true rfl) rfl rfl
theorem n54 : Cw X (d + 1) 54 [.ref a0, .ref a1] mem K = pR X d 54 0 K (0, [some (.ref a0), some (.ref a1)], [], mem, 0) := q_ent (by decide) (Nat.le_of_ble_eq_true rfl) rfl rfl
theorem n55 : Cw X (d + 1) 55 [.ref a0, .int i1, .int i2] mem K = pR X d 55 0 K (0, [some (.ref a0), some (.int i1), some (.int i2)], [], mem, 0) := q_ent (by decide) (Nat.le_of_ble_eq_true rfl) rfl rfl
theorem n56 : Cw X (d + 1) 56 [.ref a0, .int i1, .int i2, .int i3] mem K = pR X d 56 0 K (0, [some (.ref a0), some (.int i1), some (.int i2), some (.int i3), none], [], mem, 0) := q_ent (by decide) (Nat.le_of_ble_eq_true rfl) rfl rfl
theorem n57 : Cw X (d + 1) 57 [.ref a0, .int i1, .int i2, .int i3] mem K = pR X d 57 0 K (0, [some (.ref a0), some (.int i1), some (.int i2), some (.int i3)], [], mem, 0) := q_ent (by decide) (Nat.le_of_ble_eq_true rfl) rfl rfl
theorem n58 : Cw X (d + 1) 58 [.ref a0, .int i1] mem K = pR X d 58 0 K (0, [some (.ref a0), some (.int i1)], [], mem, 0) := q_ent (by decide) (Nat.le_of_ble_eq_true rfl) rfl rfl
theorem n59 : Cw X (d + 1) 59 [.ref a0] mem K = pR X d 59 0 K (0, [some (.ref a0)], [], mem, 0) := q_ent (by decide) (Nat.le_of_ble_eq_true rfl) rfl rfl
theorem n60 : Cw X (d + 1) 60 [.ref a0, .int i1] mem K = pR X d 60 0 K (0, [some (.ref a0), some (.int i1)], [], mem, 0) := q_ent (by decide) (Nat.le_of_ble_eq_true rfl) rfl rfl
theorem n61 : Cw X (d + 1) 61 [.ref a0, .int i1, .int i2] mem K = pR X d 61 0 K (0, [some (.ref a0), some (.int i1), some (.int i2), none], [], mem, 0) := q_ent (by decide) (Nat.le_of_ble_eq_true rfl) rfl rfl
theorem n62 : Cw X (d + 1) 62 [.ref a0, .int i1, .int i2] mem K = pR X d 62 0 K (0, [some (.ref a0), some (.int i1), some (.int i2), none], [], mem, 0) := q_ent (by decide) (Nat.le_of_ble_eq_true rfl) rfl rfl
theorem n63 : Cw X (d + 1) 63 [.ref a0, .int i1] mem K = pR X d 63 0 K (0, [some (.ref a0), some (.int i1), none, none, none], [], mem, 0) := q_ent (by decide) (Nat.le_of_ble_eq_true rfl) rfl rfl
theorem n64 : Cw X (d + 1) 64 [.ref a0, .int i1, .int i2] mem K = pR X d 64 0 K (0, [some (.ref a0), some (.int i1), some (.int i2), none, none, none], [], mem, 0) := q_ent (by decide) (Nat.le_of_ble_eq_true rfl) rfl rfl
theorem n65 : Cw X (d + 1) 65 [.ref a0, .int i1, .int i2] mem K = pR X d 65 0 K (0, [some (.ref a0), some (.int i1), some (.int i2), none], [], mem, 0) := q_ent (by decide) (Nat.le_of_ble_eq_true rfl) rfl rfl
theorem n66 : Cw X (d + 1) 66 [.ref a0, .int i1] mem K = pR X d 66 0 K (0, [some (.ref a0), some (.int i1), none, none], [], mem, 0) := q_ent (by decide) (Nat.le_of_ble_eq_true rfl) rfl rfl
theorem n67 : Cw X (d + 1) 67 [.int i0] mem K = pR X d 67 0 K (0, [some (.int i0)], [], mem, 0) := q_ent (by decide) (Nat.le_of_ble_eq_true rfl) rfl rfl
theorem n68 : Cw X (d + 1) 68 [.ref a0, .int i1, .int i2] mem K = pR X d 68 0 K (0, [some (.ref a0), some (.int i1), some (.int i2)], [], mem, 0) := q_ent (by decide) (Nat.le_of_ble_eq_true rfl) rfl rfl
theorem n69 : Cw X (d + 1) 69 [.ref a0, .int i1] mem K = pR X d 69 0 K (0, [some (.ref a0), some (.int i1), none], [], mem, 0) := q_ent (by decide) (Nat.le_of_ble_eq_true rfl) rfl rfl
theorem n70 : Cw X (d + 1) 70 [.ref a0, .int i1] mem K = pR X d 70 0 K (0, [some (.ref a0), some (.int i1)], [], mem, 0) := q_ent (by decide) (Nat.le_of_ble_eq_true rfl) rfl rfl
theorem n71 : Cw X (d + 1) 71 [.ref a0, .int i1] mem K = pR X d 71 0 K (0, [some (.ref a0), some (.int i1)], [], mem, 0) := q_ent (by decide) (Nat.le_of_ble_eq_true rfl) rfl rfl
theorem n72 : Cw X (d + 1) 72 [.ref a0, .int i1, .int i2] mem K = pR X d 72 0 K (0, [some (.ref a0), some (.int i1), some (.int i2), none, none, none], [], mem, 0) := q_ent (by decide) (Nat.le_of_ble_eq_true rfl) rfl rfl
theorem n73 : Cw X (d + 1) 73 [.ref a0, .int i1, .int i2] mem K = pR X d 73 0 K (0, [some (.ref a0), some (.int i1), some (.int i2), none], [], mem, 0) := q_ent (by decide) (Nat.le_of_ble_eq_true rfl) rfl rfl
theorem n74 : Cw X (d + 1) 74 [.ref a0, .int i1] mem K = pR X d 74 0 K (0, [some (.ref a0), some (.int i1)], [], mem, 0) := q_ent (by decide) (Nat.le_of_ble_eq_true rfl) rfl rfl
theorem n75 : Cw X (d + 1) 75 [.int i0] mem K = pR X d 75 0 K (0, [some (.int i0)], [], mem, 0) := q_ent (by decide) (Nat.le_of_ble_eq_true rfl) rfl rfl
theorem n76 : Cw X (d + 1) 76 [.ref a0] mem K = pR X d 76 0 K (0, [some (.ref a0)], [], mem, 0) := q_ent (by decide) (Nat.le_of_ble_eq_true rfl) rfl rfl
theorem n77 : Cw X (d + 1) 77 [.ref a0, .ref a1, .int i2, .int i3] mem K = pR X d 77 0 K (0, [some (.ref a0), some (.ref a1), some (.int i2), some (.int i3)], [], mem, 0) := q_ent (by decide) (Nat.le_of_ble_eq_true rfl) rfl rfl
theorem n78 : Cw X (d + 1) 78 [.ref a0, .ref a1, .int i2] mem K = pR X d 78 0 K (0, [some (.ref a0), some (.ref a1), some (.int i2), none], [], mem, 0) := q_ent (by decide) (Nat.le_of_ble_eq_true rfl) rfl rfl
theorem n79 : Cw X (d + 1) 79 [.ref a0, .int i1, .int i2] mem K = pR X d 79 0 K (0, [some (.ref a0), some (.int i1), some (.int i2), none, none], [], mem, 0) := q_ent (by decide) (Nat.le_of_ble_eq_true rfl) rfl rfl
theorem n80 : Cw X (d + 1) 80 [.ref a0, .int i1, .int i2] mem K = pR X d 80 0 K (0, [some (.ref a0), some (.int i1), some (.int i2), none, none, none], [], mem, 0) := q_ent (by decide) (Nat.le_of_ble_eq_true rfl) rfl rfl
theorem n81 : Cw X (d + 1) 81 [.ref a0, .int i1] mem K = pR X d 81 0 K (0, [some (.ref a0), some (.int i1), none], [], mem, 0) := q_ent (by decide) (Nat.le_of_ble_eq_true rfl) rfl rfl
theorem n82 : Cw X (d + 1) 82 [.ref a0] mem K = pR X d 82 0 K (0, [some (.ref a0), none, none], [], mem, 0) := q_ent (by decide) (Nat.le_of_ble_eq_true rfl) rfl rfl
theorem n83 : Cw X (d + 1) 83 [.ref a0] mem K = pR X d 83 0 K (0, [some (.ref a0)], [], mem, 0) := q_ent (by decide) (Nat.le_of_ble_eq_true rfl) rfl rfl
theorem n84 : Cw X (d + 1) 84 [.int i0, .int i1, .int i2] mem K = pR X d 84 0 K (0, [some (.int i0), some (.int i1), some (.int i2)], [], mem, 0) := q_ent (by decide) (Nat.le_of_ble_eq_true rfl) rfl rfl
theorem n85 : Cw X (d + 1) 85 [.ref a0, .int i1, .int i2, .int i3] mem K = pR X d 85 0 K (0, [some (.ref a0), some (.int i1), some (.int i2), some (.int i3), none, none, none, none, none, none], [], mem, 0) := q_ent (by decide) (Nat.le_of_ble_eq_true rfl) rfl rfl
theorem n86 : Cw X (d + 1) 86 [.ref a0, .int i1] mem K = pR X d 86 0 K (0, [some (.ref a0), some (.int i1), none, none, none], [], mem, 0) := q_ent (by decide) (Nat.le_of_ble_eq_true rfl) rfl rfl
theorem n87 : Cw X (d + 1) 87 [.int i0, .int i1] mem K = pR X d 87 0 K (0, [some (.int i0), some (.int i1), none], [], mem, 0) := q_ent (by decide) (Nat.le_of_ble_eq_true rfl) rfl rfl
theorem n88 : Cw X (d + 1) 88 [.ref a0, .int i1] mem K = pR X d 88 0 K (0, [some (.ref a0), some (.int i1), none], [], mem, 0) := q_ent (by decide) (Nat.le_of_ble_eq_true rfl) rfl rfl
theorem n89 : Cw X (d + 1) 89 [.ref a0, .int i1, .int i2] mem K = pR X d 89 0 K (0, [some (.ref a0), some (.int i1), some (.int i2), none], [], mem, 0) := q_ent (by decide) (Nat.le_of_ble_eq_true rfl) rfl rfl
theorem n90 : Cw X (d + 1) 90 [.ref a0, .int i1] mem K = pR X d 90 0 K (0, [some (.ref a0), some (.int i1)], [], mem, 0) := q_ent (by decide) (Nat.le_of_ble_eq_true rfl) rfl rfl
theorem n91 : Cw X (d + 1) 91 [.ref a0] mem K = pR X d 91 0 K (0, [some (.ref a0), none], [], mem, 0) := q_ent (by decide) (Nat.le_of_ble_eq_true rfl) rfl rfl
theorem n92 : Cw X (d + 1) 92 [.ref a0] mem K = pR X d 92 0 K (0, [some (.ref a0), none], [], mem, 0) := q_ent (by decide) (Nat.le_of_ble_eq_true rfl) rfl rfl
theorem n93 : Cw X (d + 1) 93 [.ref a0, .ref a1] mem K = pR X d 93 0 K (0, [some (.ref a0), some (.ref a1), none, none], [], mem, 0) := q_ent (by decide) (Nat.le_of_ble_eq_true rfl) rfl rfl
theorem n94 : Cw X (d + 1) 94 [.ref a0] mem K = pR X d 94 0 K (0, [some (.ref a0)], [], mem, 0) := q_ent (by decide) (Nat.le_of_ble_eq_true rfl) rfl rfl
theorem n95 : Cw X (d + 1) 95 [.int i0] mem K = pR X d 95 0 K (0, [some (.int i0)], [], mem, 0) := q_ent (by decide) (Nat.le_of_ble_eq_true rfl) rfl rfl
theorem n96 : Cw X (d + 1) 96 [.int i0] mem K = pR X d 96 0 K (0, [some (.int i0)], [], mem, 0) := q_ent (by decide) (Nat.le_of_ble_eq_true rfl) rfl rfl
theorem n97 : Cw X (d + 1) 97 [.ref a0] mem K = pR X d 97 0 K (0, [some (.ref a0)], [], mem, 0) := q_ent (by decide) (Nat.le_of_ble_eq_true rfl) rfl rfl
theorem n98 : Cw X (d + 1) 98 [.ref a0, .ref a1] mem K = pR X d 98 0 K (0, [some (.ref a0), some (.ref a1), none], [], mem, 0) := q_ent (by decide) (Nat.le_of_ble_eq_true rfl) rfl rfl
theorem n99 : Cw X (d + 1) 99 [.ref a0] mem K = pR X d 99 0 K (0, [some (.ref a0)], [], mem, 0) := q_ent (by decide) (Nat.le_of_ble_eq_true rfl) rfl rfl
theorem n100 : Cw X (d + 1) 100 [.ref a0] mem K = pR X d 100 0 K (0, [some (.ref a0)], [], mem, 0) := q_ent (by decide) (Nat.le_of_ble_eq_true rfl) rfl rfl
theorem n101 : Cw X (d + 1) 101 [.ref a0, .int i1] mem K = pR X d 101 0 K (0, [some (.ref a0), some (.int i1)], [], mem, 0) := q_ent (by decide) (Nat.le_of_ble_eq_true rfl) rfl rfl
theorem n102 : Cw X (d + 1) 102 [.ref a0] mem K = pR X d 102 0 K (0, [some (.ref a0)], [], mem, 0) := q_ent (by decide) (Nat.le_of_ble_eq_true rfl) rfl rfl
theorem n103 : Cw X (d + 1) 103 [.ref a0, .int i1] mem K = pR X d 103 0 K (0, [some (.ref a0), some (.int i1)], [], mem, 0) := q_ent (by decide) (Nat.le_of_ble_eq_true rfl) rfl rfl
theorem n104 : Cw X (d + 1) 104 [.int i0, .int i1] mem K = pR X d 104 0 K (0, [some (.int i0), some (.int i1)], [], mem, 0) := q_ent (by decide) (Nat.le_of_ble_eq_true rfl) rfl rfl
theorem n106 : Cw X (d + 1) 106 [.ref a0, .ref a1] mem K = pR X d 106 0 K (0, [some (.ref a0), some (.ref a1), none, none, none, none], [], mem, 0) := q_ent (by decide) (Nat.le_of_ble_eq_true rfl) rfl rfl
theorem n107 : Cw X (d + 1) 107 [.ref a0, .int i1] mem K = pR X d 107 0 K (0, [some (.ref a0), some (.int i1), none], [], mem, 0) := q_ent (by decide) (Nat.le_of_ble_eq_true rfl) rfl rfl
theorem n108 : Cw X (d + 1) 108 [.ref a0, .int i1, .int i2] mem K = pR X d 108 0 K (0, [some (.ref a0), some (.int i1), some (.int i2)], [], mem, 0) := q_ent (by decide) (Nat.le_of_ble_eq_true rfl) rfl rfl
theorem n109 : Cw X (d + 1) 109 [.ref a0, .ref a1] mem K = pR X d 109 0 K (0, [some (.ref a0), some (.ref a1)], [], mem, 0) := q_ent (by decide) (Nat.le_of_ble_eq_true rfl) rfl rfl
theorem n110 : Cw X (d + 1) 110 [.ref a0, .ref a1] mem K = pR X d 110 0 K (0, [some (.ref a0), some (.ref a1), none, none], [], mem, 0) := q_ent (by decide) (Nat.le_of_ble_eq_true rfl) rfl rfl
theorem n111 : Cw X (d + 1) 111 [.ref a0] mem K = pR X d 111 0 K (0, [some (.ref a0), none], [], mem, 0) := q_ent (by decide) (Nat.le_of_ble_eq_true rfl) rfl rfl
theorem n112 : Cw X (d + 1) 112 [.int i0] mem K = pR X d 112 0 K (0, [some (.int i0)], [], mem, 0) := q_ent (by decide) (Nat.le_of_ble_eq_true rfl) rfl rfl
theorem n113 : Cw X (d + 1) 113 [.ref a0, .ref a1, .ref a2, .int i3] mem K = pR X d 113 0 K (0, [some (.ref a0), some (.ref a1), some (.ref a2), some (.int i3)], [], mem, 0) := q_ent (by decide) (Nat.le_of_ble_eq_true rfl) rfl rfl
theorem n114 : Cw X (d + 1) 114 [.ref a0, .int i1, .int i2] mem K = pR X d 114 0 K (0, [some (.ref a0), some (.int i1), some (.int i2)], [], mem, 0) := q_ent (by decide) (Nat.le_of_ble_eq_true rfl) rfl rfl
theorem n115 : Cw X (d + 1) 115 [.int i0] mem K = pR X d 115 0 K (0, [some (.int i0)], [], mem, 0) := q_ent (by decide) (Nat.le_of_ble_eq_true rfl) rfl rfl
theorem n116 : Cw X (d + 1) 116 [.ref a0, .int i1, .int i2] mem K = pR X d 116 0 K (0, [some (.ref a0), some (.int i1), some (.int i2), none], [], mem, 0) := q_ent (by decide) (Nat.le_of_ble_eq_true rfl) rfl rfl
theorem n117 : Cw X (d + 1) 117 [.int i0, .int i1] mem K = pR X d 117 0 K (0, [some (.int i0), some (.int i1), none, none], [], mem, 0) := q_ent (by decide) (Nat.le_of_ble_eq_true rfl) rfl rfl
theorem n118 : Cw X (d + 1) 118 [.ref a0, .int i1, .int i2, .int i3] mem K = pR X d 118 0 K (0, [some (.ref a0), some (.int i1), some (.int i2), some (.int i3)], [], mem, 0) := q_ent (by decide) (Nat.le_of_ble_eq_true rfl) rfl rfl
theorem n119 : Cw X (d + 1) 119 [.ref a0, .int i1, .int i2] mem K = pR X d 119 0 K (0, [some (.ref a0), some (.int i1), some (.int i2), none], [], mem, 0) := q_ent (by decide) (Nat.le_of_ble_eq_true rfl) rfl rfl
theorem n120 : Cw X (d + 1) 120 [.ref a0, .int i1, .int i2, .int i3] mem K = pR X d 120 0 K (0, [some (.ref a0), some (.int i1), some (.int i2), some (.int i3), none], [], mem, 0) := q_ent (by decide) (Nat.le_of_ble_eq_true rfl) rfl rfl
theorem n121 : Cw X (d + 1) 121 [.ref a0, .int i1, .int i2] mem K = pR X d 121 0 K (0, [some (.ref a0), some (.int i1), some (.int i2)], [], mem, 0) := q_ent (by decide) (Nat.le_of_ble_eq_true rfl) rfl rfl
theorem n122 : Cw X (d + 1) 122 [.ref a0, .int i1, .int i2, .int i3, .int i4, .int i5] mem K = pR X d 122 0 K (0, [some (.ref a0), some (.int i1), some (.int i2), some (.int i3), some (.int i4), some (.int i5)], [], mem, 0) := q_ent (by decide) (Nat.le_of_ble_eq_true rfl) rfl rfl
theorem n123 : Cw X (d + 1) 123 [.ref a0, .int i1, .int i2] mem K = pR X d 123 0 K (0, [some (.ref a0), some (.int i1), some (.int i2)], [], mem, 0) := q_ent (by decide) (Nat.le_of_ble_eq_true rfl) rfl rfl
theorem n124 : Cw X (d + 1) 124 [.ref a0, .int i1] mem K = pR X d 124 0 K (0, [some (.ref a0), some (.int i1), none, none, none, none], [], mem, 0) := q_ent (by decide) (Nat.le_of_ble_eq_true rfl) rfl rfl
theorem n125 : Cw X (d + 1) 125 [.ref a0, .int i1] mem K = pR X d 125 0 K (0, [some (.ref a0), some (.int i1), none, none], [], mem, 0) := q_ent (by decide) (Nat.le_of_ble_eq_true rfl) rfl rfl
theorem n126 : Cw X (d + 1) 126 [.ref a0] mem K = pR X d 126 0 K (0, [some (.ref a0)], [], mem, 0) := q_ent (by decide) (Nat.le_of_ble_eq_true rfl) rfl rfl
theorem n127 : Cw X (d + 1) 127 [.ref a0] mem K = pR X d 127 0 K (0, [some (.ref a0)], [], mem, 0) := q_ent (by decide) (Nat.le_of_ble_eq_true rfl) rfl rfl
theorem n128 : Cw X (d + 1) 128 [.ref a0] mem K = pR X d 128 0 K (0, [some (.ref a0), none], [], mem, 0) := q_ent (by decide) (Nat.le_of_ble_eq_true rfl) rfl rfl
theorem n129 : Cw X (d + 1) 129 [.ref a0, .int i1] mem K = pR X d 129 0 K (0, [some (.ref a0), some (.int i1)], [], mem, 0) := q_ent (by decide) (Nat.le_of_ble_eq_true rfl) rfl rfl
theorem n130 : Cw X (d + 1) 130 [.ref a0] mem K = pR X d 130 0 K (0, [some (.ref a0), none, none], [], mem, 0) := q_ent (by decide) (Nat.le_of_ble_eq_true rfl) rfl rfl
theorem n131 : Cw X (d + 1) 131 [.ref a0, .int i1] mem K = pR X d 131 0 K (0, [some (.ref a0), some (.int i1)], [], mem, 0) := q_ent (by decide) (Nat.le_of_ble_eq_true rfl) rfl rfl
theorem n132 : Cw X (d + 1) 132 [.ref a0] mem K = pR X d 132 0 K (0, [some (.ref a0), none, none], [], mem, 0) := q_ent (by decide) (Nat.le_of_ble_eq_true rfl) rfl rfl
theorem n133 : Cw X (d + 1) 133 [.ref a0] mem K = pR X d 133 10 K (0, [some (.ref a0), none], [], mem, 0) := q_ent (by decide) (Nat.le_of_ble_eq_true rfl) rfl rfl
theorem n134 : Cw X (d + 1) 134 [.ref a0, .int i1, .int i2] mem K = pR X d 134 0 K (0, [some (.ref a0), some (.int i1), some (.int i2)], [], mem, 0) := q_ent (by decide) (Nat.le_of_ble_eq_true rfl) rfl rfl
theorem n135 : Cw X (d + 1) 135 [.long v0, .long v1, .long v2] mem K = pR X d 135 0 K (0, [some (.long v0), none, some (.long v1), none, some (.long v2), none], [], mem, 0) := q_ent (by decide) (Nat.le_of_ble_eq_true rfl) rfl rfl
theorem n136 : Cw X (d + 1) 136 [.ref a0, .int i1, .int i2] mem K = pR X d 136 0 K (0, [some (.ref a0), some (.int i1), some (.int i2), none], [], mem, 0) := q_ent (by decide) (Nat.le_of_ble_eq_true rfl) rfl rfl
theorem n137 : Cw X (d + 1) 137 [.ref a0, .int i1] mem K = pR X d 137 0 K (0, [some (.ref a0), some (.int i1)], [], mem, 0) := q_ent (by decide) (Nat.le_of_ble_eq_true rfl) rfl rfl
theorem n138 : Cw X (d + 1) 138 [.ref a0, .int i1, .int i2] mem K = pR X d 138 0 K (0, [some (.ref a0), some (.int i1), some (.int i2)], [], mem, 0) := q_ent (by decide) (Nat.le_of_ble_eq_true rfl) rfl rfl
theorem n139 : Cw X (d + 1) 139 [.int i0] mem K = pR X d 139 0 K (0, [some (.int i0)], [], mem, 0) := q_ent (by decide) (Nat.le_of_ble_eq_true rfl) rfl rfl
theorem n140 : Cw X (d + 1) 140 [.int i0] mem K = pR X d 140 0 K (0, [some (.int i0)], [], mem, 0) := q_ent (by decide) (Nat.le_of_ble_eq_true rfl) rfl rfl
theorem n141 : Cw X (d + 1) 141 [.ref a0, .int i1] mem K = pR X d 141 0 K (0, [some (.ref a0), some (.int i1)], [], mem, 0) := q_ent (by decide) (Nat.le_of_ble_eq_true rfl) rfl rfl
theorem n142 : Cw X (d + 1) 142 [.ref a0, .int i1, .int i2] mem K = pR X d 142 0 K (0, [some (.ref a0), some (.int i1), some (.int i2)], [], mem, 0) := q_ent (by decide) (Nat.le_of_ble_eq_true rfl) rfl rfl
theorem n143 : Cw X (d + 1) 143 [.ref a0, .int i1, .int i2] mem K = pR X d 143 0 K (0, [some (.ref a0), some (.int i1), some (.int i2), none, none], [], mem, 0) := q_ent (by decide) (Nat.le_of_ble_eq_true rfl) rfl rfl
theorem n144 : Cw X (d + 1) 144 [.ref a0, .int i1, .int i2, .int i3] mem K = pR X d 144 0 K (0, [some (.ref a0), some (.int i1), some (.int i2), some (.int i3)], [], mem, 0) := q_ent (by decide) (Nat.le_of_ble_eq_true rfl) rfl rfl
theorem n145 : Cw X (d + 1) 145 [.ref a0, .int i1, .int i2] mem K = pR X d 145 0 K (0, [some (.ref a0), some (.int i1), some (.int i2)], [], mem, 0) := q_ent (by decide) (Nat.le_of_ble_eq_true rfl) rfl rfl
theorem n146 : Cw X (d + 1) 146 [.ref a0, .int i1] mem K = pR X d 146 0 K (0, [some (.ref a0), some (.int i1)], [], mem, 0) := q_ent (by decide) (Nat.le_of_ble_eq_true rfl) rfl rfl
theorem n147 : Cw X (d + 1) 147 [.ref a0, .int i1] mem K = pR X d 147 0 K (0, [some (.ref a0), some (.int i1)], [], mem, 0) := q_ent (by decide) (Nat.le_of_ble_eq_true rfl) rfl rfl
theorem n148 : Cw X (d + 1) 148 [.ref a0, .int i1, .int i2] mem K = pR X d 148 0 K (0, [some (.ref a0), some (.int i1), some (.int i2)], [], mem, 0) := q_ent (by decide) (Nat.le_of_ble_eq_true rfl) rfl rfl
theorem n149 : Cw X (d + 1) 149 [.ref a0, .int i1] mem K = pR X d 149 0 K (0, [some (.ref a0), some (.int i1), none], [], mem, 0) := q_ent (by decide) (Nat.le_of_ble_eq_true rfl) rfl rfl
theorem n150 : Cw X (d + 1) 150 [.ref a0, .int i1] mem K = pR X d 150 0 K (0, [some (.ref a0), some (.int i1), none], [], mem, 0) := q_ent (by decide) (Nat.le_of_ble_eq_true rfl) rfl rfl
theorem n151 : Cw X (d + 1) 151 [.ref a0, .int i1, .int i2, .int i3] mem K = pR X d 151 0 K (0, [some (.ref a0), some (.int i1), some (.int i2), some (.int i3)], [], mem, 0) := q_ent (by decide) (Nat.le_of_ble_eq_true rfl) rfl rfl
theorem n152 : Cw X (d + 1) 152 [.int i0] mem K = pR X d 152 0 K (0, [some (.int i0)], [], mem, 0) := q_ent (by decide) (Nat.le_of_ble_eq_true rfl) rfl rfl
theorem n153 : Cw X (d + 1) 153 [.ref a0, .int i1, .int i2, .int i3] mem K = pR X d 153 0 K (0, [some (.ref a0), some (.int i1), some (.int i2), some (.int i3)], [], mem, 0) := q_ent (by decide) (Nat.le_of_ble_eq_true rfl) rfl rfl
theorem n154 : Cw X (d + 1) 154 [.ref a0, .int i1, .int i2] mem K = pR X d 154 0 K (0, [some (.ref a0), some (.int i1), some (.int i2), none, none, none], [], mem, 0) := q_ent (by decide) (Nat.le_of_ble_eq_true rfl) rfl rfl
theorem n155 : Cw X (d + 1) 155 [.ref a0, .int i1, .int i2] mem K = pR X d 155 0 K (0, [some (.ref a0), some (.int i1), some (.int i2)], [], mem, 0) := q_ent (by decide) (Nat.le_of_ble_eq_true rfl) rfl rfl
theorem n156 : Cw X (d + 1) 156 [.ref a0, .int i1, .int i2, .int i3] mem K = pR X d 156 0 K (0, [some (.ref a0), some (.int i1), some (.int i2), some (.int i3)], [], mem, 0) := q_ent (by decide) (Nat.le_of_ble_eq_true rfl) rfl rfl
theorem n157 : Cw X (d + 1) 157 [.ref a0, .int i1, .int i2, .int i3] mem K = pR X d 157 0 K (0, [some (.ref a0), some (.int i1), some (.int i2), some (.int i3), none, none], [], mem, 0) := q_ent (by decide) (Nat.le_of_ble_eq_true rfl) rfl rfl
theorem n158 : Cw X (d + 1) 158 [.int i0, .int i1, .int i2] mem K = pR X d 158 0 K (0, [some (.int i0), some (.int i1), some (.int i2)], [], mem, 0) := q_ent (by decide) (Nat.le_of_ble_eq_true rfl) rfl rfl
theorem n159 : Cw X (d + 1) 159 [.ref a0, .int i1, .int i2, .int i3, .int i4] mem K = pR X d 159 0 K (0, [some (.ref a0), some (.int i1), some (.int i2), some (.int i3), some (.int i4)], [], mem, 0) := q_ent (by decide) (Nat.le_of_ble_eq_true rfl) rfl rfl
theorem n160 : Cw X (d + 1) 160 [.ref a0, .int i1] mem K = pR X d 160 0 K (0, [some (.ref a0), some (.int i1)], [], mem, 0) := q_ent (by decide) (Nat.le_of_ble_eq_true rfl) rfl rfl
theorem n161 : Cw X (d + 1) 161 [.ref a0, .int i1] mem K = pR X d 161 0 K (0, [some (.ref a0), some (.int i1), none], [], mem, 0) := q_ent (by decide) (Nat.le_of_ble_eq_true rfl) rfl rfl
theorem n162 : Cw X (d + 1) 162 [.ref a0] mem K = pR X d 162 0 K (0, [some (.ref a0), none, none, none, none, none], [], mem, 0) := q_ent (by decide) (Nat.le_of_ble_eq_true rfl) rfl rfl
theorem n163 : Cw X (d + 1) 163 [.ref a0] mem K = pR X d 163 0 K (0, [some (.ref a0)], [], mem, 0) := q_ent (by decide) (Nat.le_of_ble_eq_true rfl) rfl rfl
theorem n164 : Cw X (d + 1) 164 [.ref a0, .int i1] mem K = pR X d 164 0 K (0, [some (.ref a0), some (.int i1), none, none], [], mem, 0) := q_ent (by decide) (Nat.le_of_ble_eq_true rfl) rfl rfl
theorem n165 : Cw X (d + 1) 165 [.ref a0, .int i1] mem K = pR X d 165 0 K (0, [some (.ref a0), some (.int i1)], [], mem, 0) := q_ent (by decide) (Nat.le_of_ble_eq_true rfl) rfl rfl
theorem n166 : Cw X (d + 1) 166 [.ref a0] mem K = pR X d 166 0 K (0, [some (.ref a0), none, none], [], mem, 0) := q_ent (by decide) (Nat.le_of_ble_eq_true rfl) rfl rfl
theorem n167 : Cw X (d + 1) 167 [.ref a0] mem K = pR X d 167 0 K (0, [some (.ref a0), none, none], [], mem, 0) := q_ent (by decide) (Nat.le_of_ble_eq_true rfl) rfl rfl
theorem n168 : Cw X (d + 1) 168 [.ref a0, .int i1, .int i2, .int i3] mem K = pR X d 168 0 K (0, [some (.ref a0), some (.int i1), some (.int i2), some (.int i3), none], [], mem, 0) := q_ent (by decide) (Nat.le_of_ble_eq_true rfl) rfl rfl
theorem n169 : Cw X (d + 1) 169 [.ref a0, .ref a1] mem K = pR X d 169 0 K (0, [some (.ref a0), some (.ref a1), none], [], mem, 0) := q_ent (by decide) (Nat.le_of_ble_eq_true rfl) rfl rfl
theorem n170 : Cw X (d + 1) 170 [.ref a0, .int i1, .int i2] mem K = pR X d 170 0 K (0, [some (.ref a0), some (.int i1), some (.int i2), none, none], [], mem, 0) := q_ent (by decide) (Nat.le_of_ble_eq_true rfl) rfl rfl
theorem n171 : Cw X (d + 1) 171 [.ref a0, .int i1] mem K = pR X d 171 0 K (0, [some (.ref a0), some (.int i1)], [], mem, 0) := q_ent (by decide) (Nat.le_of_ble_eq_true rfl) rfl rfl
theorem n172 : Cw X (d + 1) 172 [.ref a0, .int i1, .int i2] mem K = pR X d 172 0 K (0, [some (.ref a0), some (.int i1), some (.int i2), none, none], [], mem, 0) := q_ent (by decide) (Nat.le_of_ble_eq_true rfl) rfl rfl
theorem n173 : Cw X (d + 1) 173 [.ref a0] mem K = pR X d 173 0 K (0, [some (.ref a0), none, none], [], mem, 0) := q_ent (by decide) (Nat.le_of_ble_eq_true rfl) rfl rfl
theorem n174 : Cw X (d + 1) 174 [.ref a0, .int i1] mem K = pR X d 174 0 K (0, [some (.ref a0), some (.int i1)], [], mem, 0) := q_ent (by decide) (Nat.le_of_ble_eq_true rfl) rfl rfl
theorem n175 : Cw X (d + 1) 175 [.ref a0, .int i1, .int i2] mem K = pR X d 175 0 K (0, [some (.ref a0), some (.int i1), some (.int i2), none], [], mem, 0) := q_ent (by decide) (Nat.le_of_ble_eq_true rfl) rfl rfl
theorem n176 : Cw X (d + 1) 176 [.int i0] mem K = pR X d 176 0 K (0, [some (.int i0)], [], mem, 0) := q_ent (by decide) (Nat.le_of_ble_eq_true rfl) rfl rfl
theorem n177 : Cw X (d + 1) 177 [.ref a0, .int i1, .int i2] mem K = pR X d 177 0 K (0, [some (.ref a0), some (.int i1), some (.int i2)], [], mem, 0) := q_ent (by decide) (Nat.le_of_ble_eq_true rfl) rfl rfl
theorem n178 : Cw X (d + 1) 178 [.ref a0, .int i1] mem K = pR X d 178 0 K (0, [some (.ref a0), some (.int i1), none], [], mem, 0) := q_ent (by decide) (Nat.le_of_ble_eq_true rfl) rfl rfl
theorem n179 : Cw X (d + 1) 179 [.ref a0, .int i1] mem K = pR X d 179 0 K (0, [some (.ref a0), some (.int i1), none, none, none, none], [], mem, 0) := q_ent (by decide) (Nat.le_of_ble_eq_true rfl) rfl rfl
theorem n180 : Cw X (d + 1) 180 [.ref a0, .int i1, .int i2] mem K = pR X d 180 0 K (0, [some (.ref a0), some (.int i1), some (.int i2), none, none, none, none], [], mem, 0) := q_ent (by decide) (Nat.le_of_ble_eq_true rfl) rfl rfl
theorem n181 : Cw X (d + 1) 181 [.ref a0, .int i1, .int i2] mem K = pR X d 181 0 K (0, [some (.ref a0), some (.int i1), some (.int i2), none], [], mem, 0) := q_ent (by decide) (Nat.le_of_ble_eq_true rfl) rfl rfl
theorem n182 : Cw X (d + 1) 182 [.ref a0, .int i1, .int i2] mem K = pR X d 182 0 K (0, [some (.ref a0), some (.int i1), some (.int i2), none], [], mem, 0) := q_ent (by decide) (Nat.le_of_ble_eq_true rfl) rfl rfl
theorem n183 : Cw X (d + 1) 183 [.ref a0, .int i1] mem K = pR X d 183 0 K (0, [some (.ref a0), some (.int i1), none, none], [], mem, 0) := q_ent (by decide) (Nat.le_of_ble_eq_true rfl) rfl rfl
theorem n184 : Cw X (d + 1) 184 [.int i0] mem K = pR X d 184 0 K (0, [some (.int i0), none, none], [], mem, 0) := q_ent (by decide) (Nat.le_of_ble_eq_true rfl) rfl rfl
theorem n185 : Cw X (d + 1) 185 [.ref a0, .int i1] mem K = pR X d 185 0 K (0, [some (.ref a0), some (.int i1)], [], mem, 0) := q_ent (by decide) (Nat.le_of_ble_eq_true rfl) rfl rfl
theorem n186 : Cw X (d + 1) 186 [.ref a0, .int i1, .int i2] mem K = pR X d 186 0 K (0, [some (.ref a0), some (.int i1), some (.int i2), none, none, none], [], mem, 0) := q_ent (by decide) (Nat.le_of_ble_eq_true rfl) rfl rfl
theorem n187 : Cw X (d + 1) 187 [.ref a0, .int i1, .int i2] mem K = pR X d 187 0 K (0, [some (.ref a0), some (.int i1), some (.int i2), none], [], mem, 0) := q_ent (by decide) (Nat.le_of_ble_eq_true rfl) rfl rfl
theorem n188 : Cw X (d + 1) 188 [.ref a0, .int i1] mem K = pR X d 188 0 K (0, [some (.ref a0), some (.int i1)], [], mem, 0) := q_ent (by decide) (Nat.le_of_ble_eq_true rfl) rfl rfl
theorem n189 : Cw X (d + 1) 189 [.int i0] mem K = pR X d 189 0 K (0, [some (.int i0)], [], mem, 0) := q_ent (by decide) (Nat.le_of_ble_eq_true rfl) rfl rfl
theorem n190 : Cw X (d + 1) 190 [.ref a0, .int i1, .int i2, .int i3] mem K = pR X d 190 0 K (0, [some (.ref a0), some (.int i1), some (.int i2), some (.int i3), none], [], mem, 0) := q_ent (by decide) (Nat.le_of_ble_eq_true rfl) rfl rfl
theorem n191 : Cw X (d + 1) 191 [.ref a0, .int i1, .int i2] mem K = pR X d 191 0 K (0, [some (.ref a0), some (.int i1), some (.int i2), none, none, none], [], mem, 0) := q_ent (by decide) (Nat.le_of_ble_eq_true rfl) rfl rfl
theorem n192 : Cw X (d + 1) 192 [.ref a0, .int i1, .int i2] mem K = pR X d 192 0 K (0, [some (.ref a0), some (.int i1), some (.int i2), none, none], [], mem, 0) := q_ent (by decide) (Nat.le_of_ble_eq_true rfl) rfl rfl
theorem n193 : Cw X (d + 1) 193 [.ref a0, .int i1, .int i2] mem K = pR X d 193 0 K (0, [some (.ref a0), some (.int i1), some (.int i2), none, none, none], [], mem, 0) := q_ent (by decide) (Nat.le_of_ble_eq_true rfl) rfl rfl
theorem n194 : Cw X (d + 1) 194 [.ref a0, .int i1] mem K = pR X d 194 0 K (0, [some (.ref a0), some (.int i1), none, none, none], [], mem, 0) := q_ent (by decide) (Nat.le_of_ble_eq_true rfl) rfl rfl
theorem n195 : Cw X (d + 1) 195 [.ref a0] mem K = pR X d 195 0 K (0, [some (.ref a0)], [], mem, 0) := q_ent (by decide) (Nat.le_of_ble_eq_true rfl) rfl rfl
theorem n196 : Cw X (d + 1) 196 [.ref a0, .int i1, .int i2, .int i3] mem K = pR X d 196 0 K (0, [some (.ref a0), some (.int i1), some (.int i2), some (.int i3), none, none, none, none, none], [], mem, 0) := q_ent (by decide) (Nat.le_of_ble_eq_true rfl) rfl rfl
theorem n197 : Cw X (d + 1) 197 [.int i0, .int i1] mem K = pR X d 197 0 K (0, [some (.int i0), some (.int i1), none, none, none], [], mem, 0) := q_ent (by decide) (Nat.le_of_ble_eq_true rfl) rfl rfl
theorem n198 : Cw X (d + 1) 198 [.ref a0, .int i1] mem K = pR X d 198 0 K (0, [some (.ref a0), some (.int i1)], [], mem, 0) := q_ent (by decide) (Nat.le_of_ble_eq_true rfl) rfl rfl
theorem n199 : Cw X (d + 1) 199 [.ref a0, .int i1, .int i2] mem K = pR X d 199 0 K (0, [some (.ref a0), some (.int i1), some (.int i2), none], [], mem, 0) := q_ent (by decide) (Nat.le_of_ble_eq_true rfl) rfl rfl
theorem n200 : Cw X (d + 1) 200 [.ref a0] mem K = pR X d 200 0 K (0, [some (.ref a0), none], [], mem, 0) := q_ent (by decide) (Nat.le_of_ble_eq_true rfl) rfl rfl
theorem n201 : Cw X (d + 1) 201 [.ref a0] mem K = pR X d 201 0 K (0, [some (.ref a0), none], [], mem, 0) := q_ent (by decide) (Nat.le_of_ble_eq_true rfl) rfl rfl
theorem n202 : Cw X (d + 1) 202 [.ref a0] mem K = pR X d 202 0 K (0, [some (.ref a0), none], [], mem, 0) := q_ent (by decide) (Nat.le_of_ble_eq_true rfl) rfl rfl
theorem n203 : Cw X (d + 1) 203 [.ref a0] mem K = pR X d 203 0 K (0, [some (.ref a0), none], [], mem, 0) := q_ent (by decide) (Nat.le_of_ble_eq_true rfl) rfl rfl
theorem n204 : Cw X (d + 1) 204 [.ref a0, .int i1] mem K = pR X d 204 0 K (0, [some (.ref a0), some (.int i1)], [], mem, 0) := q_ent (by decide) (Nat.le_of_ble_eq_true rfl) rfl rfl
theorem n205 : Cw X (d + 1) 205 [.int i0] mem K = pR X d 205 0 K (0, [some (.int i0)], [], mem, 0) := q_ent (by decide) (Nat.le_of_ble_eq_true rfl) rfl rfl
theorem n206 : Cw X (d + 1) 206 [.int i0] mem K = pR X d 206 0 K (0, [some (.int i0)], [], mem, 0) := q_ent (by decide) (Nat.le_of_ble_eq_true rfl) rfl rfl
theorem n207 : Cw X (d + 1) 207 [.ref a0] mem K = pR X d 207 0 K (0, [some (.ref a0), none], [], mem, 0) := q_ent (by decide) (Nat.le_of_ble_eq_true rfl) rfl rfl
theorem n208 : Cw X (d + 1) 208 [.ref a0] mem K = pR X d 208 0 K (0, [some (.ref a0)], [], mem, 0) := q_ent (by decide) (Nat.le_of_ble_eq_true rfl) rfl rfl
theorem n209 : Cw X (d + 1) 209 [.ref a0, .long v1] mem K = pR X d 209 0 K (0, [some (.ref a0), some (.long v1), none], [], mem, 0) := q_ent (by decide) (Nat.le_of_ble_eq_true rfl) rfl rfl
theorem n210 : Cw X (d + 1) 210 [.ref a0, .int i1] mem K = pR X d 210 0 K (0, [some (.ref a0), some (.int i1), none], [], mem, 0) := q_ent (by decide) (Nat.le_of_ble_eq_true rfl) rfl rfl
theorem n211 : Cw X (d + 1) 211 [.ref a0] mem K = pR X d 211 0 K (0, [some (.ref a0)], [], mem, 0) := q_ent (by decide) (Nat.le_of_ble_eq_true rfl) rfl rfl
theorem n212 : Cw X (d + 1) 212 [.ref a0, .long v1, .int i2, .int i3] mem K = pR X d 212 0 K (0, [some (.ref a0), some (.long v1), none, some (.int i2), some (.int i3), none], [], mem, 0) := q_ent (by decide) (Nat.le_of_ble_eq_true rfl) rfl rfl
theorem n213 : Cw X (d + 1) 213 [.ref a0, .int i1, .int i2] mem K = pR X d 213 0 K (0, [some (.ref a0), some (.int i1), some (.int i2), none], [], mem, 0) := q_ent (by decide) (Nat.le_of_ble_eq_true rfl) rfl rfl
theorem n214 : Cw X (d + 1) 214 [.ref a0] mem K = pR X d 214 0 K (0, [some (.ref a0), none, none, none, none], [], mem, 0) := q_ent (by decide) (Nat.le_of_ble_eq_true rfl) rfl rfl
theorem n215 : Cw X (d + 1) 215 [.ref a0, .int i1, .int i2] mem K = pR X d 215 0 K (0, [some (.ref a0), some (.int i1), some (.int i2)], [], mem, 0) := q_ent (by decide) (Nat.le_of_ble_eq_true rfl) rfl rfl
theorem n216 : Cw X (d + 1) 216 [.ref a0, .int i1, .int i2] mem K = pR X d 216 0 K (0, [some (.ref a0), some (.int i1), some (.int i2), none, none], [], mem, 0) := q_ent (by decide) (Nat.le_of_ble_eq_true rfl) rfl rfl
theorem n217 : Cw X (d + 1) 217 [.int i0] mem K = pR X d 217 0 K (0, [some (.int i0)], [], mem, 0) := q_ent (by decide) (Nat.le_of_ble_eq_true rfl) rfl rfl
theorem n218 : Cw X (d + 1) 218 [.ref a0, .int i1, .int i2, .int i3] mem K = pR X d 218 0 K (0, [some (.ref a0), some (.int i1), some (.int i2), some (.int i3), none], [], mem, 0) := q_ent (by decide) (Nat.le_of_ble_eq_true rfl) rfl rfl
theorem n219 : Cw X (d + 1) 219 [.ref a0, .int i1, .int i2, .int i3] mem K = pR X d 219 0 K (0, [some (.ref a0), some (.int i1), some (.int i2), some (.int i3), none], [], mem, 0) := q_ent (by decide) (Nat.le_of_ble_eq_true rfl) rfl rfl
theorem n220 : Cw X (d + 1) 220 [.ref a0, .int i1, .int i2, .int i3, .int i4, .int i5] mem K = pR X d 220 0 K (0, [some (.ref a0), some (.int i1), some (.int i2), some (.int i3), some (.int i4), some (.int i5), none], [], mem, 0) := q_ent (by decide) (Nat.le_of_ble_eq_true rfl) rfl rfl
theorem n221 : Cw X (d + 1) 221 [.ref a0, .int i1] mem K = pR X d 221 0 K (0, [some (.ref a0), some (.int i1), none, none], [], mem, 0) := q_ent (by decide) (Nat.le_of_ble_eq_true rfl) rfl rfl
theorem n222 : Cw X (d + 1) 222 [.ref a0, .int i1] mem K = pR X d 222 0 K (0, [some (.ref a0), some (.int i1), none, none], [], mem, 0) := q_ent (by decide) (Nat.le_of_ble_eq_true rfl) rfl rfl
theorem n223 : Cw X (d + 1) 223 [.ref a0] mem K = pR X d 223 0 K (0, [some (.ref a0)], [], mem, 0) := q_ent (by decide) (Nat.le_of_ble_eq_true rfl) rfl rfl
theorem n224 : Cw X (d + 1) 224 [.ref a0] mem K = pR X d 224 0 K (0, [some (.ref a0)], [], mem, 0) := q_ent (by decide) (Nat.le_of_ble_eq_true rfl) rfl rfl
theorem n225 : Cw X (d + 1) 225 [.ref a0] mem K = pR X d 225 0 K (0, [some (.ref a0), none], [], mem, 0) := q_ent (by decide) (Nat.le_of_ble_eq_true rfl) rfl rfl
theorem n226 : Cw X (d + 1) 226 [.ref a0, .int i1] mem K = pR X d 226 0 K (0, [some (.ref a0), some (.int i1)], [], mem, 0) := q_ent (by decide) (Nat.le_of_ble_eq_true rfl) rfl rfl
theorem n227 : Cw X (d + 1) 227 [.ref a0] mem K = pR X d 227 0 K (0, [some (.ref a0), none, none], [], mem, 0) := q_ent (by decide) (Nat.le_of_ble_eq_true rfl) rfl rfl
theorem n228 : Cw X (d + 1) 228 [.ref a0, .int i1] mem K = pR X d 228 0 K (0, [some (.ref a0), some (.int i1), none, none], [], mem, 0) := q_ent (by decide) (Nat.le_of_ble_eq_true rfl) rfl rfl
end

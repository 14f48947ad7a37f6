/-! the world at the law's entry -/
def gFL : List Cond := flatC (Jvm.Cond.and given_1 narrow_1)
def SX : List Nat := [31, 38, 47, 59, 71, 84, 98, 114, 131, 149, 167, 185]
def INH : List Nat := [90, 184, 157, 83, 75, 795]
def tmS (i : Nat) : Term := .string "WinkPurses$Tape" (STT.getD i (0, "")).1
def tmV (i : Nat) : Term := .field (tmS i) "java/lang/String" "value" "[B"
def tmK : Term := .static "WinkPurses" "KIND_ABOVE" "[I"
theorem inh_ok : ∀ ci, ci < 6 → lw_tbl[INH.getD ci 0]? = some (.instantiable (oS ci) (cN ci)) := by decide +kernel
theorem sth_ok : ∀ i, i < 12 → lw_tbl[STH.getD i 0]? = some (.stringRef "WinkPurses$Tape" (STT.getD i (0, "")).1 (STT.getD i (0, "")).2) := by decide +kernel
theorem sx_1 : ∀ i, i < 12 → gFL[SX.getD i 0]? = some (.exactly (tmS i) "java/lang/String") := by decide +kernel
theorem sx_2 : ∀ i, i < 12 → gFL[SX.getD i 0 + 1]? = some (.eq (.field (tmS i) "java/lang/String" "coder" "B") (.int 0)) := by decide +kernel
theorem sx_3 : ∀ i, i < 12 → gFL[SX.getD i 0 + 2]? = some (.arrayOf (tmV i) .byte) := by decide +kernel
theorem sx_4 : ∀ i, i < 12 → gFL[SX.getD i 0 + 3]? = some (.eq (.length (tmV i)) (.int (Int32.ofNat (strL.getD i 0)))) := by decide +kernel
theorem sx_5 : ∀ i, i < 12 → ∀ j, j < strL.getD i 0 → gFL[SX.getD i 0 + 4 + j]? = some (.eq (.elem (tmV i) (.int (Int32.ofNat j))) (.int ((STB.getD i []).getD j 0))) := by decide +kernel
theorem sx_6 : ∀ i, i < 12 → ∀ k, k < i → gFL[SX.getD i 0 + 4 + strL.getD i 0 + k]? = some (.not (.eq (tmS k) (tmS i))) := by decide +kernel
theorem sx_7 : ∀ i, i < 12 → strL.getD i 0 < 2 ^ 31 := by decide +kernel
theorem sx_8 : ∀ j, j < 7 → gFL[12 + j]? = some (.eq (.elem tmK (.int (Int32.ofNat j))) (.int (KAB.getD j 0))) := by decide +kernel
theorem sx_9 : gFL[10]? = some (.arrayOf tmK .int) ∧ gFL[11]? = some (.eq (.length tmK) (.int (Int32.ofNat 7))) ∧ gFL[4]? = some (.eq (.static "java/lang/String" "COMPACT_STRINGS" "Z") (.int 1)) ∧ gFL[5]? = some (.isRef (.static "jdk/internal/util/Preconditions" "SIOOBE_FORMATTER" "Ljava/util/function/BiFunction;")) := by decide +kernel
theorem sx_10 : (lw_tbl[731]? = some (.laysStatic "WinkPurses" "KIND_ABOVE" "[I") ∧ lw_tbl[628]? = some (.laysStatic "java/lang/String" "COMPACT_STRINGS" "Z") ∧ lw_tbl[644]? = some (.laysStatic "jdk/internal/util/Preconditions" "SIOOBE_FORMATTER" "Ljava/util/function/BiFunction;")) ∧ (lw_tbl[61]? = some (.initialized "WinkPurses") ∧ lw_tbl[70]? = some (.initialized "java/lang/String") ∧ lw_tbl[72]? = some (.initialized "jdk/internal/util/Preconditions")) ∧ (lw_tbl[119]? = some (.arrayClass .int) ∧ lw_tbl[715]? = some (.arrayClass .byte)) ∧ lw_tbl[89]? = some (.arrayOver (.object "WinkPurses$Person")) ∧ lw_tbl[183]? = some (.arrayOver (.object "WinkPurses$Sheet")) := by decide +kernel
theorem nwh_ok : ∀ k, k < 10 → lw_tbl[NWH.getD k 0]? = NWL[k]? := by decide +kernel
theorem nwl_on : NWL.all (fun w => w.onTables) = true := by decide +kernel
theorem fl_at {n : Nat} {c : Cond} {A : Array Value} {s : State} (hg : (Jvm.Cond.and given_1 narrow_1).before A s = true) (h : gFL[n]? = some c) : c.before A s = true := flat_of_before _ hg _ (List.mem_of_getElem? h)
theorem tb_at {n : Nat} {c : Cond} {A : Array Value} {s : State} (hts : ∀ w ∈ lw_tbl, w.before A s = true) (h : lw_tbl[n]? = some c) : c.before A s = true := hts _ (List.mem_of_getElem? h)
section
variable {s : State} {A : Array Value}
theorem kn_at (hts : ∀ w ∈ lw_tbl, w.before A s = true) {ci : Nat} (h : ci < 6) : ∃ (cC : ClassId) (iS : Nat → Nat), u_Kn s (oS ci) (fun j => cF ci j) (cN ci) cC iS := by
  refine u_known hts (fun w hw => ?_) (tb_at hts (inh_ok ci h))
  obtain ⟨k, hk, rfl⟩ := List.mem_map.mp hw
  exact List.mem_of_getElem? (lay_ok ci h k (List.mem_range.mp hk)).1
theorem ar_at {ty : FieldType} (h : (Cond.arrayClass ty).before A s = true) : ∃ cA : ClassId, ArrOfT s cA ty ∧ s.vm.findClass ("[" ++ ty.toString) = some cA := by
  obtain ⟨cA, kA, comp, f1, f2, f3⟩ := Cond.arrayClass_spec h
  exact ⟨cA, fun n z => ⟨(fun k h => by cases h), kA, f2, comp, f3⟩, f1⟩
theorem ao_at {C : String} (h : (Cond.arrayOver (.object C)).before A s = true) : ∃ cA : ClassId, ArrOfT s cA (.object C) ∧ va_RA s cA (.object C) := by
  obtain ⟨comp, cA, kA, h1, h2, h3, h4, h5⟩ := Cond.arrayOver_spec h
  exact ⟨cA, fun n z => ⟨(fun k h => by cases h), kA, h3, comp, h4⟩, kA, comp, h3, h4, h1, h5⟩
theorem K_at (hts : ∀ w ∈ lw_tbl, w.before A s = true) : ∃ (D : va_G) (cA : Nat → ClassId), va_K D cL (pty cA) s := by
  obtain ⟨c0, i0, k0⟩ := kn_at hts (ci := 0) (by decide)
  obtain ⟨c1, i1, k1⟩ := kn_at hts (ci := 1) (by decide)
  obtain ⟨c2, i2, k2⟩ := kn_at hts (ci := 2) (by decide)
  obtain ⟨c3, i3, k3⟩ := kn_at hts (ci := 3) (by decide)
  obtain ⟨c4, i4, k4⟩ := kn_at hts (ci := 4) (by decide)
  obtain ⟨c5, i5, k5⟩ := kn_at hts (ci := 5) (by decide)
  obtain ⟨_, _, ⟨w1, w2⟩, w3, w4⟩ := sx_10
  obtain ⟨a0, p0, q0⟩ := ar_at (tb_at hts w1)
  obtain ⟨a1, p1, q1⟩ := ar_at (tb_at hts w2)
  obtain ⟨a2, p2, q2⟩ := ao_at (tb_at hts w3)
  obtain ⟨a3, p3, q3⟩ := ao_at (tb_at hts w4)
  refine ⟨(fun k => if k = 0 then c0 else if k = 1 then c1 else if k = 2 then c2 else if k = 3 then c3 else if k = 4 then c4 else c5, fun k => if k = 0 then i0 else if k = 1 then i1 else if k = 2 then i2 else if k = 3 then i3 else if k = 4 then i4 else i5), fun k => if k = 0 then a0 else if k = 1 then a1 else if k = 2 then a2 else a3, fun k q hq => ?_, fun k q hq => ?_⟩
  · match k, hq with
    | 0, hq => cases hq; exact k0
    | 1, hq => cases hq; exact k1
    | 2, hq => cases hq; exact k2
    | 3, hq => cases hq; exact k3
    | 4, hq => cases hq; exact k4
    | 5, hq => cases hq; exact k5
    | k + 6, hq => simp [cL] at hq
  · match k, hq with
    | 0, hq => cases hq; exact ⟨p0, q0⟩
    | 1, hq => cases hq; exact ⟨p1, q1⟩
    | 2, hq => cases hq; exact ⟨p2, q2⟩
    | 3, hq => cases hq; exact ⟨p3, q3⟩
    | k + 4, hq => simp [pty] at hq
theorem nw_at (hts : ∀ w ∈ lw_tbl, w.before A s = true) : ∀ w ∈ NWL, va_Nw w s := fun w hw => by
  obtain ⟨k, hk⟩ := List.mem_iff_getElem?.mp hw
  have hl : k < 10 := (List.getElem?_eq_some_iff.mp hk).1
  exact va_Nw.of (List.all_eq_true.mp nwl_on w hw) (tb_at hts ((nwh_ok k hl).trans hk))
theorem st_at (hgv : (Jvm.Cond.and given_1 narrow_1).before A s = true) : ∃ adK adV : Nat → Nat, vk_S 12 strL STB adK adV (fun a => s.heap.size ≤ a) s s.heap ∧ ∀ i : Nat, i < 12 → (tmS i).eval A s none [] s = some (.ref (adK i)) := by
  refine vk_Sof sx_7 (fun i hi => fl_at hgv (sx_1 i hi)) (fun i hi => fl_at hgv (sx_2 i hi)) (fun i hi => fl_at hgv (sx_3 i hi)) (fun i hi => fl_at hgv (sx_4 i hi)) (fun i hi j hj => fl_at hgv (sx_5 i hi j hj)) (fun i j hi hj hne => ?_) (fun a h => Nat.not_le.mpr h)
  rcases Nat.lt_or_gt_of_ne hne with h | h
  · exact Or.inl (fl_at hgv (sx_6 j hj i h))
  · exact Or.inr (fl_at hgv (sx_6 i hi j h))
theorem world0 {b L : Nat} {xs : Nat → Int32} (hts : ∀ w ∈ lw_tbl, w.before A s = true) (hgv : (Jvm.Cond.and given_1 narrow_1).before A s = true) (hX : va_X b L xs s s.heap) (hbl : b < s.heap.size) : ∃ (Z : pZ) (X : pXX), pG Z X (pA Z) s ∧ ptv (pq Z) X.2.2 = Z.2.2.2.2.2.2.1 ∧ (X.2.2 = .null ∨ ∃ q, X.2.2 = .ref q) ∧ pb Z = s.heap.size ∧ pq Z 999 = b ∧ X.1 = L := by
  have hA : ∀ a : Nat, a < s.heap.size → ¬ (fun a : Nat => s.heap.size ≤ a) a := fun a h => Nat.not_le.mpr h
  obtain ⟨D, cA, hK⟩ := K_at hts
  obtain ⟨adK, adV, hS, hev⟩ := st_at hgv
  obtain ⟨f1, f2, f3, f4⟩ := sx_9
  obtain ⟨⟨w1, w2, w3⟩, ⟨w4, w5, w6⟩, _, w7, w8⟩ := sx_10
  obtain ⟨t, ht, hT⟩ := va_Tof (tm := tmK) (ty := .int) (N := 7) (f := fun j => .int (KAB.getD j 0)) (A := fun a : Nat => s.heap.size ≤ a) (by decide) (fl_at hgv f1) (va_eqt (fl_at hgv f2)) (fun j hj => va_eqt (fl_at hgv (sx_8 j hj))) hA
  have hk := va_Zref (A := fun a : Nat => s.heap.size ≤ a) (tb_at hts w1) (tb_at hts w4) ht hA
  have hc := va_Zof (A := fun a : Nat => s.heap.size ≤ a) (tb_at hts w2) (tb_at hts w5) (va_eqi (fl_at hgv f3)) hA
  have key : ∀ sv xv : Value, va_Z "jdk/internal/util/Preconditions" "SIOOBE_FORMATTER" "Ljava/util/function/BiFunction;" sv (fun a => s.heap.size ≤ a) s s.heap → ptv (pq (D, cA, adK, adV, t, b, sv, s.heap.size)) xv = sv → (xv = .null ∨ ∃ q, xv = .ref q) → ∃ (Z : pZ) (X : pXX), pG Z X (pA Z) s ∧ ptv (pq Z) X.2.2 = Z.2.2.2.2.2.2.1 ∧ (X.2.2 = .null ∨ ∃ q, X.2.2 = .ref q) ∧ pb Z = s.heap.size ∧ pq Z 999 = b ∧ X.1 = L := fun sv xv hz he hx =>
    ⟨(D, cA, adK, adV, t, b, sv, s.heap.size), (L, xs, xv), ⟨hK, nw_at hts, ⟨va_AO.of (tb_at hts w7), va_AO.of (tb_at hts w8)⟩, fun i hi => vk_R.of (tb_at hts (sth_ok i hi)) (hev i hi), hS, hk, hT, hc, hz, hX, hbl, hA b hbl⟩, he, hx, rfl, rfl, rfl⟩
  rcases va_Zqof (A := fun a : Nat => s.heap.size ≤ a) (tb_at hts w3) (tb_at hts w6) (fl_at hgv f4) hA with hz | ⟨q, hz⟩
  · exact key .null .null hz rfl (Or.inl rfl)
  · exact key (.ref q) (.ref 997) hz rfl (Or.inr ⟨997, rfl⟩)
end

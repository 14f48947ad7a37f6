/-! from the pure machine's memory to the heap: object k lies at q k -/
def ptv (q : Nat → Nat) : Value → Value
  | .ref a => .ref (q a)
  | v => v
def pte (q : Nat → Nat) (cA : Nat → ClassId) : pME → va_E
  | .inl (ci, fs) => .inr (ci, fs.map (ptv q))
  | .inr (.inl (k, n, f)) => .inl (cA k, n, .inl f)
  | .inr (.inr (k, n, f)) => .inl (cA k, n, .inr (.inr (.inr (.inr (fun i => (f i).map q)))))
def pws (q : Nat → Nat) (cA : Nat → ClassId) : Nat → List pME → va_W
  | _, [] => []
  | k, e :: t => (q k, pte q cA e) :: pws q cA (k + 1) t
theorem pws_get (q : Nat → Nat) (cA : Nat → ClassId) : ∀ (mem : List pME) (k i : Nat), (pws q cA k mem)[i]? = (mem[i]?).map (fun e => (q (k + i), pte q cA e))
  | [], k, i => by simp [pws]
  | e :: t, k, 0 => by simp [pws]
  | e :: t, k, i + 1 => by simp only [pws, List.getElem?_cons_succ, pws_get q cA t (k + 1) i, Nat.add_assoc, Nat.add_comm 1 i]
theorem pws_at {q : Nat → Nat} {cA : Nat → ClassId} {mem : List pME} {i : Nat} {e : pME} (h : mem[i]? = some e) : (pws q cA 0 mem)[i]? = some (q i, pte q cA e) := by
  rw [pws_get, h]; simp
theorem pws_set (q : Nat → Nat) (cA : Nat → ClassId) (e : pME) : ∀ (mem : List pME) (k i : Nat), (pws q cA k mem).set i (q (k + i), pte q cA e) = pws q cA k (mem.set i e)
  | [], k, i => by simp [pws]
  | a :: t, k, 0 => by simp [pws]
  | a :: t, k, i + 1 => by
    have h := pws_set q cA e t (k + 1) i
    rw [show k + 1 + i = k + (i + 1) by omega] at h
    simp only [pws, List.set_cons_succ, h]
theorem pws_set0 {q : Nat → Nat} {cA : Nat → ClassId} {e : pME} {mem : List pME} {i : Nat} : (pws q cA 0 mem).set i (q i, pte q cA e) = pws q cA 0 (mem.set i e) := by
  have h := pws_set q cA e mem 0 i
  rwa [Nat.zero_add] at h
theorem pws_app (q : Nat → Nat) (cA : Nat → ClassId) (e : pME) : ∀ (mem : List pME) (k : Nat), pws q cA k (mem ++ [e]) = pws q cA k mem ++ [(q (k + mem.length), pte q cA e)]
  | [], k => by simp [pws]
  | a :: t, k => by
    simp only [List.cons_append, pws, pws_app q cA e t (k + 1), List.length_cons]
    rw [show k + 1 + t.length = k + (t.length + 1) by omega]
/-- the memory's addresses are apart, and lie at base and beyond -/
theorem pws_D {q : Nat → Nat} {cA : Nat → ClassId} {base : Nat} {mem : List pME} (hq : ∀ i, i < 900 → q i = base + i) (hm : mem.length ≤ 900) : va_D (fun a => base ≤ a) (pws q cA 0 mem) := by
  have key : ∀ (i : Nat) (x : Nat × va_E), (pws q cA 0 mem)[i]? = some x → i < 900 ∧ x.1 = base + i := by
    intro i x h
    rw [pws_get] at h
    cases hi : mem[i]? with
    | none => rw [hi] at h; cases h
    | some e =>
      rw [hi] at h
      have hl : i < mem.length := (List.getElem?_eq_some_iff.mp hi).1
      cases h
      exact ⟨by omega, by rw [Nat.zero_add]; exact hq i (by omega)⟩
  refine ⟨fun i j x z hx hz e => ?_, fun k x hx => ?_⟩
  · have h1 := key i x hx
    have h2 := key j z hz
    omega
  · show base ≤ x.1
    have h1 := key k x hx
    omega
/-- the locals as the kit has them -/
def pas (q : Nat → Nat) : Nat → List (Option Value) → List (Nat × Value)
  | _, [] => []
  | k, some v :: t => (k, ptv q v) :: pas q (k + 1) t
  | k, none :: t => pas q (k + 1) t
theorem pas_in (q : Nat → Nat) : ∀ (L : List (Option Value)) (k i : Nat) (v : Value), L[i]? = some (some v) → (k + i, ptv q v) ∈ pas q k L
  | [], k, i, v, h => by simp at h
  | some a :: t, k, 0, v, h => by
    simp only [List.getElem?_cons_zero, Option.some.injEq] at h
    subst h
    exact List.mem_cons_self
  | none :: t, k, 0, v, h => by simp at h
  | some a :: t, k, i + 1, v, h => by
    have h1 := pas_in q t (k + 1) i v (by simpa using h)
    rw [show k + 1 + i = k + (i + 1) by omega] at h1
    exact List.mem_cons_of_mem _ h1
  | none :: t, k, i + 1, v, h => by
    have h1 := pas_in q t (k + 1) i v (by simpa using h)
    rw [show k + 1 + i = k + (i + 1) by omega] at h1
    exact h1
theorem pas_out (q : Nat → Nat) : ∀ (L : List (Option Value)) (k : Nat) (x : Nat × Value), x ∈ pas q k L → ∃ i v, x = (k + i, ptv q v) ∧ L[i]? = some (some v)
  | [], k, x, h => by cases h
  | some a :: t, k, x, h => by
    rcases List.mem_cons.mp h with h | h
    · exact ⟨0, a, h, rfl⟩
    · obtain ⟨i, v, h1, h2⟩ := pas_out q t (k + 1) x h
      exact ⟨i + 1, v, by rw [h1, show k + 1 + i = k + (i + 1) by omega], by simpa using h2⟩
  | none :: t, k, x, h => by
    obtain ⟨i, v, h1, h2⟩ := pas_out q t (k + 1) x h
    exact ⟨i + 1, v, by rw [h1, show k + 1 + i = k + (i + 1) by omega], by simpa using h2⟩
theorem ptv_cat (q : Nat → Nat) (v : Value) : (ptv q v).category = v.category := by cases v <;> rfl
theorem mdf_get : ∀ (L : List (Option Value)) (n i : Nat), (mdf L n)[i]? = if i = n then (L[i]?).map cl1 else L[i]?
  | [], n, i => by simp [mdf]
  | a :: t, 0, 0 => by simp [mdf]
  | a :: t, 0, i + 1 => by simp [mdf]
  | a :: t, n + 1, 0 => by simp [mdf]
  | a :: t, n + 1, i + 1 => by simp [mdf, mdf_get t n i]
theorem mdf_len : ∀ (L : List (Option Value)) (n : Nat), (mdf L n).length = L.length
  | [], n => rfl
  | a :: t, 0 => rfl
  | a :: t, n + 1 => by simp [mdf, mdf_len t n]
theorem pre1_len (L : List (Option Value)) (i : Nat) : (pre1 L i).length = L.length := by cases i <;> simp [pre1, mdf_len]
theorem stL_len (L : List (Option Value)) (i : Nat) (v : Value) : (stL L i v).length = L.length := by simp [stL, pre1_len]
theorem stL2_len (L : List (Option Value)) (i : Nat) (v : Value) : (stL2 L i v).length = L.length := by simp [stL2, pre1_len]
theorem cl1_some {a : Option Value} {v : Value} (h : cl1 a = some v) : a = some v ∧ v.category ≠ 2 := by
  match a, h with
  | some (.int x), h => simp [cl1] at h; subst h; exact ⟨rfl, by simp [Value.category]⟩
  | some (.float x), h => simp [cl1] at h; subst h; exact ⟨rfl, by simp [Value.category]⟩
  | some .null, h => simp [cl1] at h; subst h; exact ⟨rfl, by simp [Value.category]⟩
  | some (.ref x), h => simp [cl1] at h; subst h; exact ⟨rfl, by simp [Value.category]⟩
  | some (.retAddr x), h => simp [cl1] at h; subst h; exact ⟨rfl, by simp [Value.category]⟩
  | some (.long x), h => simp [cl1] at h
  | some (.double x), h => simp [cl1] at h
  | none, h => simp [cl1] at h
theorem pre1_get {L : List (Option Value)} {i j : Nat} {w : Value} (h : (pre1 L i)[j]? = some (some w)) : L[j]? = some (some w) ∧ (j + 1 = i → w.category ≠ 2) := by
  cases i with
  | zero => exact ⟨h, fun e => by omega⟩
  | succ n =>
    simp only [pre1, mdf_get] at h
    by_cases hj : j = n
    · subst hj
      rw [if_pos rfl] at h
      cases ha : L[j]? with
      | none => rw [ha] at h; cases h
      | some a =>
        rw [ha] at h
        obtain ⟨h1, h2⟩ := cl1_some (Option.some.inj h)
        exact ⟨by rw [h1], fun _ => h2⟩
    · rw [if_neg hj] at h
      exact ⟨h, fun e => by omega⟩
/-- a store of a value of one word -/
theorem pas_st1 {q : Nat → Nat} {ls : Array Slot} {n i : Nat} {L : List (Option Value)} {v : Value} (h : lv_has ls n ((i, ptv q v) :: (pas q 0 L).filter (fun x => !(x.1 == i) && !(x.1 + 1 == i && x.2.category == 2)))) : lv_has ls n (pas q 0 (stL L i v)) := by
  refine ⟨h.1, h.2.1, fun x hx => h.2.2 x ?_⟩
  obtain ⟨j, w, rfl, hw⟩ := pas_out q _ _ x hx
  rw [Nat.zero_add]
  by_cases hj : j = i
  · subst hj
    have hl : j < (pre1 L j).length := by
      have h1 := (List.getElem?_eq_some_iff.mp hw).1
      rw [stL_len] at h1
      rw [pre1_len]; exact h1
    rw [stL, List.getElem?_set_self hl] at hw
    cases hw
    exact List.mem_cons_self
  · rw [stL, List.getElem?_set_ne (fun e => hj e.symm)] at hw
    obtain ⟨h1, h2⟩ := pre1_get hw
    refine List.mem_cons_of_mem _ (List.mem_filter.mpr ⟨?_, ?_⟩)
    · have := pas_in q L 0 j w h1
      rwa [Nat.zero_add] at this
    · simp only [Bool.and_eq_true, Bool.not_eq_true', beq_eq_false_iff_ne, ne_eq, Bool.and_eq_false_iff, ptv_cat]
      refine ⟨hj, ?_⟩
      by_cases e : j + 1 = i
      · exact Or.inr (h2 e)
      · exact Or.inl e
theorem pas_st2 {q : Nat → Nat} {ls : Array Slot} {n i : Nat} {L : List (Option Value)} {v : Value} (h : lv_has ls n ((i, ptv q v) :: (pas q 0 L).filter (fun x => !(x.1 == i) && (!(x.1 == i + 1) && !(x.1 + 1 == i && x.2.category == 2))))) : lv_has ls n (pas q 0 (stL2 L i v)) := by
  refine ⟨h.1, h.2.1, fun x hx => h.2.2 x ?_⟩
  obtain ⟨j, w, rfl, hw⟩ := pas_out q _ _ x hx
  rw [Nat.zero_add]
  by_cases hj2 : j = i + 1
  · subst hj2
    have hl : i + 1 < ((pre1 L i).set i (some v)).length := by
      have h1 := (List.getElem?_eq_some_iff.mp hw).1
      rw [stL2_len] at h1
      rw [List.length_set, pre1_len]; exact h1
    rw [stL2, List.getElem?_set_self hl] at hw
    cases hw
  rw [stL2, List.getElem?_set_ne (fun e => hj2 e.symm)] at hw
  by_cases hj : j = i
  · subst hj
    have hl : j < (pre1 L j).length := by
      have h1 := (List.getElem?_eq_some_iff.mp hw).1
      rwa [List.length_set] at h1
    rw [List.getElem?_set_self hl] at hw
    cases hw
    exact List.mem_cons_self
  · rw [List.getElem?_set_ne (fun e => hj e.symm)] at hw
    obtain ⟨h1, h2⟩ := pre1_get hw
    refine List.mem_cons_of_mem _ (List.mem_filter.mpr ⟨?_, ?_⟩)
    · have := pas_in q L 0 j w h1
      rwa [Nat.zero_add] at this
    · simp only [Bool.and_eq_true, Bool.not_eq_true', beq_eq_false_iff_ne, ne_eq, Bool.and_eq_false_iff, ptv_cat]
      refine ⟨hj, hj2, ?_⟩
      by_cases e : j + 1 = i
      · exact Or.inr (h2 e)
      · exact Or.inl e
theorem pas_at {q : Nat → Nat} {ls : Array Slot} {n i : Nat} {L : List (Option Value)} {v : Value} (h : lv_has ls n (pas q 0 L)) (hi : L[i]? = some (some v)) : ls[i]? = some (.val (ptv q v)) := by
  have h1 := pas_in q L 0 i v hi
  rw [Nat.zero_add] at h1
  exact h.2.2 _ h1
theorem pas_pad (q : Nat → Nat) (n : Nat) : ∀ (L : List (Option Value)) (k : Nat), pas q k (L ++ List.replicate n none) = pas q k L
  | [], k => by
    induction n generalizing k with
    | zero => rfl
    | succ n ih => simp only [List.nil_append, List.replicate_succ, pas] at ih ⊢; exact ih (k + 1)
  | some a :: t, k => by simp only [List.cons_append, pas, pas_pad q n t]
  | none :: t, k => by simp only [List.cons_append, pas, pas_pad q n t]
theorem pas_ent (q : Nat → Nat) : ∀ (vs : List Value) (k : Nat), pas q k (pentL vs) = lv_args k (vs.map (ptv q))
  | [], k => rfl
  | v :: vs, k => by
    by_cases h : v.category = 2
    · simp only [pentL, if_pos h, pas, List.map_cons, lv_args, ptv_cat, pas_ent q vs]
    · simp only [pentL, if_neg h, pas, List.map_cons, lv_args, ptv_cat, pas_ent q vs]
theorem pent_len (q : Nat → Nat) : ∀ vs : List Value, (lg_sl (vs.map (ptv q))).length = (pentL vs).length
  | [] => rfl
  | v :: vs => by
    have ih := pent_len q vs
    by_cases h : v.category = 2
    · simp only [lg_sl, List.map_cons, List.flatMap_cons, ptv_cat, if_pos h, List.length_append, pentL, List.length_cons] at ih ⊢
      simp only [List.length_nil]; omega
    · simp only [lg_sl, List.map_cons, List.flatMap_cons, ptv_cat, if_neg h, List.length_append, pentL, List.length_cons] at ih ⊢
      simp only [List.length_nil]; omega
theorem ptv_nar {q : Nat → Nat} {ty : FieldType} {v : Value} (h : narrow ty v = v) : narrow ty (ptv q v) = ptv q v := by
  cases v <;> first | exact h | (cases ty <;> rfl)
theorem ptv_fit {q : Nat → Nat} {ty : FieldType} {v : Value} (h : fits ty v = true) : fits ty (ptv q v) = true := by
  cases v <;> first | exact h | (cases ty <;> first | rfl | (simp [fits] at h))
theorem pcats_map (q : Nat → Nat) (st : List Value) : ((st.map (ptv q)).map fun v => v.category).sum = pcats st := by
  unfold pcats
  rw [List.map_map]
  congr 1
  exact List.map_congr_left (fun v _ => ptv_cat q v)
/-! what holds of every state of the run: the tables, the texts, the statics, the script -/
def strL : List Nat := STB.map List.length
def KAB : List Int32 := [-1, 0, 0, 2, 3, 0, 1]
def pty (cA : Nat → ClassId) : List (ClassId × FieldType) := [(cA 0, .int), (cA 1, .byte), (cA 2, .object "WinkPurses$Person"), (cA 3, .object "WinkPurses$Sheet")]
/-- the run's own: where the texts, a table, the script lie; the classes of arrays; the carried value -/
abbrev pZ : Type := va_G × (Nat → ClassId) × (Nat → Nat) × (Nat → Nat) × Nat × Nat × Value × Nat
def pG (Z : pZ) (X : pXX) (A : Nat → Prop) (U : State) : Prop :=
  va_K Z.1 cL (pty Z.2.1) U ∧ (∀ w ∈ NWL, va_Nw w U) ∧ (va_AO "WinkPurses$Person" U ∧ va_AO "WinkPurses$Sheet" U) ∧ (∀ i, i < 12 → vk_R "WinkPurses$Tape" (STT.getD i (0, "")).1 (STT.getD i (0, "")).2 (Z.2.2.1 i) U) ∧
  vk_S 12 strL STB Z.2.2.1 Z.2.2.2.1 A U U.heap ∧ va_Z "WinkPurses" "KIND_ABOVE" "[I" (.ref Z.2.2.2.2.1) A U U.heap ∧ va_T .int Z.2.2.2.2.1 7 (fun j => .int (KAB.getD j 0)) A U U.heap ∧
  va_Z "java/lang/String" "COMPACT_STRINGS" "Z" (.int 1) A U U.heap ∧ va_Z "jdk/internal/util/Preconditions" "SIOOBE_FORMATTER" "Ljava/util/function/BiFunction;" Z.2.2.2.2.2.2.1 A U U.heap ∧
  (va_X Z.2.2.2.2.2.1 X.1 X.2.1 U U.heap ∧ Z.2.2.2.2.2.1 < U.heap.size ∧ ¬ A Z.2.2.2.2.2.1)
theorem pG_to {Z : pZ} {X : pXX} {A : Nat → Prop} {s U : State} (hW : s.WarmedH U.vm) (hk : ∀ a : Nat, a < s.heap.size → ¬ A a → U.heap[a]? = s.heap[a]?) (hz : s.heap.size ≤ U.heap.size) (h : pG Z X A s) : pG Z X A U := by
  obtain ⟨h1, h2, h3, h4, h5, h6, h7, h8, h9, h10⟩ := h
  have hA := hW.alike
  refine ⟨va_K.moved hA h1, fun w hw => ?_, ⟨va_AO.moved hA h3.1, va_AO.moved hA h3.2⟩, fun i hi => vk_R.warm hW (h4 i hi), vk_S.kept (vk_S.moved hA h5) hk, va_Z.kept (va_Z.moved hA h6) hk, va_T.kept (va_T.moved hA h7) hk, va_Z.kept (va_Z.moved hA h8) hk, va_Z.kept (va_Z.moved hA h9) hk, va_X.kept (va_X.moved hA h10.1) (hk _ h10.2.1 h10.2.2), Nat.lt_of_lt_of_le h10.2.1 hz, h10.2.2⟩
  have key : ∀ w ∈ NWL, ∃ a i x h, w = .methodLinkNest a i x h := by
    intro w hw
    simp only [NWL, List.mem_cons, List.not_mem_nil, or_false] at hw
    rcases hw with rfl | rfl | rfl | rfl | rfl | rfl | rfl | rfl | rfl | rfl <;> exact ⟨_, _, _, _, rfl⟩
  obtain ⟨a, i, x, h', rfl⟩ := key w hw
  exact va_Nw.warmM hW (h2 _ hw)
theorem pG_call {Z : pZ} {X : pXX} {A : Nat → Prop} {U : State} {g : JFrame} {mk : MethodId} {a : Array Value} (h : pG Z X A U) : pG Z X A (U.calling g mk a) :=
  pG_to (U := U.calling g mk a) (State.WarmedH.refl U) (fun _ _ _ => rfl) (Nat.le_refl _) h

/-! each step of the pure machine is a step of the machine -/
def pb (Z : pZ) : Nat := Z.2.2.2.2.2.2.2
def pA (Z : pZ) : Nat → Prop := fun a => pb Z ≤ a
def pq (Z : pZ) : Nat → Nat := fun a => if a < 900 then pb Z + a else if a = 999 then Z.2.2.2.2.2.1 else if a = 998 then Z.2.2.2.2.1 else if a = 997 then (match Z.2.2.2.2.2.2.1 with | .ref t => t | _ => 0) else if a < 2000 then Z.2.2.1 (a - 1000) else Z.2.2.2.1 (a - 2000)
theorem pq_lo (Z : pZ) : ∀ i, i < 900 → pq Z i = pb Z + i := fun i h => by simp [pq, h]
def wpO (C : Nat → List Value → List pME → (Option Value → List pME → Prop) → Prop) (Q : Option Value → List pME → Prop) (P : pLS → Prop) (o : Option pOut) : Prop := match o with
  | none => False
  | some (.inl r) => Q r.1 r.2
  | some (.inr (.inl t)) => P t
  | some (.inr (.inr (y2, as, t))) => C y2 as t.2.2.2.1 (fun r m => P (pback t r m))
def pSW (p : Program) (l : Launch) (e : Env) (R : Room) (s : State) (m : MethodId) (args : Array Value) (below : List Frame) (meth : Method) (c : Code) (Qw : State → Prop) (Z : pZ) (nL lim n0 : Nat) (S : pLS) : Prop :=
  ∀ (H : Heap) (locs : List Loc) (ls : Array Slot), va_P Z.1 cL (pws (pq Z) Z.2.1 0 S.2.2.2.1) H → S.2.2.2.1.length = n0 + S.2.2.2.2 → S.2.2.2.1.length ≤ 900 → va_S (pA Z) s.heap H locs → lv_has ls nL (pas (pq Z) 0 S.2.1) → S.2.1.length = nL → S.2.2.2.2 ≤ lim →
    W p l e R s m args below meth c H locs S.2.2.2.2 (200 * S.2.2.2.2) Qw (F0 m S.1 ls (S.2.2.1.map (ptv (pq Z))))
/-- the heap is as large as the memory says -/
theorem W_size {p : Program} {l : Launch} {e : Env} {R : Room} {s : State} {m : MethodId} {args : Array Value} {below : List Frame} {meth : Method} {c : Code} {Qw : State → Prop} {Z : pZ} {n0 u ms : Nat} {mem : List pME} {H : Heap} {locs : List Loc} {g : JFrame} (hsz : s.heap.size = pb Z + n0) (hlen : mem.length = n0 + u) (hm : mem.length ≤ 900) (hP : va_P Z.1 cL (pws (pq Z) Z.2.1 0 mem) H) (hS : va_S (pA Z) s.heap H locs) (k : H.size = pb Z + mem.length → W p l e R s m args below meth c H locs u ms Qw g) : W p l e R s m args below meth c H locs u ms Qw g := by
  intro T hT X
  refine k ?_ T hT X
  have h1 := X.heapSize
  rw [hT] at h1
  have h2 := hS.1
  have h3 : pb Z + mem.length ≤ H.size := by
    cases hn : mem.length with
    | zero => omega
    | succ j =>
      obtain ⟨x, hx⟩ : ∃ x, mem[j]? = some x := ⟨mem[j]'(by omega), List.getElem?_eq_getElem (by omega)⟩
      have h4 := (hP j _ (pws_at hx)).lt
      have h5 : pq Z j = pb Z + j := pq_lo Z j (by omega)
      rw [show ((pq Z j, pte (pq Z) Z.2.1 x) : Nat × va_E).1 = pq Z j from rfl, h5] at h4
      omega
  omega
section KST
variable {p : Program} {l : Launch} {e : Env} {R : Room} {s : State} {m : MethodId} {args : Array Value} {below : List Frame} {meth : Method} {c : Code} {Qw : State → Prop} {Z : pZ} {nL lim n0 : Nat} {C : Nat → List Value → List pME → (Option Value → List pME → Prop) → Prop} {Q : Option Value → List pME → Prop} {S : pLS}
/-- a step of the stack alone -/
theorem k_pure {st' : List Value} {pc' : Nat} (row : ∀ (H : Heap) (locs : List Loc) (ls : Array Slot) (k : Nat), lv_has ls nL (pas (pq Z) 0 S.2.1) → W p l e R s m args below meth c H locs k (200 * k) Qw (F0 m pc' ls (st'.map (ptv (pq Z)))) → W p l e R s m args below meth c H locs k (200 * k) Qw (F0 m S.1 ls (S.2.2.1.map (ptv (pq Z)))))
    (h : pSW p l e R s m args below meth c Qw Z nL lim n0 (pc', S.2.1, st', S.2.2.2.1, S.2.2.2.2)) : pSW p l e R s m args below meth c Qw Z nL lim n0 S :=
  fun H locs ls hP hz hm hS hl hn hu => row H locs ls _ hl (h H locs ls hP hz hm hS hl hn hu)
theorem k_push {len : Nat} {v : Value} (row : ∀ (H : Heap) (locs : List Loc) (ls : Array Slot) (k : Nat) (rest : List Value), W p l e R s m args below meth c H locs k (200 * k) Qw (F0 m (S.1 + len) ls (ptv (pq Z) v :: rest)) → W p l e R s m args below meth c H locs k (200 * k) Qw (F0 m S.1 ls rest))
    (h : wpO C Q (pSW p l e R s m args below meth c Qw Z nL lim n0) (h_push len v S)) : pSW p l e R s m args below meth c Qw Z nL lim n0 S :=
  k_pure (fun H locs ls k _ w => row H locs ls k _ w) h
theorem k_ild {len i : Nat} (row : ∀ (H : Heap) (locs : List Loc) (ls : Array Slot) (k : Nat) (rest : List Value) (x : Int32), ls[i]? = some (.val (.int x)) → W p l e R s m args below meth c H locs k (200 * k) Qw (F0 m (S.1 + len) ls (.int x :: rest)) → W p l e R s m args below meth c H locs k (200 * k) Qw (F0 m S.1 ls rest))
    (h : wpO C Q (pSW p l e R s m args below meth c Qw Z nL lim n0) (h_ild len i S)) : pSW p l e R s m args below meth c Qw Z nL lim n0 S := by
  unfold h_ild at h
  split at h
  next x hx => exact k_pure (fun H locs ls k hl w => row H locs ls k _ x (pas_at hl hx) w) h
  · exact h.elim
theorem k_lld {len i : Nat} (row : ∀ (H : Heap) (locs : List Loc) (ls : Array Slot) (k : Nat) (rest : List Value) (x : Int64), ls[i]? = some (.val (.long x)) → W p l e R s m args below meth c H locs k (200 * k) Qw (F0 m (S.1 + len) ls (.long x :: rest)) → W p l e R s m args below meth c H locs k (200 * k) Qw (F0 m S.1 ls rest))
    (h : wpO C Q (pSW p l e R s m args below meth c Qw Z nL lim n0) (h_lld len i S)) : pSW p l e R s m args below meth c Qw Z nL lim n0 S := by
  unfold h_lld at h
  split at h
  next x hx => exact k_pure (fun H locs ls k hl w => row H locs ls k _ x (pas_at hl hx) w) h
  · exact h.elim
theorem k_ald {len i : Nat} (row : ∀ (H : Heap) (locs : List Loc) (ls : Array Slot) (k : Nat) (rest : List Value) (x : Nat), ls[i]? = some (.val (.ref x)) → W p l e R s m args below meth c H locs k (200 * k) Qw (F0 m (S.1 + len) ls (.ref x :: rest)) → W p l e R s m args below meth c H locs k (200 * k) Qw (F0 m S.1 ls rest))
    (row2 : ∀ (H : Heap) (locs : List Loc) (ls : Array Slot) (k : Nat) (rest : List Value), ls[i]? = some (.val .null) → W p l e R s m args below meth c H locs k (200 * k) Qw (F0 m (S.1 + len) ls (.null :: rest)) → W p l e R s m args below meth c H locs k (200 * k) Qw (F0 m S.1 ls rest))
    (h : wpO C Q (pSW p l e R s m args below meth c Qw Z nL lim n0) (h_ald len i S)) : pSW p l e R s m args below meth c Qw Z nL lim n0 S := by
  unfold h_ald at h
  split at h
  next x hx => exact k_pure (fun H locs ls k hl w => row H locs ls k _ _ (pas_at hl hx) w) h
  next hx => exact k_pure (fun H locs ls k hl w => row2 H locs ls k _ (pas_at hl hx) w) h
  · exact h.elim
theorem k_ii {f : Int32 → Int32 → Int32} (row : ∀ (H : Heap) (locs : List Loc) (ls : Array Slot) (k : Nat) (rest : List Value) (x z : Int32), W p l e R s m args below meth c H locs k (200 * k) Qw (F0 m (S.1 + 1) ls (.int (f x z) :: rest)) → W p l e R s m args below meth c H locs k (200 * k) Qw (F0 m S.1 ls (.int z :: .int x :: rest)))
    (h : wpO C Q (pSW p l e R s m args below meth c Qw Z nL lim n0) (h_ii f S)) : pSW p l e R s m args below meth c Qw Z nL lim n0 S := by
  unfold h_ii at h
  split at h
  next z x st hst => exact k_pure (fun H locs ls k hl w => by rw [hst]; exact row H locs ls k _ x z w) h
  · exact h.elim
theorem k_iiz {f : Int32 → Int32 → Int32} (row : ∀ (H : Heap) (locs : List Loc) (ls : Array Slot) (k : Nat) (rest : List Value) (x z : Int32), ¬ z = 0 → W p l e R s m args below meth c H locs k (200 * k) Qw (F0 m (S.1 + 1) ls (.int (f x z) :: rest)) → W p l e R s m args below meth c H locs k (200 * k) Qw (F0 m S.1 ls (.int z :: .int x :: rest)))
    (h : wpO C Q (pSW p l e R s m args below meth c Qw Z nL lim n0) (h_iiz f S)) : pSW p l e R s m args below meth c Qw Z nL lim n0 S := by
  unfold h_iiz at h
  split at h
  next z x st hst =>
    split at h
    · exact h.elim
    next hz => exact k_pure (fun H locs ls k hl w => by rw [hst]; exact row H locs ls k _ x z hz w) h
  · exact h.elim
theorem k_i {f : Int32 → Value} (hf : ∀ x, ptv (pq Z) (f x) = f x) (row : ∀ (H : Heap) (locs : List Loc) (ls : Array Slot) (k : Nat) (rest : List Value) (x : Int32), W p l e R s m args below meth c H locs k (200 * k) Qw (F0 m (S.1 + 1) ls (f x :: rest)) → W p l e R s m args below meth c H locs k (200 * k) Qw (F0 m S.1 ls (.int x :: rest)))
    (h : wpO C Q (pSW p l e R s m args below meth c Qw Z nL lim n0) (h_i f S)) : pSW p l e R s m args below meth c Qw Z nL lim n0 S := by
  unfold h_i at h
  split at h
  next x st hst => exact k_pure (fun H locs ls k hl w => by rw [hst]; refine row H locs ls k _ x ?_; rw [← hf x]; exact w) h
  · exact h.elim
theorem k_l {f : Int64 → Value} (hf : ∀ x, ptv (pq Z) (f x) = f x) (row : ∀ (H : Heap) (locs : List Loc) (ls : Array Slot) (k : Nat) (rest : List Value) (x : Int64), W p l e R s m args below meth c H locs k (200 * k) Qw (F0 m (S.1 + 1) ls (f x :: rest)) → W p l e R s m args below meth c H locs k (200 * k) Qw (F0 m S.1 ls (.long x :: rest)))
    (h : wpO C Q (pSW p l e R s m args below meth c Qw Z nL lim n0) (h_l f S)) : pSW p l e R s m args below meth c Qw Z nL lim n0 S := by
  unfold h_l at h
  split at h
  next x st hst => exact k_pure (fun H locs ls k hl w => by rw [hst]; refine row H locs ls k _ x ?_; rw [← hf x]; exact w) h
  · exact h.elim
theorem k_ll {f : Int64 → Int64 → Value} (hf : ∀ x z, ptv (pq Z) (f x z) = f x z) (row : ∀ (H : Heap) (locs : List Loc) (ls : Array Slot) (k : Nat) (rest : List Value) (x z : Int64), W p l e R s m args below meth c H locs k (200 * k) Qw (F0 m (S.1 + 1) ls (f x z :: rest)) → W p l e R s m args below meth c H locs k (200 * k) Qw (F0 m S.1 ls (.long z :: .long x :: rest)))
    (h : wpO C Q (pSW p l e R s m args below meth c Qw Z nL lim n0) (h_ll f S)) : pSW p l e R s m args below meth c Qw Z nL lim n0 S := by
  unfold h_ll at h
  split at h
  next z x st hst => exact k_pure (fun H locs ls k hl w => by rw [hst]; refine row H locs ls k _ x z ?_; rw [← hf x z]; exact w) h
  · exact h.elim
theorem k_dup (row : ∀ (H : Heap) (locs : List Loc) (ls : Array Slot) (k : Nat) (rest : List Value) (v : Value), v.category = 1 → W p l e R s m args below meth c H locs k (200 * k) Qw (F0 m (S.1 + 1) ls (v :: v :: rest)) → W p l e R s m args below meth c H locs k (200 * k) Qw (F0 m S.1 ls (v :: rest)))
    (h : wpO C Q (pSW p l e R s m args below meth c Qw Z nL lim n0) (h_dup S)) : pSW p l e R s m args below meth c Qw Z nL lim n0 S := by
  unfold h_dup at h
  split at h
  next v st hst =>
    split at h
    next hc => exact k_pure (fun H locs ls k hl w => by rw [hst]; exact row H locs ls k _ (ptv (pq Z) v) (by rw [ptv_cat]; exact hc) w) h
    · exact h.elim
  · exact h.elim
theorem k_pop (row : ∀ (H : Heap) (locs : List Loc) (ls : Array Slot) (k : Nat) (rest : List Value) (v : Value), v.category = 1 → W p l e R s m args below meth c H locs k (200 * k) Qw (F0 m (S.1 + 1) ls rest) → W p l e R s m args below meth c H locs k (200 * k) Qw (F0 m S.1 ls (v :: rest)))
    (h : wpO C Q (pSW p l e R s m args below meth c Qw Z nL lim n0) (h_pop S)) : pSW p l e R s m args below meth c Qw Z nL lim n0 S := by
  unfold h_pop at h
  split at h
  next v st hst =>
    split at h
    next hc => exact k_pure (fun H locs ls k hl w => by rw [hst]; exact row H locs ls k _ (ptv (pq Z) v) (by rw [ptv_cat]; exact hc) w) h
    · exact h.elim
  · exact h.elim
theorem k_dup2 (row : ∀ (H : Heap) (locs : List Loc) (ls : Array Slot) (k : Nat) (rest : List Value) (v w : Value), v.category = 1 → w.category = 1 → W p l e R s m args below meth c H locs k (200 * k) Qw (F0 m (S.1 + 1) ls (v :: w :: v :: w :: rest)) → W p l e R s m args below meth c H locs k (200 * k) Qw (F0 m S.1 ls (v :: w :: rest)))
    (h : wpO C Q (pSW p l e R s m args below meth c Qw Z nL lim n0) (h_dup2 S)) : pSW p l e R s m args below meth c Qw Z nL lim n0 S := by
  unfold h_dup2 at h
  split at h
  next v w st hst =>
    split at h
    next hc => exact k_pure (fun H locs ls k hl w' => by rw [hst]; exact row H locs ls k _ (ptv (pq Z) v) (ptv (pq Z) w) (by rw [ptv_cat]; exact hc.1) (by rw [ptv_cat]; exact hc.2) w') h
    · exact h.elim
  · exact h.elim
theorem k_st1 {i len : Nat} {v : Value} {st : List Value} (hi : i < S.2.1.length)
    (row : ∀ (H : Heap) (locs : List Loc) (ls : Array Slot) (k : Nat) (rest : List Value) (lv : List (Nat × Value)), lv_has ls nL lv → i < nL → (∀ ls' : Array Slot, lv_has ls' nL ((i, ptv (pq Z) v) :: lv.filter (fun q => !(q.1 == i) && !(q.1 + 1 == i && q.2.category == 2))) → W p l e R s m args below meth c H locs k (200 * k) Qw (F0 m (S.1 + len) ls' rest)) → W p l e R s m args below meth c H locs k (200 * k) Qw (F0 m S.1 ls (ptv (pq Z) v :: rest)))
    (hst : S.2.2.1 = v :: st) (h : pSW p l e R s m args below meth c Qw Z nL lim n0 (S.1 + len, stL S.2.1 i v, st, S.2.2.2.1, S.2.2.2.2)) : pSW p l e R s m args below meth c Qw Z nL lim n0 S := by
  intro H locs ls hP hz hm hS hl hn hu
  rw [hst]
  exact row H locs ls _ _ _ hl (by omega) (fun ls' hl' => h H locs ls' hP hz hm hS (pas_st1 hl') (by rw [stL_len]; exact hn) hu)
theorem k_ist {len i : Nat} (row : ∀ (H : Heap) (locs : List Loc) (ls : Array Slot) (k : Nat) (rest : List Value) (x : Int32) (lv : List (Nat × Value)), lv_has ls nL lv → i < nL → (∀ ls' : Array Slot, lv_has ls' nL ((i, .int x) :: lv.filter (fun q => !(q.1 == i) && !(q.1 + 1 == i && q.2.category == 2))) → W p l e R s m args below meth c H locs k (200 * k) Qw (F0 m (S.1 + len) ls' rest)) → W p l e R s m args below meth c H locs k (200 * k) Qw (F0 m S.1 ls (.int x :: rest)))
    (h : wpO C Q (pSW p l e R s m args below meth c Qw Z nL lim n0) (h_ist len i S)) : pSW p l e R s m args below meth c Qw Z nL lim n0 S := by
  unfold h_ist at h
  split at h
  next x st hst =>
    split at h
    next hc => exact k_st1 (v := .int x) (len := len) hc (fun H locs ls k rest lv => row H locs ls k rest x lv) hst h
    · exact h.elim
  · exact h.elim
theorem k_ast {len i : Nat} (row : ∀ (H : Heap) (locs : List Loc) (ls : Array Slot) (k : Nat) (rest : List Value) (x : Nat) (lv : List (Nat × Value)), lv_has ls nL lv → i < nL → (∀ ls' : Array Slot, lv_has ls' nL ((i, .ref x) :: lv.filter (fun q => !(q.1 == i) && !(q.1 + 1 == i && q.2.category == 2))) → W p l e R s m args below meth c H locs k (200 * k) Qw (F0 m (S.1 + len) ls' rest)) → W p l e R s m args below meth c H locs k (200 * k) Qw (F0 m S.1 ls (.ref x :: rest)))
    (h : wpO C Q (pSW p l e R s m args below meth c Qw Z nL lim n0) (h_ast len i S)) : pSW p l e R s m args below meth c Qw Z nL lim n0 S := by
  unfold h_ast at h
  split at h
  next x st hst =>
    split at h
    next hc => exact k_st1 (v := .ref x) (len := len) hc (fun H locs ls k rest lv => row H locs ls k rest (pq Z x) lv) hst h
    · exact h.elim
  · exact h.elim
theorem k_lst {len i : Nat} (row : ∀ (H : Heap) (locs : List Loc) (ls : Array Slot) (k : Nat) (rest : List Value) (x : Int64) (lv : List (Nat × Value)), lv_has ls nL lv → i + 1 < nL → (∀ ls' : Array Slot, lv_has ls' nL ((i, .long x) :: lv.filter (fun q => !(q.1 == i) && (!(q.1 == i + 1) && !(q.1 + 1 == i && q.2.category == 2)))) → W p l e R s m args below meth c H locs k (200 * k) Qw (F0 m (S.1 + len) ls' rest)) → W p l e R s m args below meth c H locs k (200 * k) Qw (F0 m S.1 ls (.long x :: rest)))
    (h : wpO C Q (pSW p l e R s m args below meth c Qw Z nL lim n0) (h_lst len i S)) : pSW p l e R s m args below meth c Qw Z nL lim n0 S := by
  unfold h_lst at h
  split at h
  next x st hst =>
    split at h
    next hc =>
      intro H locs ls hP hz hm hS hl hn hu
      rw [hst]
      exact row H locs ls _ _ x _ hl (by omega) (fun ls' hl' => h H locs ls' hP hz hm hS (pas_st2 (v := .long x) hl') (by rw [stL2_len]; exact hn) hu)
    · exact h.elim
  · exact h.elim
theorem k_inc {i : Nat} {n : Int} (row : ∀ (H : Heap) (locs : List Loc) (ls : Array Slot) (k j : Nat) (rest : List Value) (x : Int32) (lv : List (Nat × Value)), lv_has ls nL lv → lv[j]? = some (i, .int x) → i < nL → (∀ ls' : Array Slot, lv_has ls' nL ((i, .int (x + Int32.ofInt n)) :: lv.filter (fun q => !(q.1 == i) && !(q.1 + 1 == i && q.2.category == 2))) → W p l e R s m args below meth c H locs k (200 * k) Qw (F0 m (S.1 + 3) ls' rest)) → W p l e R s m args below meth c H locs k (200 * k) Qw (F0 m S.1 ls rest))
    (h : wpO C Q (pSW p l e R s m args below meth c Qw Z nL lim n0) (h_inc i n S)) : pSW p l e R s m args below meth c Qw Z nL lim n0 S := by
  unfold h_inc at h
  split at h
  next x hx =>
    intro H locs ls hP hz hm hS hl hn hu
    have h1 := pas_in (pq Z) S.2.1 0 i _ hx
    rw [Nat.zero_add] at h1
    obtain ⟨j, hj⟩ := List.mem_iff_getElem?.mp h1
    have hi : i < S.2.1.length := (List.getElem?_eq_some_iff.mp hx).1
    exact row H locs ls _ j _ x _ hl hj (by omega) (fun ls' hl' => h H locs ls' hP hz hm hS (pas_st1 (v := .int (x + Int32.ofInt n)) hl') (by rw [stL_len]; exact hn) hu)
  · exact h.elim
/-- jumps -/
theorem k_if {cd : Jvm.ClassFile.Cond} {off : Int} (row : ∀ (H : Heap) (locs : List Loc) (ls : Array Slot) (k T : Nat) (rest : List Value) (x : Int32), (S.1 : Int) + off = (T : Int) → (pcmp cd x 0 → W p l e R s m args below meth c H locs k (200 * k) Qw (F0 m T ls rest)) → (¬ pcmp cd x 0 → W p l e R s m args below meth c H locs k (200 * k) Qw (F0 m (S.1 + 3) ls rest)) → W p l e R s m args below meth c H locs k (200 * k) Qw (F0 m S.1 ls (.int x :: rest)))
    (h : wpO C Q (pSW p l e R s m args below meth c Qw Z nL lim n0) (h_if cd off S)) : pSW p l e R s m args below meth c Qw Z nL lim n0 S := by
  unfold h_if at h
  split at h
  next x st hst =>
    split at h
    next h0 =>
      intro H locs ls hP hz hm hS hl hn hu
      rw [hst]
      refine row H locs ls _ (ptgt S.1 off) _ x (by unfold ptgt; omega) (fun hc => ?_) (fun hc => ?_)
      · have := h H locs ls hP hz hm hS hl hn hu
        rwa [if_pos hc] at this
      · have := h H locs ls hP hz hm hS hl hn hu
        rwa [if_neg hc] at this
    · exact h.elim
  · exact h.elim
theorem k_ic {cd : Jvm.ClassFile.Cond} {off : Int} (row : ∀ (H : Heap) (locs : List Loc) (ls : Array Slot) (k T : Nat) (rest : List Value) (x z : Int32), (S.1 : Int) + off = (T : Int) → (pcmp cd x z → W p l e R s m args below meth c H locs k (200 * k) Qw (F0 m T ls rest)) → (¬ pcmp cd x z → W p l e R s m args below meth c H locs k (200 * k) Qw (F0 m (S.1 + 3) ls rest)) → W p l e R s m args below meth c H locs k (200 * k) Qw (F0 m S.1 ls (.int z :: .int x :: rest)))
    (h : wpO C Q (pSW p l e R s m args below meth c Qw Z nL lim n0) (h_ic cd off S)) : pSW p l e R s m args below meth c Qw Z nL lim n0 S := by
  unfold h_ic at h
  split at h
  next z x st hst =>
    split at h
    next h0 =>
      intro H locs ls hP hz hm hS hl hn hu
      rw [hst]
      refine row H locs ls _ (ptgt S.1 off) _ x z (by unfold ptgt; omega) (fun hc => ?_) (fun hc => ?_)
      · have := h H locs ls hP hz hm hS hl hn hu
        rwa [if_pos hc] at this
      · have := h H locs ls hP hz hm hS hl hn hu
        rwa [if_neg hc] at this
    · exact h.elim
  · exact h.elim
theorem k_goto {off : Int} (row : ∀ (H : Heap) (locs : List Loc) (ls : Array Slot) (k T : Nat) (rest : List Value), (S.1 : Int) + off = (T : Int) → W p l e R s m args below meth c H locs k (200 * k) Qw (F0 m T ls rest) → W p l e R s m args below meth c H locs k (200 * k) Qw (F0 m S.1 ls rest))
    (h : wpO C Q (pSW p l e R s m args below meth c Qw Z nL lim n0) (h_goto off S)) : pSW p l e R s m args below meth c Qw Z nL lim n0 S := by
  unfold h_goto at h
  split at h
  next h0 => exact k_pure (fun H locs ls k hl w => row H locs ls k _ _ (by unfold ptgt; omega) w) h
  · exact h.elim
theorem k_ts {dflt lo hi : Int} {offs : Array Int} (rowO : ∀ (H : Heap) (locs : List Loc) (ls : Array Slot) (k T : Nat) (rest : List Value) (x : Int32), (x.toInt < lo ∨ hi < x.toInt) → (S.1 : Int) + dflt = (T : Int) → W p l e R s m args below meth c H locs k (200 * k) Qw (F0 m T ls rest) → W p l e R s m args below meth c H locs k (200 * k) Qw (F0 m S.1 ls (.int x :: rest)))
    (rowI : ∀ (H : Heap) (locs : List Loc) (ls : Array Slot) (k T : Nat) (rest : List Value) (x : Int32) (off : Int), ¬ x.toInt < lo → ¬ hi < x.toInt → offs[(x.toInt - lo).toNat]? = some off → (S.1 : Int) + off = (T : Int) → W p l e R s m args below meth c H locs k (200 * k) Qw (F0 m T ls rest) → W p l e R s m args below meth c H locs k (200 * k) Qw (F0 m S.1 ls (.int x :: rest)))
    (h : wpO C Q (pSW p l e R s m args below meth c Qw Z nL lim n0) (h_ts dflt lo hi offs S)) : pSW p l e R s m args below meth c Qw Z nL lim n0 S := by
  unfold h_ts at h
  split at h
  next x st hst =>
    split at h
    next hc =>
      split at h
      next h0 => exact k_pure (fun H locs ls k hl w => by rw [hst]; exact rowO H locs ls k _ _ x hc (by unfold ptgt; omega) w) h
      · exact h.elim
    next hc =>
      split at h
      next off ho =>
        split at h
        next h0 => exact k_pure (fun H locs ls k hl w => by rw [hst]; exact rowI H locs ls k _ _ x off (fun z => hc (Or.inl z)) (fun z => hc (Or.inr z)) ho (by unfold ptgt; omega) w) h
        · exact h.elim
      · exact h.elim
  · exact h.elim
theorem k_lk {dflt : Int} {ps : Array (Int × Int)} (row : ∀ (H : Heap) (locs : List Loc) (ls : Array Slot) (k T : Nat) (rest : List Value) (x : Int32), (ps.toList.zip (ps.toList.drop 1)).all (fun (a, next) => a.1 < next.1) = true → (S.1 : Int) + Op.lookupswitch.offset ps.toList dflt x.toInt = (T : Int) → W p l e R s m args below meth c H locs k (200 * k) Qw (F0 m T ls rest) → W p l e R s m args below meth c H locs k (200 * k) Qw (F0 m S.1 ls (.int x :: rest)))
    (h : wpO C Q (pSW p l e R s m args below meth c Qw Z nL lim n0) (h_lk dflt ps S)) : pSW p l e R s m args below meth c Qw Z nL lim n0 S := by
  unfold h_lk at h
  split at h
  next x st hst =>
    split at h
    next hc =>
      split at h
      next h0 => exact k_pure (fun H locs ls k hl w => by rw [hst]; exact row H locs ls k _ _ x hc (by unfold ptgt; omega) w) h
      · exact h.elim
    · exact h.elim
  · exact h.elim
end KST

/-! new cells, Object(), arraycopy -/
def chkN (e : Nat × Nat × Nat × Nat × Nat × Nat) : Bool := decide (e.2.2.1 < 6) && decide (lw_tbl[e.2.2.2.1]? = some (.classLink (oS e.1) e.2.1 (oS e.2.2.1))) && decide (lw_tbl[e.2.2.2.2.1]? = some (.instantiable (oS e.2.2.1) (cN e.2.2.1))) && decide (lw_tbl[e.2.2.2.2.2]? = some (.initialized (oS e.2.2.1)))
theorem NTT_ok : NTT.all chkN = true := by decide +kernel
theorem pntt_ok {o ix ci : Nat} (h : pntt o ix = some ci) : ci < 6 ∧ Cond.classLink (oS o) ix (oS ci) ∈ TG ∧ Cond.instantiable (oS ci) (cN ci) ∈ TG ∧ Cond.initialized (oS ci) ∈ TG := by
  unfold pntt at h
  cases hf : NTT.find? (fun e => e.1 == o && e.2.1 == ix) with
  | none => rw [hf] at h; cases h
  | some e =>
    rw [hf] at h
    have h1 := List.find?_some hf
    have h2 := List.all_eq_true.mp NTT_ok e (List.mem_of_find?_eq_some hf)
    simp only [Bool.and_eq_true, beq_iff_eq] at h1
    obtain ⟨o', ix', ci', k1, k2, k3⟩ := e
    simp only [Option.map_some, Option.some.injEq] at h
    subst h
    obtain ⟨rfl, rfl⟩ := h1
    unfold chkN at h2
    simp only [Bool.and_eq_true, decide_eq_true_eq] at h2
    exact ⟨h2.1.1.1, tg_in h2.1.1.2 rfl, tg_in h2.1.2 rfl, tg_in h2.2 rfl⟩
theorem arr_in : Cond.arrayClass .int ∈ TG ∧ Cond.arrayClass .byte ∈ TG := ⟨tg_in (h := 119) (by decide +kernel) rfl, tg_in (h := 715) (by decide +kernel) rfl⟩
section KNW
variable {p : Program} {l : Launch} {e : Env} {R : Room} {s : State} {m : MethodId} {args : Array Value} {below : List Frame} {meth : Method} {c : Code} {Qw : State → Prop} {Z : pZ} {nL lim n0 : Nat} {C : Nat → List Value → List pME → (Option Value → List pME → Prop) → Prop} {Q : Option Value → List pME → Prop} {S : pLS} {X : pXX} {cc : ByteArray} {y o ix ci k d : Nat}
/-- a new cell lies behind all others -/
theorem W_addr {u ms q : Nat} {mem : List pME} {x : va_E} {H : Heap} {locs : List Loc} {g : JFrame} (hsz : s.heap.size = pb Z + n0) (hlen : mem.length = n0 + u) (hm : mem.length + 1 ≤ 900) (hP : va_P Z.1 cL (pws (pq Z) Z.2.1 0 mem ++ [(q, x)]) H) (hD : va_D (pA Z) (pws (pq Z) Z.2.1 0 mem ++ [(q, x)])) (k : q = pq Z mem.length → W p l e R s m args below meth c H locs (u + 1) ms Qw g) : W p l e R s m args below meth c H locs (u + 1) ms Qw g := by
  intro T hT X'
  refine k ?_ T hT X'
  have hwl : (pws (pq Z) Z.2.1 0 mem).length = mem.length := by
    have : ∀ (mem : List pME) (k : Nat), (pws (pq Z) Z.2.1 k mem).length = mem.length := by
      intro mem
      induction mem with
      | nil => intro k; rfl
      | cons a t ih => intro k; simp [pws, ih]
    exact this mem 0
  have hi : (pws (pq Z) Z.2.1 0 mem ++ [(q, x)])[mem.length]? = some (q, x) := by
    rw [List.getElem?_append_right (by omega), hwl]; simp
  have h1 := X'.heapSize
  rw [hT] at h1
  have h2 : q < H.size := (hP _ _ hi).lt
  have h3 : pb Z ≤ q := hD.2 _ _ hi
  have h4 : ¬ q < pb Z + mem.length := by
    intro hlt
    obtain ⟨z, hz⟩ : ∃ z, mem[q - pb Z]? = some z := ⟨mem[q - pb Z]'(by omega), List.getElem?_eq_getElem (by omega)⟩
    have h5 : (pws (pq Z) Z.2.1 0 mem ++ [(q, x)])[q - pb Z]? = some (pq Z (q - pb Z), pte (pq Z) Z.2.1 z) := by
      rw [List.getElem?_append_left (by omega)]; exact pws_at hz
    have h6 := hD.1 _ _ _ _ h5 hi (by show pq Z (q - pb Z) = q; rw [pq_lo Z _ (by omega)]; omega)
    omega
  rw [pq_lo Z _ (by omega)]
  omega
theorem dfl_ok (q : Nat → Nat) (ci j : Nat) (hj : j < cN ci) (hty : cY ci j = .int ∨ cY ci j = .boolean ∨ cY ci j = .long ∨ (∃ n, cY ci j = .object n) ∨ ∃ t, cY ci j = .array t) : defaultValue (cY ci j) = vp_V (((List.range (cN ci)).map (fun j => pdfl (cY ci j))).map (ptv q)) j := by
  have e : vp_V (((List.range (cN ci)).map (fun j => pdfl (cY ci j))).map (ptv q)) j = ptv q (pdfl (cY ci j)) := by
    simp [vp_V, hj]
  rw [e]
  rcases hty with h | h | h | ⟨n, h⟩ | ⟨t, h⟩ <;> rw [h] <;> rfl
def tyOk : FieldType → Bool
  | .int => true
  | .boolean => true
  | .long => true
  | .object _ => true
  | .array _ => true
  | _ => false
theorem cY_kinds : ∀ ci, ci < 6 → ∀ j, j < cN ci → tyOk (cY ci j) = true := by decide +kernel
theorem tyOk_or {t : FieldType} (h : tyOk t = true) : t = .int ∨ t = .boolean ∨ t = .long ∨ (∃ n, t = .object n) ∨ ∃ u, t = .array u := by
  cases t <;> simp_all [tyOk]
theorem k_new (hx : p.tables.exec = Jvm.exec) (hb : c.code = cc) (hown : s.vm.findClass (oS o) = some m.cls) (hts : ∀ w ∈ TG, w.before args s = true) (hG : pG Z X (pA Z) s) (hsz : s.heap.size = pb Z + n0) (hRc : lim ≤ R.cells) (hRs : 200 * lim ≤ R.slots) (hf : pntt o ix = some ci) (hd : decode cc S.1 = .ok (.new ix, 3)) (h : wpO C Q (pSW p l e R s m args below meth c Qw Z nL lim n0) (h_new lim ci S)) : pSW p l e R s m args below meth c Qw Z nL lim n0 S := by
  obtain ⟨h6, w1, w2, w3⟩ := pntt_ok hf
  obtain ⟨T, hT1, hT2⟩ := cL_ok ci h6
  unfold h_new at h
  split at h
  next hc =>
    intro H locs ls hP hz hm hS hl hn hu
    have hN := cN_le ci h6
    have hty : ∀ j, j < cN ci → parseFieldDescriptor (T j).2.2.1 = some (cY ci j) := fun j hj => by rw [hT2]; exact cY_ok ci h6 j hj
    refine va_new (ci := ci) (C := oS ci) (T := T) (N := cN ci) (index := ix) (fs := ((List.range (cN ci)).map (fun j => pdfl (cY ci j))).map (ptv (pq Z))) hx hb hts (lay_in h6 hT2) (cY ci) hty hown (hts _ w1) (hts _ w2) (hts _ w3) hG.1 hP (pws_D (pq_lo Z) hm) hS (fun q hq => (show pb Z ≤ q by omega)) hT1 (fun j hj => dfl_ok _ ci j hj (tyOk_or (cY_kinds ci h6 j hj))) (by omega) (by omega) hd (fun q H1 hP1 hD1 hS1 => ?_)
    refine W.widen (k := S.2.2.2.2 + 1) (n := 200 * (S.2.2.2.2 + 1)) (Nat.le_refl _) (by omega) ?_
    refine W_addr hsz hz hc.2 hP1 hD1 (fun hq => ?_)
    subst hq
    have e : pws (pq Z) Z.2.1 0 S.2.2.2.1 ++ [(pq Z S.2.2.2.1.length, .inr (ci, ((List.range (cN ci)).map (fun j => pdfl (cY ci j))).map (ptv (pq Z))))] = pws (pq Z) Z.2.1 0 (S.2.2.2.1 ++ [.inl (ci, (List.range (cN ci)).map (fun j => pdfl (cY ci j)))]) := by
      rw [pws_app, Nat.zero_add]; rfl
    rw [e] at hP1
    exact h H1 locs ls hP1 (by simp only [List.length_append, List.length_cons, List.length_nil]; omega) (by simp only [List.length_append, List.length_cons, List.length_nil]; omega) hS1 hl hn (by show S.2.2.2.2 + 1 ≤ lim; omega)
  · exact h.elim
theorem cA_same {ty : FieldType} {t0 : Nat} {cA' : ClassId} {t1 : List (ClassId × FieldType)} (hK : va_K Z.1 cL (pty Z.2.1) s) (hK' : va_K Z.1 cL (pty Z.2.1 ++ [(cA', ty)]) s) (ht : (pty Z.2.1)[t0]? = some (Z.2.1 t0, ty)) : cA' = Z.2.1 t0 := by
  have h1 := (hK.2 t0 _ ht).2
  have h2 := (hK'.2 4 (cA', ty) rfl).2
  cases ty with
  | object n =>
    obtain ⟨-, -, -, -, -, q1⟩ := h1
    obtain ⟨-, -, -, -, -, q2⟩ := h2
    exact Option.some.inj (q2.symm.trans q1)
  | _ => exact Option.some.inj (h2.symm.trans h1)
theorem k_newa {at' : ArrayType} {ty : FieldType} (hat : newarray.typeOf at' = ty) (hkt : (k = 0 ∧ ty = .int) ∨ (k = 1 ∧ ty = .byte)) (hx : p.tables.exec = Jvm.exec) (hb : c.code = cc) (hts : ∀ w ∈ TG, w.before args s = true) (hG : pG Z X (pA Z) s) (hsz : s.heap.size = pb Z + n0) (hRc : lim ≤ R.cells) (hRs : 200 * lim ≤ R.slots) (hd : decode cc S.1 = .ok (.newarray at', 2)) (h : wpO C Q (pSW p l e R s m args below meth c Qw Z nL lim n0) (h_newa lim k S)) : pSW p l e R s m args below meth c Qw Z nL lim n0 S := by
  unfold h_newa at h
  split at h
  next n st hst =>
    split at h
    next hc =>
      obtain ⟨hc1, hc2, hc3, hc4⟩ := hc
      intro H locs ls hP hz hm hS hl hn hu
      rw [hst]
      have hword : (Cond.arrayClass (newarray.typeOf at')).before args s = true := by
        rw [hat]
        rcases hkt with ⟨-, rfl⟩ | ⟨-, rfl⟩
        · exact hts _ arr_in.1
        · exact hts _ arr_in.2
      have hcb : n.toNatClampNeg * componentBytes ty ≤ 536870912 := by
        have h2 : componentBytes ty ≤ 8 := by rcases hkt with ⟨-, rfl⟩ | ⟨-, rfl⟩ <;> decide
        have := Nat.mul_le_mul hc4 h2
        omega
      have ha0 : ∀ cA : ClassId, vp_cell cA (n.toNatClampNeg, .inl (fun _ => 0)) = arrV cA n.toNatClampNeg (fun _ => defaultValue ty) := by
        intro cA
        rcases hkt with ⟨-, rfl⟩ | ⟨-, rfl⟩ <;> rfl
      refine va_newa (atype := at') (ty := ty) (a0 := (n.toNatClampNeg, .inl (fun _ => 0))) hx hb hword hat hG.1 hP (pws_D (pq_lo Z) hm) hS (fun q hq => (show pb Z ≤ q by omega)) ha0 hc3 rfl hcb (by omega) (by omega) hd (fun q cA' H1 hK1 hP1 hD1 hS1 => ?_)
      have hcA : cA' = Z.2.1 k := by
        rcases hkt with ⟨rfl, rfl⟩ | ⟨rfl, rfl⟩
        · exact cA_same (t0 := 0) (t1 := []) hG.1 hK1 rfl
        · exact cA_same (t0 := 1) (t1 := []) hG.1 hK1 rfl
      subst hcA
      refine W.widen (k := S.2.2.2.2 + 1) (n := 200 * (S.2.2.2.2 + 1)) (Nat.le_refl _) (by omega) ?_
      refine W_addr hsz hz hc2 hP1 hD1 (fun hq => ?_)
      subst hq
      have e : pws (pq Z) Z.2.1 0 S.2.2.2.1 ++ [(pq Z S.2.2.2.1.length, .inl (Z.2.1 k, n.toNatClampNeg, .inl (fun _ => 0)))] = pws (pq Z) Z.2.1 0 (S.2.2.2.1 ++ [.inr (.inl (k, n.toNatClampNeg, fun _ => 0))]) := by
        rw [pws_app, Nat.zero_add]; rfl
      rw [e] at hP1
      exact h H1 locs ls hP1 (by simp only [List.length_append, List.length_cons, List.length_nil]; omega) (by simp only [List.length_append, List.length_cons, List.length_nil]; omega) hS1 hl hn (by show S.2.2.2.2 + 1 ≤ lim; omega)
    · exact h.elim
  · exact h.elim
theorem k_newq (hci : (ci = 0 ∧ k = 2) ∨ (ci = 1 ∧ k = 3)) (hx : p.tables.exec = Jvm.exec) (hb : c.code = cc) (hown : s.vm.findClass (oS o) = some m.cls) (hts : ∀ w ∈ TG, w.before args s = true) (hG : pG Z X (pA Z) s) (hsz : s.heap.size = pb Z + n0) (hRc : lim ≤ R.cells) (hRs : 200 * lim ≤ R.slots) (hf : pntt o ix = some ci) (hd : decode cc S.1 = .ok (.anewarray ix, 3)) (h : wpO C Q (pSW p l e R s m args below meth c Qw Z nL lim n0) (h_newq lim k S)) : pSW p l e R s m args below meth c Qw Z nL lim n0 S := by
  obtain ⟨h6, w1, w2, w3⟩ := pntt_ok hf
  unfold h_newq at h
  split at h
  next n st hst =>
    split at h
    next hc =>
      obtain ⟨hc1, hc2, hc3, hc4⟩ := hc
      intro H locs ls hP hz hm hS hl hn hu
      rw [hst]
      have hover : va_AO (oS ci) s := by
        rcases hci with ⟨rfl, rfl⟩ | ⟨rfl, rfl⟩
        · exact hG.2.2.1.1
        · exact hG.2.2.1.2
      refine va_newq (C := oS ci) (index := ix) hx hb hown (hts _ w1) hover hG.1 hP (pws_D (pq_lo Z) hm) hS (fun q hq => (show pb Z ≤ q by omega)) hc3 rfl (by omega) (by omega) (by omega) hd (fun q cA' H1 hK1 hP1 hD1 hS1 => ?_)
      have hcA : cA' = Z.2.1 k := by
        rcases hci with ⟨rfl, rfl⟩ | ⟨rfl, rfl⟩
        · exact cA_same (t0 := 2) (t1 := []) hG.1 hK1 rfl
        · exact cA_same (t0 := 3) (t1 := []) hG.1 hK1 rfl
      subst hcA
      refine W.widen (k := S.2.2.2.2 + 1) (n := 200 * (S.2.2.2.2 + 1)) (Nat.le_refl _) (by omega) ?_
      refine W_addr hsz hz hc2 hP1 hD1 (fun hq => ?_)
      subst hq
      have e : pws (pq Z) Z.2.1 0 S.2.2.2.1 ++ [(pq Z S.2.2.2.1.length, .inl (Z.2.1 k, n.toNatClampNeg, .inr (.inr (.inr (.inr (fun _ => none))))))] = pws (pq Z) Z.2.1 0 (S.2.2.2.1 ++ [.inr (.inr (k, n.toNatClampNeg, fun _ => none))]) := by
        rw [pws_app, Nat.zero_add]; rfl
      rw [e] at hP1
      exact h H1 locs ls hP1 (by simp only [List.length_append, List.length_cons, List.length_nil]; omega) (by simp only [List.length_append, List.length_cons, List.length_nil]; omega) hS1 hl hn (by show S.2.2.2.2 + 1 ≤ lim; omega)
    · exact h.elim
  · exact h.elim
end KNW

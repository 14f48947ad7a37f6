/-! calls -/
theorem pclt_in {o ix k y : Nat} (h : pclt o ix = some (k, y)) : ∃ h1 h2 h3 h4, chkC (o, ix, k, y, h1, h2, h3, h4) = true := by
  unfold pclt at h
  cases hf : CLT.find? (fun e => e.1 == o && e.2.1 == ix) with
  | none => rw [hf] at h; cases h
  | some e =>
    rw [hf] at h
    have h1 := List.find?_some hf
    have h2 := List.all_eq_true.mp CLT_ok e (List.mem_of_find?_eq_some hf)
    simp only [Bool.and_eq_true, beq_iff_eq] at h1
    obtain ⟨o', ix', k', y', a1, a2, a3, a4⟩ := e
    simp only [Option.map_some, Option.some.injEq, Prod.mk.injEq] at h
    obtain ⟨rfl, rfl⟩ := h
    obtain ⟨rfl, rfl⟩ := h1
    exact ⟨a1, a2, a3, a4, h2⟩
/-- a contract's start and end -/
def pPc (Z : pZ) (X : pXX) (as : List Value) (mem : List pME) : Array Value → State → Prop := va_Pc (as.map (ptv (pq Z))) (fun U => pG Z X (pA Z) U ∧ va_P Z.1 cL (pws (pq Z) Z.2.1 0 mem) U.heap ∧ U.heap.size = pb Z + mem.length ∧ mem.length ≤ 900)
def pQc (Z : pZ) (n : Nat) (K : Option Value → List pME → Prop) : Array Value → State → Outcome → State → Prop := fun _ st oc t =>
  (∃ (r : Option Value) (mem : List pME), oc = .returned (r.map (ptv (pq Z))) ∧ K r mem ∧ va_P Z.1 cL (pws (pq Z) Z.2.1 0 mem) t.heap ∧ mem.length = n ∧ mem.length ≤ 900) ∧ va_F (pA Z) st t
theorem pPc_blind {Z : pZ} {X : pXX} {as : List Value} {mem : List pME} : FrameBlind (pPc Z X as mem) := fun _ _ _ _ h => ⟨h.1, pG_call h.2.1, h.2.2⟩
/-- what is known of the methods that a frame may call -/
def pIH (l : Launch) (Z : pZ) (X : pXX) (d : Nat) (C : Nat → List Value → List pME → (Option Value → List pME → Prop) → Prop) : Prop :=
  ∀ (y : Nat) (as : List Value) (mem : List pME) (K : Option Value → List pME → Prop), C y as mem K → ∃ d', d = d' + 1 ∧ Met l (yN y) (pw y) (rmD d' (yU y)) (pPc Z X as mem) (pQc Z (mem.length + yU y) K) (yU y) (200 * yU y) (pA Z)
section KCL
variable {p : Program} {l : Launch} {e : Env} {R : Room} {s : State} {m : MethodId} {args : Array Value} {below : List Frame} {meth : Method} {c : Code} {Qw : State → Prop} {Z : pZ} {nL lim n0 : Nat} {C : Nat → List Value → List pME → (Option Value → List pME → Prop) → Prop} {Q : Option Value → List pME → Prop} {S : pLS} {X : pXX} {cc : ByteArray} {o ix d y2 : Nat}
theorem k_after {as rest : List Value} {a : Array Value} {st0 : List Value} {H : Heap} {locs : List Loc} {ls : Array Slot} (hS : va_S (pA Z) s.heap H locs) (hl : lv_has ls nL (pas (pq Z) 0 S.2.1)) (hn : S.2.1.length = nL) (hz : S.2.2.2.1.length = n0 + S.2.2.2.2) (hu : S.2.2.2.2 + yU y2 ≤ lim)
    (run : va_Run p l e R s m args below meth c H locs S.2.2.2.2 (200 * S.2.2.2.2) (yU y2) (200 * yU y2) (F0 m S.1 ls st0) (rest.map (ptv (pq Z))) (pQc Z (S.2.2.2.1.length + yU y2) (fun r mem => pSW p l e R s m args below meth c Qw Z nL lim n0 (pback (S.1 + 3, S.2.1, rest, S.2.2.2.1, S.2.2.2.2 + yU y2) r mem)) a) (pA Z)) : W p l e R s m args below meth c H locs S.2.2.2.2 (200 * S.2.2.2.2) Qw (F0 m S.1 ls st0) := by
  intro T hT X0
  obtain ⟨v, st₀, t, T', L, h0, X', hL, e1, e2, ⟨⟨r, mem', hv, hK, hP', hlen', hm'⟩, hz', hk'⟩, st⟩ := run T hT X0
  cases hv
  rw [h0] at hz' hk'
  rw [← Nat.mul_add] at X'
  have hS' : va_S (pA Z) s.heap T'.heap (locs ++ L) := ⟨Nat.le_trans hS.1 (by rw [e1]; exact hz'), fun q h1 h2 => by rw [e1, hk' q (Nat.lt_of_lt_of_le h1 hS.1) h2]; exact hS.2.1 q h1 h2, fun q hq => by
      rcases List.mem_append.mp hq with h | h
      · exact hS.2.2 q h
      · exact hL q h⟩
  have ec : S.2.2.2.1.length + yU y2 = n0 + (S.2.2.2.2 + yU y2) := by omega
  obtain ⟨t2, a1, b1⟩ := hK T'.heap (locs ++ L) ls (by rw [e1]; exact hP') (hlen'.trans ec) hm' hS' hl hn hu T' rfl X'
  refine ⟨t2, st t2 ?_, b1⟩
  have e3 : (Option.map (ptv (pq Z)) r).toList ++ rest.map (ptv (pq Z)) = (r.toList ++ rest).map (ptv (pq Z)) := by cases r <;> simp
  rw [e3]
  exact a1
theorem rm_fit {d' : Nat} (hy : y2 < nM) (hd : d = d' + 1) (hRf : d ≤ R.frames) (hRl : 36 * d ≤ R.locals) : (rmD d' (yU y2)).frames + 1 ≤ R.frames ∧ 8 + (yL y2 + 11) + (rmD d' (yU y2)).locals ≤ R.locals := by
  have h := (meth_ok y2 hy).2.2.2.2
  unfold rmD
  constructor
  · show d' + 1 ≤ R.frames; omega
  · show 8 + (yL y2 + 11) + 36 * d' ≤ R.locals; omega
theorem pre_all {as : List Value} {H : Heap} {locs : List Loc} {mem : List pME} (hG : pG Z X (pA Z) s) (hS : va_S (pA Z) s.heap H locs) (hP : va_P Z.1 cL (pws (pq Z) Z.2.1 0 mem) H) (hsz : H.size = pb Z + mem.length) (hm : mem.length ≤ 900) : ∀ U : State, U.heap = H → s.WarmedH U.vm → pPc Z X as mem (as.map (ptv (pq Z))).toArray U := fun U hU hW => by
  refine ⟨rfl, pG_to hW (fun a h1 h2 => by rw [hU]; exact hS.2.1 a h1 h2) (by rw [hU]; exact hS.1) hG, by rw [hU]; exact hP, by rw [hU]; exact hsz, hm⟩
theorem take_rev (st : List Value) (n : Nat) (q : Nat → Nat) : ((st.take n).reverse.map (ptv q)).reverse ++ (st.drop n).map (ptv q) = st.map (ptv q) := by
  rw [← List.map_reverse, List.reverse_reverse, ← List.map_append, List.take_append_drop]
theorem k_virt (hx : p.tables.exec = Jvm.exec) (hb : c.code = cc) (hml : c.maxLocals = nL) (hown : s.vm.findClass (oS o) = some m.cls) (hts : ∀ w ∈ TG, w.before args s = true) (hG : pG Z X (pA Z) s) (hsz : s.heap.size = pb Z + n0) (hRc : lim ≤ R.cells) (hRs : 200 * lim ≤ R.slots) (hRf : d ≤ R.frames) (hRl : 36 * d ≤ R.locals) (ih : pIH l Z X d C) (hf : pclt o ix = some (0, y2)) (hd : decode cc S.1 = .ok (.invokevirtual ix, 3)) (h : wpO C Q (pSW p l e R s m args below meth c Qw Z nL lim n0) (h_virt lim y2 S)) : pSW p l e R s m args below meth c Qw Z nL lim n0 S := by
  obtain ⟨h1, h2, h3, h4, hck⟩ := pclt_in hf
  simp only [chkC, Bool.and_eq_true, decide_eq_true_eq] at hck
  obtain ⟨⟨⟨⟨hy, w1⟩, w2⟩, w3⟩, w4⟩ := hck
  obtain ⟨-, m1, m2, m3, -⟩ := meth_ok y2 hy
  unfold h_virt at h
  split at h
  next hlen =>
    split at h
    next b rest hrest =>
      split at h
      next hrc =>
        unfold h_call at h
        split at h
        next hc =>
          intro H locs ls hP hz hm hS hl hn hu
          obtain ⟨d', hd', hM⟩ := ih _ _ _ _ h
          refine W_size hsz hz hm hP hS (fun hH => ?_)
          have hg : GoodIn TG (wsV (oS o) ix (oS (yO y2)) (yN y2) (pw y2)) := by
            intro w hw
            unfold wsV at hw
            rcases List.mem_append.mp hw with hw | hw
            · simp only [List.mem_cons, List.not_mem_nil, or_false] at hw
              rcases hw with rfl | rfl | rfl | rfl
              · exact ⟨tg_in w1 rfl, tg_good (tg_in w1 rfl)⟩
              · exact ⟨tg_in w2 rfl, tg_good (tg_in w2 rfl)⟩
              · exact ⟨tg_in w3 rfl, tg_good (tg_in w3 rfl)⟩
              · exact ⟨tg_in w4 rfl, tg_good (tg_in w4 rfl)⟩
            · exact pw_good hy w hw
          have hrecv : ∃ cellB : Cell, H[pq Z b]? = some cellB ∧ cellB.vm.isStatics = false ∧ s.vm.findClass (oS (yO y2)) = some cellB.cls := by
            unfold prcv at hrc
            split at hrc
            next c0 fs hm0 =>
              obtain ⟨rfl, h6⟩ := hrc
              obtain ⟨T, hT1, hT2⟩ := cL_ok _ h6
              exact va_recv hG.1 hP hT1 (pws_at hm0)
            · exact hrc.elim
            next hm0 =>
              have hj : b - 1000 < 12 := (show ∀ z : Nat, 1000 ≤ z → z < 1012 → z - 1000 < 12 from fun z _ _ => by omega) b hrc.2.1 hrc.2.2
              have := vk_recv (hG.2.2.2.2.1) hj hS
              rw [pq_str hrc.2.1 hrc.2.2, hrc.1]
              exact this
          have hstk : S.2.2.1.map (ptv (pq Z)) = ((S.2.2.1.take (yA y2)).reverse.map (ptv (pq Z))).reverse ++ .ref (pq Z b) :: rest.map (ptv (pq Z)) := by
            have := take_rev S.2.2.1 (yA y2) (pq Z)
            rw [hrest] at this
            exact this.symm
          refine k_after (y2 := y2) (rest := rest) (as := []) hS hl hn hz hc.2 (va_runV (As := (S.2.2.1.take (yA y2)).reverse.map (ptv (pq Z))) (rest := rest.map (ptv (pq Z))) ⟨hx, hb, hml, hown, hts⟩ hM (cwV (yA y2) hts hg rfl rfl rfl ⟨rfl, m1, m2, m3⟩ (rm_fit hy hd' hRf hRl)) ⟨pPc_blind, hrecv, pre_all (as := .ref b :: (S.2.2.1.take (yA y2)).reverse) hG hS hP hH hm⟩ rfl (by rw [List.length_map, List.length_reverse]; exact hlen) (by rw [hl.1]) hstk ?_ hd ⟨by omega, by omega⟩)
          show 2 * 0 + _ ≤ 8
          rw [pcats_map]
          omega
        · exact h.elim
      · exact h.elim
    · exact h.elim
  · exact h.elim
end KCL

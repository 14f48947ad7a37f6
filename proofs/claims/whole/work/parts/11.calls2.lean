section KC2
variable {p : Program} {l : Launch} {e : Env} {R : Room} {s : State} {m : MethodId} {args : Array Value} {below : List Frame} {meth : Method} {c : Code} {Qw : State → Prop} {Z : pZ} {nL lim n0 : Nat} {C : Nat → List Value → List pME → (Option Value → List pME → Prop) → Prop} {Q : Option Value → List pME → Prop} {S : pLS} {X : pXX} {cc : ByteArray} {o ix d y2 : Nat}
theorem st_stk {hlen : (S.2.2.1.take (yA y2)).length = yA y2} : S.2.2.1.map (ptv (pq Z)) = ((S.2.2.1.take (yA y2)).reverse.map (ptv (pq Z))).reverse ++ (S.2.2.1.drop (yA y2)).map (ptv (pq Z)) := (take_rev S.2.2.1 (yA y2) (pq Z)).symm
theorem cats_ok {ls : Array Slot} {g0 rest : List Value} {pc : Nat} (hc : pcats rest ≤ 8) : 2 * (F0 m pc ls g0).monitorRoom + ((rest.map (ptv (pq Z))).map fun v => v.category).sum ≤ 8 := by
  show 2 * 0 + _ ≤ 8
  rw [pcats_map]
  omega
theorem good3 {w1 w2 w3 : Cond} {y : Nat} (hy : y < nM) (h1 : w1 ∈ TG) (h2 : w2 ∈ TG) (h3 : w3 ∈ TG) : GoodIn TG (([w1, w2, w3] : List Cond) ++ pw y) := by
  intro w hw
  rcases List.mem_append.mp hw with hw | hw
  · simp only [List.mem_cons, List.not_mem_nil, or_false] at hw
    rcases hw with rfl | rfl | rfl
    · exact ⟨h1, tg_good h1⟩
    · exact ⟨h2, tg_good h2⟩
    · exact ⟨h3, tg_good h3⟩
  · exact pw_good hy w hw
/-- a static method, of its own class or another -/
theorem k_stat (hx : p.tables.exec = Jvm.exec) (hb : c.code = cc) (hml : c.maxLocals = nL) (hown : s.vm.findClass (oS o) = some m.cls) (hts : ∀ w ∈ TG, w.before args s = true) (hG : pG Z X (pA Z) s) (hsz : s.heap.size = pb Z + n0) (hRc : lim ≤ R.cells) (hRs : 200 * lim ≤ R.slots) (hRf : d ≤ R.frames) (hRl : 36 * d ≤ R.locals) (ih : pIH l Z X d C) (hf : pclt o ix = some (1, y2) ∨ pclt o ix = some (2, y2)) (hd : decode cc S.1 = .ok (.invokestatic ix, 3)) (h : wpO C Q (pSW p l e R s m args below meth c Qw Z nL lim n0) (h_stat lim y2 S)) : pSW p l e R s m args below meth c Qw Z nL lim n0 S := by
  unfold h_stat at h
  split at h
  next hlen =>
    unfold h_call at h
    split at h
    next hc =>
      intro H locs ls hP hz hm hS hl hn hu
      obtain ⟨d', hd', hM⟩ := ih _ _ _ _ h
      refine W_size hsz hz hm hP hS (fun hH => ?_)
      have hpre := pre_all (as := (S.2.2.1.take (yA y2)).reverse) hG hS hP hH hm
      rcases hf with hf | hf
      · obtain ⟨h1, h2, h3, h4, hck⟩ := pclt_in hf
        simp only [chkC, Bool.and_eq_true, decide_eq_true_eq] at hck
        obtain ⟨⟨⟨hy, w1⟩, w2⟩, w3⟩ := hck
        obtain ⟨-, m1, m2, m3, -⟩ := meth_ok y2 hy
        exact k_after (y2 := y2) (rest := S.2.2.1.drop (yA y2)) (as := []) hS hl hn hz hc.2 (va_runS (As := (S.2.2.1.take (yA y2)).reverse.map (ptv (pq Z))) ⟨hx, hb, hml, hown, hts⟩ hM (va_cwS (yA y2) hts (good3 hy (tg_in w1 rfl) (tg_in w2 rfl) (tg_in w3 rfl)) rfl rfl rfl ⟨m1, m2, m3⟩ (rm_fit hy hd' hRf hRl)) ⟨pPc_blind, hpre⟩ rfl (by rw [List.length_map, List.length_reverse]; exact hlen) (by rw [hl.1]) (st_stk (hlen := hlen)) (cats_ok hc.1) hd ⟨by omega, by omega⟩)
      · obtain ⟨h1, h2, h3, h4, hck⟩ := pclt_in hf
        simp only [chkC, Bool.and_eq_true, decide_eq_true_eq] at hck
        obtain ⟨⟨⟨hy, w1⟩, w2⟩, w3⟩ := hck
        obtain ⟨-, m1, m2, m3, -⟩ := meth_ok y2 hy
        exact k_after (y2 := y2) (rest := S.2.2.1.drop (yA y2)) (as := []) hS hl hn hz hc.2 (va_runSN (As := (S.2.2.1.take (yA y2)).reverse.map (ptv (pq Z))) ⟨hx, hb, hml, hown, hts⟩ hM ⟨va_cnB (yA y2) hts (pw_good hy) rfl rfl rfl (hG.2.1 _ w1) (hts _ (tg_in w3 rfl)) ⟨m1, m2, m3⟩ (rm_fit hy hd' hRf hRl), hts _ (tg_in w2 rfl), trivial⟩ ⟨pPc_blind, hpre⟩ rfl (by rw [List.length_map, List.length_reverse]; exact hlen) (by rw [hl.1]) (st_stk (hlen := hlen)) (cats_ok hc.1) hd ⟨by omega, by omega⟩)
    · exact h.elim
  · exact h.elim
theorem k_init (hx : p.tables.exec = Jvm.exec) (hb : c.code = cc) (hml : c.maxLocals = nL) (hown : s.vm.findClass (oS o) = some m.cls) (hts : ∀ w ∈ TG, w.before args s = true) (hG : pG Z X (pA Z) s) (hsz : s.heap.size = pb Z + n0) (hRc : lim ≤ R.cells) (hRs : 200 * lim ≤ R.slots) (hRf : d ≤ R.frames) (hRl : 36 * d ≤ R.locals) (ih : pIH l Z X d C) (hf : pclt o ix = some (3, y2) ∨ pclt o ix = some (4, y2)) (hd : decode cc S.1 = .ok (.invokespecial ix, 3)) (h : wpO C Q (pSW p l e R s m args below meth c Qw Z nL lim n0) (h_init lim y2 S)) : pSW p l e R s m args below meth c Qw Z nL lim n0 S := by
  unfold h_init at h
  split at h
  next hlen =>
    split at h
    next b rest hrest =>
      unfold h_call at h
      split at h
      next hc =>
        intro H locs ls hP hz hm hS hl hn hu
        obtain ⟨d', hd', hM⟩ := ih _ _ _ _ h
        refine W_size hsz hz hm hP hS (fun hH => ?_)
        have hpre := pre_all (as := .ref b :: (S.2.2.1.take (yA y2)).reverse) hG hS hP hH hm
        have hstk : S.2.2.1.map (ptv (pq Z)) = ((S.2.2.1.take (yA y2)).reverse.map (ptv (pq Z))).reverse ++ .ref (pq Z b) :: rest.map (ptv (pq Z)) := by
          have := take_rev S.2.2.1 (yA y2) (pq Z)
          rw [hrest] at this
          exact this.symm
        rcases hf with hf | hf
        · obtain ⟨h1, h2, h3, h4, hck⟩ := pclt_in hf
          simp only [chkC, Bool.and_eq_true, decide_eq_true_eq] at hck
          obtain ⟨⟨⟨⟨hy, w1⟩, w2⟩, w3⟩, w4⟩ := hck
          obtain ⟨-, m1, m2, m3, -⟩ := meth_ok y2 hy
          have hret : yR y2 = none := w4.2
          have hpw : pw y2 = Cond.code (yN y2) (yB y2) (yL y2) none :: TG := by unfold pw; rw [hret]
          exact k_after (y2 := y2) (rest := rest) (as := []) hS hl hn hz hc.2 (va_runI (As := (S.2.2.1.take (yA y2)).reverse.map (ptv (pq Z))) (rest := rest.map (ptv (pq Z))) (b := pq Z b) ⟨hx, hb, hml, hown, hts⟩ hM (cwI (yA y2) hts (pw_good hy) hpw rfl rfl (hts _ (tg_in w3 rfl)) (hts _ (tg_in w1 rfl)) (hts _ (tg_in w2 rfl)) w4.1 ⟨m1, m2, m3⟩ (rm_fit hy hd' hRf hRl)) ⟨pPc_blind, hpre⟩ rfl (by rw [List.length_map, List.length_reverse]; exact hlen) (by rw [hl.1]) hstk (cats_ok hc.1) hd ⟨by omega, by omega⟩)
        · obtain ⟨h1, h2, h3, h4, hck⟩ := pclt_in hf
          simp only [chkC, Bool.and_eq_true, decide_eq_true_eq] at hck
          obtain ⟨⟨⟨⟨hy, w1⟩, w2⟩, w3⟩, w4⟩ := hck
          obtain ⟨-, m1, m2, m3, -⟩ := meth_ok y2 hy
          have hret : yR y2 = none := w4.2
          have hpw : pw y2 = Cond.code (yN y2) (yB y2) (yL y2) none :: TG := by unfold pw; rw [hret]
          exact k_after (y2 := y2) (rest := rest) (as := []) hS hl hn hz hc.2 (va_runIN (As := (S.2.2.1.take (yA y2)).reverse.map (ptv (pq Z))) (rest := rest.map (ptv (pq Z))) (b := pq Z b) ⟨hx, hb, hml, hown, hts⟩ hM ⟨va_cnB (yA y2) hts (pw_good hy) hpw rfl rfl (hG.2.1 _ w1) (hts _ (tg_in w3 rfl)) ⟨m1, m2, m3⟩ (rm_fit hy hd' hRf hRl), w4.1, hts _ (tg_in w2 rfl)⟩ ⟨pPc_blind, hpre⟩ rfl (by rw [List.length_map, List.length_reverse]; exact hlen) (by rw [hl.1]) hstk (cats_ok hc.1) hd ⟨by omega, by omega⟩)
      · exact h.elim
    · exact h.elim
  · exact h.elim
theorem k_obj {yy : Nat} (hx : p.tables.exec = Jvm.exec) (hb : c.code = cc) (hml : c.maxLocals = nL) (hown : s.vm.findClass (oS o) = some m.cls) (hts : ∀ w ∈ TG, w.before args s = true) (hRf : d ≤ R.frames) (hRl : 36 * d ≤ R.locals) (hf : pclt o ix = some (5, yy)) (hd : decode cc S.1 = .ok (.invokespecial ix, 3)) (h : wpO C Q (pSW p l e R s m args below meth c Qw Z nL lim n0) (h_obj d S)) : pSW p l e R s m args below meth c Qw Z nL lim n0 S := by
  obtain ⟨h1, h2, h3, h4, hck⟩ := pclt_in hf
  simp only [chkC, Bool.and_eq_true, decide_eq_true_eq] at hck
  obtain ⟨w1, w2⟩ := hck
  unfold h_obj at h
  split at h
  next a rest hst =>
    split at h
    next hc =>
      intro H locs ls hP hz hm hS hl hn hu
      rw [hst]
      refine W.objInit hx hb hown (hts _ (tg_in w1 rfl)) (hts _ (tg_in w2 rfl)) (hts _ obj_in) (a := pq Z a) (rest := rest.map (ptv (pq Z))) rfl (by rw [hml]; exact hl.1) rfl hd (by omega) ?_ ?_
      · show 2 * 0 + _ + 12 ≤ _
        rw [pcats_map]
        omega
      · exact h H locs ls hP hz hm hS hl hn hu
    · exact h.elim
  · exact h.elim
theorem k_mm {f : Int32 → Int32 → Int32} (row : ∀ (H : Heap) (locs : List Loc) (ls : Array Slot) (rest : List Value) (x z : Int32), c.maxLocals = ls.size → 1 ≤ R.frames → (rest.map fun v => v.category).sum + 13 ≤ R.locals → S.2.2.2.2 ≤ R.cells → 200 * S.2.2.2.2 ≤ R.slots → W p l e R s m args below meth c H locs S.2.2.2.2 (200 * S.2.2.2.2) Qw (F0 m (S.1 + 3) ls (.int (f x z) :: rest)) → W p l e R s m args below meth c H locs S.2.2.2.2 (200 * S.2.2.2.2) Qw (F0 m S.1 ls (.int z :: .int x :: rest)))
    (hml : c.maxLocals = nL) (hRc : lim ≤ R.cells) (hRs : 200 * lim ≤ R.slots) (hRf : d ≤ R.frames) (hRl : 36 * d ≤ R.locals) (h : wpO C Q (pSW p l e R s m args below meth c Qw Z nL lim n0) (h_mm d f S)) : pSW p l e R s m args below meth c Qw Z nL lim n0 S := by
  unfold h_mm at h
  split at h
  next z x rest hst =>
    split at h
    next hc =>
      intro H locs ls hP hz hm hS hl hn hu
      rw [hst]
      refine row H locs ls _ x z (by rw [hml]; exact hl.1.symm) (by omega) ?_ (by omega) (by omega) (h H locs ls hP hz hm hS hl hn hu)
      rw [pcats_map]
      omega
    · exact h.elim
  · exact h.elim
theorem k_copy {yy : Nat} (hx : p.tables.exec = Jvm.exec) (hb : c.code = cc) (hml : c.maxLocals = nL) (hown : s.vm.findClass (oS o) = some m.cls) (hts : ∀ w ∈ TG, w.before args s = true) (hG : pG Z X (pA Z) s) (hRf : d ≤ R.frames) (hRl : 36 * d ≤ R.locals) (hf : pclt o ix = some (6, yy)) (hd : decode cc S.1 = .ok (.invokestatic ix, 3)) (h : wpO C Q (pSW p l e R s m args below meth c Qw Z nL lim n0) (h_copy d S)) : pSW p l e R s m args below meth c Qw Z nL lim n0 S := by
  obtain ⟨h1, h2, h3, h4, hck⟩ := pclt_in hf
  simp only [chkC, Bool.and_eq_true, decide_eq_true_eq] at hck
  obtain ⟨⟨⟨w1, w2⟩, w3⟩, w4⟩ := hck
  unfold h_copy at h
  split at h
  next n dp b sp a rest hst =>
    split at h
    next n0' f n1 g hma hmb =>
      split at h
      next hc =>
        obtain ⟨⟨c1, c2, c3, c4, c5⟩, hcr, hd1⟩ := hc
        intro H locs ls hP hz hm hS hl hn hu
        rw [hst]
        refine va_copyi (ty := .int) (a := pq Z b) (a0 := pq Z a) (rest := rest.map (ptv (pq Z))) hx hb (by rw [hml]; exact hl.1.symm) hown (hts _ (tg_in w1 rfl)) (hts _ (tg_in w3 rfl)) (hts _ (tg_in w2 rfl)) (hts _ (tg_in w4 rfl)) hG.1 hP (pws_D (pq_lo Z) hm) hS a b 0 0 (pws_at hma) (pws_at hmb) rfl rfl rfl c1 c2 c3 c4 c5 (fun _ _ => rfl) (by omega) ?_ hd (fun H1 locs1 hP1 _ hS1 => ?_)
        · rw [pcats_map]
          have : nativeFrameWords "java/lang/System" "arraycopy" 5 ≤ 7 := by decide +kernel
          omega
        · have e : (pws (pq Z) Z.2.1 0 S.2.2.2.1).set b (pq Z b, .inl (Z.2.1 0, n1, .inl (va_cpy f g sp.toNatClampNeg dp.toNatClampNeg n.toNatClampNeg))) = pws (pq Z) Z.2.1 0 (S.2.2.2.1.set b (.inr (.inl (0, n1, va_cpy f g sp.toNatClampNeg dp.toNatClampNeg n.toNatClampNeg)))) := pws_set0 (e := .inr (.inl (0, n1, va_cpy f g sp.toNatClampNeg dp.toNatClampNeg n.toNatClampNeg)))
          rw [e] at hP1
          exact h H1 locs1 ls hP1 (by rw [List.length_set]; exact hz) (by rw [List.length_set]; exact hm) hS1 hl hn hu
      · exact h.elim
    · exact h.elim
  · exact h.elim
end KC2

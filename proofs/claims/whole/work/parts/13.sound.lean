/-! THE PURE MACHINE IS SOUND: what it says of a call, the machine does -/
set_option maxHeartbeats 4000000 in
theorem sound (l : Launch) (Z : pZ) (X : pXX) (hsv : ptv (pq Z) X.2.2 = Z.2.2.2.2.2.2.1) : ∀ d, pIH l Z X d (Cw X d)
  | 0 => fun _ _ _ _ h => h.elim
  | d + 1 => fun y as mem K h => by
    obtain ⟨hlen, hy, hE⟩ := h
    refine ⟨d, rfl, Met.ofW (cc := yB y) (maxL := yL y) (ret := yR y) (meth_ok y hy).1 rfl ?_⟩
    intro p e s m args below meth c s₁ B hml hv
    obtain ⟨rfl, hG, hP, hsz, hm⟩ := hv
    have hx := B.exec
    have hb := B.bytes
    have hr := B.returns
    have hts0 := atoms_spec (ws := pw y) B.pre
    have hts : ∀ w ∈ TG, w.before (as.map (ptv (pq Z))).toArray s = true := fun w hw => hts0 w (List.mem_cons_of_mem _ hw)
    have hown : s.vm.findClass (oS (yO y)) = some m.cls := findClass_of_methodNamed B.named
    have hlocks := B.notSynchronized
    have hin : (mi y).2.1 = "<init>" → meth.name = "<init>" := fun h => (name_of_methodNamed B.named B.method).1.trans h
    have hl := lv_entry (as.map (ptv (pq Z))) (n := yL y) (by rw [pent_len]; exact hlen)
    rw [lg_entry_eq]
    generalize (lg_sl (as.map (ptv (pq Z))) ++ List.replicate (yL y - (lg_sl (as.map (ptv (pq Z)))).length) Slot.unset).toArray = ls at hl ⊢
    have hl2 : lv_has ls (yL y) (pas (pq Z) 0 (pent y as)) := by
      unfold pent
      rw [pas_pad, pas_ent]
      exact hl
    have hS0 : va_S (pA Z) s.heap s.heap [] := va_S.rf
    have hcl := closure (p := p) (l := l) (e := e) (R := (headSpec (pw y) (rmD d (yU y))).room) (s := s) (m := m) (args := (as.map (ptv (pq Z))).toArray) (below := below) (meth := meth) (c := c) (Qw := MQ below (pQc Z (mem.length + yU y) K) (as.map (ptv (pq Z))).toArray s (yU y) (200 * yU y) (pA Z)) (Z := Z) (nL := yL y) (lim := yU y) (n0 := mem.length) (C := Cw X d) (Q := K) (X := X) (d := d) (y := y) hx hb hml hown hts hG hsv hin hsz (Nat.le_refl _) (Nat.le_refl _) (Nat.le_refl _) (Nat.le_refl _) (sound l Z X hsv d) ?_ ?_ ?_ ?_
    · exact hE _ hcl s.heap [] ls hP rfl hm hS0 hl2 (by unfold pent; rw [List.length_append, List.length_replicate]; omega) (Nat.zero_le _)
    · intro S v ty hd hst hR hn hu hK H locs ls hP hz hm' hS hl hn' hu'
      rw [hst]
      have hq : ∀ t : State, t.heap = H → s.WarmedH t.vm → pQc Z (mem.length + yU y) K (as.map (ptv (pq Z))).toArray s (.returned (some (.int v))) t := fun t ht _ => ⟨⟨some (.int v), S.2.2.2.1, rfl, hK, by rw [ht]; exact hP, by rw [hz, hu], hm'⟩, hS.F ht⟩
      have w := W.zret (p := p) (l := l) (e := e) (R := (headSpec (pw y) (rmD d (yU y))).room) (m := m) (below := below) (cells := S.2.2.2.2) (slots := 200 * S.2.2.2.2) (free := pA Z) (ls := ls) hx hb (hr.trans hR) hn.1 hq hS.2.2 hd hlocks
      rw [hu] at w ⊢
      exact w
    · intro S v hd hst hR hu hK H locs ls hP hz hm' hS hl hn' hu'
      rw [hst]
      have hq : ∀ t : State, t.heap = H → s.WarmedH t.vm → pQc Z (mem.length + yU y) K (as.map (ptv (pq Z))).toArray s (.returned (some (.long v))) t := fun t ht _ => ⟨⟨some (.long v), S.2.2.2.1, rfl, hK, by rw [ht]; exact hP, by rw [hz, hu], hm'⟩, hS.F ht⟩
      have w := W.lret (p := p) (l := l) (e := e) (R := (headSpec (pw y) (rmD d (yU y))).room) (m := m) (below := below) (cells := S.2.2.2.2) (slots := 200 * S.2.2.2.2) (free := pA Z) (ls := ls) hx hb (hr.trans hR) hq hS.2.2 hd hlocks
      rw [hu] at w ⊢
      exact w
    · intro S v nn hd hst hR hu hK H locs ls hP hz hm' hS hl hn' hu'
      rw [hst]
      have hq : ∀ t : State, t.heap = H → s.WarmedH t.vm → pQc Z (mem.length + yU y) K (as.map (ptv (pq Z))).toArray s (.returned (some (.ref (pq Z v)))) t := fun t ht _ => ⟨⟨some (.ref v), S.2.2.2.1, rfl, hK, by rw [ht]; exact hP, by rw [hz, hu], hm'⟩, hS.F ht⟩
      have w := W.aret (p := p) (l := l) (e := e) (R := (headSpec (pw y) (rmD d (yU y))).room) (m := m) (below := below) (cells := S.2.2.2.2) (slots := 200 * S.2.2.2.2) (free := pA Z) (ls := ls) hx hb (hr.trans hR) (Or.inl ⟨nn, rfl⟩) (Or.inr ⟨_, rfl⟩) hq hS.2.2 hd hlocks
      rw [hu] at w ⊢
      exact w
    · intro S hd hst hR hu hK H locs ls hP hz hm' hS hl hn' hu'
      rw [hst]
      have hq : ∀ t : State, t.heap = H → s.WarmedH t.vm → pQc Z (mem.length + yU y) K (as.map (ptv (pq Z))).toArray s (.returned none) t := fun t ht _ => ⟨⟨none, S.2.2.2.1, rfl, hK, by rw [ht]; exact hP, by rw [hz, hu], hm'⟩, hS.F ht⟩
      have w := W.vret (p := p) (l := l) (e := e) (R := (headSpec (pw y) (rmD d (yU y))).room) (m := m) (below := below) (cells := S.2.2.2.2) (slots := 200 * S.2.2.2.2) (free := pA Z) (ls := ls) hx hb (hr.trans hR) hq hS.2.2 hd hlocks
      rw [hu] at w ⊢
      exact w

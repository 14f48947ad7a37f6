/-! steps that read or write the memory -/
section KMM
variable {p : Program} {l : Launch} {e : Env} {R : Room} {s : State} {m : MethodId} {args : Array Value} {below : List Frame} {meth : Method} {c : Code} {Qw : State → Prop} {Z : pZ} {nL lim n0 : Nat} {C : Nat → List Value → List pME → (Option Value → List pME → Prop) → Prop} {Q : Option Value → List pME → Prop} {S : pLS} {X : pXX} {cc : ByteArray} {y : Nat}
theorem pq_str {a : Nat} (h1 : 1000 ≤ a) (h2 : a < 1012) : pq Z a = Z.2.2.1 (a - 1000) := by
  unfold pq
  rw [if_neg (by omega), if_neg (by omega), if_neg (by omega), if_neg (by omega), if_pos (by omega)]
theorem pq_stv {a : Nat} (h1 : 2000 ≤ a) : pq Z a = Z.2.2.2.1 (a - 2000) := by
  unfold pq
  rw [if_neg (by omega), if_neg (by omega), if_neg (by omega), if_neg (by omega), if_neg (by omega)]
theorem pq_998 : pq Z 998 = Z.2.2.2.2.1 := by simp [pq]
theorem pq_999 : pq Z 999 = Z.2.2.2.2.2.1 := by simp [pq]
theorem k_iald (hx : p.tables.exec = Jvm.exec) (hb : c.code = cc) (hG : pG Z X (pA Z) s) (hd : decode cc S.1 = .ok (.iaload, 1)) (h : wpO C Q (pSW p l e R s m args below meth c Qw Z nL lim n0) (h_iald X S)) : pSW p l e R s m args below meth c Qw Z nL lim n0 S := by
  unfold h_iald at h
  split at h
  next i a st hst =>
    split at h
    next n f hm0 =>
      split at h
      · exact h.elim
      next hin =>
        intro H locs ls hP hz hm hS hl hn hu
        rw [hst]
        exact va_iald hx hb hG.1 hP a 0 (pws_at hm0) rfl hin hd (h H locs ls hP hz hm hS hl hn hu)
    · exact h.elim
    next hm0 =>
      split at h
      next ha =>
        split at h
        · exact h.elim
        next hin =>
          subst ha
          intro H locs ls hP hz hm hS hl hn hu
          rw [hst]
          show W _ _ _ _ _ _ _ _ _ _ _ _ _ _ _ (F0 m S.1 ls (.int i :: .ref (pq Z 999) :: st.map (ptv (pq Z))))
          rw [pq_999]
          exact va_sld hx hb hG.2.2.2.2.2.2.2.2.2.1 hG.2.2.2.2.2.2.2.2.2.2.1 hG.2.2.2.2.2.2.2.2.2.2.2 hS hin hd (h H locs ls hP hz hm hS hl hn hu)
      next ha =>
        split at h
        next ha2 =>
          split at h
          · exact h.elim
          next hin =>
            subst ha2
            intro H locs ls hP hz hm hS hl hn hu
            rw [hst]
            show W _ _ _ _ _ _ _ _ _ _ _ _ _ _ _ (F0 m S.1 ls (.int i :: .ref (pq Z 998) :: st.map (ptv (pq Z))))
            rw [pq_998]
            exact va_ti hx hb hG.2.2.2.2.2.2.1 hS hin rfl hd (h H locs ls hP hz hm hS hl hn hu)
        · exact h.elim
  · exact h.elim
theorem sub12 {a : Nat} (h : 2000 ≤ a ∧ a < 2012) : a - 2000 < 12 := by omega
theorem str_len {j : Nat} (hj : j < 12) : strL.getD j 0 = (STB.getD j []).length := by
  have : ∀ j, j < 12 → strL.getD j 0 = (STB.getD j []).length := by decide +kernel
  exact this j hj
theorem k_bald (hx : p.tables.exec = Jvm.exec) (hb : c.code = cc) (hG : pG Z X (pA Z) s) (hd : decode cc S.1 = .ok (.baload, 1)) (h : wpO C Q (pSW p l e R s m args below meth c Qw Z nL lim n0) (h_bald S)) : pSW p l e R s m args below meth c Qw Z nL lim n0 S := by
  unfold h_bald at h
  split at h
  next i a st hst =>
    split at h
    next n f hm0 =>
      split at h
      · exact h.elim
      next hin =>
        intro H locs ls hP hz hm hS hl hn hu
        rw [hst]
        exact va_bald hx hb hG.1 hP a 1 (pws_at hm0) rfl hin hd (h H locs ls hP hz hm hS hl hn hu)
    · exact h.elim
    next hm0 =>
      split at h
      next ha =>
        split at h
        · exact h.elim
        next hin =>
          intro H locs ls hP hz hm hS hl hn hu
          rw [hst]
          show W _ _ _ _ _ _ _ _ _ _ _ _ _ _ _ (F0 m S.1 ls (.int i :: .ref (pq Z a) :: st.map (ptv (pq Z))))
          rw [pq_stv ha.1]
          have hj : a - 2000 < 12 := sub12 ha
          exact va_tb hx hb ((hG.2.2.2.2.1).1 (a - 2000) hj).2.2.2 hS (by rw [str_len hj]; exact hin) rfl hd (h H locs ls hP hz hm hS hl hn hu)
      · exact h.elim
  · exact h.elim
theorem k_alen (hx : p.tables.exec = Jvm.exec) (hb : c.code = cc) (hG : pG Z X (pA Z) s) (hd : decode cc S.1 = .ok (.arraylength, 1)) (h : wpO C Q (pSW p l e R s m args below meth c Qw Z nL lim n0) (h_alen X S)) : pSW p l e R s m args below meth c Qw Z nL lim n0 S := by
  unfold h_alen at h
  split at h
  next a st hst =>
    split at h
    next k n f hm0 =>
      split at h
      next hk =>
        intro H locs ls hP hz hm hS hl hn hu
        rw [hst]
        rcases hk with rfl | rfl
        · exact va_alen hx hb hG.1 hP a 0 (pws_at hm0) rfl rfl hd (h H locs ls hP hz hm hS hl hn hu)
        · exact va_alen hx hb hG.1 hP a 1 (pws_at hm0) rfl rfl hd (h H locs ls hP hz hm hS hl hn hu)
      · exact h.elim
    · exact h.elim
    next hm0 =>
      split at h
      next ha =>
        subst ha
        intro H locs ls hP hz hm hS hl hn hu
        rw [hst]
        show W _ _ _ _ _ _ _ _ _ _ _ _ _ _ _ (F0 m S.1 ls (.ref (pq Z 999) :: st.map (ptv (pq Z))))
        rw [pq_999]
        exact va_slen hx hb hG.2.2.2.2.2.2.2.2.2.1 hG.2.2.2.2.2.2.2.2.2.2.1 hG.2.2.2.2.2.2.2.2.2.2.2 hS hd (h H locs ls hP hz hm hS hl hn hu)
      next ha =>
        split at h
        next ha2 =>
          intro H locs ls hP hz hm hS hl hn hu
          rw [hst]
          show W _ _ _ _ _ _ _ _ _ _ _ _ _ _ _ (F0 m S.1 ls (.ref (pq Z a) :: st.map (ptv (pq Z))))
          rw [pq_stv ha2.1]
          have hj : a - 2000 < 12 := sub12 ha2
          exact va_tlen hx hb ((hG.2.2.2.2.1).1 (a - 2000) hj).2.2.2 hS (by rw [str_len hj]) hd (h H locs ls hP hz hm hS hl hn hu)
        · exact h.elim
  · exact h.elim
theorem k_aald (hx : p.tables.exec = Jvm.exec) (hb : c.code = cc) (hG : pG Z X (pA Z) s) (hd : decode cc S.1 = .ok (.aaload, 1)) (h : wpO C Q (pSW p l e R s m args below meth c Qw Z nL lim n0) (h_aald S)) : pSW p l e R s m args below meth c Qw Z nL lim n0 S := by
  unfold h_aald at h
  split at h
  next i a st hst =>
    split at h
    next k n f hm0 =>
      split at h
      · exact h.elim
      next hc =>
        have hin : ¬ (i < 0 ∨ n ≤ i.toNatClampNeg) := fun z => hc (Or.inl z)
        have hk : k = 2 ∨ k = 3 := Classical.not_not.mp fun z => hc (Or.inr z)
        split at h
        next b hb0 =>
          intro H locs ls hP hz hm hS hl hn hu
          rw [hst]
          have w := h H locs ls hP hz hm hS hl hn hu
          rcases hk with rfl | rfl
          · refine va_aldq hx hb hG.1 hP a 2 (pws_at hm0) rfl hin hd ?_
            rw [hb0]; exact w
          · refine va_aldq hx hb hG.1 hP a 3 (pws_at hm0) rfl hin hd ?_
            rw [hb0]; exact w
        · exact h.elim
    · exact h.elim
  · exact h.elim
theorem k_iast (hx : p.tables.exec = Jvm.exec) (hb : c.code = cc) (hG : pG Z X (pA Z) s) (hd : decode cc S.1 = .ok (.iastore, 1)) (h : wpO C Q (pSW p l e R s m args below meth c Qw Z nL lim n0) (h_iast S)) : pSW p l e R s m args below meth c Qw Z nL lim n0 S := by
  unfold h_iast at h
  split at h
  next x i a st hst =>
    split at h
    next n f hm0 =>
      split at h
      · exact h.elim
      next hin =>
        intro H locs ls hP hz hm hS hl hn hu
        rw [hst]
        refine va_iast hx hb hG.1 hP (pws_D (pq_lo Z) hm) hS a 0 (pws_at hm0) rfl hin hd (fun H1 locs1 hP1 _ hS1 => ?_)
        have e : (pws (pq Z) Z.2.1 0 S.2.2.2.1).set a (pq Z a, .inl (Z.2.1 0, n, .inl (upd f i.toNatClampNeg x))) = pws (pq Z) Z.2.1 0 (S.2.2.2.1.set a (.inr (.inl (0, n, upd f i.toNatClampNeg x)))) := pws_set0 (e := .inr (.inl (0, n, upd f i.toNatClampNeg x)))
        rw [e] at hP1
        exact h H1 locs1 ls hP1 (by rw [List.length_set]; exact hz) (by rw [List.length_set]; exact hm) hS1 hl hn hu
    · exact h.elim
  · exact h.elim
theorem k_bast (hx : p.tables.exec = Jvm.exec) (hb : c.code = cc) (hG : pG Z X (pA Z) s) (hd : decode cc S.1 = .ok (.bastore, 1)) (h : wpO C Q (pSW p l e R s m args below meth c Qw Z nL lim n0) (h_bast S)) : pSW p l e R s m args below meth c Qw Z nL lim n0 S := by
  unfold h_bast at h
  split at h
  next x i a st hst =>
    split at h
    next n f hm0 =>
      split at h
      · exact h.elim
      next hin =>
        intro H locs ls hP hz hm hS hl hn hu
        rw [hst]
        refine va_bast hx hb hG.1 hP (pws_D (pq_lo Z) hm) hS a 1 (pws_at hm0) rfl hin hd (fun H1 locs1 hP1 _ hS1 => ?_)
        have e : (pws (pq Z) Z.2.1 0 S.2.2.2.1).set a (pq Z a, .inl (Z.2.1 1, n, .inl (upd f i.toNatClampNeg (vp_nar .byte x)))) = pws (pq Z) Z.2.1 0 (S.2.2.2.1.set a (.inr (.inl (1, n, upd f i.toNatClampNeg (vp_nar .byte x))))) := pws_set0 (e := .inr (.inl (1, n, upd f i.toNatClampNeg (vp_nar .byte x))))
        rw [e] at hP1
        exact h H1 locs1 ls hP1 (by rw [List.length_set]; exact hz) (by rw [List.length_set]; exact hm) hS1 hl hn hu
    · exact h.elim
  · exact h.elim
theorem va_up_map (q : Nat → Nat) (f : Nat → Option Nat) (i v : Nat) : (fun j => (va_up f i (some v) j).map q) = va_up (fun j => (f j).map q) i (some (q v)) := by
  funext j
  by_cases h : j = i
  · subst h; simp [va_up]
  · simp [va_up, h]
theorem k_aast (hx : p.tables.exec = Jvm.exec) (hb : c.code = cc) (hG : pG Z X (pA Z) s) (hd : decode cc S.1 = .ok (.aastore, 1)) (h : wpO C Q (pSW p l e R s m args below meth c Qw Z nL lim n0) (h_aast S)) : pSW p l e R s m args below meth c Qw Z nL lim n0 S := by
  unfold h_aast at h
  split at h
  next v i a st hst =>
    split at h
    next k n f hm0 =>
      split at h
      · exact h.elim
      next hc =>
        have hin : ¬ (i < 0 ∨ n ≤ i.toNatClampNeg) := fun z => hc (Or.inl z)
        have hk : k = 2 ∨ k = 3 := Classical.not_not.mp fun z => hc (Or.inr z)
        split at h
        next ci fs hv0 =>
          split at h
          next hci =>
            intro H locs ls hP hz hm hS hl hn hu
            rw [hst]
            have fin : ∀ (H1 : Heap) (locs1 : List Loc), va_P Z.1 cL ((pws (pq Z) Z.2.1 0 S.2.2.2.1).set a (pq Z a, .inl (Z.2.1 k, n, .inr (.inr (.inr (.inr (va_up (fun j => (f j).map (pq Z)) i.toNatClampNeg (some (pq Z v))))))))) H1 → va_S (pA Z) s.heap H1 locs1 → W p l e R s m args below meth c H1 locs1 S.2.2.2.2 (200 * S.2.2.2.2) Qw (F0 m (S.1 + 1) ls (st.map (ptv (pq Z)))) := by
              intro H1 locs1 hP1 hS1
              rw [← va_up_map] at hP1
              have e : (pws (pq Z) Z.2.1 0 S.2.2.2.1).set a (pq Z a, .inl (Z.2.1 k, n, .inr (.inr (.inr (.inr (fun j => (va_up f i.toNatClampNeg (some v) j).map (pq Z))))))) = pws (pq Z) Z.2.1 0 (S.2.2.2.1.set a (.inr (.inr (k, n, va_up f i.toNatClampNeg (some v))))) := pws_set0 (e := .inr (.inr (k, n, va_up f i.toNatClampNeg (some v))))
              rw [e] at hP1
              exact h H1 locs1 ls hP1 (by rw [List.length_set]; exact hz) (by rw [List.length_set]; exact hm) hS1 hl hn hu
            rcases hk with rfl | rfl
            · subst hci
              exact va_astq hx hb hG.1 hP (pws_D (pq_lo Z) hm) hS a 2 v 0 (r := ("WinkPurses$Person", cT0, 6)) (pws_at hm0) rfl (pws_at hv0) rfl hin hd (fun H1 locs1 hP1 _ hS1 => fin H1 locs1 hP1 hS1)
            · subst hci
              exact va_astq hx hb hG.1 hP (pws_D (pq_lo Z) hm) hS a 3 v 1 (r := ("WinkPurses$Sheet", cT1, 3)) (pws_at hm0) rfl (pws_at hv0) rfl hin hd (fun H1 locs1 hP1 _ hS1 => fin H1 locs1 hP1 hS1)
          · exact h.elim
        · exact h.elim
    · exact h.elim
  · exact h.elim
end KMM

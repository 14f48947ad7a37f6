/-! what the tables say, by their places; fields, new objects -/
theorem lay_ok : ∀ ci, ci < 6 → ∀ k, k < cN ci → lw_tbl[(LYH.getD ci []).getD k 0]? = some (u_lay (oS ci) (fun j => cF ci j) k) ∧ goodWord (u_lay (oS ci) (fun j => cF ci j) k) = true := by decide +kernel
theorem cL_ok : ∀ ci, ci < 6 → ∃ T : u_T, cL[ci]? = some (oS ci, T, cN ci) ∧ ∀ k, T k = cF ci k := by
  intro ci h
  match ci, h with
  | 0, _ => exact ⟨cT0, rfl, fun _ => rfl⟩
  | 1, _ => exact ⟨cT1, rfl, fun _ => rfl⟩
  | 2, _ => exact ⟨cT2, rfl, fun _ => rfl⟩
  | 3, _ => exact ⟨cT3, rfl, fun _ => rfl⟩
  | 4, _ => exact ⟨cT4, rfl, fun _ => rfl⟩
  | 5, _ => exact ⟨cT5, rfl, fun _ => rfl⟩
theorem cY_ok : ∀ ci, ci < 6 → ∀ k, k < cN ci → parseFieldDescriptor (cF ci k).2.2.1 = some (cY ci k) := by decide +kernel
theorem cNm_ok : ∀ ci, ci < 6 → ∀ a, a < cN ci → ∀ b, b < cN ci → a ≠ b → (cF ci a).2.1 ≠ (cF ci b).2.1 := by decide +kernel
theorem cOw_ok : ∀ ci, ci < 6 → ∀ k, k < cN ci → (cF ci k).1 = oS ci := by decide +kernel
theorem cN_le : ∀ ci, ci < 6 → cN ci ≤ 200 := by decide +kernel
theorem lay_in {ci : Nat} (h : ci < 6) {T : u_T} (hT : ∀ k, T k = cF ci k) : ∀ w ∈ u_ws (oS ci) T (cN ci), w ∈ TG := by
  have e : T = fun j => cF ci j := funext hT
  subst e
  intro w hw
  obtain ⟨k, hk, rfl⟩ := List.mem_map.mp hw
  have h1 := lay_ok ci h k (List.mem_range.mp hk)
  exact tg_in h1.1 h1.2
def chkF (e : Nat × Nat × Nat × Nat × Nat) : Bool :=
  if e.2.2.1 < 6 then decide (e.2.2.2.1 < cN e.2.2.1) && decide (lw_tbl[e.2.2.2.2]? = some (.fieldLink (oS e.1) e.2.1 (cF e.2.2.1 e.2.2.2.1).1 (cF e.2.2.1 e.2.2.2.1).2.1 (cF e.2.2.1 e.2.2.2.1).2.2.1))
  else decide (e.2.2.1 = 100) && (if e.2.2.2.1 = 0 then decide (lw_tbl[e.2.2.2.2]? = some (.fieldLink (oS e.1) e.2.1 "java/lang/String" "value" "[B")) else decide (lw_tbl[e.2.2.2.2]? = some (.fieldLink (oS e.1) e.2.1 "java/lang/String" "coder" "B")))
theorem FLT_ok : FLT.all chkF = true := by decide +kernel
theorem pflt_ok {o ix ci k : Nat} (h : pflt o ix = some (ci, k)) : (ci < 6 → k < cN ci ∧ Cond.fieldLink (oS o) ix (cF ci k).1 (cF ci k).2.1 (cF ci k).2.2.1 ∈ TG) ∧ (¬ ci < 6 → ci = 100 ∧ (k = 0 → Cond.fieldLink (oS o) ix "java/lang/String" "value" "[B" ∈ TG) ∧ (k ≠ 0 → Cond.fieldLink (oS o) ix "java/lang/String" "coder" "B" ∈ TG)) := by
  unfold pflt at h
  cases hf : FLT.find? (fun e => e.1 == o && e.2.1 == ix) with
  | none => rw [hf] at h; cases h
  | some e =>
    rw [hf] at h
    have h1 := List.find?_some hf
    have h2 := List.all_eq_true.mp FLT_ok e (List.mem_of_find?_eq_some hf)
    simp only [Bool.and_eq_true, beq_iff_eq] at h1
    obtain ⟨o', ix', ci', k', hh⟩ := e
    simp only [Option.map_some, Option.some.injEq, Prod.mk.injEq] at h
    obtain ⟨rfl, rfl⟩ := h
    obtain ⟨rfl, rfl⟩ := h1
    unfold chkF at h2
    dsimp only at h2
    refine ⟨fun hc => ?_, fun hc => ?_⟩
    · rw [if_pos hc] at h2
      simp only [Bool.and_eq_true, decide_eq_true_eq] at h2
      exact ⟨h2.1, tg_in h2.2 rfl⟩
    · rw [if_neg hc] at h2
      simp only [Bool.and_eq_true, decide_eq_true_eq] at h2
      refine ⟨h2.1, fun h0 => ?_, fun h0 => ?_⟩
      · have h3 := h2.2
        rw [if_pos h0, decide_eq_true_eq] at h3
        exact tg_in h3 rfl
      · have h3 := h2.2
        rw [if_neg h0, decide_eq_true_eq] at h3
        exact tg_in h3 rfl
theorem sub1000 (z : Nat) : z + 1000 - 2000 = z - 1000 := by omega
section KFD
variable {p : Program} {l : Launch} {e : Env} {R : Room} {s : State} {m : MethodId} {args : Array Value} {below : List Frame} {meth : Method} {c : Code} {Qw : State → Prop} {Z : pZ} {nL lim n0 : Nat} {C : Nat → List Value → List pME → (Option Value → List pME → Prop) → Prop} {Q : Option Value → List pME → Prop} {S : pLS} {X : pXX} {cc : ByteArray} {y o ix ci k : Nat}
theorem k_get (hx : p.tables.exec = Jvm.exec) (hb : c.code = cc) (hown : s.vm.findClass (oS o) = some m.cls) (hts : ∀ w ∈ TG, w.before args s = true) (hG : pG Z X (pA Z) s) (hf : pflt o ix = some (ci, k)) (hd : decode cc S.1 = .ok (.getfield ix, 3)) (h : wpO C Q (pSW p l e R s m args below meth c Qw Z nL lim n0) (h_get ci k S)) : pSW p l e R s m args below meth c Qw Z nL lim n0 S := by
  have hp := pflt_ok hf
  unfold h_get at h
  split at h
  next a st hst =>
    split at h
    next c0 fs hm0 =>
      split at h
      next hc =>
        subst hc
        split at h
        next v hv =>
          intro H locs ls hP hz hm hS hl hn hu
          rw [hst]
          have h6 : c0 < 6 := by
            obtain ⟨r, hr, -⟩ := hP a _ (pws_at hm0)
            exact (List.getElem?_eq_some_iff.mp hr).1
          obtain ⟨T, hT1, hT2⟩ := cL_ok c0 h6
          obtain ⟨hk, hlk⟩ := hp.1 h6
          refine va_get (ci := c0) (C := oS c0) (T := T) (N := cN c0) (v := ptv (pq Z) v) (ref := (cF c0 k).1) (index := ix) hx hb hts (lay_in h6 hT2) hown hG.1 hP a (pws_at hm0) hT1 k hk (by rw [hT2]; exact hts _ hlk) (by rw [hT2]; exact fun _ z => z) (by rw [List.getElem?_map, hv]; rfl) hd (h H locs ls hP hz hm hS hl hn hu)
        · exact h.elim
      · exact h.elim
    · exact h.elim
    next hm0 =>
      split at h
      next hc =>
        have h6 : ¬ ci < 6 := by omega
        obtain ⟨-, hp1, hp2⟩ := hp.2 h6
        have hj : a - 1000 < 12 := (show ∀ z : Nat, 1000 ≤ z → z < 1012 → z - 1000 < 12 from fun z _ _ => by omega) a hc.2.1 hc.2.2
        have hE := (hG.2.2.2.2.1).1 (a - 1000) hj
        split at h
        next h0 =>
          intro H locs ls hP hz hm hS hl hn hu
          rw [hst]
          show W _ _ _ _ _ _ _ _ _ _ _ _ _ _ _ (F0 m S.1 ls (.ref (pq Z a) :: st.map (ptv (pq Z))))
          rw [pq_str hc.2.1 hc.2.2]
          refine vk_getf hx hb hE.2.2.1 hS hown (hts _ (hp1 h0)) (fun _ z => z) hd ?_
          have w := h H locs ls hP hz hm hS hl hn hu
          have e1 : pq Z (a + 1000) = Z.2.2.2.1 (a - 1000) := by
            rw [pq_stv ((show ∀ z : Nat, 1000 ≤ z → 2000 ≤ z + 1000 from fun z _ => by omega) a hc.2.1)]
            exact congrArg Z.2.2.2.1 (sub1000 a)
          have e2 : List.map (ptv (pq Z)) (.ref (a + 1000) :: st) = .ref (Z.2.2.2.1 (a - 1000)) :: List.map (ptv (pq Z)) st := by
            rw [← e1]; rfl
          rw [← e2]; exact w
        next h0 =>
          intro H locs ls hP hz hm hS hl hn hu
          rw [hst]
          show W _ _ _ _ _ _ _ _ _ _ _ _ _ _ _ (F0 m S.1 ls (.ref (pq Z a) :: st.map (ptv (pq Z))))
          rw [pq_str hc.2.1 hc.2.2]
          exact vk_getf hx hb hE.2.1 hS hown (hts _ (hp2 h0)) (fun _ z => z) hd (h H locs ls hP hz hm hS hl hn hu)
      · exact h.elim
  · exact h.elim
theorem k_put (hx : p.tables.exec = Jvm.exec) (hb : c.code = cc) (hown : s.vm.findClass (oS (yO y)) = some m.cls) (hts : ∀ w ∈ TG, w.before args s = true) (hG : pG Z X (pA Z) s) (hin : (mi y).2.1 = "<init>" → meth.name = "<init>") (h6 : ci < 6) (hf : pflt (yO y) ix = some (ci, k)) (hd : decode cc S.1 = .ok (.putfield ix, 3)) (h : wpO C Q (pSW p l e R s m args below meth c Qw Z nL lim n0) (h_put y ci k S)) : pSW p l e R s m args below meth c Qw Z nL lim n0 S := by
  obtain ⟨hk, hlk⟩ := (pflt_ok hf).1 h6
  obtain ⟨T, hT1, hT2⟩ := cL_ok ci h6
  unfold h_put at h
  split at h
  next v a st hst =>
    split at h
    next c0 fs hm0 =>
      split at h
      next hc =>
        obtain ⟨rfl, hl0, hn0, hf0, hfin⟩ := hc
        intro H locs ls hP hz hm hS hl hn hu
        rw [hst]
        have fin : ∀ (H1 : Heap) (locs1 : List Loc), va_P Z.1 cL ((pws (pq Z) Z.2.1 0 S.2.2.2.1).set a (pq Z a, .inr (c0, (fs.map (ptv (pq Z))).set k (ptv (pq Z) v)))) H1 → va_S (pA Z) s.heap H1 locs1 → W p l e R s m args below meth c H1 locs1 S.2.2.2.2 (200 * S.2.2.2.2) Qw (F0 m (S.1 + 3) ls (st.map (ptv (pq Z)))) := by
          intro H1 locs1 hP1 hS1
          rw [← List.map_set] at hP1
          have e : (pws (pq Z) Z.2.1 0 S.2.2.2.1).set a (pq Z a, .inr (c0, (fs.set k v).map (ptv (pq Z)))) = pws (pq Z) Z.2.1 0 (S.2.2.2.1.set a (.inl (c0, fs.set k v))) := pws_set0 (e := .inl (c0, fs.set k v))
          rw [e] at hP1
          exact h H1 locs1 ls hP1 (by rw [List.length_set]; exact hz) (by rw [List.length_set]; exact hm) hS1 hl hn hu
        have hty : ∀ j, j < cN c0 → parseFieldDescriptor (T j).2.2.1 = some (cY c0 j) := fun j hj => by rw [hT2]; exact cY_ok c0 h6 j hj
        have hnm : ∀ a, a < cN c0 → ∀ b, b < cN c0 → a ≠ b → (T a).2.1 ≠ (T b).2.1 := fun a ha b hb' hab => by rw [hT2, hT2]; exact cNm_ok c0 h6 a ha b hb' hab
        cases hff : (cF c0 k).2.2.2 with
        | false =>
          exact va_put (ci := c0) (C := oS c0) (T := T) (N := cN c0) (ref := (cF c0 k).1) (index := ix) (ty := cY c0 k) hx hb hts (lay_in h6 hT2) (cY c0) hty hnm hown hG.1 hP (pws_D (pq_lo Z) hm) hS a (pws_at hm0) hT1 k hk (by rw [hT2]; exact hts _ hlk) (by rw [hT2]; exact fun _ z => z) (by rw [hT2]; exact hff) (hty k hk) (ptv_nar hn0) (ptv_fit hf0) (by rw [List.length_map]; exact hl0) hd (fun H1 locs1 hP1 _ hS1 => fin H1 locs1 hP1 hS1)
        | true =>
          have hfi : (mi y).2.1 = "<init>" ∧ yO y = c0 := by
            rcases hfin with z | z
            · rw [hff] at z; cases z
            · exact z
          exact va_putF (ci := c0) (C := oS c0) (T := T) (N := cN c0) (ref := (cF c0 k).1) (index := ix) (ty := cY c0 k) hx hb hts (lay_in h6 hT2) (cY c0) hty hnm hown hG.1 hP (pws_D (pq_lo Z) hm) hS a (pws_at hm0) hT1 k hk (by rw [hT2]; exact hts _ hlk) (by rw [hT2]; exact fun _ z => z) (by rw [hT2]; exact hff) (hin hfi.1) (by rw [hT2, cOw_ok c0 h6 k hk, hfi.2]) (hty k hk) (ptv_nar hn0) (ptv_fit hf0) (by rw [List.length_map]; exact hl0) hd (fun H1 locs1 hP1 _ hS1 => fin H1 locs1 hP1 hS1)
      · exact h.elim
    · exact h.elim
  · exact h.elim
end KFD

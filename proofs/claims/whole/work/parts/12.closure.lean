/-! constants, statics; then: every step of the pure machine is a step of the machine -/
theorem KIT_ok : KIT.all (fun e => decide (lw_tbl[e.2.2.2]? = some (.constant (oS e.1) e.2.1 e.2.2.1))) = true := by decide +kernel
theorem KLO_ok : KLO.all (fun e => decide (lw_tbl[e.2.2.2]? = some (.constantLong (oS e.1) e.2.1 e.2.2.1))) = true := by decide +kernel
theorem pkit_ok {o ix : Nat} {v : Int32} (h : pkit o ix = some v) : Cond.constant (oS o) ix v ∈ TG := by
  unfold pkit at h
  cases hf : KIT.find? (fun e => e.1 == o && e.2.1 == ix) with
  | none => rw [hf] at h; cases h
  | some e =>
    rw [hf] at h
    have h1 := List.find?_some hf
    have h2 := List.all_eq_true.mp KIT_ok e (List.mem_of_find?_eq_some hf)
    simp only [Bool.and_eq_true, beq_iff_eq] at h1
    simp only [Option.map_some, Option.some.injEq] at h
    rw [decide_eq_true_eq, h1.1, h1.2, h] at h2
    exact tg_in h2 rfl
theorem pklo_ok {o ix : Nat} {v : Int64} (h : pklo o ix = some v) : Cond.constantLong (oS o) ix v ∈ TG := by
  unfold pklo at h
  cases hf : KLO.find? (fun e => e.1 == o && e.2.1 == ix) with
  | none => rw [hf] at h; cases h
  | some e =>
    rw [hf] at h
    have h1 := List.find?_some hf
    have h2 := List.all_eq_true.mp KLO_ok e (List.mem_of_find?_eq_some hf)
    simp only [Bool.and_eq_true, beq_iff_eq] at h1
    simp only [Option.map_some, Option.some.injEq] at h
    rw [decide_eq_true_eq, h1.1, h1.2, h] at h2
    exact tg_in h2 rfl
theorem psti_ok {o ix j : Nat} (h : psti o ix = some j) : o = 2 ∧ j < 12 ∧ (STT.getD j (0, "")).1 = ix := by
  unfold psti at h
  split at h
  next ho =>
    refine ⟨ho, ?_⟩
    obtain ⟨h1, h2, h3⟩ := List.findIdx?_eq_some_iff_getElem.mp h
    have hl : STT.length = 12 := rfl
    refine ⟨by omega, ?_⟩
    simp only [beq_iff_eq] at h2
    rw [List.getD_eq_getElem?_getD, List.getElem?_eq_getElem h1]
    exact h2
  · cases h
def gsN : Nat → String × String × String
  | 0 => ("WinkPurses", "KIND_ABOVE", "[I")
  | 1 => ("java/lang/String", "COMPACT_STRINGS", "Z")
  | _ => ("jdk/internal/util/Preconditions", "SIOOBE_FORMATTER", "Ljava/util/function/BiFunction;")
theorem GST_ok : GST.all (fun e => decide (lw_tbl[e.2.2.2]? = some (.fieldLink (oS e.1) e.2.1 (gsN e.2.2.1).1 (gsN e.2.2.1).2.1 (gsN e.2.2.1).2.2))) = true := by decide +kernel
theorem pgst_ok {o ix k : Nat} (h : pgst o ix = some k) : Cond.fieldLink (oS o) ix (gsN k).1 (gsN k).2.1 (gsN k).2.2 ∈ TG := by
  unfold pgst at h
  cases hf : GST.find? (fun e => e.1 == o && e.2.1 == ix) with
  | none => rw [hf] at h; cases h
  | some e =>
    rw [hf] at h
    have h1 := List.find?_some hf
    have h2 := List.all_eq_true.mp GST_ok e (List.mem_of_find?_eq_some hf)
    simp only [Bool.and_eq_true, beq_iff_eq] at h1
    simp only [Option.map_some, Option.some.injEq] at h
    rw [decide_eq_true_eq, h1.1, h1.2, h] at h2
    exact tg_in h2 rfl
set_option maxHeartbeats 4000000 in
theorem closure {p : Program} {l : Launch} {e : Env} {R : Room} {s : State} {m : MethodId} {args : Array Value} {below : List Frame} {meth : Method} {c : Code} {Qw : State → Prop} {Z : pZ} {nL lim n0 : Nat} {C : Nat → List Value → List pME → (Option Value → List pME → Prop) → Prop} {Q : Option Value → List pME → Prop} {X : pXX} {d y : Nat}
    (hx : p.tables.exec = Jvm.exec) (hb : c.code = yB y) (hml : c.maxLocals = nL) (hown : s.vm.findClass (oS (yO y)) = some m.cls) (hts : ∀ w ∈ TG, w.before args s = true) (hG : pG Z X (pA Z) s) (hsv : ptv (pq Z) X.2.2 = Z.2.2.2.2.2.2.1) (hin : (mi y).2.1 = "<init>" → meth.name = "<init>") (hsz : s.heap.size = pb Z + n0) (hRc : lim ≤ R.cells) (hRs : 200 * lim ≤ R.slots) (hRf : d ≤ R.frames) (hRl : 36 * d ≤ R.locals) (ih : pIH l Z X d C)
    (hri : ∀ (S : pLS) (v : Int32) (ty : FieldType), decode (yB y) S.1 = .ok (.ireturn, 1) → S.2.2.1 = [.int v] → yR y = some ty → (narrow ty (.int v) = .int v ∧ (ty = .int ∨ ty = .boolean ∨ ty = .byte ∨ ty = .char)) → S.2.2.2.2 = lim → Q (some (.int v)) S.2.2.2.1 → pSW p l e R s m args below meth c Qw Z nL lim n0 S)
    (hrl : ∀ (S : pLS) (v : Int64), decode (yB y) S.1 = .ok (.lreturn, 1) → S.2.2.1 = [.long v] → yR y = some .long → S.2.2.2.2 = lim → Q (some (.long v)) S.2.2.2.1 → pSW p l e R s m args below meth c Qw Z nL lim n0 S)
    (hra : ∀ (S : pLS) (v : Nat) (nn : String), decode (yB y) S.1 = .ok (.areturn, 1) → S.2.2.1 = [.ref v] → yR y = some (.object nn) → S.2.2.2.2 = lim → Q (some (.ref v)) S.2.2.2.1 → pSW p l e R s m args below meth c Qw Z nL lim n0 S)
    (hrv : ∀ (S : pLS), decode (yB y) S.1 = .ok (.return_, 1) → S.2.2.1 = [] → yR y = none → S.2.2.2.2 = lim → Q none S.2.2.2.1 → pSW p l e R s m args below meth c Qw Z nL lim n0 S) :
    ∀ S, wpS C X d y lim Q (pSW p l e R s m args below meth c Qw Z nL lim n0) S → pSW p l e R s m args below meth c Qw Z nL lim n0 S := by
  intro S h0
  have h : wpO C Q (pSW p l e R s m args below meth c Qw Z nL lim n0) (pstp X d y lim (decode (yB y) S.1) S) := h0
  clear h0
  generalize hd : decode (yB y) S.1 = i at h
  unfold pstp at h
  split at h
  · exact k_push (fun H locs ls k rest w => lv_iconst hx hb hd rfl w) h
  · exact k_push (fun H locs ls k rest w => lv_bipush hx hb hd rfl w) h
  · exact k_push (fun H locs ls k rest w => lv_sipush hx hb hd rfl w) h
  · exact k_push (fun H locs ls k rest w => lv_lconst hx hb hd rfl w) h
  · split at h
    next v hv => exact k_push (fun H locs ls k rest w => lv_ldc hx hb hown (hts _ (pkit_ok hv)) hd w) h
    · split at h
      next j hj =>
        obtain ⟨ho, hj1, hj2⟩ := psti_ok hj
        refine k_push (fun H locs ls k rest w => ?_) h
        have hR := hG.2.2.2.1 j hj1
        rw [hj2] at hR
        rw [ho] at hown
        refine va_ldcS hx hb hown hR hd ?_
        have e1 : pq Z (1000 + j) = Z.2.2.1 j := by
          rw [pq_str (by omega) (by omega), show 1000 + j - 1000 = j by omega]
        rw [← e1]
        exact w
      · exact h.elim
  · split at h
    next v hv => exact k_push (fun H locs ls k rest w => lv_ldcw hx hb hown (hts _ (pkit_ok hv)) hd w) h
    · exact h.elim
  · split at h
    next v hv => exact k_push (fun H locs ls k rest w => lv_ldc2 hx hb hown (hts _ (pklo_ok hv)) hd w) h
    · exact h.elim
  · exact k_ild (fun H locs ls k rest x hl w => lv_iload_n hx hb hd rfl hl w) h
  · exact k_ild (fun H locs ls k rest x hl w => lv_iload hx hb hd hl w) h
  · exact k_ald (fun H locs ls k rest x hl w => lv_aload_n hx hb hd rfl hl w) (fun H locs ls k rest hl w => lv_aload_nN hx hb hd rfl hl w) h
  · exact k_ald (fun H locs ls k rest x hl w => lv_aload hx hb hd hl w) (fun H locs ls k rest hl w => lv_aloadN hx hb hd hl w) h
  · exact k_lld (fun H locs ls k rest x hl w => lv_lload_n hx hb hd rfl hl w) h
  · exact k_lld (fun H locs ls k rest x hl w => lv_lload hx hb hd hl w) h
  · exact k_ist (fun H locs ls k rest x lv hl hn w => lv_istore_n hx hb hd rfl hl hn rfl w) h
  · exact k_ist (fun H locs ls k rest x lv hl hn w => lv_istore hx hb hd hl hn rfl w) h
  · exact k_ast (fun H locs ls k rest x lv hl hn w => lv_astore_n hx hb hd rfl hl hn rfl w) h
  · exact k_ast (fun H locs ls k rest x lv hl hn w => lv_astore hx hb hd hl hn rfl w) h
  · exact k_lst (fun H locs ls k rest x lv hl hn w => lv_lstore_n hx hb hd rfl hl hn rfl w) h
  · exact k_lst (fun H locs ls k rest x lv hl hn w => lv_lstore hx hb hd hl hn rfl w) h
  · exact k_inc (fun H locs ls k j rest x lv hl hj hn w => lv_iinc hx hb hd hl hj rfl hn rfl w) h
  · exact k_iald hx hb hG hd h
  · exact k_bald hx hb hG hd h
  · exact k_aald hx hb hG hd h
  · exact k_iast hx hb hG hd h
  · exact k_bast hx hb hG hd h
  · exact k_aast hx hb hG hd h
  · exact k_alen hx hb hG hd h
  · exact k_dup (fun H locs ls k rest v hc w => lv_dup hx hb hd hc w) h
  · exact k_dup2 (fun H locs ls k rest v v2 hc hc2 w => lv_dup2_11 hx hb hd hc hc2 w) h
  · exact k_pop (fun H locs ls k rest v hc w => lv_pop hx hb hd hc w) h
  · exact k_ii (fun H locs ls k rest x z w => lv_iadd hx hb hd w) h
  · exact k_ii (fun H locs ls k rest x z w => lv_isub hx hb hd w) h
  · exact k_ii (fun H locs ls k rest x z w => lv_imul hx hb hd w) h
  · exact k_ii (fun H locs ls k rest x z w => lv_iand hx hb hd w) h
  · exact k_ii (fun H locs ls k rest x z w => lv_ior hx hb hd w) h
  · exact k_ii (fun H locs ls k rest x z w => lv_ishl hx hb hd w) h
  · exact k_ii (fun H locs ls k rest x z w => lv_ishr hx hb hd w) h
  · exact k_ii (fun H locs ls k rest x z w => lv_iushr hx hb hd rfl w) h
  · exact k_iiz (fun H locs ls k rest x z hz w => lv_idiv hx hb hd hz w) h
  · exact k_iiz (fun H locs ls k rest x z hz w => lv_irem hx hb hd hz w) h
  · exact k_i (fun _ => rfl) (fun H locs ls k rest x w => lv_ineg hx hb hd w) h
  · exact k_i (fun _ => rfl) (fun H locs ls k rest x w => lv_i2l hx hb hd rfl w) h
  · exact k_i (fun _ => rfl) (fun H locs ls k rest x w => lv_i2b hx hb hd rfl w) h
  · exact k_i (fun _ => rfl) (fun H locs ls k rest x w => lv_i2s hx hb hd rfl w) h
  · exact k_i (fun _ => rfl) (fun H locs ls k rest x w => lv_i2c hx hb hd rfl w) h
  · exact k_l (fun _ => rfl) (fun H locs ls k rest x w => lv_l2i hx hb hd rfl w) h
  · exact k_ll (fun _ _ => rfl) (fun H locs ls k rest x z w => lv_ladd hx hb hd w) h
  · exact k_ll (fun _ _ => rfl) (fun H locs ls k rest x z w => lv_lsub hx hb hd w) h
  · exact k_ll (fun _ _ => rfl) (fun H locs ls k rest x z w => lv_lmul hx hb hd w) h
  · exact k_ll (fun _ _ => rfl) (fun H locs ls k rest x z w => W.lcmp hx hb hd w) h
  · rename_i cd off
    refine k_if (fun H locs ls k T rest x hT w1 w2 => ?_) h
    cases cd
    · exact lv_if_eq hx hb hd hT w1 w2
    · exact lv_if_ne hx hb hd hT w1 (fun z => w2 (fun q => q z))
    · exact lv_if_lt hx hb hd hT w1 w2
    · exact lv_if_ge hx hb hd hT w1 w2
    · exact lv_if_gt hx hb hd hT w1 w2
    · exact lv_if_le hx hb hd hT w1 w2
  · rename_i cd off
    refine k_ic (fun H locs ls k T rest x z hT w1 w2 => ?_) h
    cases cd
    · exact lv_icmp_eq hx hb hd hT w1 w2
    · exact lv_icmp_ne hx hb hd hT w1 (fun z => w2 (fun q => q z))
    · exact lv_icmp_lt hx hb hd hT w1 w2
    · exact lv_icmp_ge hx hb hd hT w1 w2
    · exact lv_icmp_gt hx hb hd hT w1 w2
    · exact lv_icmp_le hx hb hd hT w1 w2
  · exact k_goto (fun H locs ls k T rest hT w => lv_goto hx hb hd hT w) h
  · exact k_ts (fun H locs ls k T rest x hc hT w => lv_tableOut hx hb hd hc hT w) (fun H locs ls k T rest x off c1 c2 ho hT w => lv_tableIn hx hb hd c1 c2 ho hT w) h
  · exact k_lk (fun H locs ls k T rest x hp hT w => lv_lookup hx hb hd hp rfl hT w) h
  · split at h
    next ci f hf => exact k_get hx hb hown hts hG hf hd h
    · exact h.elim
  · split at h
    next ci f hf =>
      split at h
      next h6 => exact k_put hx hb hown hts hG hin h6 hf hd h
      · exact h.elim
    · exact h.elim
  · split at h
    next hk =>
      intro H locs ls hP hz hm hS hl hn hu
      refine va_gets (C := "WinkPurses") hx hb hG.2.2.2.2.2.1 hS hown (hts _ (pgst_ok hk)) (fun _ z => z) hd ?_
      rw [← pq_998]
      exact h H locs ls hP hz hm hS hl hn hu
    next hk =>
      intro H locs ls hP hz hm hS hl hn hu
      exact va_gets (C := "java/lang/String") hx hb hG.2.2.2.2.2.2.2.1 hS hown (hts _ (pgst_ok hk)) (fun _ z => z) hd (h H locs ls hP hz hm hS hl hn hu)
    next hk =>
      intro H locs ls hP hz hm hS hl hn hu
      refine va_gets (C := "jdk/internal/util/Preconditions") hx hb hG.2.2.2.2.2.2.2.2.1 hS hown (hts _ (pgst_ok hk)) (fun _ z => z) hd ?_
      rw [← hsv]
      exact h H locs ls hP hz hm hS hl hn hu
    · exact h.elim
  · split at h
    next y2 hf => exact k_virt hx hb hml hown hts hG hsz hRc hRs hRf hRl ih hf hd h
    · exact h.elim
  · split at h
    next y2 hf => exact k_stat hx hb hml hown hts hG hsz hRc hRs hRf hRl ih (Or.inl hf) hd h
    next y2 hf => exact k_stat hx hb hml hown hts hG hsz hRc hRs hRf hRl ih (Or.inr hf) hd h
    next yy hf => exact k_copy hx hb hml hown hts hG hRf hRl hf hd h
    next yy hf =>
      obtain ⟨h1, h2, h3, h4, hck⟩ := pclt_in hf
      simp only [chkC, Bool.and_eq_true, decide_eq_true_eq] at hck
      obtain ⟨⟨⟨w1, w2⟩, w3⟩, w4⟩ := hck
      exact k_mm (fun H locs ls rest x z q1 q2 q3 q4 q5 w => va_mmax hx hb q1 hown (hts _ (tg_in w1 rfl)) (hts _ (tg_in w2 rfl)) (hts _ (tg_in w3 rfl)) (hts _ (tg_in w4 rfl)) q2 q3 q4 q5 hd w) hml hRc hRs hRf hRl h
    next yy hf =>
      obtain ⟨h1, h2, h3, h4, hck⟩ := pclt_in hf
      simp only [chkC, Bool.and_eq_true, decide_eq_true_eq] at hck
      obtain ⟨⟨⟨w1, w2⟩, w3⟩, w4⟩ := hck
      exact k_mm (fun H locs ls rest x z q1 q2 q3 q4 q5 w => va_mmin hx hb q1 hown (hts _ (tg_in w1 rfl)) (hts _ (tg_in w2 rfl)) (hts _ (tg_in w3 rfl)) (hts _ (tg_in w4 rfl)) q2 q3 q4 q5 hd w) hml hRc hRs hRf hRl h
    · exact h.elim
  · split at h
    next y2 hf => exact k_init hx hb hml hown hts hG hsz hRc hRs hRf hRl ih (Or.inl hf) hd h
    next y2 hf => exact k_init hx hb hml hown hts hG hsz hRc hRs hRf hRl ih (Or.inr hf) hd h
    next yy hf => exact k_obj hx hb hml hown hts hRf hRl hf hd h
    · exact h.elim
  · split at h
    next ci hf => exact k_new hx hb hown hts hG hsz hRc hRs hf hd h
    · exact h.elim
  · exact k_newa (ty := .int) rfl (Or.inl ⟨rfl, rfl⟩) hx hb hts hG hsz hRc hRs hd h
  · exact k_newa (ty := .byte) rfl (Or.inr ⟨rfl, rfl⟩) hx hb hts hG hsz hRc hRs hd h
  · split at h
    next hf => exact k_newq (Or.inl ⟨rfl, rfl⟩) hx hb hown hts hG hsz hRc hRs hf hd h
    next hf => exact k_newq (Or.inr ⟨rfl, rfl⟩) hx hb hown hts hG hsz hRc hRs hf hd h
    · exact h.elim
  · unfold h_ret at h
    split at h
    · exact h.elim
    next hu =>
      split at h
      next v ty hst hR =>
        split at h
        next hc => exact hri S v ty hd hst hR hc (Classical.not_not.mp hu) h
        · exact h.elim
      · exact h.elim
  · unfold h_lret at h
    split at h
    · exact h.elim
    next hu =>
      split at h
      next v ty hst hR =>
        split at h
        next hc => exact hrl S v hd hst (by rw [hR, hc]) (Classical.not_not.mp hu) h
        · exact h.elim
      · exact h.elim
  · unfold h_aret at h
    split at h
    · exact h.elim
    next hu =>
      split at h
      next v nn hst hR => exact hra S v nn hd hst hR (Classical.not_not.mp hu) h
      · exact h.elim
  · unfold h_vret at h
    split at h
    · exact h.elim
    next hu =>
      split at h
      next hst hR => exact hrv S hd hst hR (Classical.not_not.mp hu) h
      · exact h.elim
  · exact h.elim

/-! what holds of the pure machine -/
section PTH
variable {C : Nat → List Value → List pME → (Option Value → List pME → Prop) → Prop} {X : pXX} {d y lim : Nat} {Q Q' : Option Value → List pME → Prop}
def cmono (C : Nat → List Value → List pME → (Option Value → List pME → Prop) → Prop) : Prop := ∀ (y : Nat) (as : List Value) (mem : List pME) (K K' : Option Value → List pME → Prop), (∀ r m, K r m → K' r m) → C y as mem K → C y as mem K'
theorem wpS_mono (hC : cmono C) {P P' : pLS → Prop} (hQ : ∀ r m, Q r m → Q' r m) (hP : ∀ t, P t → P' t) (s : pLS) (h : wpS C X d y lim Q P s) : wpS C X d y lim Q' P' s := by
  unfold wpS at h ⊢
  split at h
  · exact h.elim
  · exact hQ _ _ h
  · exact hP _ h
  · exact hC _ _ _ _ _ (fun r m => hP _) h
theorem pE_of (hC : cmono C) {s : pLS} (h : wpS C X d y lim Q (pE C X d y lim Q) s) : pE C X d y lim Q s :=
  fun P hP => hP s (wpS_mono hC (fun _ _ q => q) (fun _ q => q P hP) s h)
theorem pE_un (hC : cmono C) {s : pLS} (h : pE C X d y lim Q s) : wpS C X d y lim Q (pE C X d y lim Q) s :=
  h (fun t => wpS C X d y lim Q (pE C X d y lim Q) t) (fun t ht => wpS_mono hC (fun _ _ q => q) (fun _ q => pE_of hC q) t ht)
theorem pE_iff (hC : cmono C) {s : pLS} : pE C X d y lim Q s ↔ wpS C X d y lim Q (pE C X d y lim Q) s := ⟨pE_un hC, pE_of hC⟩
theorem pE_mono (hC : cmono C) (hQ : ∀ r m, Q r m → Q' r m) {s : pLS} (h : pE C X d y lim Q s) : pE C X d y lim Q' s :=
  h _ (fun t ht => pE_of hC (wpS_mono hC hQ (fun _ q => q) t ht))
theorem pE_conj (hC : cmono C) (hc : ∀ (y : Nat) (as : List Value) (mem : List pME) (K K' : Option Value → List pME → Prop), C y as mem K → C y as mem K' → C y as mem (fun r m => K r m ∧ K' r m)) {s : pLS} (h : pE C X d y lim Q s) : pE C X d y lim Q' s → pE C X d y lim (fun r m => Q r m ∧ Q' r m) s := by
  refine h (fun t => pE C X d y lim Q' t → pE C X d y lim (fun r m => Q r m ∧ Q' r m) t) (fun t ht h2 => pE_of hC ?_)
  have h3 := pE_un hC h2
  unfold wpS at ht h3 ⊢
  split at ht
  · exact ht.elim
  next e => rw [e] at h3; exact ⟨ht, h3⟩
  next e => rw [e] at h3; exact ht h3
  next e => rw [e] at h3; exact hC _ _ _ _ _ (fun r m q => q.1 q.2) (hc _ _ _ _ _ ht h3)
theorem pE_strict (hs : ∀ (y : Nat) (as : List Value) (mem : List pME), ¬ C y as mem (fun _ _ => False)) {s : pLS} : ¬ pE C X d y lim (fun _ _ => False) s := by
  intro h
  refine h (fun _ => False) (fun t ht => ?_)
  unfold wpS at ht
  split at ht
  · exact ht
  · exact ht
  · exact ht
  · exact hs _ _ _ ht
end PTH
theorem Cw_mono (X : pXX) : ∀ d, cmono (Cw X d)
  | 0 => fun _ _ _ _ _ _ h => h.elim
  | d + 1 => fun _ _ _ _ _ hK h => ⟨h.1, h.2.1, pE_mono (Cw_mono X d) hK h.2.2⟩
theorem Cw_conj (X : pXX) : ∀ (d y : Nat) (as : List Value) (mem : List pME) (K K' : Option Value → List pME → Prop), Cw X d y as mem K → Cw X d y as mem K' → Cw X d y as mem (fun r m => K r m ∧ K' r m)
  | 0 => fun _ _ _ _ _ h => h.elim
  | d + 1 => fun _ _ _ _ _ h h' => ⟨h.1, h.2.1, pE_conj (Cw_mono X d) (Cw_conj X d) h.2.2 h'.2.2⟩
theorem Cw_strict (X : pXX) : ∀ (d y : Nat) (as : List Value) (mem : List pME), ¬ Cw X d y as mem (fun _ _ => False)
  | 0 => fun _ _ _ h => h
  | d + 1 => fun _ _ _ h => pE_strict (Cw_strict X d) h.2.2
/-- a call that gives every K that holds of r and m gives just those -/
theorem Cw_det {X : pXX} {d y : Nat} {as : List Value} {mem : List pME} {r : Option Value} {m : List pME} (h : ∀ K : Option Value → List pME → Prop, K r m → Cw X d y as mem K) (K : Option Value → List pME → Prop) : Cw X d y as mem K ↔ K r m := by
  refine ⟨fun hk => Classical.byContradiction fun hn => ?_, h K⟩
  have h1 := Cw_conj X d y as mem _ _ hk (h (fun a b => a = r ∧ b = m) ⟨rfl, rfl⟩)
  exact Cw_strict X d y as mem (Cw_mono X d _ _ _ _ _ (fun a b q => hn (by rw [← q.2.1, ← q.2.2]; exact q.1)) h1)
/-- a method's run: pE with the calls as they are -/
abbrev pR (X : pXX) (d y lim : Nat) (Q : Option Value → List pME → Prop) (s : pLS) : Prop := pE (Cw X d) X d y lim Q s
theorem Cw_succ {X : pXX} {d y : Nat} {as : List Value} {mem : List pME} {K : Option Value → List pME → Prop} : Cw X (d + 1) y as mem K ↔ ((pentL as).length ≤ yL y ∧ y < nM ∧ pR X d y (yU y) K (0, pent y as, [], mem, 0)) := Iff.rfl
section PRO
variable {X : pXX} {d y lim : Nat} {Q : Option Value → List pME → Prop} {s : pLS} {i : Except DecodeError (Instr × Nat)}
/-- a step that goes on -/
theorem r_st {t : pLS} (hd : decode (yB y) s.1 = i) (h : pstp X d y lim i s = some (.inr (.inl t))) : pR X d y lim Q s = pR X d y lim Q t := propext (by
  rw [pR, pE_iff (Cw_mono X d)]
  unfold wpS
  rw [hd, h])
/-- a return -/
theorem r_ret {r : Option Value} {m : List pME} (hd : decode (yB y) s.1 = i) (h : pstp X d y lim i s = some (.inl (r, m))) : pR X d y lim Q s = Q r m := propext (by
  rw [pR, pE_iff (Cw_mono X d)]
  unfold wpS
  rw [hd, h])
/-- a call -/
theorem r_call {y2 : Nat} {as : List Value} {t : pLS} (hd : decode (yB y) s.1 = i) (h : pstp X d y lim i s = some (.inr (.inr (y2, as, t)))) : pR X d y lim Q s = Cw X d y2 as t.2.2.2.1 (fun r m => pR X d y lim Q (pback t r m)) := propext (by
  rw [pR, pE_iff (Cw_mono X d)]
  unfold wpS
  rw [hd, h])
/-- a branch -/
theorem r_if {c : Jvm.ClassFile.Cond} {off : Int} {pc T : Nat} {L : List (Option Value)} {st : List Value} {mem : List pME} {u : Nat} {x : Int32} (hd : decode (yB y) pc = .ok (.ifCond c off, 3)) (hT : (pc : Int) + off = (T : Int)) : pR X d y lim Q (pc, L, .int x :: st, mem, u) = ((pcmp c x 0 → pR X d y lim Q (T, L, st, mem, u)) ∧ (¬ pcmp c x 0 → pR X d y lim Q (pc + 3, L, st, mem, u))) := propext (by
  rw [pR, pE_iff (Cw_mono X d)]
  unfold wpS
  have e : ptgt pc off = T := by unfold ptgt; rw [hT]; rfl
  have e0 : 0 ≤ (pc : Int) + off := by omega
  simp only [hd, pstp, h_if, if_pos e0, pnx, e]
  by_cases h : pcmp c x 0
  · simp [h]
  · simp [h])
theorem r_ic {c : Jvm.ClassFile.Cond} {off : Int} {pc T : Nat} {L : List (Option Value)} {st : List Value} {mem : List pME} {u : Nat} {x z : Int32} (hd : decode (yB y) pc = .ok (.if_icmp c off, 3)) (hT : (pc : Int) + off = (T : Int)) : pR X d y lim Q (pc, L, .int z :: .int x :: st, mem, u) = ((pcmp c x z → pR X d y lim Q (T, L, st, mem, u)) ∧ (¬ pcmp c x z → pR X d y lim Q (pc + 3, L, st, mem, u))) := propext (by
  rw [pR, pE_iff (Cw_mono X d)]
  unfold wpS
  have e : ptgt pc off = T := by unfold ptgt; rw [hT]; rfl
  have e0 : 0 ≤ (pc : Int) + off := by omega
  simp only [hd, pstp, h_ic, if_pos e0, pnx, e]
  by_cases h : pcmp c x z
  · simp [h]
  · simp [h])
end PRO

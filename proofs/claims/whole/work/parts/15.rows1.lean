/-! rows of single instructions, to be used at each place of the program -/
section QR2
variable {X : pXX} {d y lim : Nat} {Q : Option Value → List pME → Prop} {pc u : Nat} {L : List (Option Value)} {st : List Value} {mem : List pME}
theorem q_ic {n : Int} (hd : decode (yB y) pc = .ok (.iconst n, 1)) : pR X d y lim Q (pc, L, st, mem, u) = pR X d y lim Q (pc + 1, L, .int (iI n) :: st, mem, u) := q_wp (s := (pc, L, st, mem, u)) hd
theorem q_bi {n v : Int} (hd : decode (yB y) pc = .ok (.bipush n, 2)) (hv : (Int8.ofInt n).toInt32 = iI v) : pR X d y lim Q (pc, L, st, mem, u) = pR X d y lim Q (pc + 2, L, .int (iI v) :: st, mem, u) := by
  rw [← hv]; exact q_wp (s := (pc, L, st, mem, u)) hd
theorem q_si {n v : Int} (hd : decode (yB y) pc = .ok (.sipush n, 3)) (hv : (Int16.ofInt n).toInt32 = iI v) : pR X d y lim Q (pc, L, st, mem, u) = pR X d y lim Q (pc + 3, L, .int (iI v) :: st, mem, u) := by
  rw [← hv]; exact q_wp (s := (pc, L, st, mem, u)) hd
theorem q_lc {n : Fin 2} {v : Int} (hd : decode (yB y) pc = .ok (.lconst n, 1)) (hv : Int64.ofNat n = lI v) : pR X d y lim Q (pc, L, st, mem, u) = pR X d y lim Q (pc + 1, L, .long (lI v) :: st, mem, u) := by
  rw [← hv]; exact q_wp (s := (pc, L, st, mem, u)) hd
theorem q_ldc {k : Nat} {v : Int} (hd : decode (yB y) pc = .ok (.ldc k, 2)) (hv : pkit (yO y) k = some (iI v)) : pR X d y lim Q (pc, L, st, mem, u) = pR X d y lim Q (pc + 2, L, .int (iI v) :: st, mem, u) := by
  refine (q_wp (s := (pc, L, st, mem, u)) hd).trans ?_
  simp only [pstp, hv]; rfl
theorem q_ldcs {k j : Nat} (hd : decode (yB y) pc = .ok (.ldc k, 2)) (h0 : pkit (yO y) k = none) (hv : psti (yO y) k = some j) : pR X d y lim Q (pc, L, st, mem, u) = pR X d y lim Q (pc + 2, L, .ref (1000 + j) :: st, mem, u) := by
  refine (q_wp (s := (pc, L, st, mem, u)) hd).trans ?_
  simp only [pstp, h0, hv]; rfl
theorem q_ldcw {k : Nat} {v : Int} (hd : decode (yB y) pc = .ok (.ldc_w k, 3)) (hv : pkit (yO y) k = some (iI v)) : pR X d y lim Q (pc, L, st, mem, u) = pR X d y lim Q (pc + 3, L, .int (iI v) :: st, mem, u) := by
  refine (q_wp (s := (pc, L, st, mem, u)) hd).trans ?_
  simp only [pstp, hv]; rfl
theorem q_ldc2 {k : Nat} {v : Int} (hd : decode (yB y) pc = .ok (.ldc2_w k, 3)) (hv : pklo (yO y) k = some (lI v)) : pR X d y lim Q (pc, L, st, mem, u) = pR X d y lim Q (pc + 3, L, .long (lI v) :: st, mem, u) := by
  refine (q_wp (s := (pc, L, st, mem, u)) hd).trans ?_
  simp only [pstp, hv]; rfl
theorem q_gs {k : Nat} {v : Value} (hd : decode (yB y) pc = .ok (.getstatic k, 3)) (hv : pgst (yO y) k = some 0 ∧ v = .ref 998 ∨ pgst (yO y) k = some 1 ∧ v = .int 1 ∨ pgst (yO y) k = some 2 ∧ v = X.2.2) : pR X d y lim Q (pc, L, st, mem, u) = pR X d y lim Q (pc + 3, L, v :: st, mem, u) := by
  refine (q_wp (s := (pc, L, st, mem, u)) hd).trans ?_
  rcases hv with ⟨h, rfl⟩ | ⟨h, rfl⟩ | ⟨h, rfl⟩ <;> simp only [pstp, h] <;> rfl
theorem q_mx {ix yy : Nat} {x z : Int32} (hd : decode (yB y) pc = .ok (.invokestatic ix, 3)) (hf : pclt (yO y) ix = some (7, yy)) (hc : pcats st ≤ 8) (h1 : 1 ≤ d) : pR X d y lim Q (pc, L, .int z :: .int x :: st, mem, u) = pR X d y lim Q (pc + 3, L, .int (if x < z then z else x) :: st, mem, u) := by
  refine (q_wp (s := (pc, L, .int z :: .int x :: st, mem, u)) hd).trans ?_
  simp only [pstp, hf, h_mm, if_pos (And.intro hc h1)]; rfl
theorem q_mn {ix yy : Nat} {x z : Int32} (hd : decode (yB y) pc = .ok (.invokestatic ix, 3)) (hf : pclt (yO y) ix = some (8, yy)) (hc : pcats st ≤ 8) (h1 : 1 ≤ d) : pR X d y lim Q (pc, L, .int z :: .int x :: st, mem, u) = pR X d y lim Q (pc + 3, L, .int (if z < x then z else x) :: st, mem, u) := by
  refine (q_wp (s := (pc, L, .int z :: .int x :: st, mem, u)) hd).trans ?_
  simp only [pstp, hf, h_mm, if_pos (And.intro hc h1)]; rfl
theorem q_obj {ix yy a : Nat} (hd : decode (yB y) pc = .ok (.invokespecial ix, 3)) (hf : pclt (yO y) ix = some (5, yy)) (hc : pcats st ≤ 8) (h1 : 1 ≤ d) : pR X d y lim Q (pc, L, .ref a :: st, mem, u) = pR X d y lim Q (pc + 3, L, st, mem, u) := by
  refine (q_wp (s := (pc, L, .ref a :: st, mem, u)) hd).trans ?_
  simp only [pstp, hf, h_obj, if_pos (And.intro hc h1)]; rfl
theorem q_reti {x : Int32} (hd : decode (yB y) pc = .ok (.ireturn, 1)) (hR : yR y = some .int) : pR X d y lim Q (pc, L, [.int x], mem, lim) = Q (some (.int x)) mem := by
  refine (q_wp (s := (pc, L, [.int x], mem, lim)) hd).trans ?_
  simp [pstp, h_ret, hR, narrow, wpO]
/-- a value that a small type keeps -/
def zb (ty : FieldType) (x : Int32) : Prop := narrow ty (.int x) = .int x
theorem q_retz {x : Int32} {ty : FieldType} (hd : decode (yB y) pc = .ok (.ireturn, 1)) (hR : yR y = some ty) (ht : ty = .int ∨ ty = .boolean ∨ ty = .byte ∨ ty = .char) : pR X d y lim Q (pc, L, [.int x], mem, lim) = (zb ty x ∧ Q (some (.int x)) mem) := by
  refine (q_wp (s := (pc, L, [.int x], mem, lim)) hd).trans ?_
  by_cases h : narrow ty (.int x) = .int x
  · have h2 : zb ty x := h
    simp [pstp, h_ret, hR, wpO, h, ht, h2]
  · have h2 : ¬ zb ty x := h
    simp [pstp, h_ret, hR, wpO, h, h2]
theorem q_retl {x : Int64} (hd : decode (yB y) pc = .ok (.lreturn, 1)) (hR : yR y = some .long) : pR X d y lim Q (pc, L, [.long x], mem, lim) = Q (some (.long x)) mem := by
  refine (q_wp (s := (pc, L, [.long x], mem, lim)) hd).trans ?_
  simp [pstp, h_lret, hR, wpO]
theorem q_reta {a : Nat} {n : String} (hd : decode (yB y) pc = .ok (.areturn, 1)) (hR : yR y = some (.object n)) : pR X d y lim Q (pc, L, [.ref a], mem, lim) = Q (some (.ref a)) mem := by
  refine (q_wp (s := (pc, L, [.ref a], mem, lim)) hd).trans ?_
  simp [pstp, h_aret, hR, wpO]
theorem q_retv (hd : decode (yB y) pc = .ok (.return_, 1)) (hR : yR y = none) : pR X d y lim Q (pc, L, [], mem, lim) = Q none mem := by
  refine (q_wp (s := (pc, L, [], mem, lim)) hd).trans ?_
  simp [pstp, h_vret, hR, wpO]
/-- a switch by a table, place by place -/
def tsc (x : Int) (K : Int → Prop) : Int → List Int → Prop
  | _, [] => True
  | lo, o :: t => (x = lo → K o) ∧ tsc x K (lo + 1) t
theorem tsc_iff (x : Int) (K : Int → Prop) : ∀ (os : List Int) (lo : Int), tsc x K lo os ↔ ∀ j : Nat, j < os.length → x = lo + j → K (os.getD j 0)
  | [], lo => by simp [tsc]
  | o :: t, lo => by
    rw [tsc, tsc_iff x K t (lo + 1)]
    constructor
    · intro ⟨h1, h2⟩ j hj e
      cases j with
      | zero => simpa using h1 (by simpa using e)
      | succ j => simpa using h2 j (by simpa using hj) (by rw [e]; simp; omega)
    · intro h
      refine ⟨fun e => by simpa using h 0 (by simp) (by simpa using e), fun j hj e => ?_⟩
      simpa using h (j + 1) (by simpa using hj) (by rw [e]; simp; omega)
theorem q_tsl {dflt lo hi : Int} {offs : Array Int} {ll : Nat} {x : Int32} (hd : decode (yB y) pc = .ok (.tableswitch dflt lo hi offs, ll)) (h0 : 0 ≤ (pc : Int) + dflt) (h1 : offs.toList.all (fun o => decide (0 ≤ (pc : Int) + o)) = true) (hs : (offs.size : Int) = hi - lo + 1) : pR X d y lim Q (pc, L, .int x :: st, mem, u) = (((x.toInt < lo ∨ hi < x.toInt) → pR X d y lim Q (ptgt pc dflt, L, st, mem, u)) ∧ tsc x.toInt (fun o => pR X d y lim Q (ptgt pc o, L, st, mem, u)) lo offs.toList) := by
  rw [q_ts hd h0 ?_ hs]
  · refine propext (and_congr Iff.rfl ?_)
    rw [tsc_iff]
    have e : ∀ j, offs.toList.getD j 0 = offs.getD j 0 := fun j => by simp [Array.getD_eq_getD_getElem?, List.getD_eq_getElem?_getD, Array.getElem?_toList]
    refine ⟨fun h j hj e1 => ?_, fun h j hj e1 => ?_⟩
    · rw [e]; exact h j (by simpa using hj) e1
    · rw [← e]; exact h j (by simpa using hj) e1
  · intro j hj
    have h2 := List.all_eq_true.mp h1 (offs[j]) (by simp)
    rw [decide_eq_true_eq] at h2
    simpa [Array.getD, hj] using h2
end QR2
theorem q_s {X : pXX} {d y lim pc : Nat} {Q : Option Value → List pME → Prop} {r : List (Option Value) × List Value × List pME × Nat} {t : pLS} (i : Except DecodeError (Instr × Nat)) (hd : decode (yB y) pc = i) (h : pstp X d y lim i (pc, r) = some (.inr (.inl t))) : pR X d y lim Q (pc, r) = pR X d y lim Q t := r_st (s := (pc, r)) hd h

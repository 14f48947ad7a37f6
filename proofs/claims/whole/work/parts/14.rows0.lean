/-! rows of the pure machine: numbers as integers; memory by questions -/
def iI (z : Int) : Int32 := Int32.ofInt z
def lI (z : Int) : Int64 := Int64.ofInt z
/-- what a field holds -/
def gf (mem : List pME) (a ci k : Nat) (K : Value → Prop) : Prop := match mem[a]? with
  | some (.inl (c, fs)) => c = ci ∧ ∃ v, fs[k]? = some v ∧ K v
  | some _ => False
  | none => (ci = 100 ∧ 1000 ≤ a ∧ a < 1012) ∧ K (if k = 0 then .ref (a + 1000) else .int 0)
def pf (y : Nat) (mem : List pME) (a ci k : Nat) (v : Value) (K : List pME → Prop) : Prop := match mem[a]? with
  | some (.inl (c, fs)) => (c = ci ∧ k < fs.length ∧ narrow (cY ci k) v = v ∧ fits (cY ci k) v = true ∧ ((cF ci k).2.2.2 = false ∨ ((mi y).2.1 = "<init>" ∧ yO y = ci))) ∧ K (mem.set a (.inl (c, fs.set k v)))
  | _ => False
def ri (X : pXX) (mem : List pME) (a : Nat) (i : Int32) (K : Int32 → Prop) : Prop := match mem[a]? with
  | some (.inr (.inl (0, n, f))) => ¬ (i < 0 ∨ n ≤ i.toNatClampNeg) ∧ K (f i.toNatClampNeg)
  | some _ => False
  | none => if a = 999 then ¬ (i < 0 ∨ X.1 ≤ i.toNatClampNeg) ∧ K (X.2.1 i.toNatClampNeg) else if a = 998 then ¬ (i < 0 ∨ 7 ≤ i.toNatClampNeg) ∧ K (([-1, 0, 0, 2, 3, 0, 1] : List Int32).getD i.toNatClampNeg 0) else False
def rb (mem : List pME) (a : Nat) (i : Int32) (K : Int32 → Prop) : Prop := match mem[a]? with
  | some (.inr (.inl (1, n, f))) => ¬ (i < 0 ∨ n ≤ i.toNatClampNeg) ∧ K (f i.toNatClampNeg)
  | some _ => False
  | none => (2000 ≤ a ∧ a < 2012) ∧ ¬ (i < 0 ∨ (STB.getD (a - 2000) []).length ≤ i.toNatClampNeg) ∧ K ((STB.getD (a - 2000) []).getD i.toNatClampNeg 0)
def ra (mem : List pME) (a : Nat) (i : Int32) (K : Nat → Prop) : Prop := match mem[a]? with
  | some (.inr (.inr (k, n, f))) => ¬ ((i < 0 ∨ n ≤ i.toNatClampNeg) ∨ ¬ (k = 2 ∨ k = 3)) ∧ ∃ b, f i.toNatClampNeg = some b ∧ K b
  | _ => False
def wi (mem : List pME) (a : Nat) (i x : Int32) (K : List pME → Prop) : Prop := match mem[a]? with
  | some (.inr (.inl (0, n, f))) => ¬ (i < 0 ∨ n ≤ i.toNatClampNeg) ∧ K (mem.set a (.inr (.inl (0, n, upd f i.toNatClampNeg x))))
  | _ => False
def wb (mem : List pME) (a : Nat) (i x : Int32) (K : List pME → Prop) : Prop := match mem[a]? with
  | some (.inr (.inl (1, n, f))) => ¬ (i < 0 ∨ n ≤ i.toNatClampNeg) ∧ K (mem.set a (.inr (.inl (1, n, upd f i.toNatClampNeg (vp_nar .byte x)))))
  | _ => False
def wa (mem : List pME) (a : Nat) (i : Int32) (v : Nat) (K : List pME → Prop) : Prop := match mem[a]? with
  | some (.inr (.inr (k, n, f))) => ¬ ((i < 0 ∨ n ≤ i.toNatClampNeg) ∨ ¬ (k = 2 ∨ k = 3)) ∧ ∃ ci fs, mem[v]? = some (.inl (ci, fs)) ∧ ci = rkC k ∧ K (mem.set a (.inr (.inr (k, n, va_up f i.toNatClampNeg (some v)))))
  | _ => False
def ln (X : pXX) (mem : List pME) (a : Nat) (K : Int32 → Prop) : Prop := match mem[a]? with
  | some (.inr (.inl (k, n, _))) => (k = 0 ∨ k = 1) ∧ K (Int32.ofNat n)
  | some _ => False
  | none => if a = 999 then K (Int32.ofNat X.1) else (2000 ≤ a ∧ a < 2012) ∧ K (Int32.ofNat (STB.getD (a - 2000) []).length)
def cpy (mem : List pME) (a b : Nat) (sp dp n : Int32) (K : List pME → Prop) : Prop := match mem[a]?, mem[b]? with
  | some (.inr (.inl (0, n0, f))), some (.inr (.inl (0, n1, g))) => (¬ sp < 0 ∧ ¬ dp < 0 ∧ ¬ n < 0 ∧ sp.toNatClampNeg + n.toNatClampNeg ≤ n0 ∧ dp.toNatClampNeg + n.toNatClampNeg ≤ n1) ∧ K (mem.set b (.inr (.inl (0, n1, va_cpy f g sp.toNatClampNeg dp.toNatClampNeg n.toNatClampNeg))))
  | _, _ => False
section QRW
variable {X : pXX} {d y lim : Nat} {Q : Option Value → List pME → Prop} {pc u : Nat} {L : List (Option Value)} {st : List Value} {mem : List pME}
theorem q_wp {s : pLS} {i : Except DecodeError (Instr × Nat)} (hd : decode (yB y) s.1 = i) : pR X d y lim Q s = wpO (Cw X d) Q (pR X d y lim Q) (pstp X d y lim i s) := propext (by
  rw [pR, pE_iff (Cw_mono X d)]
  unfold wpS
  rw [hd]
  rfl)
theorem q_get {ix ci k a : Nat} (hd : decode (yB y) pc = .ok (.getfield ix, 3)) (hf : pflt (yO y) ix = some (ci, k)) : pR X d y lim Q (pc, L, .ref a :: st, mem, u) = gf mem a ci k (fun v => pR X d y lim Q (pc + 3, L, v :: st, mem, u)) := by
  refine (q_wp (s := (pc, L, .ref a :: st, mem, u)) hd).trans ?_
  simp only [pstp, hf, h_get, gf]
  cases h : mem[a]? with
  | none =>
    by_cases hc : ci = 100 ∧ 1000 ≤ a ∧ a < 1012
    · by_cases hk : k = 0
      · simp [hc, hk, pnx, wpO]
      · simp [hc, hk, pnx, wpO]
    · simp only [if_neg hc, wpO]
      exact (eq_false (fun q => hc q.1)).symm
  | some z =>
    rcases z with ⟨c, fs⟩ | z
    · by_cases hc : c = ci
      · subst hc
        cases hv : fs[k]? with
        | none => simp [hv, wpO]
        | some v => simp [hv, pnx, wpO]
      · simp [hc, wpO]
    · rfl
theorem q_put {ix ci k a : Nat} {v : Value} (hd : decode (yB y) pc = .ok (.putfield ix, 3)) (hf : pflt (yO y) ix = some (ci, k)) (h6 : ci < 6) : pR X d y lim Q (pc, L, v :: .ref a :: st, mem, u) = pf y mem a ci k v (fun m => pR X d y lim Q (pc + 3, L, st, m, u)) := by
  refine (q_wp (s := (pc, L, v :: .ref a :: st, mem, u)) hd).trans ?_
  simp only [pstp, hf, if_pos h6, h_put, pf]
  cases h : mem[a]? with
  | none => rfl
  | some z =>
    rcases z with ⟨c, fs⟩ | z
    · by_cases hc : c = ci ∧ k < fs.length ∧ narrow (cY ci k) v = v ∧ fits (cY ci k) v = true ∧ ((cF ci k).2.2.2 = false ∨ ((mi y).2.1 = "<init>" ∧ yO y = ci))
      · simp only [if_pos hc, pnx, wpO]
        exact propext ⟨fun q => ⟨hc, q⟩, fun q => q.2⟩
      · simp only [if_neg hc, wpO]
        exact (eq_false (fun q => hc q.1)).symm
    · rfl
theorem ite_no {c : Prop} [Decidable c] {o : pLS} {Qx : Option Value → List pME → Prop} {P : pLS → Prop} {C : Nat → List Value → List pME → (Option Value → List pME → Prop) → Prop} : wpO C Qx P (if c then none else pnx o) = (¬ c ∧ P o) := by
  by_cases hc : c
  · simp [hc, wpO]
  · simp [hc, wpO, pnx]
theorem ite_yes {c : Prop} [Decidable c] {o : pLS} {Qx : Option Value → List pME → Prop} {P : pLS → Prop} {C : Nat → List Value → List pME → (Option Value → List pME → Prop) → Prop} : wpO C Qx P (if c then pnx o else none) = (c ∧ P o) := by
  by_cases hc : c
  · simp [hc, wpO, pnx]
  · simp [hc, wpO]
theorem q_ri {a : Nat} {i : Int32} (hd : decode (yB y) pc = .ok (.iaload, 1)) : pR X d y lim Q (pc, L, .int i :: .ref a :: st, mem, u) = ri X mem a i (fun v => pR X d y lim Q (pc + 1, L, .int v :: st, mem, u)) := by
  refine (q_wp (s := (pc, L, .int i :: .ref a :: st, mem, u)) hd).trans ?_
  simp only [pstp, h_iald, ri]
  cases h : mem[a]? with
  | none =>
    by_cases ha : a = 999
    · simp only [if_pos ha]; exact ite_no
    · by_cases ha2 : a = 998
      · simp only [if_neg ha, if_pos ha2]; exact ite_no
      · simp only [if_neg ha, if_neg ha2]; rfl
  | some z =>
    rcases z with ⟨c, fs⟩ | ⟨k, n, f⟩ | ⟨k, n, f⟩
    · rfl
    · cases k with
      | zero => exact ite_no
      | succ k => rfl
    · rfl
theorem q_rb {a : Nat} {i : Int32} (hd : decode (yB y) pc = .ok (.baload, 1)) : pR X d y lim Q (pc, L, .int i :: .ref a :: st, mem, u) = rb mem a i (fun v => pR X d y lim Q (pc + 1, L, .int v :: st, mem, u)) := by
  refine (q_wp (s := (pc, L, .int i :: .ref a :: st, mem, u)) hd).trans ?_
  simp only [pstp, h_bald, rb]
  cases h : mem[a]? with
  | none =>
    by_cases ha : 2000 ≤ a ∧ a < 2012
    · simp only [if_pos ha, ite_no]
      exact propext ⟨fun q => ⟨ha, q⟩, fun q => q.2⟩
    · simp only [if_neg ha, wpO]
      exact (eq_false (fun q => ha q.1)).symm
  | some z =>
    rcases z with ⟨c, fs⟩ | ⟨k, n, f⟩ | ⟨k, n, f⟩
    · rfl
    · match k with
      | 0 => rfl
      | 1 => exact ite_no
      | k + 2 => rfl
    · rfl
theorem q_ra {a : Nat} {i : Int32} (hd : decode (yB y) pc = .ok (.aaload, 1)) : pR X d y lim Q (pc, L, .int i :: .ref a :: st, mem, u) = ra mem a i (fun v => pR X d y lim Q (pc + 1, L, .ref v :: st, mem, u)) := by
  refine (q_wp (s := (pc, L, .int i :: .ref a :: st, mem, u)) hd).trans ?_
  simp only [pstp, h_aald, ra]
  cases h : mem[a]? with
  | none => rfl
  | some z =>
    rcases z with ⟨c, fs⟩ | ⟨k, n, f⟩ | ⟨k, n, f⟩
    · rfl
    · rfl
    · by_cases hc : (i < 0 ∨ n ≤ i.toNatClampNeg) ∨ ¬ (k = 2 ∨ k = 3)
      · simp only [if_pos hc, wpO]
        exact (eq_false (fun q => q.1 hc)).symm
      · simp only [if_neg hc]
        cases hv : f i.toNatClampNeg with
        | none => simp [hv, wpO]
        | some v =>
          simp only [pnx, wpO, hv]
          exact propext ⟨fun q => ⟨hc, v, rfl, q⟩, fun ⟨_, b, hb, q⟩ => by cases hb; exact q⟩
theorem q_wi {a : Nat} {i x : Int32} (hd : decode (yB y) pc = .ok (.iastore, 1)) : pR X d y lim Q (pc, L, .int x :: .int i :: .ref a :: st, mem, u) = wi mem a i x (fun m => pR X d y lim Q (pc + 1, L, st, m, u)) := by
  refine (q_wp (s := (pc, L, .int x :: .int i :: .ref a :: st, mem, u)) hd).trans ?_
  simp only [pstp, h_iast, wi]
  cases h : mem[a]? with
  | none => rfl
  | some z =>
    rcases z with ⟨c, fs⟩ | ⟨k, n, f⟩ | ⟨k, n, f⟩
    · rfl
    · cases k with
      | zero => exact ite_no
      | succ k => rfl
    · rfl
theorem q_wb {a : Nat} {i x : Int32} (hd : decode (yB y) pc = .ok (.bastore, 1)) : pR X d y lim Q (pc, L, .int x :: .int i :: .ref a :: st, mem, u) = wb mem a i x (fun m => pR X d y lim Q (pc + 1, L, st, m, u)) := by
  refine (q_wp (s := (pc, L, .int x :: .int i :: .ref a :: st, mem, u)) hd).trans ?_
  simp only [pstp, h_bast, wb]
  cases h : mem[a]? with
  | none => rfl
  | some z =>
    rcases z with ⟨c, fs⟩ | ⟨k, n, f⟩ | ⟨k, n, f⟩
    · rfl
    · match k with
      | 0 => rfl
      | 1 => exact ite_no
      | k + 2 => rfl
    · rfl
theorem q_wa {a v : Nat} {i : Int32} (hd : decode (yB y) pc = .ok (.aastore, 1)) : pR X d y lim Q (pc, L, .ref v :: .int i :: .ref a :: st, mem, u) = wa mem a i v (fun m => pR X d y lim Q (pc + 1, L, st, m, u)) := by
  refine (q_wp (s := (pc, L, .ref v :: .int i :: .ref a :: st, mem, u)) hd).trans ?_
  simp only [pstp, h_aast, wa]
  cases h : mem[a]? with
  | none => rfl
  | some z =>
    rcases z with ⟨c, fs⟩ | ⟨k, n, f⟩ | ⟨k, n, f⟩
    · rfl
    · rfl
    · by_cases hc : (i < 0 ∨ n ≤ i.toNatClampNeg) ∨ ¬ (k = 2 ∨ k = 3)
      · simp only [if_pos hc, wpO]
        exact (eq_false (fun q => q.1 hc)).symm
      · simp only [if_neg hc]
        cases hv : mem[v]? with
        | none => simp [wpO]
        | some w =>
          rcases w with ⟨ci, fs⟩ | w
          · by_cases hk : ci = rkC k
            · simp only [if_pos hk, pnx, wpO]
              exact propext ⟨fun q => ⟨hc, ci, fs, rfl, hk, q⟩, fun ⟨_, _, _, _, _, q⟩ => q⟩
            · simp only [if_neg hk, wpO]
              exact (eq_false (fun ⟨_, _, _, hb, hk', _⟩ => by cases hb; exact hk hk')).symm
          · simp [wpO]
theorem q_ln {a : Nat} (hd : decode (yB y) pc = .ok (.arraylength, 1)) : pR X d y lim Q (pc, L, .ref a :: st, mem, u) = ln X mem a (fun v => pR X d y lim Q (pc + 1, L, .int v :: st, mem, u)) := by
  refine (q_wp (s := (pc, L, .ref a :: st, mem, u)) hd).trans ?_
  simp only [pstp, h_alen, ln]
  cases h : mem[a]? with
  | none =>
    by_cases ha : a = 999
    · simp only [if_pos ha]; rfl
    · simp only [if_neg ha]; exact ite_yes
  | some z =>
    rcases z with ⟨c, fs⟩ | ⟨k, n, f⟩ | ⟨k, n, f⟩
    · rfl
    · exact ite_yes
    · rfl
theorem q_cpy {ix yy a b : Nat} {sp dp n : Int32} (hd : decode (yB y) pc = .ok (.invokestatic ix, 3)) (hf : pclt (yO y) ix = some (6, yy)) (hc0 : pcats st ≤ 8) (h1 : 1 ≤ d) : pR X d y lim Q (pc, L, .int n :: .int dp :: .ref b :: .int sp :: .ref a :: st, mem, u) = cpy mem a b sp dp n (fun m => pR X d y lim Q (pc + 3, L, st, m, u)) := by
  refine (q_wp (s := (pc, L, .int n :: .int dp :: .ref b :: .int sp :: .ref a :: st, mem, u)) hd).trans ?_
  simp only [pstp, hf, h_copy, cpy]
  split
  next n0 f n1 g ha hb =>
    simp only [ha, hb]
    by_cases hc : (¬ sp < 0 ∧ ¬ dp < 0 ∧ ¬ n < 0 ∧ sp.toNatClampNeg + n.toNatClampNeg ≤ n0 ∧ dp.toNatClampNeg + n.toNatClampNeg ≤ n1)
    · rw [if_pos ⟨hc, hc0, h1⟩]
      exact propext ⟨fun q => ⟨hc, q⟩, fun q => q.2⟩
    · rw [if_neg (fun q => hc q.1)]
      exact (eq_false (fun q => hc q.1)).symm
  next hno =>
    split
    next n0 f n1 g ha hb => exact (hno n0 f n1 g ha hb).elim
    · rfl
theorem q_virt {ix y2 b : Nat} {as rest : List Value} (hd : decode (yB y) pc = .ok (.invokevirtual ix, 3)) (hf : pclt (yO y) ix = some (0, y2)) (hst : st.take (yA y2) = as) (hn : as.length = yA y2) (hr : st.drop (yA y2) = .ref b :: rest) (hc : pcats rest ≤ 8) (hu : u + yU y2 ≤ lim) : pR X d y lim Q (pc, L, st, mem, u) = (prcv mem (yO y2) b ∧ Cw X d y2 (.ref b :: as.reverse) mem (fun r m => pR X d y lim Q (pc + 3, L, r.toList ++ rest, m, u + yU y2))) := by
  refine (q_wp (s := (pc, L, st, mem, u)) hd).trans ?_
  simp only [pstp, hf, h_virt, hst, hr, if_pos hn, h_call]
  by_cases hp : prcv mem (yO y2) b
  · simp only [if_pos hp, if_pos (And.intro hc hu), wpO]
    exact propext ⟨fun q => ⟨hp, q⟩, fun q => q.2⟩
  · simp only [if_neg hp, wpO]
    exact (eq_false (fun q => hp q.1)).symm
theorem q_stat {ix kd y2 : Nat} {as rest : List Value} (hd : decode (yB y) pc = .ok (.invokestatic ix, 3)) (hf : pclt (yO y) ix = some (kd, y2)) (hk : kd = 1 ∨ kd = 2) (hst : st.take (yA y2) = as) (hn : as.length = yA y2) (hr : st.drop (yA y2) = rest) (hc : pcats rest ≤ 8) (hu : u + yU y2 ≤ lim) : pR X d y lim Q (pc, L, st, mem, u) = Cw X d y2 as.reverse mem (fun r m => pR X d y lim Q (pc + 3, L, r.toList ++ rest, m, u + yU y2)) := by
  refine (q_wp (s := (pc, L, st, mem, u)) hd).trans ?_
  rcases hk with rfl | rfl
  · simp only [pstp, hf, h_stat, hst, hr, if_pos hn, h_call, if_pos (And.intro hc hu), wpO]; rfl
  · simp only [pstp, hf, h_stat, hst, hr, if_pos hn, h_call, if_pos (And.intro hc hu), wpO]; rfl
theorem q_init {ix kd y2 b : Nat} {as rest : List Value} (hd : decode (yB y) pc = .ok (.invokespecial ix, 3)) (hf : pclt (yO y) ix = some (kd, y2)) (hk : kd = 3 ∨ kd = 4) (hst : st.take (yA y2) = as) (hn : as.length = yA y2) (hr : st.drop (yA y2) = .ref b :: rest) (hc : pcats rest ≤ 8) (hu : u + yU y2 ≤ lim) : pR X d y lim Q (pc, L, st, mem, u) = Cw X d y2 (.ref b :: as.reverse) mem (fun r m => pR X d y lim Q (pc + 3, L, r.toList ++ rest, m, u + yU y2)) := by
  refine (q_wp (s := (pc, L, st, mem, u)) hd).trans ?_
  rcases hk with rfl | rfl
  · simp only [pstp, hf, h_init, hst, hr, if_pos hn, h_call, if_pos (And.intro hc hu), wpO]; rfl
  · simp only [pstp, hf, h_init, hst, hr, if_pos hn, h_call, if_pos (And.intro hc hu), wpO]; rfl
theorem q_div {x z : Int32} (hd : decode (yB y) pc = .ok (.idiv, 1)) : pR X d y lim Q (pc, L, .int z :: .int x :: st, mem, u) = (¬ z = 0 ∧ pR X d y lim Q (pc + 1, L, .int (x / z) :: st, mem, u)) := by
  refine (q_wp (s := (pc, L, .int z :: .int x :: st, mem, u)) hd).trans ?_
  simp only [pstp, h_iiz]; exact ite_no
theorem q_rem {x z : Int32} (hd : decode (yB y) pc = .ok (.irem, 1)) : pR X d y lim Q (pc, L, .int z :: .int x :: st, mem, u) = (¬ z = 0 ∧ pR X d y lim Q (pc + 1, L, .int (x - x / z * z) :: st, mem, u)) := by
  refine (q_wp (s := (pc, L, .int z :: .int x :: st, mem, u)) hd).trans ?_
  simp only [pstp, h_iiz]; exact ite_no
theorem q_ts {dflt lo hi : Int} {offs : Array Int} {ll : Nat} {x : Int32} (hd : decode (yB y) pc = .ok (.tableswitch dflt lo hi offs, ll)) (h0 : 0 ≤ (pc : Int) + dflt) (h1 : ∀ j : Nat, j < offs.size → 0 ≤ (pc : Int) + offs.getD j 0) (hs : (offs.size : Int) = hi - lo + 1) : pR X d y lim Q (pc, L, .int x :: st, mem, u) = (((x.toInt < lo ∨ hi < x.toInt) → pR X d y lim Q (ptgt pc dflt, L, st, mem, u)) ∧ (∀ j : Nat, j < offs.size → x.toInt = lo + j → pR X d y lim Q (ptgt pc (offs.getD j 0), L, st, mem, u))) := by
  refine (q_wp (s := (pc, L, .int x :: st, mem, u)) hd).trans ?_
  simp only [pstp, h_ts]
  by_cases hc : x.toInt < lo ∨ hi < x.toInt
  · simp only [if_pos hc, if_pos h0, pnx, wpO]
    exact propext ⟨fun q => ⟨fun _ => q, fun j hj e => by omega⟩, fun q => q.1 hc⟩
  · simp only [if_neg hc]
    have hj : (x.toInt - lo).toNat < offs.size := by omega
    rw [Array.getElem?_eq_getElem hj]
    have e : offs[(x.toInt - lo).toNat] = offs.getD (x.toInt - lo).toNat 0 := by simp [Array.getD, hj]
    simp only [e, if_pos (h1 _ hj), pnx, wpO]
    exact propext ⟨fun q => ⟨fun z => absurd z hc, fun j hj e => by rw [show j = (x.toInt - lo).toNat by omega]; exact q⟩, fun q => q.2 _ hj (by omega)⟩
end QRW

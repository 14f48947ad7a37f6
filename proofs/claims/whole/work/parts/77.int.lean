/-! what a method gives back is an int, where its type says so -/
section
variable {r : Option Value × List pME}
theorem n_push (len : Nat) (v : Value) (s : pLS) : (h_push len v s = some (.inl r)) = False := eq_false (fun h => by
  unfold h_push pnx at h
  repeat' split at h
  all_goals cases h)
theorem n_ild (len i : Nat) (s : pLS) : (h_ild len i s = some (.inl r)) = False := eq_false (fun h => by
  unfold h_ild pnx at h
  repeat' split at h
  all_goals cases h)
theorem n_ald (len i : Nat) (s : pLS) : (h_ald len i s = some (.inl r)) = False := eq_false (fun h => by
  unfold h_ald pnx at h
  repeat' split at h
  all_goals cases h)
theorem n_lld (len i : Nat) (s : pLS) : (h_lld len i s = some (.inl r)) = False := eq_false (fun h => by
  unfold h_lld pnx at h
  repeat' split at h
  all_goals cases h)
theorem n_ist (len i : Nat) (s : pLS) : (h_ist len i s = some (.inl r)) = False := eq_false (fun h => by
  unfold h_ist pnx at h
  repeat' split at h
  all_goals cases h)
theorem n_ast (len i : Nat) (s : pLS) : (h_ast len i s = some (.inl r)) = False := eq_false (fun h => by
  unfold h_ast pnx at h
  repeat' split at h
  all_goals cases h)
theorem n_lst (len i : Nat) (s : pLS) : (h_lst len i s = some (.inl r)) = False := eq_false (fun h => by
  unfold h_lst pnx at h
  repeat' split at h
  all_goals cases h)
theorem n_inc (i : Nat) (n : Int) (s : pLS) : (h_inc i n s = some (.inl r)) = False := eq_false (fun h => by
  unfold h_inc pnx at h
  repeat' split at h
  all_goals cases h)
theorem n_iald (X : pXX) (s : pLS) : (h_iald X s = some (.inl r)) = False := eq_false (fun h => by
  unfold h_iald pnx at h
  repeat' split at h
  all_goals cases h)
theorem n_bald (s : pLS) : (h_bald s = some (.inl r)) = False := eq_false (fun h => by
  unfold h_bald pnx at h
  repeat' split at h
  all_goals cases h)
theorem n_aald (s : pLS) : (h_aald s = some (.inl r)) = False := eq_false (fun h => by
  unfold h_aald pnx at h
  repeat' split at h
  all_goals cases h)
theorem n_iast (s : pLS) : (h_iast s = some (.inl r)) = False := eq_false (fun h => by
  unfold h_iast pnx at h
  repeat' split at h
  all_goals cases h)
theorem n_bast (s : pLS) : (h_bast s = some (.inl r)) = False := eq_false (fun h => by
  unfold h_bast pnx at h
  repeat' split at h
  all_goals cases h)
theorem n_aast (s : pLS) : (h_aast s = some (.inl r)) = False := eq_false (fun h => by
  unfold h_aast pnx at h
  repeat' split at h
  all_goals cases h)
theorem n_alen (X : pXX) (s : pLS) : (h_alen X s = some (.inl r)) = False := eq_false (fun h => by
  unfold h_alen pnx at h
  repeat' split at h
  all_goals cases h)
theorem n_dup (s : pLS) : (h_dup s = some (.inl r)) = False := eq_false (fun h => by
  unfold h_dup pnx at h
  repeat' split at h
  all_goals cases h)
theorem n_dup2 (s : pLS) : (h_dup2 s = some (.inl r)) = False := eq_false (fun h => by
  unfold h_dup2 pnx at h
  repeat' split at h
  all_goals cases h)
theorem n_pop (s : pLS) : (h_pop s = some (.inl r)) = False := eq_false (fun h => by
  unfold h_pop pnx at h
  repeat' split at h
  all_goals cases h)
theorem n_ii (f : Int32 → Int32 → Int32) (s : pLS) : (h_ii f s = some (.inl r)) = False := eq_false (fun h => by
  unfold h_ii pnx at h
  repeat' split at h
  all_goals cases h)
theorem n_iiz (f : Int32 → Int32 → Int32) (s : pLS) : (h_iiz f s = some (.inl r)) = False := eq_false (fun h => by
  unfold h_iiz pnx at h
  repeat' split at h
  all_goals cases h)
theorem n_i (f : Int32 → Value) (s : pLS) : (h_i f s = some (.inl r)) = False := eq_false (fun h => by
  unfold h_i pnx at h
  repeat' split at h
  all_goals cases h)
theorem n_ll (f : Int64 → Int64 → Value) (s : pLS) : (h_ll f s = some (.inl r)) = False := eq_false (fun h => by
  unfold h_ll pnx at h
  repeat' split at h
  all_goals cases h)
theorem n_l (f : Int64 → Value) (s : pLS) : (h_l f s = some (.inl r)) = False := eq_false (fun h => by
  unfold h_l pnx at h
  repeat' split at h
  all_goals cases h)
theorem n_if (c : Jvm.ClassFile.Cond) (off : Int) (s : pLS) : (h_if c off s = some (.inl r)) = False := eq_false (fun h => by
  unfold h_if pnx at h
  repeat' split at h
  all_goals cases h)
theorem n_ic (c : Jvm.ClassFile.Cond) (off : Int) (s : pLS) : (h_ic c off s = some (.inl r)) = False := eq_false (fun h => by
  unfold h_ic pnx at h
  repeat' split at h
  all_goals cases h)
theorem n_goto (off : Int) (s : pLS) : (h_goto off s = some (.inl r)) = False := eq_false (fun h => by
  unfold h_goto pnx at h
  repeat' split at h
  all_goals cases h)
theorem n_ts (dflt lo hi : Int) (offs : Array Int) (s : pLS) : (h_ts dflt lo hi offs s = some (.inl r)) = False := eq_false (fun h => by
  unfold h_ts pnx at h
  repeat' split at h
  all_goals cases h)
theorem n_get (ci k : Nat) (s : pLS) : (h_get ci k s = some (.inl r)) = False := eq_false (fun h => by
  unfold h_get pnx at h
  repeat' split at h
  all_goals cases h)
theorem n_put (y ci k : Nat) (s : pLS) : (h_put y ci k s = some (.inl r)) = False := eq_false (fun h => by
  unfold h_put pnx at h
  repeat' split at h
  all_goals cases h)
theorem n_new (lim ci : Nat) (s : pLS) : (h_new lim ci s = some (.inl r)) = False := eq_false (fun h => by
  unfold h_new pnx at h
  repeat' split at h
  all_goals cases h)
theorem n_newa (lim k : Nat) (s : pLS) : (h_newa lim k s = some (.inl r)) = False := eq_false (fun h => by
  unfold h_newa pnx at h
  repeat' split at h
  all_goals cases h)
theorem n_newq (lim k : Nat) (s : pLS) : (h_newq lim k s = some (.inl r)) = False := eq_false (fun h => by
  unfold h_newq pnx at h
  repeat' split at h
  all_goals cases h)
theorem n_call (y : Nat) (as rest : List Value) (lim : Nat) (s : pLS) : (h_call y as rest lim s = some (.inl r)) = False := eq_false (fun h => by
  unfold h_call at h
  repeat' split at h
  all_goals cases h)
theorem n_virt (lim y : Nat) (s : pLS) : (h_virt lim y s = some (.inl r)) = False := eq_false (fun h => by
  unfold h_virt h_call at h
  repeat' split at h
  all_goals cases h)
theorem n_stat (lim y : Nat) (s : pLS) : (h_stat lim y s = some (.inl r)) = False := eq_false (fun h => by
  unfold h_stat h_call at h
  repeat' split at h
  all_goals cases h)
theorem n_init (lim y : Nat) (s : pLS) : (h_init lim y s = some (.inl r)) = False := eq_false (fun h => by
  unfold h_init h_call at h
  repeat' split at h
  all_goals cases h)
theorem n_obj (d : Nat) (s : pLS) : (h_obj d s = some (.inl r)) = False := eq_false (fun h => by
  unfold h_obj pnx at h
  repeat' split at h
  all_goals cases h)
theorem n_copy (d : Nat) (s : pLS) : (h_copy d s = some (.inl r)) = False := eq_false (fun h => by
  unfold h_copy pnx at h
  repeat' split at h
  all_goals cases h)
theorem n_mm (d : Nat) (f : Int32 → Int32 → Int32) (s : pLS) : (h_mm d f s = some (.inl r)) = False := eq_false (fun h => by
  unfold h_mm pnx at h
  repeat' split at h
  all_goals cases h)
theorem n_lk (dflt : Int) (ps : Array (Int × Int)) (s : pLS) : (h_lk dflt ps s = some (.inl r)) = False := eq_false (fun h => by
  unfold h_lk pnx at h
  repeat' split at h
  all_goals cases h)
def rk (t : Option FieldType) (r : Option Value) : Prop := (t = some .int ∨ t = some .boolean → ∃ z, r = some (.int z)) ∧ (t = some .long → ∃ z, r = some (.long z))
theorem rt_i {y lim : Nat} {s : pLS} (h : h_ret y lim s = some (.inl r)) : rk (yR y) r.1 := by
  unfold h_ret at h
  repeat' split at h
  all_goals first
    | (cases h; done)
    | (cases h; refine ⟨fun _ => ⟨_, rfl⟩, fun e => ?_⟩; rename_i hy hc; rw [hy] at e; cases e; rcases hc.2 with q | q | q | q <;> cases q)
theorem rt_l {y lim : Nat} {s : pLS} (h : h_lret y lim s = some (.inl r)) : rk (yR y) r.1 := by
  unfold h_lret at h
  repeat' split at h
  all_goals first
    | (cases h; done)
    | (cases h; refine ⟨fun e => ?_, fun _ => ⟨_, rfl⟩⟩; simp_all)
theorem rt_a {y lim : Nat} {s : pLS} (h : h_aret y lim s = some (.inl r)) : rk (yR y) r.1 := by
  unfold h_aret at h
  repeat' split at h
  all_goals first
    | (cases h; done)
    | (cases h; refine ⟨fun e => ?_, fun e => ?_⟩ <;> simp_all)
theorem rt_v {y lim : Nat} {s : pLS} (h : h_vret y lim s = some (.inl r)) : rk (yR y) r.1 := by
  unfold h_vret at h
  repeat' split at h
  all_goals first
    | (cases h; done)
    | (cases h; refine ⟨fun e => ?_, fun e => ?_⟩ <;> simp_all)
set_option maxHeartbeats 4000000 in
theorem pstp_rk {X : pXX} {d y lim : Nat} {i : Except DecodeError (Instr × Nat)} {s : pLS} (h : pstp X d y lim i s = some (.inl r)) : rk (yR y) r.1 := by
  unfold pstp at h
  split at h
  all_goals try (split at h)
  all_goals try (split at h)
  all_goals first
    | (simp only [n_push, n_ild, n_ald, n_lld, n_ist, n_ast, n_lst, n_inc, n_iald, n_bald, n_aald, n_iast, n_bast, n_aast, n_alen, n_dup, n_dup2, n_pop, n_ii, n_iiz, n_i, n_ll, n_l, n_if, n_ic, n_goto, n_ts, n_get, n_put, n_new, n_newa, n_newq, n_call, n_virt, n_stat, n_init, n_obj, n_copy, n_mm, n_lk, reduceCtorEq] at h; done)
    | exact rt_i h
    | exact rt_l h
    | exact rt_a h
    | exact rt_v h
end
theorem Cw_rk {X : pXX} {y : Nat} {as : List Value} {mem : List pME} {K : Option Value → List pME → Prop} : ∀ {d : Nat}, Cw X d y as mem K → Cw X d y as mem (fun r m => K r m ∧ rk (yR y) r)
  | 0, h => h.elim
  | d + 1, h => by
    refine ⟨h.1, h.2.1, fun P hP => h.2.2 P (fun t ht => hP t ?_)⟩
    unfold wpS at ht ⊢
    split at ht
    · exact ht.elim
    next e => exact ⟨ht, pstp_rk e⟩
    · exact ht
    · exact ht
section
variable {X : pXX} {yc yr : Nat} {as : List Value} {x m : Nat → Int → Int}
theorem Sim_int (hy : yR yc = some .int ∨ yR yc = some .boolean) (h : Sim X yc yr as x m) : ∃ x' m' z, Rel x' m' ∧ (∀ mm K, Cw X 12 yc (.ref 0 :: as) (MEM x mm) K = K (some (.int z)) (MEM x' mm)) ∧ (∀ xx K, Cw X 12 yr (.ref 49 :: as) (MEM xx m) K = K (some (.int z)) (MEM xx m')) := by
  obtain ⟨x', m', v, hR, hc, hr⟩ := h
  have h1 : Cw X 12 yc (.ref 0 :: as) (MEM x m) (fun _ _ => True) := by rw [hc]; trivial
  have h2 := Cw_rk h1
  rw [hc] at h2
  obtain ⟨z, hz⟩ := h2.2.1 hy
  cases hz
  exact ⟨x', m', z, hR, hc, hr⟩
theorem Sim_long (hy : yR yc = some .long) (h : Sim X yc yr as x m) : ∃ x' m' z, Rel x' m' ∧ (∀ mm K, Cw X 12 yc (.ref 0 :: as) (MEM x mm) K = K (some (.long z)) (MEM x' mm)) ∧ (∀ xx K, Cw X 12 yr (.ref 49 :: as) (MEM xx m) K = K (some (.long z)) (MEM xx m')) := by
  obtain ⟨x', m', v, hR, hc, hr⟩ := h
  have h1 : Cw X 12 yc (.ref 0 :: as) (MEM x m) (fun _ _ => True) := by rw [hc]; trivial
  have h2 := Cw_rk h1
  rw [hc] at h2
  obtain ⟨z, hz⟩ := h2.2.2 hy
  cases hz
  exact ⟨x', m', z, hR, hc, hr⟩
end
theorem lg_self (z : Int64) : lg_cmp z z = 0 := by
  unfold lg_cmp
  rw [if_neg (fun h => by have := Int64.lt_iff_toInt_lt.mp h; omega), if_pos rfl]

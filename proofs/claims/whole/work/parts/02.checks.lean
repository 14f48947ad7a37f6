/-! the words that every method may use -/
def TG : List Cond := lw_tbl.filter goodWord
theorem tg_in {h : Nat} {w : Cond} (h1 : lw_tbl[h]? = some w) (h2 : goodWord w = true) : w ∈ TG := List.mem_filter.mpr ⟨List.mem_of_getElem? h1, h2⟩
theorem tg_good {w : Cond} (h : w ∈ TG) : (w.onTables && w.keeps) = true ∨ ∃ ty, w = .arrayClass ty := good_of_word (List.mem_filter.mp h).2
/-! what the tables say of calls -/
def pw (y : Nat) : List Cond := .code (yN y) (yB y) (yL y) (yR y) :: TG
def rmD (d mc : Nat) : Room := { frames := d, cells := mc, slots := 200 * mc, locals := 36 * d }
def chkM (y : Nat) : Bool := decide (lw_tbl[yH.getD y 0]? = some (.code (yN y) (yB y) (yL y) (yR y)))
theorem chkM_0 : (List.range 20).all (fun j => chkM (0 + j)) = true := by decide +kernel
theorem chkM_1 : (List.range 20).all (fun j => chkM (20 + j)) = true := by decide +kernel
theorem chkM_2 : (List.range 20).all (fun j => chkM (40 + j)) = true := by decide +kernel
theorem chkM_3 : (List.range 20).all (fun j => chkM (60 + j)) = true := by decide +kernel
theorem chkM_4 : (List.range 20).all (fun j => chkM (80 + j)) = true := by decide +kernel
theorem chkM_5 : (List.range 20).all (fun j => chkM (100 + j)) = true := by decide +kernel
theorem chkM_6 : (List.range 20).all (fun j => chkM (120 + j)) = true := by decide +kernel
theorem chkM_7 : (List.range 20).all (fun j => chkM (140 + j)) = true := by decide +kernel
theorem chkM_8 : (List.range 20).all (fun j => chkM (160 + j)) = true := by decide +kernel
theorem chkM_9 : (List.range 20).all (fun j => chkM (180 + j)) = true := by decide +kernel
theorem chkM_10 : (List.range 20).all (fun j => chkM (200 + j)) = true := by decide +kernel
theorem chkM_11 : (List.range 9).all (fun j => chkM (220 + j)) = true := by decide +kernel
theorem chkM_ok {y : Nat} (h : y < nM) : chkM y = true := by
  rcases Nat.lt_or_ge y 20 with h0 | h0
  · have := List.all_eq_true.mp chkM_0 (y - 0) (List.mem_range.mpr (by omega))
    rwa [show 0 + (y - 0) = y by omega] at this
  rcases Nat.lt_or_ge y 40 with h1 | h1
  · have := List.all_eq_true.mp chkM_1 (y - 20) (List.mem_range.mpr (by omega))
    rwa [show 20 + (y - 20) = y by omega] at this
  rcases Nat.lt_or_ge y 60 with h2 | h2
  · have := List.all_eq_true.mp chkM_2 (y - 40) (List.mem_range.mpr (by omega))
    rwa [show 40 + (y - 40) = y by omega] at this
  rcases Nat.lt_or_ge y 80 with h3 | h3
  · have := List.all_eq_true.mp chkM_3 (y - 60) (List.mem_range.mpr (by omega))
    rwa [show 60 + (y - 60) = y by omega] at this
  rcases Nat.lt_or_ge y 100 with h4 | h4
  · have := List.all_eq_true.mp chkM_4 (y - 80) (List.mem_range.mpr (by omega))
    rwa [show 80 + (y - 80) = y by omega] at this
  rcases Nat.lt_or_ge y 120 with h5 | h5
  · have := List.all_eq_true.mp chkM_5 (y - 100) (List.mem_range.mpr (by omega))
    rwa [show 100 + (y - 100) = y by omega] at this
  rcases Nat.lt_or_ge y 140 with h6 | h6
  · have := List.all_eq_true.mp chkM_6 (y - 120) (List.mem_range.mpr (by omega))
    rwa [show 120 + (y - 120) = y by omega] at this
  rcases Nat.lt_or_ge y 160 with h7 | h7
  · have := List.all_eq_true.mp chkM_7 (y - 140) (List.mem_range.mpr (by omega))
    rwa [show 140 + (y - 140) = y by omega] at this
  rcases Nat.lt_or_ge y 180 with h8 | h8
  · have := List.all_eq_true.mp chkM_8 (y - 160) (List.mem_range.mpr (by omega))
    rwa [show 160 + (y - 160) = y by omega] at this
  rcases Nat.lt_or_ge y 200 with h9 | h9
  · have := List.all_eq_true.mp chkM_9 (y - 180) (List.mem_range.mpr (by omega))
    rwa [show 180 + (y - 180) = y by omega] at this
  rcases Nat.lt_or_ge y 220 with h10 | h10
  · have := List.all_eq_true.mp chkM_10 (y - 200) (List.mem_range.mpr (by omega))
    rwa [show 200 + (y - 200) = y by omega] at this
  · have := List.all_eq_true.mp chkM_11 (y - 220) (List.mem_range.mpr (by show y - 220 < 9; have h2 : y < 229 := h; omega))
    rwa [show 220 + (y - 220) = y by omega] at this
theorem code_in {y : Nat} (h : y < nM) : Cond.code (yN y) (yB y) (yL y) (yR y) ∈ TG := by
  have := chkM_ok h
  unfold chkM at this
  rw [decide_eq_true_eq] at this
  exact tg_in this rfl
theorem pw_good {y : Nat} (h : y < nM) : GoodIn TG (pw y) := fun w hw => by
  rcases List.mem_cons.mp hw with rfl | hw
  · exact ⟨code_in h, tg_good (code_in h)⟩
  · exact ⟨hw, tg_good hw⟩
def chkY (y : Nat) : Bool := plainName (yN y).cls && decide ((yN y).cls ≠ "java/lang/invoke/MethodHandle") && decide ((yN y).cls ≠ "java/lang/invoke/VarHandle") && decide ((parseMethodDescriptor (yN y).desc).map (fun d => d.parameters.length) = some (yA y)) && decide (yL y ≤ 17)
theorem chkY_all : (List.range nM).all chkY = true := by decide +kernel
theorem meth_ok (y : Nat) (h : y < nM) : plainName (yN y).cls = true ∧ (yN y).cls ≠ "java/lang/invoke/MethodHandle" ∧ (yN y).cls ≠ "java/lang/invoke/VarHandle" ∧ (parseMethodDescriptor (yN y).desc).map (fun d => d.parameters.length) = some (yA y) ∧ yL y ≤ 17 := by
  have := List.all_eq_true.mp chkY_all y (List.mem_range.mpr h)
  unfold chkY at this
  simp only [Bool.and_eq_true, decide_eq_true_eq] at this
  exact ⟨this.1.1.1.1, this.1.1.1.2, this.1.1.2, this.1.2, this.2⟩
def chkC (e : Nat × Nat × Nat × Nat × Nat × Nat × Nat × Nat) : Bool := match e with
  | (o, ix, 0, y, h1, h2, h3, h4) => decide (y < nM) && decide (lw_tbl[h1]? = some (.methodLink (oS o) ix (yN y))) && decide (lw_tbl[h2]? = some (.instanceMethod (yN y))) && decide (lw_tbl[h3]? = some (.selects (oS (yO y)) (yN y) (yN y))) && decide (lw_tbl[h4]? = some (.initialized (oS (yO y))))
  | (o, ix, 1, y, h1, h2, h3, _) => decide (y < nM) && decide (lw_tbl[h1]? = some (.methodLink (oS o) ix (yN y))) && decide (lw_tbl[h2]? = some (.static (yN y))) && decide (lw_tbl[h3]? = some (.initialized (oS (yO y))))
  | (o, ix, 2, y, _, h2, h3, _) => decide (y < nM) && decide (Cond.methodLinkNest (oS o) ix (yN y) "WinkPurses" ∈ NWL) && decide (lw_tbl[h2]? = some (.static (yN y))) && decide (lw_tbl[h3]? = some (.initialized (oS (yO y))))
  | (o, ix, 3, y, h1, h2, h3, _) => decide (y < nM) && decide (lw_tbl[h1]? = some (.methodLink (oS o) ix (yN y))) && decide (lw_tbl[h2]? = some (.instanceMethod (yN y))) && decide (lw_tbl[h3]? = some (.initialized (oS (yO y)))) && decide ((yN y).name = "<init>" ∧ yR y = none)
  | (o, ix, 4, y, _, h2, h3, _) => decide (y < nM) && decide (Cond.methodLinkNest (oS o) ix (yN y) "WinkPurses" ∈ NWL) && decide (lw_tbl[h2]? = some (.instanceMethod (yN y))) && decide (lw_tbl[h3]? = some (.initialized (oS (yO y)))) && decide ((yN y).name = "<init>" ∧ yR y = none)
  | (o, ix, 5, _, h1, h2, _, _) => decide (lw_tbl[h1]? = some (.methodLink (oS o) ix Lib.objectInit)) && decide (lw_tbl[h2]? = some (.instanceMethod Lib.objectInit))
  | (o, ix, 6, _, h1, h2, h3, h4) => decide (lw_tbl[h1]? = some (.methodLink (oS o) ix arraycopyName)) && decide (lw_tbl[h2]? = some (.static arraycopyName)) && decide (lw_tbl[h3]? = some (.native arraycopyName)) && decide (lw_tbl[h4]? = some (.initialized "java/lang/System"))
  | (o, ix, 7, _, h1, h2, h3, h4) => decide (lw_tbl[h1]? = some (.methodLink (oS o) ix Lib.Math.max.name)) && decide (lw_tbl[h2]? = some (.static Lib.Math.max.name)) && decide (lw_tbl[h3]? = some (.initialized "java/lang/Math")) && decide (lw_tbl[h4]? = some (.code Lib.Math.max.name Lib.Math.max.code 2 (some .int)))
  | (o, ix, 8, _, h1, h2, h3, h4) => decide (lw_tbl[h1]? = some (.methodLink (oS o) ix Lib.Math.min.name)) && decide (lw_tbl[h2]? = some (.static Lib.Math.min.name)) && decide (lw_tbl[h3]? = some (.initialized "java/lang/Math")) && decide (lw_tbl[h4]? = some (.code Lib.Math.min.name Lib.Math.min.code 2 (some .int)))
  | _ => false
theorem CLT_ok : CLT.all chkC = true := by decide +kernel
theorem obj_in : Cond.code Lib.objectInit ⟨#[0xb1]⟩ 1 none ∈ TG := tg_in (h := OBH) (by decide +kernel) rfl

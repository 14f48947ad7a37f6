/-! THE PURE MACHINE: a machine over lists that runs the same bytecode; objects are named by the order in which they were made. -/
/-- an object: its class and fields; a row of ints (kind 0) or bytes (kind 1); a row of references (kind 2, 3) -/
abbrev pME : Type := (Nat × List Value) ⊕ ((Nat × Nat × (Nat → Int32)) ⊕ (Nat × Nat × (Nat → Option Nat)))
abbrev pLS : Type := Nat × List (Option Value) × List Value × List pME × Nat
abbrev pOut : Type := (Option Value × List pME) ⊕ (pLS ⊕ (Nat × List Value × pLS))
/-- the script: its length, its ints; and a value of the JDK's that is only carried -/
abbrev pXX : Type := Nat × (Nat → Int32) × Value
def pnx (s : pLS) : Option pOut := some (.inr (.inl s))
def cl1 : Option Value → Option Value
  | some (.long _) => none
  | some (.double _) => none
  | x => x
def mdf : List (Option Value) → Nat → List (Option Value)
  | [], _ => []
  | a :: t, 0 => cl1 a :: t
  | a :: t, n + 1 => a :: mdf t n
def pre1 (L : List (Option Value)) : Nat → List (Option Value)
  | 0 => L
  | j + 1 => mdf L j
def stL (L : List (Option Value)) (i : Nat) (v : Value) : List (Option Value) := (pre1 L i).set i (some v)
def stL2 (L : List (Option Value)) (i : Nat) (v : Value) : List (Option Value) := ((pre1 L i).set i (some v)).set (i + 1) none
def h_push (len : Nat) (v : Value) (s : pLS) : Option pOut := pnx (s.1 + len, s.2.1, v :: s.2.2.1, s.2.2.2.1, s.2.2.2.2)
def h_ild (len i : Nat) (s : pLS) : Option pOut := match s.2.1[i]? with
  | some (some (.int x)) => pnx (s.1 + len, s.2.1, .int x :: s.2.2.1, s.2.2.2.1, s.2.2.2.2)
  | _ => none
def h_ald (len i : Nat) (s : pLS) : Option pOut := match s.2.1[i]? with
  | some (some (.ref x)) => pnx (s.1 + len, s.2.1, .ref x :: s.2.2.1, s.2.2.2.1, s.2.2.2.2)
  | some (some .null) => pnx (s.1 + len, s.2.1, .null :: s.2.2.1, s.2.2.2.1, s.2.2.2.2)
  | _ => none
def h_lld (len i : Nat) (s : pLS) : Option pOut := match s.2.1[i]? with
  | some (some (.long x)) => pnx (s.1 + len, s.2.1, .long x :: s.2.2.1, s.2.2.2.1, s.2.2.2.2)
  | _ => none
def h_ist (len i : Nat) (s : pLS) : Option pOut := match s.2.2.1 with
  | .int x :: st => if i < s.2.1.length then pnx (s.1 + len, stL s.2.1 i (.int x), st, s.2.2.2.1, s.2.2.2.2) else none
  | _ => none
def h_ast (len i : Nat) (s : pLS) : Option pOut := match s.2.2.1 with
  | .ref x :: st => if i < s.2.1.length then pnx (s.1 + len, stL s.2.1 i (.ref x), st, s.2.2.2.1, s.2.2.2.2) else none
  | _ => none
def h_lst (len i : Nat) (s : pLS) : Option pOut := match s.2.2.1 with
  | .long x :: st => if i + 1 < s.2.1.length then pnx (s.1 + len, stL2 s.2.1 i (.long x), st, s.2.2.2.1, s.2.2.2.2) else none
  | _ => none
def h_inc (i : Nat) (n : Int) (s : pLS) : Option pOut := match s.2.1[i]? with
  | some (some (.int x)) => pnx (s.1 + 3, stL s.2.1 i (.int (x + Int32.ofInt n)), s.2.2.1, s.2.2.2.1, s.2.2.2.2)
  | _ => none
def h_iald (X : pXX) (s : pLS) : Option pOut := match s.2.2.1 with
  | .int i :: .ref a :: st => match s.2.2.2.1[a]? with
    | some (.inr (.inl (0, n, f))) => if i < 0 ∨ n ≤ i.toNatClampNeg then none else pnx (s.1 + 1, s.2.1, .int (f i.toNatClampNeg) :: st, s.2.2.2.1, s.2.2.2.2)
    | some _ => none
    | none => if a = 999 then (if i < 0 ∨ X.1 ≤ i.toNatClampNeg then none else pnx (s.1 + 1, s.2.1, .int (X.2.1 i.toNatClampNeg) :: st, s.2.2.2.1, s.2.2.2.2))
      else if a = 998 then (if i < 0 ∨ 7 ≤ i.toNatClampNeg then none else pnx (s.1 + 1, s.2.1, .int (([-1, 0, 0, 2, 3, 0, 1] : List Int32).getD i.toNatClampNeg 0) :: st, s.2.2.2.1, s.2.2.2.2))
      else none
  | _ => none
def h_bald (s : pLS) : Option pOut := match s.2.2.1 with
  | .int i :: .ref a :: st => match s.2.2.2.1[a]? with
    | some (.inr (.inl (1, n, f))) => if i < 0 ∨ n ≤ i.toNatClampNeg then none else pnx (s.1 + 1, s.2.1, .int (f i.toNatClampNeg) :: st, s.2.2.2.1, s.2.2.2.2)
    | some _ => none
    | none => if 2000 ≤ a ∧ a < 2012 then (if i < 0 ∨ (STB.getD (a - 2000) []).length ≤ i.toNatClampNeg then none else pnx (s.1 + 1, s.2.1, .int ((STB.getD (a - 2000) []).getD i.toNatClampNeg 0) :: st, s.2.2.2.1, s.2.2.2.2)) else none
  | _ => none
def h_aald (s : pLS) : Option pOut := match s.2.2.1 with
  | .int i :: .ref a :: st => match s.2.2.2.1[a]? with
    | some (.inr (.inr (k, n, f))) => if (i < 0 ∨ n ≤ i.toNatClampNeg) ∨ ¬ (k = 2 ∨ k = 3) then none else match f i.toNatClampNeg with
      | some b => pnx (s.1 + 1, s.2.1, .ref b :: st, s.2.2.2.1, s.2.2.2.2)
      | none => none
    | _ => none
  | _ => none
def h_iast (s : pLS) : Option pOut := match s.2.2.1 with
  | .int x :: .int i :: .ref a :: st => match s.2.2.2.1[a]? with
    | some (.inr (.inl (0, n, f))) => if i < 0 ∨ n ≤ i.toNatClampNeg then none else pnx (s.1 + 1, s.2.1, st, s.2.2.2.1.set a (.inr (.inl (0, n, upd f i.toNatClampNeg x))), s.2.2.2.2)
    | _ => none
  | _ => none
def h_bast (s : pLS) : Option pOut := match s.2.2.1 with
  | .int x :: .int i :: .ref a :: st => match s.2.2.2.1[a]? with
    | some (.inr (.inl (1, n, f))) => if i < 0 ∨ n ≤ i.toNatClampNeg then none else pnx (s.1 + 1, s.2.1, st, s.2.2.2.1.set a (.inr (.inl (1, n, upd f i.toNatClampNeg (vp_nar .byte x)))), s.2.2.2.2)
    | _ => none
  | _ => none
/-- the class of a row of references of a kind -/
def rkC : Nat → Nat
  | 2 => 0
  | _ => 1
def h_aast (s : pLS) : Option pOut := match s.2.2.1 with
  | .ref v :: .int i :: .ref a :: st => match s.2.2.2.1[a]? with
    | some (.inr (.inr (k, n, f))) => if (i < 0 ∨ n ≤ i.toNatClampNeg) ∨ ¬ (k = 2 ∨ k = 3) then none else match s.2.2.2.1[v]? with
      | some (.inl (ci, _)) => if ci = rkC k then pnx (s.1 + 1, s.2.1, st, s.2.2.2.1.set a (.inr (.inr (k, n, va_up f i.toNatClampNeg (some v)))), s.2.2.2.2) else none
      | _ => none
    | _ => none
  | _ => none
def h_alen (X : pXX) (s : pLS) : Option pOut := match s.2.2.1 with
  | .ref a :: st => match s.2.2.2.1[a]? with
    | some (.inr (.inl (k, n, _))) => if k = 0 ∨ k = 1 then pnx (s.1 + 1, s.2.1, .int (Int32.ofNat n) :: st, s.2.2.2.1, s.2.2.2.2) else none
    | some _ => none
    | none => if a = 999 then pnx (s.1 + 1, s.2.1, .int (Int32.ofNat X.1) :: st, s.2.2.2.1, s.2.2.2.2)
      else if 2000 ≤ a ∧ a < 2012 then pnx (s.1 + 1, s.2.1, .int (Int32.ofNat (STB.getD (a - 2000) []).length) :: st, s.2.2.2.1, s.2.2.2.2) else none
  | _ => none
def h_dup (s : pLS) : Option pOut := match s.2.2.1 with
  | v :: st => if v.category = 1 then pnx (s.1 + 1, s.2.1, v :: v :: st, s.2.2.2.1, s.2.2.2.2) else none
  | _ => none
def h_dup2 (s : pLS) : Option pOut := match s.2.2.1 with
  | v :: w :: st => if v.category = 1 ∧ w.category = 1 then pnx (s.1 + 1, s.2.1, v :: w :: v :: w :: st, s.2.2.2.1, s.2.2.2.2) else none
  | _ => none
def h_pop (s : pLS) : Option pOut := match s.2.2.1 with
  | v :: st => if v.category = 1 then pnx (s.1 + 1, s.2.1, st, s.2.2.2.1, s.2.2.2.2) else none
  | _ => none
def h_ii (f : Int32 → Int32 → Int32) (s : pLS) : Option pOut := match s.2.2.1 with
  | .int y :: .int x :: st => pnx (s.1 + 1, s.2.1, .int (f x y) :: st, s.2.2.2.1, s.2.2.2.2)
  | _ => none
def h_iiz (f : Int32 → Int32 → Int32) (s : pLS) : Option pOut := match s.2.2.1 with
  | .int y :: .int x :: st => if y = 0 then none else pnx (s.1 + 1, s.2.1, .int (f x y) :: st, s.2.2.2.1, s.2.2.2.2)
  | _ => none
def h_i (f : Int32 → Value) (s : pLS) : Option pOut := match s.2.2.1 with
  | .int x :: st => pnx (s.1 + 1, s.2.1, f x :: st, s.2.2.2.1, s.2.2.2.2)
  | _ => none
def h_ll (f : Int64 → Int64 → Value) (s : pLS) : Option pOut := match s.2.2.1 with
  | .long y :: .long x :: st => pnx (s.1 + 1, s.2.1, f x y :: st, s.2.2.2.1, s.2.2.2.2)
  | _ => none
def h_l (f : Int64 → Value) (s : pLS) : Option pOut := match s.2.2.1 with
  | .long x :: st => pnx (s.1 + 1, s.2.1, f x :: st, s.2.2.2.1, s.2.2.2.2)
  | _ => none
def ptgt (pc : Nat) (off : Int) : Nat := ((pc : Int) + off).toNat
def pcmp (c : Jvm.ClassFile.Cond) (x y : Int32) : Prop := match c with
  | .eq => x = y
  | .ne => ¬ x = y
  | .lt => x < y
  | .ge => y ≤ x
  | .gt => y < x
  | .le => x ≤ y
noncomputable def h_if (c : Jvm.ClassFile.Cond) (off : Int) (s : pLS) : Option pOut := match s.2.2.1 with
  | .int x :: st => if 0 ≤ (s.1 : Int) + off then pnx (@ite _ (pcmp c x 0) (Classical.propDecidable _) (ptgt s.1 off) (s.1 + 3), s.2.1, st, s.2.2.2.1, s.2.2.2.2) else none
  | _ => none
noncomputable def h_ic (c : Jvm.ClassFile.Cond) (off : Int) (s : pLS) : Option pOut := match s.2.2.1 with
  | .int y :: .int x :: st => if 0 ≤ (s.1 : Int) + off then pnx (@ite _ (pcmp c x y) (Classical.propDecidable _) (ptgt s.1 off) (s.1 + 3), s.2.1, st, s.2.2.2.1, s.2.2.2.2) else none
  | _ => none
def h_goto (off : Int) (s : pLS) : Option pOut := if 0 ≤ (s.1 : Int) + off then pnx (ptgt s.1 off, s.2) else none
def h_ts (dflt lo hi : Int) (offs : Array Int) (s : pLS) : Option pOut := match s.2.2.1 with
  | .int x :: st => if x.toInt < lo ∨ hi < x.toInt then (if 0 ≤ (s.1 : Int) + dflt then pnx (ptgt s.1 dflt, s.2.1, st, s.2.2.2.1, s.2.2.2.2) else none)
    else match offs[(x.toInt - lo).toNat]? with
      | some off => if 0 ≤ (s.1 : Int) + off then pnx (ptgt s.1 off, s.2.1, st, s.2.2.2.1, s.2.2.2.2) else none
      | none => none
  | _ => none
def h_lk (dflt : Int) (ps : Array (Int × Int)) (s : pLS) : Option pOut := match s.2.2.1 with
  | .int x :: st => if (ps.toList.zip (ps.toList.drop 1)).all (fun (a, next) => a.1 < next.1) = true then
      (if 0 ≤ (s.1 : Int) + Op.lookupswitch.offset ps.toList dflt x.toInt then pnx (ptgt s.1 (Op.lookupswitch.offset ps.toList dflt x.toInt), s.2.1, st, s.2.2.2.1, s.2.2.2.2) else none) else none
  | _ => none
def h_get (ci k : Nat) (s : pLS) : Option pOut := match s.2.2.1 with
  | .ref a :: st => match s.2.2.2.1[a]? with
    | some (.inl (c, fs)) => if c = ci then match fs[k]? with
      | some v => pnx (s.1 + 3, s.2.1, v :: st, s.2.2.2.1, s.2.2.2.2)
      | none => none
      else none
    | some _ => none
    | none => if ci = 100 ∧ 1000 ≤ a ∧ a < 1012 then (if k = 0 then pnx (s.1 + 3, s.2.1, .ref (a + 1000) :: st, s.2.2.2.1, s.2.2.2.2) else pnx (s.1 + 3, s.2.1, .int 0 :: st, s.2.2.2.1, s.2.2.2.2)) else none
  | _ => none
def h_put (y ci k : Nat) (s : pLS) : Option pOut := match s.2.2.1 with
  | v :: .ref a :: st => match s.2.2.2.1[a]? with
    | some (.inl (c, fs)) => if c = ci ∧ k < fs.length ∧ narrow (cY ci k) v = v ∧ fits (cY ci k) v = true ∧ ((cF ci k).2.2.2 = false ∨ ((mi y).2.1 = "<init>" ∧ yO y = ci)) then pnx (s.1 + 3, s.2.1, st, s.2.2.2.1.set a (.inl (c, fs.set k v)), s.2.2.2.2) else none
    | _ => none
  | _ => none
def pdfl : FieldType → Value
  | .long => .long 0
  | .object _ => .null
  | .array _ => .null
  | _ => .int 0
def h_new (lim ci : Nat) (s : pLS) : Option pOut := if s.2.2.2.2 + 1 ≤ lim ∧ s.2.2.2.1.length + 1 ≤ 900 then pnx (s.1 + 3, s.2.1, .ref s.2.2.2.1.length :: s.2.2.1, s.2.2.2.1 ++ [.inl (ci, (List.range (cN ci)).map (fun j => pdfl (cY ci j)))], s.2.2.2.2 + 1) else none
def h_newa (lim k : Nat) (s : pLS) : Option pOut := match s.2.2.1 with
  | .int n :: st => if s.2.2.2.2 + 1 ≤ lim ∧ s.2.2.2.1.length + 1 ≤ 900 ∧ ¬ n < 0 ∧ n.toNatClampNeg ≤ 200 then pnx (s.1 + 2, s.2.1, .ref s.2.2.2.1.length :: st, s.2.2.2.1 ++ [.inr (.inl (k, n.toNatClampNeg, fun _ => 0))], s.2.2.2.2 + 1) else none
  | _ => none
def h_newq (lim k : Nat) (s : pLS) : Option pOut := match s.2.2.1 with
  | .int n :: st => if s.2.2.2.2 + 1 ≤ lim ∧ s.2.2.2.1.length + 1 ≤ 900 ∧ ¬ n < 0 ∧ n.toNatClampNeg ≤ 200 then pnx (s.1 + 3, s.2.1, .ref s.2.2.2.1.length :: st, s.2.2.2.1 ++ [.inr (.inr (k, n.toNatClampNeg, fun _ => none))], s.2.2.2.2 + 1) else none
  | _ => none
def pcats (st : List Value) : Nat := (st.map fun v => v.category).sum
def h_call (y : Nat) (as rest : List Value) (lim : Nat) (s : pLS) : Option pOut := if pcats rest ≤ 8 ∧ s.2.2.2.2 + yU y ≤ lim then some (.inr (.inr (y, as, (s.1 + 3, s.2.1, rest, s.2.2.2.1, s.2.2.2.2 + yU y)))) else none
/-- is there an object of this owner at a? -/
def prcv (mem : List pME) (o a : Nat) : Prop := match mem[a]? with
  | some (.inl (c, _)) => c = o ∧ o < 6
  | some _ => False
  | none => o = 8 ∧ 1000 ≤ a ∧ a < 1012
noncomputable def h_virt (lim y : Nat) (s : pLS) : Option pOut := if (s.2.2.1.take (yA y)).length = yA y then match s.2.2.1.drop (yA y) with
    | .ref b :: rest => @ite _ (prcv s.2.2.2.1 (yO y) b) (Classical.propDecidable _) (h_call y (.ref b :: (s.2.2.1.take (yA y)).reverse) rest lim s) none
    | _ => none
  else none
def h_stat (lim y : Nat) (s : pLS) : Option pOut := if (s.2.2.1.take (yA y)).length = yA y then h_call y (s.2.2.1.take (yA y)).reverse (s.2.2.1.drop (yA y)) lim s else none
def h_init (lim y : Nat) (s : pLS) : Option pOut := if (s.2.2.1.take (yA y)).length = yA y then match s.2.2.1.drop (yA y) with
    | .ref b :: rest => h_call y (.ref b :: (s.2.2.1.take (yA y)).reverse) rest lim s
    | _ => none
  else none
def h_obj (d : Nat) (s : pLS) : Option pOut := match s.2.2.1 with
  | .ref _ :: rest => if pcats rest ≤ 8 ∧ 1 ≤ d then pnx (s.1 + 3, s.2.1, rest, s.2.2.2.1, s.2.2.2.2) else none
  | _ => none
def h_copy (d : Nat) (s : pLS) : Option pOut := match s.2.2.1 with
  | .int n :: .int dp :: .ref b :: .int sp :: .ref a :: rest => match s.2.2.2.1[a]?, s.2.2.2.1[b]? with
    | some (.inr (.inl (0, n0, f))), some (.inr (.inl (0, n1, g))) => if (¬ sp < 0 ∧ ¬ dp < 0 ∧ ¬ n < 0 ∧ sp.toNatClampNeg + n.toNatClampNeg ≤ n0 ∧ dp.toNatClampNeg + n.toNatClampNeg ≤ n1) ∧ pcats rest ≤ 8 ∧ 1 ≤ d then pnx (s.1 + 3, s.2.1, rest, s.2.2.2.1.set b (.inr (.inl (0, n1, va_cpy f g sp.toNatClampNeg dp.toNatClampNeg n.toNatClampNeg))), s.2.2.2.2) else none
    | _, _ => none
  | _ => none
def h_mm (d : Nat) (f : Int32 → Int32 → Int32) (s : pLS) : Option pOut := match s.2.2.1 with
  | .int z :: .int x :: rest => if pcats rest ≤ 8 ∧ 1 ≤ d then pnx (s.1 + 3, s.2.1, .int (f x z) :: rest, s.2.2.2.1, s.2.2.2.2) else none
  | _ => none
def h_ret (y lim : Nat) (s : pLS) : Option pOut := if s.2.2.2.2 ≠ lim then none else match s.2.2.1, yR y with
  | [.int v], some ty => if narrow ty (.int v) = .int v ∧ (ty = .int ∨ ty = .boolean ∨ ty = .byte ∨ ty = .char) then some (.inl (some (.int v), s.2.2.2.1)) else none
  | _, _ => none
def h_lret (y lim : Nat) (s : pLS) : Option pOut := if s.2.2.2.2 ≠ lim then none else match s.2.2.1, yR y with
  | [.long v], some ty => if ty = .long then some (.inl (some (.long v), s.2.2.2.1)) else none
  | _, _ => none
def h_aret (y lim : Nat) (s : pLS) : Option pOut := if s.2.2.2.2 ≠ lim then none else match s.2.2.1, yR y with
  | [.ref v], some (.object _) => some (.inl (some (.ref v), s.2.2.2.1))
  | _, _ => none
def h_vret (y lim : Nat) (s : pLS) : Option pOut := if s.2.2.2.2 ≠ lim then none else match s.2.2.1, yR y with
  | [], none => some (.inl (none, s.2.2.2.1))
  | _, _ => none
def pflt (o ix : Nat) : Option (Nat × Nat) := (FLT.find? (fun e => e.1 == o && e.2.1 == ix)).map (fun e => (e.2.2.1, e.2.2.2.1))
def pclt (o ix : Nat) : Option (Nat × Nat) := (CLT.find? (fun e => e.1 == o && e.2.1 == ix)).map (fun e => (e.2.2.1, e.2.2.2.1))
def pkit (o ix : Nat) : Option Int32 := (KIT.find? (fun e => e.1 == o && e.2.1 == ix)).map (fun e => e.2.2.1)
def pklo (o ix : Nat) : Option Int64 := (KLO.find? (fun e => e.1 == o && e.2.1 == ix)).map (fun e => e.2.2.1)
def psti (o ix : Nat) : Option Nat := if o = 2 then STT.findIdx? (fun e => e.1 == ix) else none
def pntt (o ix : Nat) : Option Nat := (NTT.find? (fun e => e.1 == o && e.2.1 == ix)).map (fun e => e.2.2.1)
def pgst (o ix : Nat) : Option Nat := (GST.find? (fun e => e.1 == o && e.2.1 == ix)).map (fun e => e.2.2.1)
/-- one step of method y: with room for d frames and lim cells -/
noncomputable def pstp (X : pXX) (d y lim : Nat) (i : Except DecodeError (Instr × Nat)) (s : pLS) : Option pOut := match i with
  | .ok (.iconst n, 1) => h_push 1 (.int (Int32.ofInt n)) s
  | .ok (.bipush n, 2) => h_push 2 (.int (Int8.ofInt n).toInt32) s
  | .ok (.sipush n, 3) => h_push 3 (.int (Int16.ofInt n).toInt32) s
  | .ok (.lconst n, 1) => h_push 1 (.long (Int64.ofNat n)) s
  | .ok (.ldc k, 2) => match pkit (yO y) k with
    | some v => h_push 2 (.int v) s
    | none => match psti (yO y) k with
      | some j => h_push 2 (.ref (1000 + j)) s
      | none => none
  | .ok (.ldc_w k, 3) => match pkit (yO y) k with
    | some v => h_push 3 (.int v) s
    | none => none
  | .ok (.ldc2_w k, 3) => match pklo (yO y) k with
    | some v => h_push 3 (.long v) s
    | none => none
  | .ok (.iload_n k, 1) => h_ild 1 k s
  | .ok (.iload k, 2) => h_ild 2 k s
  | .ok (.aload_n k, 1) => h_ald 1 k s
  | .ok (.aload k, 2) => h_ald 2 k s
  | .ok (.lload_n k, 1) => h_lld 1 k s
  | .ok (.lload k, 2) => h_lld 2 k s
  | .ok (.istore_n k, 1) => h_ist 1 k s
  | .ok (.istore k, 2) => h_ist 2 k s
  | .ok (.astore_n k, 1) => h_ast 1 k s
  | .ok (.astore k, 2) => h_ast 2 k s
  | .ok (.lstore_n k, 1) => h_lst 1 k s
  | .ok (.lstore k, 2) => h_lst 2 k s
  | .ok (.iinc k n, 3) => h_inc k n s
  | .ok (.iaload, 1) => h_iald X s
  | .ok (.baload, 1) => h_bald s
  | .ok (.aaload, 1) => h_aald s
  | .ok (.iastore, 1) => h_iast s
  | .ok (.bastore, 1) => h_bast s
  | .ok (.aastore, 1) => h_aast s
  | .ok (.arraylength, 1) => h_alen X s
  | .ok (.dup, 1) => h_dup s
  | .ok (.dup2, 1) => h_dup2 s
  | .ok (.pop, 1) => h_pop s
  | .ok (.iadd, 1) => h_ii (fun x y => x + y) s
  | .ok (.isub, 1) => h_ii (fun x y => x - y) s
  | .ok (.imul, 1) => h_ii (fun x y => x * y) s
  | .ok (.iand, 1) => h_ii (fun x y => x &&& y) s
  | .ok (.ior, 1) => h_ii (fun x y => x ||| y) s
  | .ok (.ishl, 1) => h_ii (fun x y => x <<< (y &&& 31)) s
  | .ok (.ishr, 1) => h_ii (fun x y => x >>> (y &&& 31)) s
  | .ok (.iushr, 1) => h_ii (fun x y => (x.toUInt32 >>> (y.toUInt32 &&& Int32.toUInt32 31)).toInt32) s
  | .ok (.idiv, 1) => h_iiz (fun x y => x / y) s
  | .ok (.irem, 1) => h_iiz (fun x y => x - x / y * y) s
  | .ok (.ineg, 1) => h_i (fun x => .int (-x)) s
  | .ok (.i2l, 1) => h_i (fun x => .long x.toInt64) s
  | .ok (.i2b, 1) => h_i (fun x => .int x.toInt8.toInt32) s
  | .ok (.i2s, 1) => h_i (fun x => .int x.toInt16.toInt32) s
  | .ok (.i2c, 1) => h_i (fun x => .int (x.toUInt32 % 65536).toInt32) s
  | .ok (.l2i, 1) => h_l (fun x => .int x.toInt32) s
  | .ok (.ladd, 1) => h_ll (fun x y => .long (x + y)) s
  | .ok (.lsub, 1) => h_ll (fun x y => .long (x - y)) s
  | .ok (.lmul, 1) => h_ll (fun x y => .long (x * y)) s
  | .ok (.lcmp, 1) => h_ll (fun x y => .int (lg_cmp x y)) s
  | .ok (.ifCond c off, 3) => h_if c off s
  | .ok (.if_icmp c off, 3) => h_ic c off s
  | .ok (.goto off, 3) => h_goto off s
  | .ok (.tableswitch dflt lo hi offs, _) => h_ts dflt lo hi offs s
  | .ok (.lookupswitch dflt ps, _) => h_lk dflt ps s
  | .ok (.getfield k, 3) => match pflt (yO y) k with
    | some (ci, f) => h_get ci f s
    | none => none
  | .ok (.putfield k, 3) => match pflt (yO y) k with
    | some (ci, f) => if ci < 6 then h_put y ci f s else none
    | none => none
  | .ok (.getstatic k, 3) => match pgst (yO y) k with
    | some 0 => h_push 3 (.ref 998) s
    | some 1 => h_push 3 (.int 1) s
    | some 2 => h_push 3 X.2.2 s
    | _ => none
  | .ok (.invokevirtual k, 3) => match pclt (yO y) k with
    | some (0, y2) => h_virt lim y2 s
    | _ => none
  | .ok (.invokestatic k, 3) => match pclt (yO y) k with
    | some (1, y2) => h_stat lim y2 s
    | some (2, y2) => h_stat lim y2 s
    | some (6, _) => h_copy d s
    | some (7, _) => h_mm d (fun x z => if x < z then z else x) s
    | some (8, _) => h_mm d (fun x z => if z < x then z else x) s
    | _ => none
  | .ok (.invokespecial k, 3) => match pclt (yO y) k with
    | some (3, y2) => h_init lim y2 s
    | some (4, y2) => h_init lim y2 s
    | some (5, _) => h_obj d s
    | _ => none
  | .ok (.new k, 3) => match pntt (yO y) k with
    | some ci => h_new lim ci s
    | none => none
  | .ok (.newarray .int, 2) => h_newa lim 0 s
  | .ok (.newarray .byte, 2) => h_newa lim 1 s
  | .ok (.anewarray k, 3) => match pntt (yO y) k with
    | some 0 => h_newq lim 2 s
    | some 1 => h_newq lim 3 s
    | _ => none
  | .ok (.ireturn, 1) => h_ret y lim s
  | .ok (.lreturn, 1) => h_lret y lim s
  | .ok (.areturn, 1) => h_aret y lim s
  | .ok (.return_, 1) => h_vret y lim s
  | _ => none
/-- the state in which a call comes pback -/
def pback (s : pLS) (r : Option Value) (mem : List pME) : pLS := (s.1, s.2.1, r.toList ++ s.2.2.1, mem, s.2.2.2.2)
/-- what must hold at s, so that P holds behind one step (C: what a call gives) -/
noncomputable def wpS (C : Nat → List Value → List pME → (Option Value → List pME → Prop) → Prop) (X : pXX) (d y lim : Nat) (Q : Option Value → List pME → Prop) (P : pLS → Prop) (s : pLS) : Prop := match pstp X d y lim (decode (yB y) s.1) s with
  | none => False
  | some (.inl r) => Q r.1 r.2
  | some (.inr (.inl t)) => P t
  | some (.inr (.inr (y2, as, t))) => C y2 as t.2.2.2.1 (fun r m => P (pback t r m))
/-- the least such: from s the method comes to its end, with Q -/
def pE (C : Nat → List Value → List pME → (Option Value → List pME → Prop) → Prop) (X : pXX) (d y lim : Nat) (Q : Option Value → List pME → Prop) (s : pLS) : Prop := ∀ P : pLS → Prop, (∀ t, wpS C X d y lim Q P t → P t) → P s
def pentL : List Value → List (Option Value)
  | [] => []
  | v :: vs => if v.category = 2 then some v :: none :: pentL vs else some v :: pentL vs
def pent (y : Nat) (as : List Value) : List (Option Value) := pentL as ++ List.replicate (yL y - (pentL as).length) none
/-- a call of method y, with room for d frames -/
def Cw (X : pXX) : Nat → Nat → List Value → List pME → (Option Value → List pME → Prop) → Prop
  | 0, _, _, _, _ => False
  | d + 1, y, as, mem, K => (pentL as).length ≤ yL y ∧ y < nM ∧ pE (Cw X d) X d y (yU y) K (0, pent y as, [], mem, 0)

/-! ===== pure values: 0 int, 1 long, 2 float, 3 double, then: unset, null, the script, a place ===== -/
abbrev PV : Type := Int ⊕ (Int ⊕ (UInt32 ⊕ (UInt64 ⊕ Option (Option (Option Nat)))))
def pI (x : Int) : PV := Sum.inl x
def pL (x : Int) : PV := Sum.inr (Sum.inl x)
def pF (x : UInt32) : PV := Sum.inr (Sum.inr (Sum.inl x))
def pD (x : UInt64) : PV := Sum.inr (Sum.inr (Sum.inr (Sum.inl x)))
def pU : PV := Sum.inr (Sum.inr (Sum.inr (Sum.inr none)))
def pN : PV := Sum.inr (Sum.inr (Sum.inr (Sum.inr (some none))))
def pS : PV := Sum.inr (Sum.inr (Sum.inr (Sum.inr (some (some none)))))
def pR (p : Nat) : PV := Sum.inr (Sum.inr (Sum.inr (Sum.inr (some (some (some p))))))
def wide (v : PV) : Bool := match v with
  | Sum.inr (Sum.inl _) => true
  | Sum.inr (Sum.inr (Sum.inr (Sum.inl _))) => true
  | _ => false
def nw (v : PV) : PV := match wide v with
  | true => pU
  | false => v
theorem wide_I (x : Int) : wide (pI x) = false := rfl
theorem wide_L (x : Int) : wide (pL x) = true := rfl
theorem wide_F (x : UInt32) : wide (pF x) = false := rfl
theorem wide_D (x : UInt64) : wide (pD x) = true := rfl
theorem wide_U : wide pU = false := rfl
theorem wide_R (p : Nat) : wide (pR p) = false := rfl
theorem wide_S : wide pS = false := rfl
theorem nw_I (x : Int) : nw (pI x) = pI x := rfl
theorem nw_L (x : Int) : nw (pL x) = pU := rfl
theorem nw_F (x : UInt32) : nw (pF x) = pF x := rfl
theorem nw_D (x : UInt64) : nw (pD x) = pU := rfl
theorem nw_U : nw pU = pU := rfl
theorem nw_R (p : Nat) : nw (pR p) = pR p := rfl
theorem nw_S : nw pS = pS := rfl
theorem pI_inj {x y : Int} : (pI x = pI y) = (x = y) := propext ⟨fun h => Sum.inl.inj h, fun h => by rw [h]⟩
theorem pL_inj {x y : Int} : (pL x = pL y) = (x = y) := propext ⟨fun h => Sum.inl.inj (Sum.inr.inj h), fun h => by rw [h]⟩
/-! a cell: an object (class number, fields) or an array (kind, length, contents) -/
abbrev Cl : Type := (Nat × List PV) ⊕ (Nat × Int × ((Int → Int) ⊕ ((Int → UInt64) ⊕ (Int → Option Nat))))
def cO (ci : Nat) (fs : List PV) : Cl := Sum.inl (ci, fs)
def cI (k : Nat) (n : Int) (f : Int → Int) : Cl := Sum.inr (k, n, Sum.inl f)
def cD (n : Int) (f : Int → UInt64) : Cl := Sum.inr (4, n, Sum.inr (Sum.inl f))
def cR (k : Nat) (n : Int) (f : Int → Option Nat) : Cl := Sum.inr (k, n, Sum.inr (Sum.inr f))
/-! the heap: cells by place, the script; how many cells and slots there are -/
abbrev Hp : Type := ((Nat → Option Cl) × (Int × (Int → Int))) × (Nat × Nat)
def hg (h : Hp) (p : Nat) : Option Cl := h.1.1 p
def hu (h : Hp) (p : Nat) (c : Cl) : Hp := ((fun q => if q = p then some c else h.1.1 q, h.1.2), h.2)
def hn (h : Hp) (c : Cl) (k : Nat) : Hp := ((fun q => if q = h.2.1 then some c else h.1.1 q, h.1.2), (h.2.1 + 1, h.2.2 + k))
theorem hg_hu (h : Hp) (p : Nat) (c : Cl) (q : Nat) : hg (hu h p c) q = if q = p then some c else hg h q := rfl
theorem hg_same (h : Hp) (p : Nat) (c : Cl) : hg (hu h p c) p = some c := if_pos rfl
theorem hg_ne (h : Hp) (p : Nat) (c : Cl) (q : Nat) (hq : q ≠ p) : hg (hu h p c) q = hg h q := if_neg hq
theorem hu_2 (h : Hp) (p : Nat) (c : Cl) : (hu h p c).2 = h.2 := rfl
theorem hu_12 (h : Hp) (p : Nat) (c : Cl) : (hu h p c).1.2 = h.1.2 := rfl
theorem hu_hu (h : Hp) (p : Nat) (c d : Cl) : hu (hu h p c) p d = hu h p d := by
  unfold hu
  congr 2
  funext q
  by_cases hq : q = p
  · rw [if_pos hq, if_pos hq]
  · rw [if_neg hq, if_neg hq]
    show (if q = p then some c else h.1.1 q) = h.1.1 q
    rw [if_neg hq]
def up {α : Type} (f : Int → α) (i : Int) (x : α) : Int → α := fun j => if j = i then x else f j
theorem up_same {α : Type} (f : Int → α) (i : Int) (x : α) : up f i x i = x := if_pos rfl
theorem up_ne {α : Type} (f : Int → α) (i : Int) (x : α) (j : Int) (hj : j ≠ i) : up f i x j = f j := if_neg hj
def fgo (c : Option Cl) (ci k : Nat) : Option PV := match c with
  | some (Sum.inl (cj, fs)) => if cj = ci then fs[k]? else none
  | _ => none
def fso (c : Option Cl) (ci k : Nat) (v : PV) : Option Cl := match c with
  | some (Sum.inl (cj, fs)) => if cj = ci then (fs[k]?).map (fun _ => cO ci (fs.set k v)) else none
  | _ => none
def alo (c : Option Cl) (k : Nat) : Option (Int × (Int → Int)) := match c with
  | some (Sum.inr (kj, n, Sum.inl f)) => if kj = k then some (n, f) else none
  | _ => none
def ado (c : Option Cl) : Option (Int × (Int → UInt64)) := match c with
  | some (Sum.inr (kj, n, Sum.inr (Sum.inl f))) => if kj = 4 then some (n, f) else none
  | _ => none
def aro (c : Option Cl) : Option (Nat × Int × (Int → Option Nat)) := match c with
  | some (Sum.inr (kj, n, Sum.inr (Sum.inr f))) => some (kj, n, f)
  | _ => none
def ano (c : Option Cl) : Option Int := match c with
  | some (Sum.inr (_, n, _)) => some n
  | _ => none
theorem fgo_cO (ci k : Nat) (fs : List PV) : fgo (some (cO ci fs)) ci k = fs[k]? := if_pos rfl
theorem fso_cO (ci k : Nat) (fs : List PV) (v : PV) : fso (some (cO ci fs)) ci k v = (fs[k]?).map (fun _ => cO ci (fs.set k v)) := if_pos rfl
theorem alo_cI (k : Nat) (n : Int) (f : Int → Int) : alo (some (cI k n f)) k = some (n, f) := if_pos rfl
theorem ado_cD (n : Int) (f : Int → UInt64) : ado (some (cD n f)) = some (n, f) := rfl
theorem aro_cR (k : Nat) (n : Int) (f : Int → Option Nat) : aro (some (cR k n f)) = some (k, n, f) := rfl
theorem ano_cI (k : Nat) (n : Int) (f : Int → Int) : ano (some (cI k n f)) = some n := rfl
theorem ano_cD (n : Int) (f : Int → UInt64) : ano (some (cD n f)) = some n := rfl
/-! locals -/
def lst : List PV → Nat → PV → List PV
  | [], _, _ => []
  | _ :: l, 0, v => v :: l
  | [a], 1, _ => [nw a]
  | [a], _ + 2, _ => [a]
  | a :: _ :: l, 1, v => nw a :: v :: l
  | a :: b :: l, k + 2, v => a :: lst (b :: l) (k + 1) v
def spr : List PV → List PV
  | [] => []
  | v :: l => match wide v with
    | true => v :: pU :: spr l
    | false => v :: spr l
def ent (n : Nat) (a : List PV) : List PV := spr a ++ List.replicate (n - (spr a).length) pU
/-! whole numbers -/
def inr (x : Int) : Prop := -2147483648 ≤ x ∧ x ≤ 2147483647
def inq (x : Int) : Prop := -9223372036854775808 ≤ x ∧ x ≤ 9223372036854775807
def iAnd (x y : Int) : Int := (Int32.ofInt x &&& Int32.ofInt y).toInt
def iOr (x y : Int) : Int := (Int32.ofInt x ||| Int32.ofInt y).toInt
def iXor (x y : Int) : Int := (Int32.ofInt x ^^^ Int32.ofInt y).toInt
def iShl (x y : Int) : Int := (Int32.ofInt x <<< (Int32.ofInt y &&& 31)).toInt
def iShr (x y : Int) : Int := (Int32.ofInt x >>> (Int32.ofInt y &&& 31)).toInt
def lOr (x y : Int) : Int := (Int64.ofInt x ||| Int64.ofInt y).toInt
def lAnd (x y : Int) : Int := (Int64.ofInt x &&& Int64.ofInt y).toInt
def lShl (x y : Int) : Int := (Int64.ofInt x <<< ((Int32.ofInt y).toInt64 &&& 63)).toInt
def lShr (x y : Int) : Int := (Int64.ofInt x >>> ((Int32.ofInt y).toInt64 &&& 63)).toInt
def tI (x : Int) : Int := (Int64.ofInt x).toInt32.toInt
def tB (x : Int) : Int := ((Int32.ofInt x).toInt8.toInt32).toInt
def c3 (x y : Int) : Int := if x < y then -1 else if x = y then 0 else 1
def cop (n : Nat) : CmpOp := match n with
  | 0 => CmpOp.l
  | _ => CmpOp.g
def cpy (f g : Int → Int) (sp dp n : Int) : Int → Int := fun j => if dp ≤ j ∧ j < dp + n then f (sp + (j - dp)) else g j
/-- few values stay on the stack under a call -/
def cats : List PV → Nat
  | [] => 0
  | v :: l => (match wide v with
    | true => 2
    | false => 1) + cats l
def sk4 (st : List PV) : Prop := cats st ≤ 8
abbrev Ins : Type := Nat × Nat × Int × List Nat
abbrev Sem : Type := Nat → Int → List Nat → Nat × Nat → List PV → List PV → Hp → Option (Prop × List PV × List PV × Hp)
def s_iconst : Sem := fun n z _ _ ls st h => some (True, ls, pI z :: st, h)
def s_bipush : Sem := fun n z _ _ ls st h => some (True, ls, pI z :: st, h)
def s_sipush : Sem := fun n z _ _ ls st h => some (True, ls, pI z :: st, h)
def s_ldc : Sem := fun n z _ _ ls st h => some (True, ls, pI z :: st, h)
def s_lconst : Sem := fun n z _ _ ls st h => some (True, ls, pL z :: st, h)
def s_ldc2l : Sem := fun n z _ _ ls st h => some (True, ls, pL z :: st, h)
def s_dconst : Sem := fun n z _ _ ls st h => some (True, ls, pD (if z = 0 then FP.dconst0 else FP.dconst1) :: st, h)
def s_ldc2d : Sem := fun n z _ _ ls st h => some (True, ls, pD (UInt64.ofNat z.toNat) :: st, h)
def s_ldcf : Sem := fun n z _ _ ls st h => some (True, ls, pF (UInt32.ofNat z.toNat) :: st, h)
def s_iadd : Sem := fun n z _ _ ls st h => match st with
  | Sum.inl y :: Sum.inl x :: st => some (True, ls, pI (x + y) :: st, h)
  | _ => none
def s_isub : Sem := fun n z _ _ ls st h => match st with
  | Sum.inl y :: Sum.inl x :: st => some (True, ls, pI (x - y) :: st, h)
  | _ => none
def s_imul : Sem := fun n z _ _ ls st h => match st with
  | Sum.inl y :: Sum.inl x :: st => some (True, ls, pI (x * y) :: st, h)
  | _ => none
def s_idiv : Sem := fun n z _ _ ls st h => match st with
  | Sum.inl y :: Sum.inl x :: st => some ((0 ≤ x ∧ x ≤ 2147483647) ∧ (0 < y ∧ y ≤ 2147483647), ls, pI (x / y) :: st, h)
  | _ => none
def s_irem : Sem := fun n z _ _ ls st h => match st with
  | Sum.inl y :: Sum.inl x :: st => some ((0 ≤ x ∧ x ≤ 2147483647) ∧ (0 < y ∧ y ≤ 2147483647), ls, pI (x % y) :: st, h)
  | _ => none
def s_ishl : Sem := fun n z _ _ ls st h => match st with
  | Sum.inl y :: Sum.inl x :: st => some (True, ls, pI (iShl x y) :: st, h)
  | _ => none
def s_ishr : Sem := fun n z _ _ ls st h => match st with
  | Sum.inl y :: Sum.inl x :: st => some (True, ls, pI (iShr x y) :: st, h)
  | _ => none
def s_iand : Sem := fun n z _ _ ls st h => match st with
  | Sum.inl y :: Sum.inl x :: st => some (True, ls, pI (iAnd x y) :: st, h)
  | _ => none
def s_ior : Sem := fun n z _ _ ls st h => match st with
  | Sum.inl y :: Sum.inl x :: st => some (True, ls, pI (iOr x y) :: st, h)
  | _ => none
def s_ixor : Sem := fun n z _ _ ls st h => match st with
  | Sum.inl y :: Sum.inl x :: st => some (True, ls, pI (iXor x y) :: st, h)
  | _ => none
def s_ladd : Sem := fun n z _ _ ls st h => match st with
  | Sum.inr (Sum.inl y) :: Sum.inr (Sum.inl x) :: st => some (True, ls, pL (x + y) :: st, h)
  | _ => none
def s_lsub : Sem := fun n z _ _ ls st h => match st with
  | Sum.inr (Sum.inl y) :: Sum.inr (Sum.inl x) :: st => some (True, ls, pL (x - y) :: st, h)
  | _ => none
def s_lmul : Sem := fun n z _ _ ls st h => match st with
  | Sum.inr (Sum.inl y) :: Sum.inr (Sum.inl x) :: st => some (True, ls, pL (x * y) :: st, h)
  | _ => none
def s_ldiv : Sem := fun n z _ _ ls st h => match st with
  | Sum.inr (Sum.inl y) :: Sum.inr (Sum.inl x) :: st => some ((0 ≤ x ∧ x ≤ 9223372036854775807) ∧ (0 < y ∧ y ≤ 9223372036854775807), ls, pL (x / y) :: st, h)
  | _ => none
def s_lrem : Sem := fun n z _ _ ls st h => match st with
  | Sum.inr (Sum.inl y) :: Sum.inr (Sum.inl x) :: st => some ((0 ≤ x ∧ x ≤ 9223372036854775807) ∧ (0 < y ∧ y ≤ 9223372036854775807), ls, pL (x % y) :: st, h)
  | _ => none
def s_lshl : Sem := fun n z _ _ ls st h => match st with
  | Sum.inl y :: Sum.inr (Sum.inl x) :: st => some (True, ls, pL (lShl x y) :: st, h)
  | _ => none
def s_lshr : Sem := fun n z _ _ ls st h => match st with
  | Sum.inl y :: Sum.inr (Sum.inl x) :: st => some (True, ls, pL (lShr x y) :: st, h)
  | _ => none
def s_lor : Sem := fun n z _ _ ls st h => match st with
  | Sum.inr (Sum.inl y) :: Sum.inr (Sum.inl x) :: st => some (True, ls, pL (lOr x y) :: st, h)
  | _ => none
def s_land : Sem := fun n z _ _ ls st h => match st with
  | Sum.inr (Sum.inl y) :: Sum.inr (Sum.inl x) :: st => some (True, ls, pL (lAnd x y) :: st, h)
  | _ => none
def s_lcmp : Sem := fun n z _ _ ls st h => match st with
  | Sum.inr (Sum.inl y) :: Sum.inr (Sum.inl x) :: st => some (x = y ∨ (inq x ∧ inq y), ls, pI (c3 x y) :: st, h)
  | _ => none
def s_i2l : Sem := fun n z _ _ ls st h => match st with
  | Sum.inl x :: st => some (inr x, ls, pL x :: st, h)
  | _ => none
def s_l2i : Sem := fun n z _ _ ls st h => match st with
  | Sum.inr (Sum.inl x) :: st => some (True, ls, pI (tI x) :: st, h)
  | _ => none
def s_i2b : Sem := fun n z _ _ ls st h => match st with
  | Sum.inl x :: st => some (True, ls, pI (tB x) :: st, h)
  | _ => none
def s_i2f : Sem := fun n z _ _ ls st h => match st with
  | Sum.inl x :: st => some (True, ls, pF (FP.i2f (Int32.ofInt x)) :: st, h)
  | _ => none
def s_l2f : Sem := fun n z _ _ ls st h => match st with
  | Sum.inr (Sum.inl x) :: st => some (True, ls, pF (FP.l2f (Int64.ofInt x)) :: st, h)
  | _ => none
def s_l2d : Sem := fun n z _ _ ls st h => match st with
  | Sum.inr (Sum.inl x) :: st => some (True, ls, pD (FP.l2d (Int64.ofInt x)) :: st, h)
  | _ => none
def s_f2d : Sem := fun n z _ _ ls st h => match st with
  | Sum.inr (Sum.inr (Sum.inl x)) :: st => some (vf_n64 (FP.f2d x), ls, pD (FP.f2d x) :: st, h)
  | _ => none
def s_d2l : Sem := fun n z _ _ ls st h => match st with
  | Sum.inr (Sum.inr (Sum.inr (Sum.inl x))) :: st => some (True, ls, pL (FP.d2l x).toInt :: st, h)
  | _ => none
def s_fdiv : Sem := fun n z _ _ ls st h => match st with
  | Sum.inr (Sum.inr (Sum.inl y)) :: Sum.inr (Sum.inr (Sum.inl x)) :: st => some (vf_n32 (FP.fdiv x y), ls, pF (FP.fdiv x y) :: st, h)
  | _ => none
def s_dadd : Sem := fun n z _ _ ls st h => match st with
  | Sum.inr (Sum.inr (Sum.inr (Sum.inl y))) :: Sum.inr (Sum.inr (Sum.inr (Sum.inl x))) :: st => some (vf_n64 (FP.dadd x y), ls, pD (FP.dadd x y) :: st, h)
  | _ => none
def s_dsub : Sem := fun n z _ _ ls st h => match st with
  | Sum.inr (Sum.inr (Sum.inr (Sum.inl y))) :: Sum.inr (Sum.inr (Sum.inr (Sum.inl x))) :: st => some (vf_n64 (FP.dsub x y), ls, pD (FP.dsub x y) :: st, h)
  | _ => none
def s_dmul : Sem := fun n z _ _ ls st h => match st with
  | Sum.inr (Sum.inr (Sum.inr (Sum.inl y))) :: Sum.inr (Sum.inr (Sum.inr (Sum.inl x))) :: st => some (vf_n64 (FP.dmul x y), ls, pD (FP.dmul x y) :: st, h)
  | _ => none
def s_ddiv : Sem := fun n z _ _ ls st h => match st with
  | Sum.inr (Sum.inr (Sum.inr (Sum.inl y))) :: Sum.inr (Sum.inr (Sum.inr (Sum.inl x))) :: st => some (vf_n64 (FP.ddiv x y), ls, pD (FP.ddiv x y) :: st, h)
  | _ => none
def s_dcmp : Sem := fun n z _ _ ls st h => match st with
  | Sum.inr (Sum.inr (Sum.inr (Sum.inl y))) :: Sum.inr (Sum.inr (Sum.inr (Sum.inl x))) :: st => some (True, ls, pI (Op.cmpValue (FP.dcmp x y) (cop n)).toInt :: st, h)
  | _ => none
def s_fcmp : Sem := fun n z _ _ ls st h => match st with
  | Sum.inr (Sum.inr (Sum.inl y)) :: Sum.inr (Sum.inr (Sum.inl x)) :: st => some (True, ls, pI (Op.cmpValue (FP.fcmp x y) (cop n)).toInt :: st, h)
  | _ => none
def s_dup : Sem := fun n z _ _ ls st h => match st with
  | v :: st => some (wide v = false, ls, v :: v :: st, h)
  | _ => none
def s_pop : Sem := fun n z _ _ ls st h => match st with
  | v :: st => some (wide v = false, ls, st, h)
  | _ => none
def s_dup2 : Sem := fun n z _ _ ls st h => match st with
  | v :: u :: st => some (wide v = false ∧ wide u = false, ls, v :: u :: v :: u :: st, h)
  | _ => none
def s_objinit : Sem := fun n z _ _ ls st h => match st with
  | Sum.inr (Sum.inr (Sum.inr (Sum.inr (some (some (some p)))))) :: st => some (sk4 st, ls, st, h)
  | _ => none
def s_rawF : Sem := fun n z _ _ ls st h => match st with
  | Sum.inr (Sum.inr (Sum.inl x)) :: st => some (sk4 st, ls, pI x.toInt32.toInt :: st, h)
  | _ => none
def s_rawD : Sem := fun n z _ _ ls st h => match st with
  | Sum.inr (Sum.inr (Sum.inr (Sum.inl x))) :: st => some (sk4 st, ls, pL x.toInt64.toInt :: st, h)
  | _ => none
def s_iload : Sem := fun n z ks lim ls st h => match ls[n]? with
  | some (Sum.inl x) => some (True, ls, pI x :: st, h)
  | _ => none
def s_lload : Sem := fun n z ks lim ls st h => match ls[n]? with
  | some (Sum.inr (Sum.inl x)) => some (True, ls, pL x :: st, h)
  | _ => none
def s_fload : Sem := fun n z ks lim ls st h => match ls[n]? with
  | some (Sum.inr (Sum.inr (Sum.inl x))) => some (True, ls, pF x :: st, h)
  | _ => none
def s_dload : Sem := fun n z ks lim ls st h => match ls[n]? with
  | some (Sum.inr (Sum.inr (Sum.inr (Sum.inl x)))) => some (True, ls, pD x :: st, h)
  | _ => none
def s_aload : Sem := fun n z ks lim ls st h => match ls[n]? with
  | some (Sum.inr (Sum.inr (Sum.inr (Sum.inr (some (some r)))))) => some (True, ls, Sum.inr (Sum.inr (Sum.inr (Sum.inr (some (some r))))) :: st, h)
  | _ => none
def s_istore : Sem := fun n z ks lim ls st h => match st with
  | Sum.inl x :: st => some (True, lst ls n (pI x), st, h)
  | _ => none
def s_fstore : Sem := fun n z ks lim ls st h => match st with
  | Sum.inr (Sum.inr (Sum.inl x)) :: st => some (True, lst ls n (pF x), st, h)
  | _ => none
def s_lstore : Sem := fun n z ks lim ls st h => match st with
  | Sum.inr (Sum.inl x) :: st => some (True, lst (lst ls (n + 1) pU) n (pL x), st, h)
  | _ => none
def s_dstore : Sem := fun n z ks lim ls st h => match st with
  | Sum.inr (Sum.inr (Sum.inr (Sum.inl x))) :: st => some (True, lst (lst ls (n + 1) pU) n (pD x), st, h)
  | _ => none
def s_astore : Sem := fun n z ks lim ls st h => match st with
  | Sum.inr (Sum.inr (Sum.inr (Sum.inr (some (some (some p)))))) :: st => some (True, lst ls n (pR p), st, h)
  | _ => none
def s_iinc : Sem := fun n z ks lim ls st h => match ls[n]? with
  | some (Sum.inl x) => some (True, lst ls n (pI (x + z)), st, h)
  | _ => none
def s_getf : Sem := fun n z ks lim ls st h => match st, ks with
  | Sum.inr (Sum.inr (Sum.inr (Sum.inr (some (some (some p)))))) :: st, [ci, k] => (match fgo (hg h p) ci k with
    | some v => some (True, ls, v :: st, h)
    | none => none)
  | _, _ => none
def s_putf : Sem := fun n z ks lim ls st h => match st, ks with
  | v :: Sum.inr (Sum.inr (Sum.inr (Sum.inr (some (some (some p)))))) :: st, [ci, k, q] => (match (match v with | Sum.inl _ => q = 0 | Sum.inr (Sum.inl _) => q = 1 | Sum.inr (Sum.inr (Sum.inr (Sum.inr (some (some (some _)))))) => q = 4 | _ => False : Prop), fso (hg h p) ci k v with
    | c, some d => some (c, ls, st, hu h p d)
    | _, none => none)
  | _, _ => none
def s_iald : Sem := fun n z ks lim ls st h => match st with
  | Sum.inl i :: Sum.inr (Sum.inr (Sum.inr (Sum.inr (some (some (some p)))))) :: st => (match alo (hg h p) 0 with
    | some (k, f) => some (0 ≤ i ∧ i < k, ls, pI (f i) :: st, h)
    | none => none)
  | _ => none
def s_bald : Sem := fun n z ks lim ls st h => match st with
  | Sum.inl i :: Sum.inr (Sum.inr (Sum.inr (Sum.inr (some (some (some p)))))) :: st => (match alo (hg h p) 1 with
    | some (k, f) => some (0 ≤ i ∧ i < k, ls, pI (f i) :: st, h)
    | none => none)
  | _ => none
def s_zald : Sem := fun n z ks lim ls st h => match st with
  | Sum.inl i :: Sum.inr (Sum.inr (Sum.inr (Sum.inr (some (some (some p)))))) :: st => (match alo (hg h p) 2 with
    | some (k, f) => some (0 ≤ i ∧ i < k, ls, pI (f i) :: st, h)
    | none => none)
  | _ => none
def s_lald : Sem := fun n z ks lim ls st h => match st with
  | Sum.inl i :: Sum.inr (Sum.inr (Sum.inr (Sum.inr (some (some (some p)))))) :: st => (match alo (hg h p) 3 with
    | some (k, f) => some (0 ≤ i ∧ i < k, ls, pL (f i) :: st, h)
    | none => none)
  | _ => none
def s_dald : Sem := fun n z ks lim ls st h => match st with
  | Sum.inl i :: Sum.inr (Sum.inr (Sum.inr (Sum.inr (some (some (some p)))))) :: st => (match ado (hg h p) with
    | some (k, f) => some (0 ≤ i ∧ i < k, ls, pD (f i) :: st, h)
    | none => none)
  | _ => none
def s_aald : Sem := fun n z ks lim ls st h => match st with
  | Sum.inl i :: Sum.inr (Sum.inr (Sum.inr (Sum.inr (some (some (some p)))))) :: st => (match aro (hg h p) with
    | some (kj, k, f) => (match f i with
      | some r => some ((0 ≤ i ∧ i < k) ∧ (5 ≤ kj ∧ kj ≤ 8), ls, pR r :: st, h)
      | none => none)
    | none => none)
  | _ => none
def s_iast : Sem := fun n z ks lim ls st h => match st with
  | Sum.inl x :: Sum.inl i :: Sum.inr (Sum.inr (Sum.inr (Sum.inr (some (some (some p)))))) :: st => (match alo (hg h p) 0 with
    | some (k, f) => some ((0 ≤ i ∧ i < k), ls, st, hu h p (cI 0 k (up f i (x))))
    | none => none)
  | _ => none
def s_bast : Sem := fun n z ks lim ls st h => match st with
  | Sum.inl x :: Sum.inl i :: Sum.inr (Sum.inr (Sum.inr (Sum.inr (some (some (some p)))))) :: st => (match alo (hg h p) 1 with
    | some (k, f) => some ((0 ≤ i ∧ i < k), ls, st, hu h p (cI 1 k (up f i (tB x))))
    | none => none)
  | _ => none
def s_zast : Sem := fun n z ks lim ls st h => match st with
  | Sum.inl x :: Sum.inl i :: Sum.inr (Sum.inr (Sum.inr (Sum.inr (some (some (some p)))))) :: st => (match alo (hg h p) 2 with
    | some (k, f) => some ((0 ≤ i ∧ i < k) ∧ (x = 0 ∨ x = 1), ls, st, hu h p (cI 2 k (up f i (x))))
    | none => none)
  | _ => none
def s_last : Sem := fun n z ks lim ls st h => match st with
  | Sum.inr (Sum.inl x) :: Sum.inl i :: Sum.inr (Sum.inr (Sum.inr (Sum.inr (some (some (some p)))))) :: st => (match alo (hg h p) 3 with
    | some (k, f) => some ((0 ≤ i ∧ i < k), ls, st, hu h p (cI 3 k (up f i (x))))
    | none => none)
  | _ => none
def s_dast : Sem := fun n z ks lim ls st h => match st with
  | Sum.inr (Sum.inr (Sum.inr (Sum.inl x))) :: Sum.inl i :: Sum.inr (Sum.inr (Sum.inr (Sum.inr (some (some (some p)))))) :: st => (match ado (hg h p) with
    | some (k, f) => some (0 ≤ i ∧ i < k, ls, st, hu h p (cD k (up f i x)))
    | none => none)
  | _ => none
/-- which class an array of references is over, by its kind -/
def rk (k : Nat) : Nat := match k with
  | 5 => 4
  | 6 => 2
  | 7 => 0
  | _ => 3
def isO (c : Option Cl) (ci : Nat) : Bool := match c with
  | some (Sum.inl (cj, _)) => cj == ci
  | _ => false
theorem isO_cO (ci : Nat) (fs : List PV) : isO (some (cO ci fs)) ci = true := beq_self_eq_true ci
def s_aast : Sem := fun n z ks lim ls st h => match st with
  | Sum.inr (Sum.inr (Sum.inr (Sum.inr (some (some (some r)))))) :: Sum.inl i :: Sum.inr (Sum.inr (Sum.inr (Sum.inr (some (some (some p)))))) :: st => (match aro (hg h p) with
    | some (kj, k, f) => some ((0 ≤ i ∧ i < k) ∧ isO (hg h r) (rk kj) = true ∧ (5 ≤ kj ∧ kj ≤ 8), ls, st, hu h p (cR kj k (up f i (some r))))
    | none => none)
  | _ => none
def s_alen : Sem := fun n z ks lim ls st h => match st with
  | Sum.inr (Sum.inr (Sum.inr (Sum.inr (some (some (some p)))))) :: st => (match ano (hg h p) with
    | some k => some (True, ls, pI k :: st, h)
    | none => none)
  | _ => none
/-- an object's fields when it is new, by its class's number -/
def fld0 (ci : Nat) : List PV := match ci with
  | 0 => [pI 0, pI 0, pN, pN, pN]
  | 1 => [pI 0, pN, pN, pN, pN, pN, pN, pI 0, pI 0, pI 0]
  | 2 => [pI 0, pI 0, pI 0, pN]
  | 3 => [pI 0, pN]
  | 4 => [pN, pI 0, pN, pN, pN, pN, pN, pN, pI 0, pL 0, pN]
  | 5 => [pN, pN, pN, pN, pN, pN, pN, pN, pN, pN, pN, pN, pI 0, pI 0, pI 0, pI 0]
  | _ => [pI 0, pI 0, pI 0, pI 0, pN, pN, pN, pN, pN, pN, pN, pN, pN, pN, pN, pN, pN, pI 0, pN, pI 0, pI 0, pN, pI 0, pI 0, pN, pI 0, pN, pI 0, pN, pN, pN, pN, pN, pN, pN]
def s_new : Sem := fun n z ks lim ls st h => match ks with
  | [ci, k] => some (h.2.1 + 1 ≤ lim.1 ∧ h.2.2 + k ≤ lim.2, ls, pR h.2.1 :: st, hn h (cO ci (fld0 ci)) k)
  | _ => none
def s_newa : Sem := fun n z ks lim ls st h => match st with
  | Sum.inl i :: st => some ((0 ≤ i ∧ i ≤ 100000) ∧ h.2.1 + 1 ≤ lim.1 ∧ h.2.2 + i.toNat ≤ lim.2, ls, pR h.2.1 :: st, hn h (if n = 4 then cD i (fun _ => 0) else cI n i (fun _ => 0)) i.toNat)
  | _ => none
def s_anew : Sem := fun n z ks lim ls st h => match st, ks with
  | Sum.inl i :: st, [k] => some ((0 ≤ i ∧ i ≤ 100000) ∧ h.2.1 + 1 ≤ lim.1 ∧ h.2.2 + i.toNat ≤ lim.2, ls, pR h.2.1 :: st, hn h (cR k i (fun _ => none)) i.toNat)
  | _, _ => none
def s_acopy : Sem := fun n z ks lim ls st h => match st with
  | Sum.inl k :: Sum.inl dp :: Sum.inr (Sum.inr (Sum.inr (Sum.inr (some (some (some r)))))) :: Sum.inl sp :: Sum.inr (Sum.inr (Sum.inr (Sum.inr (some (some (some p)))))) :: st => (match alo (hg h p) 0, alo (hg h r) 0 with
    | some (k1, f), some (k2, g) => some (((0 ≤ sp ∧ 0 ≤ dp) ∧ (0 ≤ k ∧ sp + k ≤ k1)) ∧ dp + k ≤ k2 ∧ st = [], ls, st, hu h r (cI 0 k2 (cpy f g sp dp k)))
    | _, _ => none)
  | _ => none
def s_sld : Sem := fun n z ks lim ls st h => match st with
  | Sum.inl i :: Sum.inr (Sum.inr (Sum.inr (Sum.inr (some (some none))))) :: st => some (0 ≤ i ∧ i < h.1.2.1, ls, pI (h.1.2.2 i) :: st, h)
  | _ => none
def s_slen : Sem := fun n z ks lim ls st h => match st with
  | Sum.inr (Sum.inr (Sum.inr (Sum.inr (some (some none))))) :: st => some (True, ls, pI h.1.2.1 :: st, h)
  | _ => none
def SEMS : List (Nat × Sem) := [(1, s_iconst), (2, s_bipush), (3, s_sipush), (4, s_ldc), (5, s_lconst), (6, s_ldc2l), (7, s_dconst), (8, s_ldc2d), (9, s_ldcf), (10, s_iload), (11, s_lload), (12, s_fload), (13, s_dload), (14, s_aload), (15, s_istore), (16, s_lstore), (17, s_fstore), (18, s_dstore), (19, s_astore), (20, s_iinc), (21, s_iadd), (22, s_isub), (23, s_imul), (24, s_idiv), (25, s_irem), (26, s_ishl), (27, s_ishr), (28, s_iand), (29, s_ior), (30, s_ixor), (32, s_ladd), (33, s_lsub), (34, s_lmul), (35, s_ldiv), (36, s_lrem), (37, s_lshl), (38, s_lshr), (39, s_lor), (40, s_land), (41, s_lcmp), (42, s_i2l), (43, s_l2i), (44, s_i2b), (45, s_i2f), (46, s_l2f), (47, s_l2d), (48, s_f2d), (49, s_d2l), (50, s_fdiv), (51, s_dadd), (52, s_dsub), (53, s_dmul), (54, s_ddiv), (55, s_dcmp), (56, s_fcmp), (57, s_dup), (58, s_pop), (59, s_dup2), (60, s_getf), (61, s_putf), (62, s_iald), (63, s_bald), (64, s_zald), (65, s_lald), (66, s_dald), (67, s_aald), (68, s_iast), (69, s_bast), (70, s_zast), (71, s_last), (72, s_dast), (73, s_aast), (74, s_alen), (75, s_new), (76, s_newa), (77, s_anew), (78, s_objinit), (81, s_acopy), (82, s_rawF), (83, s_rawD), (84, s_sld), (85, s_slen)]
def lk {β : Type} : List (Nat × β) → Nat → Option β
  | [], _ => none
  | (a, b) :: l, k => if a = k then some b else lk l k
def stp (i : Ins) (lim : Nat × Nat) (ls st : List PV) (h : Hp) : Option (Prop × List PV × List PV × Hp) := match lk SEMS i.1 with
  | some f => f i.2.1 i.2.2.1 i.2.2.2 lim ls st h
  | none => none
def cnd (z x y : Int) : Prop := match z with
  | 0 => x = y
  | 1 => ¬ x = y
  | 2 => x < y
  | 3 => y ≤ x
  | 4 => y < x
  | _ => x ≤ y
theorem cnd_0 (x y : Int) : cnd 0 x y = (x = y) := rfl
theorem cnd_1 (x y : Int) : cnd 1 x y = (¬ x = y) := rfl
theorem cnd_2 (x y : Int) : cnd 2 x y = (x < y) := rfl
theorem cnd_3 (x y : Int) : cnd 3 x y = (y ≤ x) := rfl
theorem cnd_4 (x y : Int) : cnd 4 x y = (y < x) := rfl
theorem cnd_5 (x y : Int) : cnd 5 x y = (x ≤ y) := rfl
/-- a switch by places from lo on -/
def swt : List Nat → Int → Int → Nat → (Nat → Prop) → Prop
  | [], _, _, d, K => K d
  | t :: ts, lo, x, d, K => (x = lo → K t) ∧ (¬ x = lo → swt ts (lo + 1) x d K)
/-- a switch by keys -/
def swl : List Nat → Int → Nat → (Nat → Prop) → Prop
  | k :: t :: r, x, d, K => (x = (k : Int) → K t) ∧ (¬ x = (k : Int) → swl r x d K)
  | _, _, d, K => K d
/-- arguments off the stack -/
def wk (k : Nat) : Bool := match k with
  | 1 => true
  | 3 => true
  | _ => false
def pk : List Nat → List PV → List PV → (List PV → List PV → Prop) → Prop
  | [], st, a, K => K a st
  | k :: ks, v :: st, a, K => wide v = wk k ∧ pk ks st (v :: a) K
  | _ :: _, [], _, _ => False
/-- the receiver is an object of the class -/
def rcv (a : List PV) (h : Hp) (ci : Nat) : Prop := match a with
  | Sum.inr (Sum.inr (Sum.inr (Sum.inr (some (some (some p)))))) :: _ => isO (hg h p) ci = true
  | _ => False
abbrev JT : Type := Nat → List PV → List PV → Hp → Prop
abbrev QT : Type := PV → Hp → Prop
abbrev CT : Type := Nat → List PV → Hp → Nat × Nat → QT → Prop
def ctl (bud : Nat → Nat × Nat) (J : JT) (C : CT) (lim : Nat × Nat) (Q : QT) (K : List PV → List PV → Hp → Prop) (i : Ins) (ls st : List PV) (h : Hp) : Prop :=
  match i.1 with
  | 89 => J i.2.1 ls st h
  | 90 => J i.2.1 ls st h
  | 91 => (match st with
    | Sum.inl x :: st => inr x ∧ (cnd i.2.2.1 x 0 → J i.2.1 ls st h) ∧ (¬ cnd i.2.2.1 x 0 → K ls st h)
    | _ => False)
  | 92 => (match st with
    | Sum.inl y :: Sum.inl x :: st => (inr x ∧ inr y) ∧ (cnd i.2.2.1 x y → J i.2.1 ls st h) ∧ (¬ cnd i.2.2.1 x y → K ls st h)
    | _ => False)
  | 93 => (match st with
    | Sum.inl x :: st => inr x ∧ swt i.2.2.2 i.2.2.1 x i.2.1 (fun t => J t ls st h)
    | _ => False)
  | 94 => (match st with
    | Sum.inl x :: st => inr x ∧ swl i.2.2.2 x i.2.1 (fun t => J t ls st h)
    | _ => False)
  | 95 => (match st with
    | [] => Q pU h
    | _ => False)
  | 96 => (match st with
    | [Sum.inl x] => Q (pI x) h
    | _ => False)
  | 97 => (match st with
    | [Sum.inl x] => (x = 0 ∨ x = 1) ∧ Q (pI x) h
    | _ => False)
  | 98 => (match st with
    | [Sum.inr (Sum.inl x)] => Q (pL x) h
    | _ => False)
  | 99 => (match st with
    | [Sum.inr (Sum.inr (Sum.inl x))] => Q (pF x) h
    | _ => False)
  | 100 => (match st with
    | [Sum.inr (Sum.inr (Sum.inr (Sum.inl x)))] => Q (pD x) h
    | _ => False)
  | 101 => (match st with
    | [Sum.inr (Sum.inr (Sum.inr (Sum.inr (some (some (some p))))))] => Q (pR p) h
    | _ => False)
  | 110 => (match i.2.2.2 with
    | ci :: ks => pk ks st [] (fun a st => (rcv a h ci ∧ sk4 st) ∧ ∃ Q' : QT, C i.2.1 a h h.2 Q' ∧ ∀ r h', Q' r h' → K ls (r :: st) h')
    | [] => False)
  | 111 => (match i.2.2.2 with
    | ci :: ks => pk ks st [] (fun a st => (rcv a h ci ∧ sk4 st) ∧ ∃ Q' : QT, C i.2.1 a h h.2 Q' ∧ ∀ r h', Q' r h' → K ls st h')
    | [] => False)
  | 112 => (match i.2.2.2 with
    | ci :: ks => pk ks st [] (fun a st => (rcv a h ci ∧ sk4 st) ∧ (h.2.1 + (bud i.2.1).1 ≤ lim.1 ∧ h.2.2 + (bud i.2.1).2 ≤ lim.2) ∧ ∃ Q' : QT, C i.2.1 a h (h.2.1 + (bud i.2.1).1, h.2.2 + (bud i.2.1).2) Q' ∧ ∀ r h', Q' r h' → h'.2 = (h.2.1 + (bud i.2.1).1, h.2.2 + (bud i.2.1).2) ∧ K ls st h')
    | [] => False)
  | 113 => pk i.2.2.2 st [] (fun a st => sk4 st ∧ ∃ Q' : QT, C i.2.1 a h h.2 Q' ∧ ∀ r h', Q' r h' → K ls (r :: st) h')
  | _ => False
def zx (bud : Nat → Nat × Nat) (J : JT) (C : CT) (lim : Nat × Nat) (Q : QT) : List Ins → List PV → List PV → Hp → Prop
  | [], _, _, _ => False
  | i :: is, ls, st, h => match Nat.blt i.1 86 with
    | true => (match stp i lim ls st h with
      | some (c, ls', st', h') => c ∧ zx bud J C lim Q is ls' st' h'
      | none => False)
    | false => ctl bud J C lim Q (fun ls st h => zx bud J C lim Q is ls st h) i ls st h
theorem pk_mono {K K' : List PV → List PV → Prop} (hK : ∀ a st, K a st → K' a st) : ∀ (ks : List Nat) (st a : List PV), pk ks st a K → pk ks st a K'
  | [], st, a, h => hK a st h
  | _ :: ks, v :: st, a, h => ⟨h.1, pk_mono hK ks st (v :: a) h.2⟩
  | _ :: _, [], _, h => h
theorem swt_mono {K K' : Nat → Prop} (hK : ∀ t, K t → K' t) : ∀ (ts : List Nat) (lo x : Int) (d : Nat), swt ts lo x d K → swt ts lo x d K'
  | [], _, _, d, h => hK d h
  | t :: ts, lo, x, d, h => ⟨fun e => hK t (h.1 e), fun e => swt_mono hK ts (lo + 1) x d (h.2 e)⟩
theorem swl_mono {K K' : Nat → Prop} (hK : ∀ t, K t → K' t) : ∀ (r : List Nat) (x : Int) (d : Nat), swl r x d K → swl r x d K'
  | k :: t :: r, x, d, h => ⟨fun e => hK t (h.1 e), fun e => swl_mono hK r x d (h.2 e)⟩
  | [], _, d, h => hK d h
  | [_], _, d, h => hK d h
theorem ctl_mono (bud : Nat → Nat × Nat) {J J' : JT} {C C' : CT} (lim : Nat × Nat) {Q Q1 : QT} {K K' : List PV → List PV → Hp → Prop} (hJ : ∀ n ls st h, J n ls st h → J' n ls st h) (hC : ∀ n a h l Q', C n a h l Q' → C' n a h l Q') (hQ : ∀ r h, Q r h → Q1 r h) (hK : ∀ ls st h, K ls st h → K' ls st h) (i : Ins) (ls st : List PV) (h : Hp) (H : ctl bud J C lim Q K i ls st h) : ctl bud J' C' lim Q1 K' i ls st h := by
  unfold ctl at H ⊢
  split at H
  · exact hJ _ _ _ _ H
  · exact hJ _ _ _ _ H
  · split at H
    · exact ⟨H.1, fun e => hJ _ _ _ _ (H.2.1 e), fun e => hK _ _ _ (H.2.2 e)⟩
    · exact H
  · split at H
    · exact ⟨H.1, fun e => hJ _ _ _ _ (H.2.1 e), fun e => hK _ _ _ (H.2.2 e)⟩
    · exact H
  · split at H
    · exact ⟨H.1, swt_mono (fun t => hJ t _ _ _) _ _ _ _ H.2⟩
    · exact H
  · split at H
    · exact ⟨H.1, swl_mono (fun t => hJ t _ _ _) _ _ _ H.2⟩
    · exact H
  · split at H
    · exact hQ _ _ H
    · exact H
  · split at H
    · exact hQ _ _ H
    · exact H
  · split at H
    · exact ⟨H.1, hQ _ _ H.2⟩
    · exact H
  · split at H
    · exact hQ _ _ H
    · exact H
  · split at H
    · exact hQ _ _ H
    · exact H
  · split at H
    · exact hQ _ _ H
    · exact H
  · split at H
    · exact hQ _ _ H
    · exact H
  · split at H
    · exact pk_mono (fun a st ⟨z, Q', c, k⟩ => ⟨z, Q', hC _ _ _ _ _ c, fun r h' q => hK _ _ _ (k r h' q)⟩) _ _ _ H
    · exact H
  · split at H
    · exact pk_mono (fun a st ⟨z, Q', c, k⟩ => ⟨z, Q', hC _ _ _ _ _ c, fun r h' q => hK _ _ _ (k r h' q)⟩) _ _ _ H
    · exact H
  · split at H
    · exact pk_mono (fun a st ⟨z, y, Q', c, k⟩ => ⟨z, y, Q', hC _ _ _ _ _ c, fun r h' q => ⟨(k r h' q).1, hK _ _ _ (k r h' q).2⟩⟩) _ _ _ H
    · exact H
  · exact pk_mono (fun a st ⟨z, Q', c, k⟩ => ⟨z, Q', hC _ _ _ _ _ c, fun r h' q => hK _ _ _ (k r h' q)⟩) _ _ _ H
  · exact H
theorem zx_mono (bud : Nat → Nat × Nat) {J J' : JT} {C C' : CT} (lim : Nat × Nat) {Q Q1 : QT} (hJ : ∀ n ls st h, J n ls st h → J' n ls st h) (hC : ∀ n a h l Q', C n a h l Q' → C' n a h l Q') (hQ : ∀ r h, Q r h → Q1 r h) : ∀ (is : List Ins) (ls st : List PV) (h : Hp), zx bud J C lim Q is ls st h → zx bud J' C' lim Q1 is ls st h
  | [], _, _, _, H => H
  | i :: is, ls, st, h, H => by
    unfold zx at H ⊢
    split at H
    · split at H
      · exact ⟨H.1, zx_mono bud lim hJ hC hQ is _ _ _ H.2⟩
      · exact H
    · exact ctl_mono bud lim hJ hC hQ (fun ls st h => zx_mono bud lim hJ hC hQ is ls st h) i ls st h H

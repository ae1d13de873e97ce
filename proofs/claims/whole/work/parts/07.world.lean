def rv (b base : Nat) (v : PV) : Value := match v with
  | Sum.inl x => .int (Int32.ofInt x)
  | Sum.inr (Sum.inl x) => .long (Int64.ofInt x)
  | Sum.inr (Sum.inr (Sum.inl x)) => .float x
  | Sum.inr (Sum.inr (Sum.inr (Sum.inl x))) => .double x
  | Sum.inr (Sum.inr (Sum.inr (Sum.inr (some (some none))))) => .ref b
  | Sum.inr (Sum.inr (Sum.inr (Sum.inr (some (some (some p)))))) => .ref (base + p)
  | Sum.inr (Sum.inr (Sum.inr (Sum.inr _))) => .null
theorem rv_cat (b base : Nat) (v : PV) : (rv b base v).category = match wide v with | true => 2 | false => 1 := by
  rcases v with x | x | x | x | (_ | (_ | (_ | x))) <;> rfl
theorem rv_cat1 {b base : Nat} {v : PV} (h : wide v = false) : (rv b base v).category = 1 := by rw [rv_cat, h]
theorem rv_cat2 {b base : Nat} {v : PV} (h : ¬ (rv b base v).category = 2) : wide v = false := by
  rw [rv_cat] at h
  cases e : wide v with
  | false => rfl
  | true => rw [e] at h; exact absurd rfl h
theorem sk4_sum {b base : Nat} {st : List PV} (h : sk4 st) : ((st.map (rv b base)).map fun v => v.category).sum ≤ 8 := by
  have key : ∀ st : List PV, ((st.map (rv b base)).map fun v => v.category).sum = cats st := by
    intro st
    induction st with
    | nil => rfl
    | cons v st ih =>
      simp only [List.map_cons, List.sum_cons, cats, ih, rv_cat]
      cases wide v <;> rfl
  rw [key]
  exact h
def re (b base : Nat) (ct : Nat → ClassId) (c : Cl) : va_E := match c with
  | Sum.inl (ci, fs) => .inr (ci, fs.map (rv b base))
  | Sum.inr (k, n, Sum.inl f) => match Nat.beq k 3 with
    | true => .inl (ct k, n.toNat, .inr (.inl (fun j => Int64.ofInt (f j))))
    | false => .inl (ct k, n.toNat, .inl (fun j => Int32.ofInt (f j)))
  | Sum.inr (k, n, Sum.inr (Sum.inl f)) => .inl (ct k, n.toNat, .inr (.inr (.inr (.inl (fun j => f j)))))
  | Sum.inr (k, n, Sum.inr (Sum.inr f)) => .inl (ct k, n.toNat, .inr (.inr (.inr (.inr (fun j => (f j).map (fun q => base + q))))))
def ro (b base : Nat) (ct : Nat → ClassId) (c : Option Cl) : va_E := match c with
  | some c => re b base ct c
  | none => .inr (0, [])
def wl (b base : Nat) (ct : Nat → ClassId) (h : Hp) : va_W := (List.range h.2.1).map (fun p => (base + p, ro b base ct (h.1.1 p)))
def hok (h : Hp) : Prop := (∀ p, (∃ c, h.1.1 p = some c) ↔ p < h.2.1) ∧ ∀ p k n a, h.1.1 p = some (Sum.inr (k, n, a)) → 0 ≤ n ∧ n ≤ 100000 ∧ k ≤ 8
theorem wl_at {b base : Nat} {ct : Nat → ClassId} {h : Hp} (p : Nat) (hp : p < h.2.1) : (wl b base ct h)[p]? = some (base + p, ro b base ct (h.1.1 p)) := by
  unfold wl
  rw [List.getElem?_map, List.getElem?_range hp]
  rfl
theorem wl_get {b base : Nat} {ct : Nat → ClassId} {h : Hp} {p : Nat} {c : Cl} (hk : hok h) (hp : h.1.1 p = some c) : (wl b base ct h)[p]? = some (base + p, re b base ct c) := by
  rw [wl_at p ((hk.1 p).mp ⟨c, hp⟩), hp]
  rfl
theorem wl_len (b base : Nat) (ct : Nat → ClassId) (h : Hp) : (wl b base ct h).length = h.2.1 := by
  unfold wl
  rw [List.length_map, List.length_range]
theorem wl_set {b base : Nat} {ct : Nat → ClassId} {h : Hp} {p : Nat} (c : Cl) (hp : p < h.2.1) : (wl b base ct h).set p (base + p, re b base ct c) = wl b base ct (hu h p c) := by
  apply List.ext_getElem?
  intro q
  by_cases hq : q = p
  · subst hq
    rw [List.getElem?_set_self (by rw [wl_len]; exact hp), wl_at q (by exact hp)]
    show some _ = some (base + q, ro b base ct (if q = q then some c else h.1.1 q))
    rw [if_pos rfl]
    rfl
  · rw [List.getElem?_set_ne (fun e => hq e.symm)]
    by_cases hl : q < h.2.1
    · rw [wl_at q hl, wl_at q (by exact hl)]
      show some (base + q, ro b base ct (h.1.1 q)) = some (base + q, ro b base ct (if q = p then some c else h.1.1 q))
      rw [if_neg hq]
    · rw [List.getElem?_eq_none (by rw [wl_len]; omega), List.getElem?_eq_none (by rw [wl_len]; exact Nat.le_of_not_lt hl)]
theorem wl_push {b base : Nat} {ct : Nat → ClassId} {h : Hp} (c : Cl) (k : Nat) : wl b base ct (hn h c k) = wl b base ct h ++ [(base + h.2.1, re b base ct c)] := by
  unfold wl
  show (List.range (h.2.1 + 1)).map _ = _
  rw [List.range_succ, List.map_append]
  congr 1
  · apply List.map_congr_left
    intro q hq
    have hl := List.mem_range.mp hq
    show (base + q, ro b base ct (if q = h.2.1 then some c else h.1.1 q)) = _
    rw [if_neg (by omega)]
  · show [(base + h.2.1, ro b base ct (if h.2.1 = h.2.1 then some c else h.1.1 h.2.1))] = _
    rw [if_pos rfl]
    rfl
theorem wl_D (b base : Nat) (ct : Nat → ClassId) (h : Hp) : va_D (fun q => base ≤ q) (wl b base ct h) := by
  have key : ∀ (k : Nat) (q : Nat × va_E), (wl b base ct h)[k]? = some q → q.1 = base + k := by
    intro k q hk
    have hl : k < h.2.1 := by
      have := (List.getElem?_eq_some_iff.mp hk).1
      rwa [wl_len] at this
    rw [wl_at k hl] at hk
    cases hk
    rfl
  refine ⟨fun i j p q hi hj e => ?_, fun k q hk => ?_⟩
  · have h1 := key i p hi
    have h2 := key j q hj
    omega
  · have h1 := key k q hk
    show base ≤ q.1
    omega
theorem hok_hu {h : Hp} {p : Nat} {c c' : Cl} (hk : hok h) (hp : h.1.1 p = some c) (ha : ∀ k n a, c' = Sum.inr (k, n, a) → 0 ≤ n ∧ n ≤ 100000 ∧ k ≤ 8) : hok (hu h p c') := by
  refine ⟨fun q => ?_, fun q k n a hq => ?_⟩
  · show (∃ d, (if q = p then some c' else h.1.1 q) = some d) ↔ q < h.2.1
    by_cases e : q = p
    · subst e
      rw [if_pos rfl]
      exact ⟨fun _ => (hk.1 q).mp ⟨c, hp⟩, fun _ => ⟨c', rfl⟩⟩
    · rw [if_neg e]
      exact hk.1 q
  · have hq : (if q = p then some c' else h.1.1 q) = some (Sum.inr (k, n, a)) := hq
    by_cases e : q = p
    · rw [if_pos e] at hq
      exact ha k n a (Option.some.inj hq)
    · rw [if_neg e] at hq
      exact hk.2 q k n a hq
theorem hok_hn {h : Hp} {c : Cl} (j : Nat) (hk : hok h) (ha : ∀ k n a, c = Sum.inr (k, n, a) → 0 ≤ n ∧ n ≤ 100000 ∧ k ≤ 8) : hok (hn h c j) := by
  refine ⟨fun q => ?_, fun q k n a hq => ?_⟩
  · show (∃ d, (if q = h.2.1 then some c else h.1.1 q) = some d) ↔ q < h.2.1 + 1
    by_cases e : q = h.2.1
    · rw [if_pos e]
      exact ⟨fun _ => by omega, fun _ => ⟨c, rfl⟩⟩
    · rw [if_neg e, hk.1 q]
      omega
  · have hq : (if q = h.2.1 then some c else h.1.1 q) = some (Sum.inr (k, n, a)) := hq
    by_cases e : q = h.2.1
    · rw [if_pos e] at hq
      exact ha k n a (Option.some.inj hq)
    · rw [if_neg e] at hq
      exact hk.2 q k n a hq
/-! locals -/
def LH (b base : Nat) (lsA : Array Slot) (nL : Nat) (ls : List PV) : Prop := ∃ l : List (Nat × Value), lv_has lsA nL l ∧ ∀ (k : Nat) (v : PV), ls[k]? = some v → v ≠ pU → (k, rv b base v) ∈ l
theorem LH_at {b base nL : Nat} {lsA : Array Slot} {ls : List PV} (h : LH b base lsA nL ls) {k : Nat} {v : PV} (hk : ls[k]? = some v) (hv : v ≠ pU) : lsA[k]? = some (.val (rv b base v)) := by
  obtain ⟨l, h1, h2⟩ := h
  exact h1.2.2 _ (h2 k v hk hv)
theorem LH_size {b base nL : Nat} {lsA : Array Slot} {ls : List PV} (h : LH b base lsA nL ls) : lsA.size = nL := by
  obtain ⟨l, h1, h2⟩ := h
  exact h1.1
theorem nw_ne {v w : PV} (h : nw v = w) (hw : w ≠ pU) : w = v ∧ wide v = false := by
  unfold nw at h
  cases e : wide v with
  | true => rw [e] at h; exact absurd h.symm hw
  | false => rw [e] at h; exact ⟨h.symm, rfl⟩
theorem lst_at : ∀ (ls : List PV) (i : Nat) (v : PV) (k : Nat) (w : PV), (lst ls i v)[k]? = some w → w ≠ pU → (k = i ∧ w = v) ∨ (k ≠ i ∧ ls[k]? = some w ∧ ¬ (k + 1 = i ∧ wide w = true))
  | [], i, v, k, w, h, _ => by simp [lst] at h
  | a :: l, 0, v, 0, w, h, hw => by
    simp only [lst, List.getElem?_cons_zero] at h
    exact Or.inl ⟨rfl, (Option.some.inj h).symm⟩
  | a :: l, 0, v, k + 1, w, h, hw => by
    simp only [lst, List.getElem?_cons_succ] at h
    exact Or.inr ⟨by omega, by simpa using h, by omega⟩
  | [a], 1, v, 0, w, h, hw => by
    simp only [lst, List.getElem?_cons_zero] at h
    obtain ⟨h1, h2⟩ := nw_ne (Option.some.inj h) hw
    subst h1
    exact Or.inr ⟨by omega, rfl, by rw [h2]; simp⟩
  | [a], 1, v, k + 1, w, h, hw => by simp [lst] at h
  | [a], i + 2, v, 0, w, h, hw => by
    simp only [lst, List.getElem?_cons_zero] at h
    exact Or.inr ⟨by omega, by simpa using h, by omega⟩
  | [a], i + 2, v, k + 1, w, h, hw => by simp [lst] at h
  | a :: c :: l, 1, v, 0, w, h, hw => by
    simp only [lst, List.getElem?_cons_zero] at h
    obtain ⟨h1, h2⟩ := nw_ne (Option.some.inj h) hw
    subst h1
    exact Or.inr ⟨by omega, rfl, by rw [h2]; simp⟩
  | a :: c :: l, 1, v, 1, w, h, hw => by
    simp only [lst, List.getElem?_cons_succ, List.getElem?_cons_zero] at h
    exact Or.inl ⟨rfl, (Option.some.inj h).symm⟩
  | a :: c :: l, 1, v, k + 2, w, h, hw => by
    simp only [lst, List.getElem?_cons_succ] at h
    exact Or.inr ⟨by omega, by simpa using h, by omega⟩
  | a :: c :: l, i + 2, v, 0, w, h, hw => by
    simp only [lst, List.getElem?_cons_zero] at h
    exact Or.inr ⟨by omega, by simpa using h, by omega⟩
  | a :: c :: l, i + 2, v, k + 1, w, h, hw => by
    simp only [lst, List.getElem?_cons_succ] at h
    rcases lst_at (c :: l) (i + 1) v k w h hw with ⟨h1, h2⟩ | ⟨h1, h2, h3⟩
    · exact Or.inl ⟨by omega, h2⟩
    · exact Or.inr ⟨by omega, by simpa using h2, fun q => h3 ⟨by omega, q.2⟩⟩
theorem LH_st1 {b base nL : Nat} {lsB : Array Slot} {ls : List PV} {l : List (Nat × Value)} {i : Nat} {v : PV} (hl : ∀ (k : Nat) (v : PV), ls[k]? = some v → v ≠ pU → (k, rv b base v) ∈ l)
    (h : lv_has lsB nL ((i, rv b base v) :: l.filter (fun q => !(q.1 == i) && !(q.1 + 1 == i && q.2.category == 2)))) : LH b base lsB nL (lst ls i v) := by
  refine ⟨_, h, fun k w hk hw => ?_⟩
  rcases lst_at ls i v k w hk hw with ⟨h1, h2⟩ | ⟨h1, h2, h3⟩
  · subst h1; subst h2
    exact List.mem_cons_self
  · refine List.mem_cons_of_mem _ (List.mem_filter.mpr ⟨hl k w h2 hw, ?_⟩)
    have e1 : (k == i) = false := by simpa using h1
    by_cases e : k + 1 = i
    · have hwd : wide w = false := by
        cases e2 : wide w with
        | false => rfl
        | true => exact absurd ⟨e, e2⟩ h3
      simp [h1, rv_cat1 (b := b) (base := base) hwd]
    · simp [h1, e]
theorem LH_st2 {b base nL : Nat} {lsB : Array Slot} {ls : List PV} {l : List (Nat × Value)} {i : Nat} {v : PV} (hl : ∀ (k : Nat) (v : PV), ls[k]? = some v → v ≠ pU → (k, rv b base v) ∈ l)
    (h : lv_has lsB nL ((i, rv b base v) :: l.filter (fun q => !(q.1 == i) && (!(q.1 == i + 1) && !(q.1 + 1 == i && q.2.category == 2))))) : LH b base lsB nL (lst (lst ls (i + 1) pU) i v) := by
  refine ⟨_, h, fun k w hk hw => ?_⟩
  rcases lst_at _ i v k w hk hw with ⟨h1, h2⟩ | ⟨h1, h2, h3⟩
  · subst h1; subst h2
    exact List.mem_cons_self
  · rcases lst_at ls (i + 1) pU k w h2 hw with ⟨h4, h5⟩ | ⟨h4, h5, h6⟩
    · exact absurd h5 hw
    · refine List.mem_cons_of_mem _ (List.mem_filter.mpr ⟨hl k w h5 hw, ?_⟩)
      by_cases e : k + 1 = i
      · have hwd : wide w = false := by
          cases e2 : wide w with
          | false => rfl
          | true => exact absurd ⟨e, e2⟩ h3
        simp [h1, h4, rv_cat1 (b := b) (base := base) hwd]
      · simp [h1, h4, e]
theorem spr_args (b base : Nat) : ∀ (a : List PV) (i k : Nat) (v : PV), (spr a)[k]? = some v → v ≠ pU → (i + k, rv b base v) ∈ lv_args i (a.map (rv b base))
  | [], i, k, v, h, hv => by simp [spr] at h
  | x :: a, i, k, v, h, hv => by
    cases e : wide x with
    | true =>
      have e2 : spr (x :: a) = x :: pU :: spr a := by simp only [spr, e]
      rw [e2] at h
      have e3 : lv_args i ((x :: a).map (rv b base)) = (i, rv b base x) :: lv_args (i + 2) (a.map (rv b base)) := by
        simp only [List.map_cons, lv_args, rv_cat, e, if_true]
      rw [e3]
      match k, h with
      | 0, h => have h2 : x = v := by simpa using h
                subst h2; exact List.mem_cons_self
      | 1, h => have h2 : pU = v := by simpa using h
                exact absurd h2.symm hv
      | k + 2, h =>
        have := spr_args b base a (i + 2) k v (by simpa using h) hv
        rw [show i + (k + 2) = i + 2 + k by omega]
        exact List.mem_cons_of_mem _ this
    | false =>
      have e2 : spr (x :: a) = x :: spr a := by simp only [spr, e]
      rw [e2] at h
      have e3 : lv_args i ((x :: a).map (rv b base)) = (i, rv b base x) :: lv_args (i + 1) (a.map (rv b base)) := by
        simp [lv_args, rv_cat, e]
      rw [e3]
      match k, h with
      | 0, h => have h2 : x = v := by simpa using h
                subst h2; exact List.mem_cons_self
      | k + 1, h =>
        have := spr_args b base a (i + 1) k v (by simpa using h) hv
        rw [show i + (k + 1) = i + 1 + k by omega]
        exact List.mem_cons_of_mem _ this
theorem spr_len (b base : Nat) : ∀ a : List PV, (lg_sl (a.map (rv b base))).length = (spr a).length
  | [] => rfl
  | x :: a => by
    have ih := spr_len b base a
    cases e : wide x with
    | true =>
      have e2 : spr (x :: a) = x :: pU :: spr a := by simp only [spr, e]
      rw [e2]
      simp only [lg_sl, List.map_cons, List.flatMap_cons, rv_cat, e, if_true, List.length_append, List.length_cons, List.length_nil] at ih ⊢
      omega
    | false =>
      have e2 : spr (x :: a) = x :: spr a := by simp only [spr, e]
      rw [e2]
      have e3 : ¬ (rv b base x).category = 2 := by rw [rv_cat1 e]; decide
      simp only [lg_sl, List.map_cons, List.flatMap_cons, if_neg e3, List.length_append, List.length_cons, List.length_nil] at ih ⊢
      omega
theorem LH_ent {b base n : Nat} {a : List PV} (hn : (spr a).length ≤ n) : LH b base ((lg_sl (a.map (rv b base)) ++ List.replicate (n - (lg_sl (a.map (rv b base))).length) Slot.unset).toArray) n (ent n a) := by
  refine ⟨_, lv_entry (a.map (rv b base)) (n := n) (by rw [spr_len]; exact hn), fun k v hk hv => ?_⟩
  unfold ent at hk
  by_cases hl : k < (spr a).length
  · rw [List.getElem?_append_left hl] at hk
    have := spr_args b base a 0 k v hk hv
    rwa [Nat.zero_add] at this
  · rw [List.getElem?_append_right (by omega)] at hk
    have h2 := List.mem_of_getElem? hk
    exact absurd (List.eq_of_mem_replicate h2) hv
/-! the context of a method -/
def kty (k : Nat) : FieldType := match k with
  | 0 => .int
  | 1 => .byte
  | 2 => .boolean
  | 3 => .long
  | 4 => .double
  | 5 => .object RX5
  | 6 => .object RX3
  | 7 => .object RX1
  | _ => .object RX4
def tys (ct : Nat → ClassId) : List (ClassId × FieldType) := (List.range 9).map (fun k => (ct k, kty k))
theorem tys_at (ct : Nat → ClassId) {k : Nat} (hk : k ≤ 8) : (tys ct)[k]? = some (ct k, kty k) := by
  unfold tys
  rw [List.getElem?_map, List.getElem?_range (by omega)]
  rfl
def CRI : Nat := 1
def SHI : Nat := 20
def Xtra (U : State) : Prop := (va_AO RX5 U ∧ va_AO RX3 U ∧ va_AO RX1 U ∧ va_AO RX4 U) ∧ va_Nw (.methodLinkNest RX6 78 yX1_init RX6) U ∧ va_Nw (.methodLinkNest RX6 79 yX4_init RX6) U
def Fx (b base : Nat) (D : va_G) (ct : Nat → ClassId) (scr : Int × (Int → Int)) (p : Program) (R : Room) (s : State) (m : MethodId) (args : Array Value) (meth : Method) (c : Code) (mid n0 s0 : Nat) (lim : Nat × Nat) : Prop :=
  p.tables.exec = Jvm.exec ∧ c.code = mc mid ∧ c.maxLocals = mL mid ∧ s.vm.findClass (ow (mo mid)) = some m.cls ∧ (∀ w ∈ GW, w.before args s = true) ∧ va_K D CL (tys ct) s ∧
  (lim.1 ≤ n0 + R.cells ∧ lim.2 ≤ s0 + R.slots ∧ mf mid ≤ R.frames ∧ ml mid ≤ R.locals) ∧ s.heap.size = base + n0 ∧ ((my mid).name = "<init>" → meth.name = "<init>") ∧ (mid = PTIM ∨ mid = LAWM → Xtra s) ∧
  (mid = LAWM → b < base ∧ ∃ (L : Nat) (xs : Nat → Int32), va_X b L xs s s.heap ∧ scr.1 = (L : Int) ∧ L ≤ 3072 ∧ ∀ j : Nat, j < L → xs j = Int32.ofInt (scr.2 j))
def Cx (b base : Nat) (D : va_G) (ct : Nat → ClassId) (scr : Int × (Int → Int)) (s : State) (mid n0 s0 : Nat) (lim : Nat × Nat) (H : Heap) (locs : List Loc) (cells slots : Nat) (lsA : Array Slot) (ls : List PV) (h : Hp) : Prop :=
  LH b base lsA (mL mid) ls ∧ va_P D CL (wl b base ct h) H ∧ va_S (fun q => base ≤ q) s.heap H locs ∧ hok h ∧ (cells + n0 = h.2.1 ∧ slots + s0 = h.2.2) ∧ (h.2.1 ≤ lim.1 ∧ h.2.2 ≤ lim.2) ∧ h.1.2 = scr
abbrev Ck : Type := Nat → Nat → Ins → Instr → Nat → Bool
def SOp (sem : Sem) (ck : Ck) : Prop :=
  ∀ (b base : Nat) (D : va_G) (ct : Nat → ClassId) (scr : Int × (Int → Int)) (p : Program) (l : Launch) (e : Env) (R : Room) (s : State) (m : MethodId) (args : Array Value) (below : List Frame) (meth : Method) (c : Code) (Z : State → Prop) (mid n0 s0 : Nat) (lim : Nat × Nat),
  Fx b base D ct scr p R s m args meth c mid n0 s0 lim →
  ∀ (pc : Nat) (i : Ins) (d : Instr) (len : Nat) (H : Heap) (locs : List Loc) (cells slots : Nat) (lsA : Array Slot) (ls st : List PV) (h : Hp) (cd : Prop) (ls' st' : List PV) (h' : Hp),
  decode (mc mid) pc = .ok (d, len) → ck mid pc i d len = true → sem i.2.1 i.2.2.1 i.2.2.2 lim ls st h = some (cd, ls', st', h') → cd →
  Cx b base D ct scr s mid n0 s0 lim H locs cells slots lsA ls h →
  (∀ (H' : Heap) (locs' : List Loc) (cells' slots' : Nat) (lsA' : Array Slot), Cx b base D ct scr s mid n0 s0 lim H' locs' cells' slots' lsA' ls' h' → W p l e R s m args below meth c H' locs' cells' slots' Z (F0 m (pc + len) lsA' (st'.map (rv b base)))) →
  W p l e R s m args below meth c H locs cells slots Z (F0 m pc lsA (st.map (rv b base)))
/-- how large the heap is at most, by the count of cells made -/
theorem W_sz {p : Program} {l : Launch} {e : Env} {R : Room} {s : State} {m : MethodId} {args : Array Value} {below : List Frame} {meth : Method} {c : Code} {H : Heap} {locs : List Loc} {cells slots : Nat} {Q : State → Prop} {g : JFrame} (k : H.size ≤ s.heap.size + cells → W p l e R s m args below meth c H locs cells slots Q g) : W p l e R s m args below meth c H locs cells slots Q g := by
  intro T hT X
  have h := X.same.2.2.1
  have h2 : T.heap.size ≤ s.heap.size + cells := h
  rw [hT] at h2
  exact k h2 T hT X
theorem Cx_size {b base : Nat} {D : va_G} {ct : Nat → ClassId} {scr : Int × (Int → Int)} {s : State} {mid n0 s0 : Nat} {lim : Nat × Nat} {H : Heap} {locs : List Loc} {cells slots : Nat} {lsA : Array Slot} {ls : List PV} {h : Hp} (cx : Cx b base D ct scr s mid n0 s0 lim H locs cells slots lsA ls h) (hs : s.heap.size = base + n0) (hu : H.size ≤ s.heap.size + cells) : H.size = base + h.2.1 := by
  obtain ⟨-, hP, hS, hk, ⟨hc, -⟩, -, -⟩ := cx
  by_cases h0 : h.2.1 = n0
  · have := hS.1
    omega
  · have hl : h.2.1 - 1 < h.2.1 := by omega
    have := (hP (h.2.1 - 1) _ (wl_at _ hl)).lt
    have : base + (h.2.1 - 1) < H.size := this
    omega

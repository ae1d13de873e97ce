/-! a text told in words -/
def rkD : List Nd → Nat → Nat → Nat
  | [], _, _ => 0
  | x :: l, d, c => if x.1 = d ∧ x.2.1 = c then 0 else (match x.2.2 with
    | true => 0
    | false => 1) + rkD l d c
theorem rkD_at : ∀ (L : List Nd) (i : Nat) (x : Nd), L[i]? = some x → (∀ (j : Nat) (y : Nd), L[j]? = some y → y.1 = x.1 → y.2.1 = x.2.1 → j = i) → rkD L x.1 x.2.1 = rkn L i
  | [], i, x, h, _ => by simp at h
  | a :: L, 0, x, h, _ => by
    have e : a = x := by simpa using h
    subst e
    unfold rkD
    rw [if_pos ⟨rfl, rfl⟩]
    rfl
  | a :: L, i + 1, x, h, hu => by
    have h1 : L[i]? = some x := h
    have ih := rkD_at L i x h1 (fun j y hy h1 h2 => by
      have := hu (j + 1) y hy h1 h2
      omega)
    unfold rkD
    rw [if_neg (fun q => by have := hu 0 a rfl q.1 q.2; omega), ih]
    unfold rkn
    rw [List.take_succ_cons]
    rfl
theorem rkD_TK {m : Nat} (hm : m ≤ 8) {φ : Nat → Nat → Int} {k i : Nat} {x : Nd} (hx : (TK m φ k)[i]? = some x) : rkD (TK m φ k) x.1 x.2.1 = rkn (TK m φ k) i := rkD_at _ i x hx (fun j y hy h1 h2 => dfs_idx hm rfl hy hx ⟨h1, h2⟩)
abbrev ES : Type := Nat × Nat × Nat × List Nat
noncomputable def encN (m Q K : Nat) (wf : Int → Int) (l : Nat) (s : ES) : ES := match SK m (scF Q s.1 wf) K (s.2.1 + 1) (8 * s.2.2.1 + l) with
  | true => (s.1, s.2.1 + 1, 8 * s.2.2.1 + l, s.2.2.2)
  | false => (l % Q, 0, 0, s.2.2.2 ++ [rkD (TK m (scF Q s.1 wf) K) (s.2.1 + 1) (8 * s.2.2.1 + l)])
noncomputable def encF (m Q K : Nat) (wf tx : Int → Int) : Nat → ES
  | 0 => (0, 0, 0, [])
  | k + 1 => encN m Q K wf (tx k).toNat (encF m Q K wf tx k)
/-- all words, and what is left over -/
noncomputable def encW (m Q K : Nat) (wf tx : Int → Int) (ts : Nat) : List Nat := if (encF m Q K wf tx ts).2.1 = 0 then (encF m Q K wf tx ts).2.2.2 else (encF m Q K wf tx ts).2.2.2 ++ [rkD (TK m (scF Q (encF m Q K wf tx ts).1 wf) K) (encF m Q K wf tx ts).2.1 (encF m Q K wf tx ts).2.2.1]
theorem encN_t {m Q K : Nat} {wf : Int → Int} {l st d c : Nat} {ws : List Nat} (e : SK m (scF Q st wf) K (d + 1) (8 * c + l) = true) : encN m Q K wf l (st, d, c, ws) = (st, d + 1, 8 * c + l, ws) := by
  unfold encN
  simp only [e]
theorem encN_f {m Q K : Nat} {wf : Int → Int} {l st d c : Nat} {ws : List Nat} (e : SK m (scF Q st wf) K (d + 1) (8 * c + l) = false) : encN m Q K wf l (st, d, c, ws) = (l % Q, 0, 0, ws ++ [rkD (TK m (scF Q st wf) K) (d + 1) (8 * c + l)]) := by
  unfold encN
  simp only [e]
/-- what holds on the way: the node is split -/
def EI (m Q K : Nat) (wf : Int → Int) (k : Nat) (s : ES) : Prop := s.1 < Q ∧ ((s.2.1, s.2.2.1, true) : Nd) ∈ TK m (scF Q s.1 wf) K ∧ s.2.2.2.length + s.2.1 ≤ k ∧ ∀ w ∈ s.2.2.2, w < 1 + K * (m - 1)
theorem root_split {m K : Nat} (hm2 : 2 ≤ m) (hm : m ≤ 8) (φ : Nat → Nat → Int) (hK : 1 ≤ K) (hK2 : 1 + K * (m - 1) ≤ 256) : SK m φ K 0 0 = true := by
  have h1 : K * 1 ≤ K * (m - 1) := Nat.mul_le_mul_left _ (by omega)
  refine SK_mono hm2 hm _ hK hK2 (t := 1) ?_
  have h2 : 1 * (m - 1) ≤ K * (m - 1) := Nat.mul_le_mul_right _ hK
  obtain ⟨-, -, -, s4, s5, -⟩ := TK_step hm2 hm φ 0 (by omega)
  have hb : bK m φ 0 = (0, 0, false) := by
    have := s4.1
    rw [TK_0, List.mem_singleton] at this
    exact this
  rw [s5, hb]
  exact addS_self _ _ _
/-- children of a split node -/
theorem kid_at {m : Nat} (hm : m ≤ 8) {φ : Nat → Nat → Int} {K d c l : Nat} (h : ((d, c, true) : Nd) ∈ TK m φ K) (hl : l < m) : d < 8 ∧ ∃ i : Nat, (TK m φ K)[i]? = some (d + 1, 8 * c + l, SK m φ K (d + 1) (8 * c + l)) := by
  have hS : SK m φ K d c = true := (TK_flag hm h).symm
  refine ⟨(SK_pc hm φ K d c hS).1, ?_⟩
  obtain ⟨s, hs⟩ := dfs_kid hm 8 0 0 rfl _ h rfl l hl
  have e := TK_flag hm (d := d + 1) (c := 8 * c + l) (s := s) hs
  obtain ⟨i, hi, hix⟩ := List.mem_iff_getElem.mp hs
  refine ⟨i, ?_⟩
  rw [← e]
  have : (TK m φ K)[i]? = some ((TK m φ K)[i]'hi) := List.getElem?_eq_getElem hi
  rw [this]
  congr 1
theorem encN_ok {m Q K : Nat} {wf : Int → Int} (hm2 : 2 ≤ m) (hm : m ≤ 8) (hQ : 0 < Q) (hK : 1 ≤ K) (hK2 : 1 + K * (m - 1) < 256) {k l : Nat} (hl : l < m) {s : ES} (h : EI m Q K wf k s) : EI m Q K wf (k + 1) (encN m Q K wf l s) := by
  obtain ⟨st, d, c, ws⟩ := s
  obtain ⟨h1, h2, h3, h4⟩ := h
  simp only at h1 h2 h3 h4
  obtain ⟨hd, i, hi⟩ := kid_at hm h2 hl
  cases e : SK m (scF Q st wf) K (d + 1) (8 * c + l) with
  | true =>
    rw [encN_t e]
    rw [e] at hi
    exact ⟨h1, List.mem_of_getElem? hi, by show ws.length + (d + 1) ≤ k + 1; omega, h4⟩
  | false =>
    rw [encN_f e]
    rw [e] at hi
    have hrk := rkD_TK hm hi
    obtain ⟨-, hlf, -⟩ := TK_step hm2 hm (scF Q st wf) K hK2
    have r1 := rkn_lt hi rfl (show i < i + 1 by omega)
    have r2 := rkn_le (TK m (scF Q st wf) K) (i + 1)
    refine ⟨Nat.mod_lt _ hQ, ?_, ?_, fun w hw => ?_⟩
    · have := TK_root m (scF Q (l % Q) wf) K
      rw [root_split hm2 hm _ hK (by omega)] at this
      exact this
    · show (ws ++ [_]).length + 0 ≤ k + 1
      rw [List.length_append, List.length_singleton]
      omega
    · rcases List.mem_append.mp hw with hw | hw
      · exact h4 w hw
      · rw [List.mem_singleton.mp hw]
        have : rkD (TK m (scF Q st wf) K) (d + 1) (8 * c + l) = rkn (TK m (scF Q st wf) K) i := hrk
        omega
theorem encF_ok {m Q K : Nat} {wf tx : Int → Int} (hm2 : 2 ≤ m) (hm : m ≤ 8) (hQ : 0 < Q) (hK : 1 ≤ K) (hK2 : 1 + K * (m - 1) < 256) : ∀ k : Nat, (∀ i : Int, 0 ≤ i → i < k → 0 ≤ tx i ∧ tx i < (m : Int)) → EI m Q K wf k (encF m Q K wf tx k)
  | 0, _ => by
    refine ⟨hQ, ?_, Nat.le_refl 0, fun w hw => by cases hw⟩
    have := TK_root m (scF Q 0 wf) K
    rw [root_split hm2 hm _ hK (by omega)] at this
    exact this
  | k + 1, ht => by
    have := ht k (by omega) (by omega)
    exact encN_ok hm2 hm hQ hK hK2 (by omega) (encF_ok hm2 hm hQ hK hK2 k (fun i i0 i1 => ht i i0 (by omega)))
theorem encW_ok {m Q K : Nat} {wf tx : Int → Int} {ts : Nat} (hm2 : 2 ≤ m) (hm : m ≤ 8) (hK2 : 1 + K * (m - 1) < 256) (h : EI m Q K wf ts (encF m Q K wf tx ts)) : (encW m Q K wf tx ts).length ≤ ts ∧ ∀ w ∈ encW m Q K wf tx ts, w < 1 + K * (m - 1) := by
  obtain ⟨h1, h2, h3, h4⟩ := h
  unfold encW
  by_cases e : (encF m Q K wf tx ts).2.1 = 0
  · rw [if_pos e]
    exact ⟨by omega, h4⟩
  · rw [if_neg e]
    refine ⟨by rw [List.length_append, List.length_singleton]; omega, fun w hw => ?_⟩
    rcases List.mem_append.mp hw with hw | hw
    · exact h4 w hw
    · rw [List.mem_singleton.mp hw]
      obtain ⟨i, hi, hix⟩ := List.mem_iff_getElem.mp h2
      have hi2 : (TK m (scF Q (encF m Q K wf tx ts).1 wf) K)[i]? = some ((encF m Q K wf tx ts).2.1, (encF m Q K wf tx ts).2.2.1, true) := by
        rw [List.getElem?_eq_getElem hi, hix]
      have hrk := rkD_TK hm hi2
      obtain ⟨-, hlf, -⟩ := TK_step hm2 hm (scF Q (encF m Q K wf tx ts).1 wf) K hK2
      /- some leaf comes behind it -/
      obtain ⟨y, hy1, hy2, hy3⟩ := TK_leafd hm (by omega) h2
      have : rkn (TK m (scF Q (encF m Q K wf tx ts).1 wf) K) i < lfs (TK m (scF Q (encF m Q K wf tx ts).1 wf) K) := by
        have hB : Blk m (SK m (scF Q (encF m Q K wf tx ts).1 wf) K) (dfs m (SK m (scF Q (encF m Q K wf tx ts).1 wf) K) 8 0 0) i (encF m Q K wf tx ts).2.1 (encF m Q K wf tx ts).2.2.1 := dfs_blk (S := SK m (scF Q (encF m Q K wf tx ts).1 wf) K) hm 8 0 0 rfl i _ hi2
        obtain ⟨A, B, e1, e2, e3⟩ := hB
        obtain ⟨z, z1, z2, z3⟩ := dfs_leafd m (by omega) (SK m (scF Q (encF m Q K wf tx ts).1 wf) K) (8 - (encF m Q K wf tx ts).2.1) (encF m Q K wf tx ts).2.1 (encF m Q K wf tx ts).2.2.1
        obtain ⟨j, hj, hjz⟩ := List.mem_iff_getElem.mp z1
        have hz : (TK m (scF Q (encF m Q K wf tx ts).1 wf) K)[i + j]? = some z := by
          show (dfs m (SK m (scF Q (encF m Q K wf tx ts).1 wf) K) 8 0 0)[i + j]? = some z
          rw [e1, List.getElem?_append_right (by omega), List.getElem?_append_left (by omega), show i + j - A.length = j by omega, List.getElem?_eq_getElem hj, hjz]
        have r1 := rkn_mono (TK m (scF Q (encF m Q K wf tx ts).1 wf) K) (show i ≤ i + j by omega)
        have r2 := rkn_lt hz z2 (show i + j < i + j + 1 by omega)
        have r3 := rkn_le (TK m (scF Q (encF m Q K wf tx ts).1 wf) K) (i + j + 1)
        omega
      have e3 : rkD (TK m (scF Q (encF m Q K wf tx ts).1 wf) K) (encF m Q K wf tx ts).2.1 (encF m Q K wf tx ts).2.2.1 = rkn (TK m (scF Q (encF m Q K wf tx ts).1 wf) K) i := hrk
      omega
/-- words as an array holds them -/
def AW (ws : List Nat) (g : Int → Int) : Prop := ∀ j : Nat, j < ws.length → g j = ((ws[j]?.getD 0 : Nat) : Int)
theorem AW_push {ws : List Nat} {g : Int → Int} (h : AW ws g) {w : Nat} {x : Int} (hx : x = (w : Int)) : AW (ws ++ [w]) (up g (ws.length : Int) x) := by
  intro j hj
  rw [List.length_append, List.length_singleton] at hj
  by_cases e : j = ws.length
  · subst e
    rw [up_same, List.getElem?_append_right (Nat.le_refl _), Nat.sub_self, hx]
    rfl
  · rw [up_ne _ _ _ _ (by omega), List.getElem?_append_left (by omega)]
    exact h j (by omega)
theorem AW_eq {ws : List Nat} {g g' : Int → Int} (h : AW ws g) (h' : AW ws g') : ∀ i : Int, 0 ≤ i → i < (ws.length : Int) → g' i = g i := by
  intro i i0 i1
  obtain ⟨j, rfl⟩ : ∃ j : Nat, i = (j : Int) := ⟨i.toNat, by omega⟩
  rw [h j (by omega), h' j (by omega)]
theorem AW_rng {ws : List Nat} {g : Int → Int} {n : Nat} (h : AW ws g) (hw : ∀ w ∈ ws, w < n) : ∀ i : Int, 0 ≤ i → i < (ws.length : Int) → 0 ≤ g i ∧ g i < (n : Int) := by
  intro i i0 i1
  obtain ⟨j, rfl⟩ : ∃ j : Nat, i = (j : Int) := ⟨i.toNat, by omega⟩
  have hj : j < ws.length := by omega
  rw [h j hj, List.getElem?_eq_getElem hj]
  have := hw _ (List.getElem_mem hj)
  show 0 ≤ ((ws[j] : Nat) : Int) ∧ ((ws[j] : Nat) : Int) < _
  omega
section Q1
variable {m : Nat} {φ : Nat → Nat → Int} {t : Nat} {lb dp ch so ns nu fw : Int → Int}
theorem TR_kid (hm : m ≤ 8) (R : TR m φ t (wnC m φ) lb dp ch so ns) {n d c l : Nat} (hn : n < 1 + t * m) (hw : wnC m φ n = (d, c)) (h : ((d, c, true) : Nd) ∈ TK m φ t) (hl : l < m) : ∃ n' : Nat, 1 + so n * (m : Int) + (l : Int) = (n' : Int) ∧ 0 < n' ∧ n' < 1 + t * m ∧ wnC m φ n' = (d + 1, 8 * c + l) := by
  obtain ⟨t1, t2, t3, t4, t5, t6⟩ := R
  obtain ⟨w1, w2, w3, w4⟩ := t4 n hn
  have hS : SK m φ t d c = true := (TK_flag hm h).symm
  rw [hw] at w3
  obtain ⟨j, j1, j2, j3⟩ := w4 (w3.mpr hS)
  obtain ⟨n2, p1, p2, p3, p4, p5, p6⟩ := t3 j j1
  have e : n2 = n := by omega
  subst e
  have hjm : (j + 1) * m ≤ t * m := Nat.mul_le_mul_right _ j1
  rw [Nat.add_mul, Nat.one_mul] at hjm
  have := p6 l hl
  rw [hw] at this
  refine ⟨1 + j * m + l, ?_, by omega, by omega, this⟩
  rw [j2, Int.natCast_add, Int.natCast_add, Int.natCast_mul]
  rfl
theorem TR_root (R : TR m φ t (wnC m φ) lb dp ch so ns) {n d c : Nat} (hn : n < 1 + t * m) (hw : wnC m φ n = (d, c)) (hc : c < 8 ^ d) : n = 0 ↔ d = 0 := by
  obtain ⟨t1, t2, t3, t4, t5, t6⟩ := R
  constructor
  · intro e
    subst e
    rw [t6] at hw
    have : (0, 0) = (d, c) := hw
    simp only [Prod.mk.injEq] at this
    omega
  · intro e
    subst e
    rw [Nat.pow_zero] at hc
    exact t2 n 0 hn (by omega) (by rw [hw, t6, show c = 0 by omega])
end Q1

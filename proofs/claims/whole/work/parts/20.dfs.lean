/-! nodes of a tree: how many letters, the letters as digits to the base 8, whether it is split; the rows of a subtree in order -/
abbrev Nd : Type := Nat × Nat × Bool
def dfs (m : Nat) (S : Nat → Nat → Bool) : Nat → Nat → Nat → List Nd
  | 0, d, c => [(d, c, false)]
  | r + 1, d, c => match S d c with
    | true => (d, c, true) :: (List.range m).flatMap (fun l => dfs m S r (d + 1) (8 * c + l))
    | false => [(d, c, false)]
theorem dfs_0 (m : Nat) (S : Nat → Nat → Bool) (d c : Nat) : dfs m S 0 d c = [(d, c, false)] := rfl
theorem dfs_t {m : Nat} {S : Nat → Nat → Bool} {d c : Nat} (r : Nat) (h : S d c = true) : dfs m S (r + 1) d c = (d, c, true) :: (List.range m).flatMap (fun l => dfs m S r (d + 1) (8 * c + l)) := by
  simp only [dfs, h]
theorem dfs_f {m : Nat} {S : Nat → Nat → Bool} {d c : Nat} (r : Nat) (h : S d c = false) : dfs m S (r + 1) d c = [(d, c, false)] := by
  simp only [dfs, h]
theorem dfs_hd (m : Nat) (S : Nat → Nat → Bool) (r d c : Nat) : ∃ s l, dfs m S r d c = (d, c, s) :: l := by
  cases r with
  | zero => exact ⟨false, [], rfl⟩
  | succ r =>
    cases e : S d c with
    | true => exact ⟨true, _, dfs_t r e⟩
    | false => exact ⟨false, [], dfs_f r e⟩
theorem dfs_ne (m : Nat) (S : Nat → Nat → Bool) (r d c : Nat) : dfs m S r d c ≠ [] := by
  obtain ⟨s, l, h⟩ := dfs_hd m S r d c
  rw [h]
  exact List.cons_ne_nil _ _
/-- the key of a node: its letters as far as 8 go -/
def ky (x : Nd) : Nat := x.2.1 * 8 ^ (8 - x.1)
def kn (x : Nd) : Nat := ky x * 16 + x.1
theorem pow_split {a b : Nat} (h : a ≤ b) : (8 : Nat) ^ b = 8 ^ a * 8 ^ (b - a) := by
  rw [← Nat.pow_add]
  congr 1
  omega
theorem dfs_rng {m : Nat} {S : Nat → Nat → Bool} (hm : m ≤ 8) : ∀ (r d c : Nat), d + r = 8 → ∀ x ∈ dfs m S r d c, d ≤ x.1 ∧ x.1 ≤ 8 ∧ c * 8 ^ (8 - d) ≤ ky x ∧ ky x + 8 ^ (8 - x.1) ≤ (c + 1) * 8 ^ (8 - d) ∧ x.2.1 / 8 ^ (x.1 - d) = c
  | 0, d, c, hr, x, hx => by
    rw [dfs_0, List.mem_singleton] at hx
    subst hx
    have : d = 8 := by omega
    subst this
    simp [ky]
  | r + 1, d, c, hr, x, hx => by
    have h8 : (8 : Nat) ^ (8 - d) = 8 * 8 ^ (8 - (d + 1)) := by
      rw [show 8 - d = (8 - (d + 1)) + 1 by omega, Nat.pow_succ, Nat.mul_comm]
    have hself : ∀ s : Bool, d ≤ ((d, c, s) : Nd).1 ∧ ((d, c, s) : Nd).1 ≤ 8 ∧ c * 8 ^ (8 - d) ≤ ky (d, c, s) ∧ ky (d, c, s) + 8 ^ (8 - ((d, c, s) : Nd).1) ≤ (c + 1) * 8 ^ (8 - d) ∧ ((d, c, s) : Nd).2.1 / 8 ^ (((d, c, s) : Nd).1 - d) = c := by
      intro s
      refine ⟨Nat.le_refl _, by show d ≤ 8; omega, Nat.le_refl _, ?_, ?_⟩
      · show c * 8 ^ (8 - d) + 8 ^ (8 - d) ≤ (c + 1) * 8 ^ (8 - d)
        rw [Nat.add_mul, Nat.one_mul]
        exact Nat.le_refl _
      · show c / 8 ^ (d - d) = c
        simp
    cases e : S d c with
    | false =>
      rw [dfs_f r e, List.mem_singleton] at hx
      subst hx
      exact hself false
    | true =>
      rw [dfs_t r e] at hx
      rcases List.mem_cons.mp hx with rfl | hx
      · exact hself true
      · obtain ⟨l, hl, hx⟩ := List.mem_flatMap.mp hx
        have hl := List.mem_range.mp hl
        obtain ⟨h1, h2, h3, h4, h5⟩ := dfs_rng hm r (d + 1) (8 * c + l) (by omega) x hx
        refine ⟨by omega, h2, ?_, ?_, ?_⟩
        · rw [h8]
          refine Nat.le_trans ?_ h3
          rw [← Nat.mul_assoc]
          exact Nat.mul_le_mul_right _ (by omega)
        · refine Nat.le_trans h4 ?_
          rw [h8, ← Nat.mul_assoc]
          exact Nat.mul_le_mul_right _ (by omega)
        · rw [show x.1 - d = (x.1 - (d + 1)) + 1 by omega, Nat.pow_succ, ← Nat.div_div_eq_div_mul, h5]
          omega
theorem kn_lt {x y : Nd} (hx : x.1 ≤ 8) (h : ky x < ky y) : kn x < kn y := by
  unfold kn
  omega
theorem dfs_srt {m : Nat} {S : Nat → Nat → Bool} (hm : m ≤ 8) : ∀ (r d c : Nat), d + r = 8 → (dfs m S r d c).Pairwise (fun x y => kn x < kn y)
  | 0, d, c, hr => by
    rw [dfs_0]
    exact List.pairwise_singleton _ _
  | r + 1, d, c, hr => by
    cases e : S d c with
    | false =>
      rw [dfs_f r e]
      exact List.pairwise_singleton _ _
    | true =>
      rw [dfs_t r e, List.pairwise_cons]
      have h8 : (8 : Nat) ^ (8 - d) = 8 * 8 ^ (8 - (d + 1)) := by
        rw [show 8 - d = (8 - (d + 1)) + 1 by omega, Nat.pow_succ, Nat.mul_comm]
      refine ⟨fun x hx => ?_, ?_⟩
      · obtain ⟨l, hl, hx⟩ := List.mem_flatMap.mp hx
        obtain ⟨h1, h2, h3, h4, h5⟩ := dfs_rng hm r (d + 1) (8 * c + l) (by omega) x hx
        have h6 : c * 8 ^ (8 - d) ≤ ky x := by
          rw [h8]
          refine Nat.le_trans ?_ h3
          rw [← Nat.mul_assoc]
          exact Nat.mul_le_mul_right _ (by omega)
        unfold kn
        show c * 8 ^ (8 - d) * 16 + d < _
        omega
      · rw [List.pairwise_flatMap]
        refine ⟨fun l hl => dfs_srt hm r (d + 1) (8 * c + l) (by omega), ?_⟩
        refine List.Pairwise.imp ?_ List.pairwise_lt_range
        intro a b hab x hx y hy
        obtain ⟨h1, h2, h3, h4, h5⟩ := dfs_rng hm r (d + 1) (8 * c + a) (by omega) x hx
        obtain ⟨g1, g2, g3, g4, g5⟩ := dfs_rng hm r (d + 1) (8 * c + b) (by omega) y hy
        apply kn_lt h2
        have hp : 0 < 8 ^ (8 - x.1) := Nat.pow_pos (by decide)
        have : (8 * c + a + 1) * 8 ^ (8 - (d + 1)) ≤ (8 * c + b) * 8 ^ (8 - (d + 1)) := Nat.mul_le_mul_right _ (by omega)
        omega
/-- a node stands once -/
theorem dfs_idx {m : Nat} {S : Nat → Nat → Bool} (hm : m ≤ 8) {r d c : Nat} (hr : d + r = 8) {i j : Nat} {x y : Nd} (hi : (dfs m S r d c)[i]? = some x) (hj : (dfs m S r d c)[j]? = some y) (h : x.1 = y.1 ∧ x.2.1 = y.2.1) : i = j := by
  have hs := dfs_srt (S := S) hm r d c hr
  have hk : kn x = kn y := by
    unfold kn ky
    rw [h.1, h.2]
  obtain ⟨hil, hix⟩ := List.getElem?_eq_some_iff.mp hi
  obtain ⟨hjl, hjy⟩ := List.getElem?_eq_some_iff.mp hj
  rw [List.pairwise_iff_getElem] at hs
  rcases Nat.lt_trichotomy i j with q | q | q
  · have := hs i j hil hjl q
    rw [hix, hjy] at this
    omega
  · exact q
  · have := hs j i hjl hil q
    rw [hix, hjy] at this
    omega
theorem dfs_flag {m : Nat} {S : Nat → Nat → Bool} : ∀ (r d c : Nat), d + r = 8 → ∀ x ∈ dfs m S r d c, x.2.2 = (decide (x.1 < 8) && S x.1 x.2.1)
  | 0, d, c, hr, x, hx => by
    rw [dfs_0, List.mem_singleton] at hx
    subst hx
    have : d = 8 := by omega
    subst this
    rfl
  | r + 1, d, c, hr, x, hx => by
    cases e : S d c with
    | false =>
      rw [dfs_f r e, List.mem_singleton] at hx
      subst hx
      show false = (decide (d < 8) && S d c)
      rw [e, Bool.and_false]
    | true =>
      rw [dfs_t r e] at hx
      rcases List.mem_cons.mp hx with rfl | hx
      · show true = (decide (d < 8) && S d c)
        rw [e, decide_eq_true (by omega)]
        rfl
      · obtain ⟨l, hl, hx⟩ := List.mem_flatMap.mp hx
        exact dfs_flag r (d + 1) (8 * c + l) (by omega) x hx
/-- one more node split: it is put in place of its leaf -/
def rep1 (m d0 c0 : Nat) (x : Nd) : List Nd := if x.1 = d0 ∧ x.2.1 = c0 then (d0, c0, true) :: (List.range m).map (fun l => (d0 + 1, 8 * c0 + l, false)) else [x]
def addS (S : Nat → Nat → Bool) (d0 c0 : Nat) : Nat → Nat → Bool := fun d c => (Nat.beq d d0 && Nat.beq c c0) || S d c
theorem addS_self (S : Nat → Nat → Bool) (d0 c0 : Nat) : addS S d0 c0 d0 c0 = true := by
  unfold addS
  rw [Nat.beq_refl, Nat.beq_refl]
  rfl
theorem addS_ne {S : Nat → Nat → Bool} {d0 c0 d c : Nat} (h : ¬ (d = d0 ∧ c = c0)) : addS S d0 c0 d c = S d c := by
  unfold addS
  by_cases h1 : d = d0
  · have h2 : ¬ c = c0 := fun e => h ⟨h1, e⟩
    have : Nat.beq c c0 = false := by
      cases e : Nat.beq c c0 with
      | false => rfl
      | true => exact absurd (Nat.eq_of_beq_eq_true e) h2
    rw [this, Bool.and_false, Bool.false_or]
  · have : Nat.beq d d0 = false := by
      cases e : Nat.beq d d0 with
      | false => rfl
      | true => exact absurd (Nat.eq_of_beq_eq_true e) h1
    rw [this, Bool.false_and, Bool.false_or]
theorem flatMap_one {α β : Type} (l : List α) (f : α → List β) (g : α → β) (h : ∀ a ∈ l, f a = [g a]) : l.flatMap f = l.map g := by
  induction l with
  | nil => rfl
  | cons a l ih =>
    rw [List.flatMap_cons, List.map_cons, h a List.mem_cons_self, ih (fun b hb => h b (List.mem_cons_of_mem _ hb))]
    rfl
theorem dfs_add {m d0 c0 : Nat} {S : Nat → Nat → Bool} (h0 : S d0 c0 = false) (hd : d0 < 8) (hch : ∀ l, l < m → S (d0 + 1) (8 * c0 + l) = false) : ∀ (r d c : Nat), d + r = 8 → dfs m (addS S d0 c0) r d c = (dfs m S r d c).flatMap (rep1 m d0 c0)
  | 0, d, c, hr => by
    rw [dfs_0, dfs_0, List.flatMap_singleton, rep1, if_neg]
    intro q
    have := q.1
    simp only at this
    omega
  | r + 1, d, c, hr => by
    by_cases hq : d = d0 ∧ c = c0
    · obtain ⟨rfl, rfl⟩ := hq
      rw [dfs_t r (addS_self S d c), dfs_f r h0, List.flatMap_singleton, rep1, if_pos ⟨rfl, rfl⟩]
      congr 1
      apply flatMap_one
      intro l hl
      have hl := List.mem_range.mp hl
      have h1 : addS S d c (d + 1) (8 * c + l) = false := by
        rw [addS_ne (by omega)]
        exact hch l hl
      cases r with
      | zero => rfl
      | succ r => rw [dfs_f r h1]
    · cases e : S d c with
      | false =>
        rw [dfs_f r e, dfs_f r (by rw [addS_ne hq]; exact e), List.flatMap_singleton, rep1, if_neg hq]
      | true =>
        rw [dfs_t r e, dfs_t r (by rw [addS_ne hq]; exact e), List.flatMap_cons, rep1, if_neg hq, List.flatMap_assoc]
        show _ :: _ = _ :: _
        congr 1
        congr 1
        funext l
        exact dfs_add h0 hd hch r (d + 1) (8 * c + l) (by omega)
/-- where a block's elements stand -/
theorem flatMap_at {α β : Type} {f : α → List β} {x : β} : ∀ (l : List α) (i : Nat), (l.flatMap f)[i]? = some x → ∃ (l1 : List α) (a : α) (l2 : List α) (j : Nat), l = l1 ++ a :: l2 ∧ (f a)[j]? = some x ∧ i = (l1.flatMap f).length + j
  | [], i, h => by simp at h
  | a :: l, i, h => by
    rw [List.flatMap_cons] at h
    by_cases hi : i < (f a).length
    · rw [List.getElem?_append_left hi] at h
      exact ⟨[], a, l, i, rfl, h, by simp⟩
    · rw [List.getElem?_append_right (by omega)] at h
      obtain ⟨l1, b, l2, j, h1, h2, h3⟩ := flatMap_at l _ h
      refine ⟨a :: l1, b, l2, j, by rw [h1]; rfl, h2, ?_⟩
      rw [List.flatMap_cons, List.length_append]
      omega
/-- a node's subtree stands behind it, and what comes then is no deeper -/
def Blk (m : Nat) (S : Nat → Nat → Bool) (L : List Nd) (i d c : Nat) : Prop := ∃ A B : List Nd, L = A ++ (dfs m S (8 - d) d c ++ B) ∧ A.length = i ∧ ∀ y, B.head? = some y → y.1 ≤ d
theorem dfs_blk {m : Nat} {S : Nat → Nat → Bool} (hm : m ≤ 8) : ∀ (r d c : Nat), d + r = 8 → ∀ (i : Nat) (x : Nd), (dfs m S r d c)[i]? = some x → Blk m S (dfs m S r d c) i x.1 x.2.1
  | 0, d, c, hr, i, x, hx => by
    rw [dfs_0] at hx ⊢
    have hi : i = 0 := by
      have := (List.getElem?_eq_some_iff.mp hx).1
      simp only [List.length_cons, List.length_nil] at this
      omega
    subst hi
    have : x = (d, c, false) := by simpa using hx.symm
    subst this
    refine ⟨[], [], ?_, rfl, by simp⟩
    rw [List.nil_append, List.append_nil, show 8 - d = 0 by omega]
    rfl
  | r + 1, d, c, hr, i, x, hx => by
    have hroot : ∀ s : Bool, x = (d, c, s) → i = 0 → Blk m S (dfs m S (r + 1) d c) i x.1 x.2.1 := by
      intro s h1 h2
      subst h1
      subst h2
      refine ⟨[], [], ?_, rfl, by simp⟩
      rw [List.nil_append, List.append_nil]
      show dfs m S (r + 1) d c = dfs m S (8 - d) d c
      rw [show 8 - d = r + 1 by omega]
    cases e : S d c with
    | false =>
      have hx2 := hx
      rw [dfs_f r e] at hx2
      have hi : i = 0 := by
        have := (List.getElem?_eq_some_iff.mp hx2).1
        simp only [List.length_cons, List.length_nil] at this
        omega
      subst hi
      exact hroot false (by simpa using hx2.symm) rfl
    | true =>
      have hx2 := hx
      rw [dfs_t r e] at hx2
      cases i with
      | zero => exact hroot true (by simpa using hx2.symm) rfl
      | succ i =>
        rw [List.getElem?_cons_succ] at hx2
        obtain ⟨l1, a, l2, j, h1, h2, h3⟩ := flatMap_at _ _ hx2
        obtain ⟨A, B, g1, g2, g3⟩ := dfs_blk hm r (d + 1) (8 * c + a) (by omega) j x h2
        have hxr := dfs_rng hm r (d + 1) (8 * c + a) (by omega) x (List.mem_of_getElem? h2)
        refine ⟨(d, c, true) :: (l1.flatMap (fun l => dfs m S r (d + 1) (8 * c + l)) ++ A), B ++ l2.flatMap (fun l => dfs m S r (d + 1) (8 * c + l)), ?_, ?_, ?_⟩
        · rw [dfs_t r e, h1, List.flatMap_append, List.flatMap_cons, g1]
          simp [List.append_assoc]
        · simp only [List.length_cons, List.length_append]
          omega
        · intro y hy
          cases B with
          | cons b B =>
            simp only [List.cons_append, List.head?_cons] at hy
            exact g3 y (by simpa using hy)
          | nil =>
            rw [List.nil_append] at hy
            cases l2 with
            | nil => simp at hy
            | cons b l2 =>
              rw [List.flatMap_cons] at hy
              obtain ⟨s, t, ht⟩ := dfs_hd m S r (d + 1) (8 * c + b)
              rw [ht] at hy
              simp only [List.cons_append, List.head?_cons, Option.some.injEq] at hy
              rw [← hy]
              exact hxr.1
/-- how many nodes a subtree has -/
def szN (m : Nat) (S : Nat → Nat → Bool) (d c : Nat) : Nat := (dfs m S (8 - d) d c).length
def ssz (m : Nat) (S : Nat → Nat → Bool) (d c : Nat) : Nat → Nat
  | 0 => 0
  | l + 1 => ssz m S d c l + szN m S (d + 1) (8 * c + l)
theorem ssz_eq (m : Nat) (S : Nat → Nat → Bool) (d c : Nat) (l : Nat) : ((List.range l).flatMap (fun l => dfs m S (8 - (d + 1)) (d + 1) (8 * c + l))).length = ssz m S d c l := by
  induction l with
  | zero => rfl
  | succ l ih =>
    rw [List.range_succ, List.flatMap_append, List.length_append, ih, List.flatMap_singleton]
    rfl
theorem szN_t {m : Nat} {S : Nat → Nat → Bool} {d c : Nat} (hd : d < 8) (h : S d c = true) : szN m S d c = 1 + ssz m S d c m := by
  unfold szN
  rw [show 8 - d = (8 - (d + 1)) + 1 by omega, dfs_t _ h, List.length_cons, ssz_eq]
  omega
theorem szN_f {m : Nat} {S : Nat → Nat → Bool} {d c : Nat} (h : d < 8 → S d c = false) : szN m S d c = 1 := by
  unfold szN
  by_cases hd : d < 8
  · rw [show 8 - d = (8 - (d + 1)) + 1 by omega, dfs_f _ (h hd)]
    rfl
  · rw [show 8 - d = 0 by omega]
    rfl
theorem szN_pos (m : Nat) (S : Nat → Nat → Bool) (d c : Nat) : 1 ≤ szN m S d c := by
  unfold szN
  have := dfs_ne m S (8 - d) d c
  cases e : dfs m S (8 - d) d c with
  | nil => exact absurd e this
  | cons a l => simp
/-- a child's block -/
theorem blk_child {m : Nat} {S : Nat → Nat → Bool} {L : List Nd} {i d c l : Nat} (hd : d < 8) (h : S d c = true) (hl : l < m) (hB : Blk m S L i d c) : Blk m S L (i + 1 + ssz m S d c l) (d + 1) (8 * c + l) := by
  obtain ⟨A, B, h1, h2, h3⟩ := hB
  rw [show 8 - d = (8 - (d + 1)) + 1 by omega, dfs_t _ h] at h1
  have hr : List.range m = List.range l ++ (List.range (m - l)).map (fun x => l + x) := by
    rw [show m = l + (m - l) by omega, List.range_add]
    simp
  have hr2 : List.range (m - l) = 0 :: (List.range (m - l - 1)).map Nat.succ := by
    rw [show m - l = (m - l - 1) + 1 by omega, List.range_succ_eq_map]
    simp
  rw [hr, hr2, List.flatMap_append, List.map_cons, List.flatMap_cons, Nat.add_zero] at h1
  refine ⟨A ++ (d, c, true) :: (List.range l).flatMap (fun l => dfs m S (8 - (d + 1)) (d + 1) (8 * c + l)), ((List.map (fun x => l + x) ((List.range (m - l - 1)).map Nat.succ)).flatMap (fun l => dfs m S (8 - (d + 1)) (d + 1) (8 * c + l))) ++ B, ?_, ?_, ?_⟩
  · rw [h1]
    simp [List.append_assoc]
  · rw [List.length_append, List.length_cons, ssz_eq]
    omega
  · intro y hy
    cases e : (List.range (m - l - 1)).map Nat.succ with
    | nil =>
      rw [e] at hy
      simp only [List.map_nil, List.flatMap_nil, List.nil_append] at hy
      have := h3 y hy
      omega
    | cons a t =>
      rw [e, List.map_cons, List.flatMap_cons] at hy
      obtain ⟨s, t2, ht⟩ := dfs_hd m S (8 - (d + 1)) (d + 1) (8 * c + (l + a))
      rw [ht] at hy
      simp only [List.cons_append, List.head?_cons, Option.some.injEq] at hy
      rw [← hy]
      exact Nat.le_refl _
theorem blk_at {m : Nat} {S : Nat → Nat → Bool} {L : List Nd} {i d c : Nat} (hB : Blk m S L i d c) : ∃ s, L[i]? = some (d, c, s) := by
  obtain ⟨A, B, h1, h2, h3⟩ := hB
  obtain ⟨s, l, h⟩ := dfs_hd m S (8 - d) d c
  refine ⟨s, ?_⟩
  rw [h1, h, List.getElem?_append_right (by omega), h2, Nat.sub_self]
  rfl
theorem blk_len {m : Nat} {S : Nat → Nat → Bool} {L : List Nd} {i d c : Nat} (hB : Blk m S L i d c) : i + szN m S d c ≤ L.length := by
  obtain ⟨A, B, h1, h2, h3⟩ := hB
  rw [h1, List.length_append, List.length_append, h2]
  unfold szN
  omega
/-- within a block all are deeper, behind it none -/
theorem blk_in {m : Nat} {S : Nat → Nat → Bool} (hm : m ≤ 8) {L : List Nd} {i d c : Nat} (hd : d ≤ 8) (hB : Blk m S L i d c) {j : Nat} (h1 : i < j) (h2 : j < i + szN m S d c) {x : Nd} (hx : L[j]? = some x) : d < x.1 := by
  obtain ⟨A, B, e1, e2, e3⟩ := hB
  unfold szN at h2
  rw [e1, List.getElem?_append_right (by omega), List.getElem?_append_left (by omega)] at hx
  by_cases h8 : d = 8
  · subst h8
    have := (List.getElem?_eq_some_iff.mp hx).1
    rw [show 8 - 8 = 0 by omega, dfs_0] at this
    simp only [List.length_cons, List.length_nil] at this
    omega
  · rw [show 8 - d = (8 - (d + 1)) + 1 by omega] at hx
    cases e : S d c with
    | false =>
      rw [dfs_f _ e] at hx
      have := (List.getElem?_eq_some_iff.mp hx).1
      simp only [List.length_cons, List.length_nil] at this
      omega
    | true =>
      rw [dfs_t _ e] at hx
      rw [show j - A.length = (j - A.length - 1) + 1 by omega, List.getElem?_cons_succ] at hx
      obtain ⟨l, hl, hx⟩ := List.mem_flatMap.mp (List.mem_of_getElem? hx)
      have := (dfs_rng hm _ (d + 1) (8 * c + l) (by omega) x hx).1
      omega
theorem blk_out {m : Nat} {S : Nat → Nat → Bool} {L : List Nd} {i d c : Nat} (hB : Blk m S L i d c) {x : Nd} (hx : L[i + szN m S d c]? = some x) : x.1 ≤ d := by
  obtain ⟨A, B, e1, e2, e3⟩ := hB
  unfold szN at hx
  rw [e1, List.getElem?_append_right (by omega), List.getElem?_append_right (by omega)] at hx
  rw [show i + (dfs m S (8 - d) d c).length - A.length - (dfs m S (8 - d) d c).length = 0 by omega] at hx
  exact e3 x (by rw [List.head?_eq_getElem?]; exact hx)

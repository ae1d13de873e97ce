/-! sums over leaves -/
def rs (f : Nat → Int) : Nat → Int
  | 0 => 0
  | l + 1 => rs f l + f l
def lsum (φ : Nat → Nat → Int) : List Nd → Int
  | [] => 0
  | x :: l => (match x.2.2 with
    | true => 0
    | false => φ x.1 x.2.1) + lsum φ l
theorem lsum_app (φ : Nat → Nat → Int) : ∀ a b : List Nd, lsum φ (a ++ b) = lsum φ a + lsum φ b
  | [], b => by simp [lsum]
  | x :: a, b => by
    have ih := lsum_app φ a b
    simp only [List.cons_append, lsum, ih]
    omega
theorem lsum_flat (φ : Nat → Nat → Int) (f : Nat → List Nd) (l : Nat) : lsum φ ((List.range l).flatMap f) = rs (fun l => lsum φ (f l)) l := by
  induction l with
  | zero => rfl
  | succ l ih =>
    rw [List.range_succ, List.flatMap_append, lsum_app, ih, List.flatMap_singleton]
    rfl
theorem rs_congr {f g : Nat → Int} {l : Nat} (h : ∀ i, i < l → f i = g i) : rs f l = rs g l := by
  induction l with
  | zero => rfl
  | succ l ih =>
    unfold rs
    rw [ih (fun i hi => h i (by omega)), h l (by omega)]
theorem rs_mul (a : Int) (f : Nat → Int) (l : Nat) : rs (fun i => a * f i) l = a * rs f l := by
  induction l with
  | zero => simp [rs]
  | succ l ih =>
    unfold rs
    rw [ih, Int.mul_add]
theorem dfs_sum {m : Nat} {S : Nat → Nat → Bool} {φ : Nat → Nat → Int} (hφ : ∀ d c, d < 8 → rs (fun l => φ (d + 1) (8 * c + l)) m = φ d c) : ∀ (r d c : Nat), d + r = 8 → lsum φ (dfs m S r d c) = φ d c
  | 0, d, c, hr => by
    rw [dfs_0]
    simp [lsum]
  | r + 1, d, c, hr => by
    cases e : S d c with
    | false =>
      rw [dfs_f r e]
      simp [lsum]
    | true =>
      rw [dfs_t r e]
      have : lsum φ ((d, c, true) :: (List.range m).flatMap (fun l => dfs m S r (d + 1) (8 * c + l))) = lsum φ ((List.range m).flatMap (fun l => dfs m S r (d + 1) (8 * c + l))) := by
        simp [lsum]
      rw [this, lsum_flat, ← hφ d c (by omega)]
      exact rs_congr (fun l _ => dfs_sum hφ r (d + 1) (8 * c + l) (by omega))
def lfs : List Nd → Nat
  | [] => 0
  | x :: l => (match x.2.2 with
    | true => 0
    | false => 1) + lfs l
theorem lfs_app : ∀ a b : List Nd, lfs (a ++ b) = lfs a + lfs b
  | [], b => by simp [lfs]
  | x :: a, b => by
    have ih := lfs_app a b
    simp only [List.cons_append, lfs, ih]
    omega
theorem lfs_le : ∀ a : List Nd, lfs a ≤ a.length
  | [] => Nat.le_refl 0
  | x :: a => by
    have ih := lfs_le a
    simp only [lfs, List.length_cons]
    split <;> omega
/-- not all leaves can be deepest, if they are few -/
theorem kraft {m : Nat} (S : Nat → Nat → Bool) : lsum (fun d _ => (m : Int) ^ (8 - d)) (dfs m S 8 0 0) = (m : Int) ^ 8 := by
  refine dfs_sum (φ := fun d _ => (m : Int) ^ (8 - d)) ?_ 8 0 0 rfl
  intro d c hd
  have : ∀ l : Nat, rs (fun _ => (m : Int) ^ (8 - (d + 1))) l = (l : Int) * (m : Int) ^ (8 - (d + 1)) := by
    intro l
    induction l with
    | zero => simp [rs]
    | succ l ih =>
      unfold rs
      rw [ih, Int.natCast_succ, Int.add_mul, Int.one_mul]
  rw [this m, show 8 - d = (8 - (d + 1)) + 1 by omega, Int.pow_succ, Int.mul_comm]
theorem lsum_deep {m : Nat} : ∀ L : List Nd, (∀ x ∈ L, x.2.2 = false → x.1 = 8) → lsum (fun d _ => (m : Int) ^ (8 - d)) L = (lfs L : Int)
  | [], _ => rfl
  | x :: L, h => by
    have ih := lsum_deep (m := m) L (fun y hy => h y (List.mem_cons_of_mem _ hy))
    have hx := h x List.mem_cons_self
    obtain ⟨d, c, s⟩ := x
    cases s with
    | true => simp only [lsum, lfs, ih, Int.zero_add, Nat.zero_add]
    | false =>
      have : d = 8 := hx rfl
      subst this
      simp only [lsum, lfs, ih]
      simp
theorem dfs_open {m : Nat} (hm : 2 ≤ m) (hm8 : m ≤ 8) {S : Nat → Nat → Bool} (h : lfs (dfs m S 8 0 0) < 256) : ∃ x ∈ dfs m S 8 0 0, x.2.2 = false ∧ x.1 < 8 := by
  by_cases hq : ∃ x ∈ dfs m S 8 0 0, x.2.2 = false ∧ x.1 < 8
  · exact hq
  · exfalso
    have hall : ∀ x ∈ dfs m S 8 0 0, x.2.2 = false → x.1 = 8 := by
      intro x hx hf
      have h1 := (dfs_rng hm8 8 0 0 rfl x hx).2.1
      by_cases h8 : x.1 = 8
      · exact h8
      · exact absurd ⟨x, hx, hf, by omega⟩ hq
    have h1 := lsum_deep (m := m) _ hall
    rw [kraft] at h1
    have h2 : (256 : Int) ≤ (m : Int) ^ 8 := by
      have h3 : 2 ^ 8 ≤ m ^ 8 := Nat.pow_le_pow_left hm 8
      have h4 : ((2 ^ 8 : Nat) : Int) ≤ ((m ^ 8 : Nat) : Int) := Int.ofNat_le.mpr h3
      simpa using h4
    omega
/-! which leaf is split next -/
def bt1 (φ : Nat → Nat → Int) (x : Nd) (b : Option Nd) : Prop := match b with
  | none => True
  | some y => φ y.1 y.2.1 < φ x.1 x.2.1 ∨ (φ x.1 x.2.1 = φ y.1 y.2.1 ∧ x.1 < y.1)
noncomputable def bpick (φ : Nat → Nat → Int) (x : Nd) (b : Option Nd) : Option Nd := by
  classical
  exact if (x.2.2 = false ∧ x.1 < 8) ∧ bt1 φ x b then some x else b
noncomputable def bs (φ : Nat → Nat → Int) : Option Nd → List Nd → Option Nd
  | b, [] => b
  | b, x :: l => bs φ (bpick φ x b) l
/-- ahead: likelier; of like ones with fewer letters; of these the first -/
def AH (φ : Nat → Nat → Int) (x y : Nd) : Prop := φ y.1 y.2.1 < φ x.1 x.2.1 ∨ (φ x.1 x.2.1 = φ y.1 y.2.1 ∧ (x.1 < y.1 ∨ (x.1 = y.1 ∧ x.2.1 < y.2.1)))
def opn (x : Nd) : Prop := x.2.2 = false ∧ x.1 < 8
theorem AH_asym {φ : Nat → Nat → Int} {x y : Nd} (h1 : AH φ x y) (h2 : AH φ y x) : False := by
  unfold AH at h1 h2
  omega
theorem AH_trans {φ : Nat → Nat → Int} {x y z : Nd} (h1 : AH φ x y) (h2 : AH φ y z) : AH φ x z := by
  unfold AH at h1 h2 ⊢
  omega
theorem bpick_pos {φ : Nat → Nat → Int} {x : Nd} {b : Option Nd} (h : opn x ∧ bt1 φ x b) : bpick φ x b = some x := by
  unfold bpick
  exact if_pos h
theorem bpick_neg {φ : Nat → Nat → Int} {x : Nd} {b : Option Nd} (h : ¬ (opn x ∧ bt1 φ x b)) : bpick φ x b = b := by
  unfold bpick
  exact if_neg h
def isB (φ : Nat → Nat → Int) (P : List Nd) (b : Option Nd) : Prop := match b with
  | none => ∀ y ∈ P, ¬ opn y
  | some x => x ∈ P ∧ opn x ∧ ∀ y ∈ P, opn y → y = x ∨ AH φ x y
theorem kn_code {x y : Nd} (h : kn x < kn y) (hl : x.1 = y.1) : x.2.1 < y.2.1 := by
  unfold kn ky at h
  rw [hl] at h
  by_cases hc : x.2.1 < y.2.1
  · exact hc
  · have := Nat.mul_le_mul_right (8 ^ (8 - y.1)) (Nat.le_of_not_lt hc)
    omega
theorem bs_spec {φ : Nat → Nat → Int} : ∀ (L P : List Nd) (b : Option Nd), (P ++ L).Pairwise (fun x y => kn x < kn y) → isB φ P b → isB φ (P ++ L) (bs φ b L)
  | [], P, b, _, hb => by
    rw [List.append_nil]
    exact hb
  | x :: L, P, b, hs, hb => by
    have hs2 : ((P ++ [x]) ++ L).Pairwise (fun x y => kn x < kn y) := by
      rw [List.append_assoc]
      exact hs
    have e : P ++ x :: L = (P ++ [x]) ++ L := by simp
    rw [e]
    refine bs_spec L (P ++ [x]) (bpick φ x b) hs2 ?_
    have hlt : ∀ y ∈ P, kn y < kn x := fun y hy => (List.pairwise_append.mp hs).2.2 y hy x List.mem_cons_self
    by_cases hq : opn x ∧ bt1 φ x b
    · rw [bpick_pos hq]
      refine ⟨List.mem_append_right _ List.mem_cons_self, hq.1, fun y hy ho => ?_⟩
      rcases List.mem_append.mp hy with hy | hy
      · right
        cases b with
        | none => exact absurd ho (hb y hy)
        | some z =>
          have hz : AH φ x z := by
            have := hq.2
            unfold bt1 at this
            unfold AH
            simp only at this
            omega
          rcases hb.2.2 y hy ho with rfl | h2
          · exact hz
          · exact AH_trans hz h2
      · left
        simpa using hy
    · rw [bpick_neg hq]
      cases b with
      | none =>
        intro y hy ho
        rcases List.mem_append.mp hy with hy | hy
        · exact hb y hy ho
        · have : y = x := by simpa using hy
          subst this
          exact hq ⟨ho, trivial⟩
      | some z =>
        refine ⟨List.mem_append_left _ hb.1, hb.2.1, fun y hy ho => ?_⟩
        rcases List.mem_append.mp hy with hy | hy
        · exact hb.2.2 y hy ho
        · have : y = x := by simpa using hy
          subst this
          right
          have hn : ¬ bt1 φ y (some z) := fun h => hq ⟨ho, h⟩
          have hk := hlt z hb.1
          unfold bt1 at hn
          unfold AH
          simp only at hn
          by_cases hl : z.1 = y.1
          · have := kn_code hk hl
            omega
          · omega
/-! the trees, split by split -/
noncomputable def SK (m : Nat) (φ : Nat → Nat → Int) : Nat → Nat → Nat → Bool
  | 0 => fun _ _ => false
  | k + 1 => match bs φ none (dfs m (SK m φ k) 8 0 0) with
    | some x => addS (SK m φ k) x.1 x.2.1
    | none => SK m φ k
noncomputable def TK (m : Nat) (φ : Nat → Nat → Int) (k : Nat) : List Nd := dfs m (SK m φ k) 8 0 0
noncomputable def bK (m : Nat) (φ : Nat → Nat → Int) (k : Nat) : Nd := (bs φ none (TK m φ k)).getD (0, 0, false)
theorem TK_srt {m : Nat} (hm : m ≤ 8) (φ : Nat → Nat → Int) (k : Nat) : (TK m φ k).Pairwise (fun x y => kn x < kn y) := dfs_srt hm 8 0 0 rfl
theorem TK_0 (m : Nat) (φ : Nat → Nat → Int) : TK m φ 0 = [(0, 0, false)] := rfl
/-- splits are closed under ahead -/
theorem SK_pc {m : Nat} (hm : m ≤ 8) (φ : Nat → Nat → Int) : ∀ (k d c : Nat), SK m φ k d c = true → d < 8 ∧ (0 < d → SK m φ k (d - 1) (c / 8) = true)
  | 0, d, c, h => by cases h
  | k + 1, d, c, h => by
    have hb := bs_spec (φ := φ) (TK m φ k) [] none (by simpa using TK_srt hm φ k) (fun y hy => by cases hy)
    simp only [SK] at h ⊢
    unfold TK at hb
    cases e : bs φ none (dfs m (SK m φ k) 8 0 0) with
    | none =>
      rw [e] at h
      simp only [e]
      exact SK_pc hm φ k d c h
    | some x =>
      rw [e] at h hb
      simp only [e]
      by_cases hq : d = x.1 ∧ c = x.2.1
      · obtain ⟨rfl, rfl⟩ := hq
        refine ⟨hb.2.1.2, fun h0 => ?_⟩
        rw [addS_ne (by omega)]
        -- the node ahead of a node in the rows is split
        have hpar : ∀ (r d c : Nat), d + r = 8 → ∀ x ∈ dfs m (SK m φ k) r d c, d < x.1 → SK m φ k (x.1 - 1) (x.2.1 / 8) = true := by
          intro r
          induction r with
          | zero =>
            intro d c hr x hx hl
            rw [dfs_0, List.mem_singleton] at hx
            subst hx
            exact absurd hl (Nat.lt_irrefl _)
          | succ r ih =>
            intro d c hr x hx hl
            cases e2 : SK m φ k d c with
            | false =>
              rw [dfs_f r e2, List.mem_singleton] at hx
              subst hx
              exact absurd hl (Nat.lt_irrefl _)
            | true =>
              rw [dfs_t r e2] at hx
              rcases List.mem_cons.mp hx with rfl | hx
              · exact absurd hl (Nat.lt_irrefl _)
              · obtain ⟨l, hl2, hx⟩ := List.mem_flatMap.mp hx
                have hl2 := List.mem_range.mp hl2
                by_cases h1 : d + 1 < x.1
                · exact ih (d + 1) (8 * c + l) (by omega) x hx h1
                · have hr2 := dfs_rng hm r (d + 1) (8 * c + l) (by omega) x hx
                  have h3 : x.1 = d + 1 := by omega
                  have h4 := hr2.2.2.2.2
                  rw [h3, Nat.sub_self, Nat.pow_zero, Nat.div_one] at h4
                  rw [h3, h4, Nat.add_sub_cancel, show (8 * c + l) / 8 = c by omega]
                  exact e2
        exact hpar 8 0 0 rfl x (by simpa using hb.1) h0
      · have h : addS (SK m φ k) x.1 x.2.1 d c = true := h
        rw [addS_ne hq] at h
        obtain ⟨h1, h2⟩ := SK_pc hm φ k d c h
        refine ⟨h1, fun h0 => ?_⟩
        by_cases hq2 : d - 1 = x.1 ∧ c / 8 = x.2.1
        · rw [hq2.1, hq2.2]
          exact addS_self _ _ _
        · rw [addS_ne hq2]
          exact h2 h0
theorem lfs_one {L : List Nd} : lfs L = 0 → ∀ x ∈ L, x.2.2 = true := by
  induction L with
  | nil => intro _ x hx; cases hx
  | cons a L ih =>
    intro h x hx
    obtain ⟨d, c, s⟩ := a
    cases s with
    | false => simp only [lfs] at h; omega
    | true =>
      rcases List.mem_cons.mp hx with rfl | hx
      · rfl
      · exact ih (by simpa [lfs] using h) x hx
theorem split_list {L : List Nd} {x : Nd} (hx : x ∈ L) : ∃ A B, L = A ++ x :: B := List.append_of_mem hx
/-- a split, by places -/
theorem rep_list {m : Nat} {A B : List Nd} {x : Nd} (hs : (A ++ x :: B).Pairwise (fun x y => kn x < kn y)) : (A ++ x :: B).flatMap (rep1 m x.1 x.2.1) = A ++ ((x.1, x.2.1, true) :: (List.range m).map (fun l => (x.1 + 1, 8 * x.2.1 + l, false))) ++ B := by
  have hne : ∀ y : Nd, kn y ≠ kn x → rep1 m x.1 x.2.1 y = [y] := by
    intro y hy
    unfold rep1
    rw [if_neg]
    intro q
    apply hy
    unfold kn ky
    rw [q.1, q.2]
  have hid : ∀ l : List Nd, (∀ y ∈ l, kn y ≠ kn x) → l.flatMap (rep1 m x.1 x.2.1) = l := by
    intro l hl
    rw [flatMap_one l _ id (fun y hy => hne y (hl y hy)), List.map_id]
  obtain ⟨h1, h2, h3⟩ := List.pairwise_append.mp hs
  obtain ⟨h4, h5⟩ := List.pairwise_cons.mp h2
  rw [List.flatMap_append, List.flatMap_cons, hid A (fun y hy => by have := h3 y hy x List.mem_cons_self; omega), hid B (fun y hy => by have := h4 y hy; omega)]
  unfold rep1
  rw [if_pos ⟨rfl, rfl⟩, List.append_assoc]
theorem lfs_leaves (m d c : Nat) : ∀ l, lfs ((List.range l).map (fun l => ((d + 1, 8 * c + l, false) : Nd))) = l := by
  intro l
  induction l with
  | zero => rfl
  | succ l ih =>
    rw [List.range_succ, List.map_append, lfs_app, ih]
    rfl
theorem TK_aux {m : Nat} (hm2 : 2 ≤ m) (hm : m ≤ 8) (φ : Nat → Nat → Int) (k : Nat) (hk : 1 + k * (m - 1) < 256) (h0 : (TK m φ k).length = 1 + k * m ∧ lfs (TK m φ k) = 1 + k * (m - 1)) :
    (TK m φ k).length = 1 + k * m ∧ lfs (TK m φ k) = 1 + k * (m - 1) ∧
    bs φ none (TK m φ k) = some (bK m φ k) ∧ isB φ (TK m φ k) (some (bK m φ k)) ∧ SK m φ (k + 1) = addS (SK m φ k) (bK m φ k).1 (bK m φ k).2.1 ∧ SK m φ k (bK m φ k).1 (bK m φ k).2.1 = false ∧
    ∃ A B, TK m φ k = A ++ bK m φ k :: B ∧ TK m φ (k + 1) = A ++ (((bK m φ k).1, (bK m φ k).2.1, true) :: (List.range m).map (fun l => ((bK m φ k).1 + 1, 8 * (bK m φ k).2.1 + l, false))) ++ B := by
  have hb := bs_spec (φ := φ) (TK m φ k) [] none (by simpa using TK_srt hm φ k) (fun y hy => by cases hy)
  rw [List.nil_append] at hb
  obtain ⟨z, hz1, hz2, hz3⟩ := dfs_open hm2 hm (S := SK m φ k) (by have := h0.2; unfold TK at this; omega)
  cases e : bs φ none (TK m φ k) with
  | none =>
    rw [e] at hb
    exact absurd ⟨hz2, hz3⟩ (hb z hz1)
  | some x =>
    rw [e] at hb
    have hbk : bK m φ k = x := by
      unfold bK
      rw [e]
      rfl
    rw [hbk]
    have hS : SK m φ (k + 1) = addS (SK m φ k) x.1 x.2.1 := by
      simp only [SK]
      unfold TK at e
      rw [e]
    have hfl := dfs_flag 8 0 0 rfl x hb.1
    have hxf : SK m φ k x.1 x.2.1 = false := by
      rw [hb.2.1.1, decide_eq_true hb.2.1.2, Bool.true_and] at hfl
      exact hfl.symm
    obtain ⟨A, B, hAB⟩ := split_list hb.1
    refine ⟨h0.1, h0.2, rfl, hb, hS, hxf, A, B, hAB, ?_⟩
    unfold TK
    rw [hS, dfs_add hxf hb.2.1.2 (fun l hl => ?_) 8 0 0 rfl]
    · have hs := TK_srt hm φ k
      rw [hAB] at hs
      show (TK m φ k).flatMap _ = _
      rw [hAB]
      exact rep_list hs
    · cases e2 : SK m φ k (x.1 + 1) (8 * x.2.1 + l) with
      | false => rfl
      | true =>
        have := (SK_pc hm φ k _ _ e2).2 (by omega)
        rw [Nat.add_sub_cancel, show (8 * x.2.1 + l) / 8 = x.2.1 by omega, hxf] at this
        cases this
/-- each split: what is split, how the rows change, how many there are -/
theorem TK_step {m : Nat} (hm2 : 2 ≤ m) (hm : m ≤ 8) (φ : Nat → Nat → Int) : ∀ k : Nat, 1 + k * (m - 1) < 256 →
    (TK m φ k).length = 1 + k * m ∧ lfs (TK m φ k) = 1 + k * (m - 1) ∧
    bs φ none (TK m φ k) = some (bK m φ k) ∧ isB φ (TK m φ k) (some (bK m φ k)) ∧ SK m φ (k + 1) = addS (SK m φ k) (bK m φ k).1 (bK m φ k).2.1 ∧ SK m φ k (bK m φ k).1 (bK m φ k).2.1 = false ∧
    ∃ A B, TK m φ k = A ++ bK m φ k :: B ∧ TK m φ (k + 1) = A ++ (((bK m φ k).1, (bK m φ k).2.1, true) :: (List.range m).map (fun l => ((bK m φ k).1 + 1, 8 * (bK m φ k).2.1 + l, false))) ++ B := by
  intro k
  induction k with
  | zero =>
    intro hk
    have h0 : (TK m φ 0).length = 1 + 0 * m ∧ lfs (TK m φ 0) = 1 + 0 * (m - 1) := by
      rw [TK_0]
      exact ⟨by simp, by simp [lfs]⟩
    exact TK_aux hm2 hm φ 0 hk h0
  | succ k ih =>
    intro hk
    have hmul : (k + 1) * (m - 1) = k * (m - 1) + (m - 1) := by rw [Nat.add_mul, Nat.one_mul]
    obtain ⟨h1, h2, h3, h4, h5, h6, A, B, h7, h8⟩ := ih (by omega)
    refine TK_aux hm2 hm φ (k + 1) hk ⟨?_, ?_⟩
    · rw [h8]
      rw [h7] at h1
      simp only [List.length_append, List.length_cons, List.length_map, List.length_range] at h1 ⊢
      rw [Nat.add_mul, Nat.one_mul]
      omega
    · rw [h8, lfs_app, lfs_app]
      rw [h7, lfs_app] at h2
      have hx : (bK m φ k).2.2 = false := h4.2.1.1
      have e1 : lfs (bK m φ k :: B) = 1 + lfs B := by
        simp only [lfs, hx]
      have e2 : lfs (((bK m φ k).1, (bK m φ k).2.1, true) :: (List.range m).map (fun l => (((bK m φ k).1 + 1, 8 * (bK m φ k).2.1 + l, false) : Nd))) = m := by
        show 0 + lfs _ = m
        rw [lfs_leaves m, Nat.zero_add]
      rw [e1] at h2
      rw [e2]
      omega

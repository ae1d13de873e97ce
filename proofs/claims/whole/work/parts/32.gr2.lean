/-! chances -/
def stF (Q q d c : Nat) : Nat := if d = 0 then q else c % 8 % Q
def numF (Q q : Nat) (wf : Int → Int) : Nat → Nat → Int
  | 0, _ => 1
  | d + 1, c => numF Q q wf d (c / 8) * wf (5 * (stF Q q d (c / 8) : Int) + ((c % 8 : Nat) : Int))
def scF (Q q : Nat) (wf : Int → Int) (d c : Nat) : Int := numF Q q wf d c * 16 ^ (8 - d)
def WOK (m : Nat) (wf : Int → Int) : Prop := ∀ s l : Nat, s < 3 → l < m → 1 ≤ wf (5 * (s : Int) + (l : Int)) ∧ wf (5 * (s : Int) + (l : Int)) ≤ 15
theorem stF_lt {Q q d c : Nat} (hQ : 1 ≤ Q ∧ Q ≤ 3) (hq : q < Q) : stF Q q d c < Q := by
  unfold stF
  by_cases h : d = 0
  · rw [if_pos h]
    exact hq
  · rw [if_neg h]
    exact Nat.mod_lt _ (by omega)
theorem numF_child (Q q : Nat) (wf : Int → Int) (d c : Nat) {l : Nat} (hl : l < 8) : numF Q q wf (d + 1) (8 * c + l) = numF Q q wf d c * wf (5 * (stF Q q d c : Int) + (l : Int)) := by
  show numF Q q wf d ((8 * c + l) / 8) * wf (5 * (stF Q q d ((8 * c + l) / 8) : Int) + (((8 * c + l) % 8 : Nat) : Int)) = _
  rw [show (8 * c + l) / 8 = c by omega, show (8 * c + l) % 8 = l by omega]
theorem scF_child (Q q : Nat) (wf : Int → Int) {d c : Nat} (hd : d < 8) {l : Nat} (hl : l < 8) : scF Q q wf (d + 1) (8 * c + l) = scF Q q wf d c / 16 * wf (5 * (stF Q q d c : Int) + (l : Int)) := by
  unfold scF
  rw [numF_child Q q wf d c hl, show 8 - d = (8 - (d + 1)) + 1 by omega, Int.pow_succ, ← Int.mul_assoc, Int.mul_ediv_cancel _ (by decide), Int.mul_assoc, Int.mul_assoc, Int.mul_comm (wf _)]
theorem scF_0 (Q q : Nat) (wf : Int → Int) (c : Nat) : scF Q q wf 0 c = 4294967296 := by
  unfold scF numF
  decide
/-- the words of a tree have letters alone, and their parents are split -/
theorem dfs_par {m : Nat} {S : Nat → Nat → Bool} (hm : m ≤ 8) : ∀ (r d c : Nat), d + r = 8 → ∀ x ∈ dfs m S r d c, d < x.1 → S (x.1 - 1) (x.2.1 / 8) = true ∧ x.2.1 % 8 < m ∧ ((x.1 - 1, x.2.1 / 8, true) : Nd) ∈ dfs m S r d c
  | 0, d, c, hr, x, hx, hl => by
    rw [dfs_0, List.mem_singleton] at hx
    subst hx
    exact absurd hl (Nat.lt_irrefl _)
  | r + 1, d, c, hr, x, hx, hl => by
    cases e2 : S d c with
    | false =>
      rw [dfs_f r e2, List.mem_singleton] at hx
      subst hx
      exact absurd hl (Nat.lt_irrefl _)
    | true =>
      rw [dfs_t r e2] at hx ⊢
      rcases List.mem_cons.mp hx with rfl | hx
      · exact absurd hl (Nat.lt_irrefl _)
      · obtain ⟨l, hl2, hx⟩ := List.mem_flatMap.mp hx
        by_cases h1 : d + 1 < x.1
        · obtain ⟨g1, g2, g3⟩ := dfs_par hm r (d + 1) (8 * c + l) (by omega) x hx h1
          exact ⟨g1, g2, List.mem_cons_of_mem _ (List.mem_flatMap.mpr ⟨l, hl2, g3⟩)⟩
        · have hl2 := List.mem_range.mp hl2
          have hr2 := dfs_rng hm r (d + 1) (8 * c + l) (by omega) x hx
          have h3 : x.1 = d + 1 := by omega
          have h4 := hr2.2.2.2.2
          rw [h3, Nat.sub_self, Nat.pow_zero, Nat.div_one] at h4
          rw [h3, h4, Nat.add_sub_cancel, show (8 * c + l) / 8 = c by omega]
          exact ⟨e2, by omega, List.mem_cons_self⟩
theorem dfs_code {m : Nat} {S : Nat → Nat → Bool} (hm : m ≤ 8) {x : Nd} (hx : x ∈ dfs m S 8 0 0) : x.1 ≤ 8 ∧ x.2.1 < 8 ^ x.1 := by
  have h := dfs_rng hm 8 0 0 rfl x hx
  refine ⟨h.2.1, ?_⟩
  have h5 := h.2.2.2.2
  rw [Nat.sub_zero] at h5
  exact Nat.lt_of_div_eq_zero (Nat.pow_pos (by decide)) h5
/-- chances lie between 1 and all -/
theorem num_rng {m Q q : Nat} {wf : Int → Int} (hm : m ≤ 8) (hQ : 1 ≤ Q ∧ Q ≤ 3) (hq : q < Q) (hW : WOK m wf) {S : Nat → Nat → Bool} : ∀ (d : Nat) (x : Nd), x ∈ dfs m S 8 0 0 → x.1 = d → 1 ≤ numF Q q wf x.1 x.2.1 ∧ numF Q q wf x.1 x.2.1 ≤ 16 ^ x.1
  | 0, x, hx, hd => by
    rw [hd]
    exact ⟨Int.le_refl 1, Int.le_refl 1⟩
  | d + 1, x, hx, hd => by
    obtain ⟨g1, g2, g3⟩ := dfs_par hm 8 0 0 rfl x hx (by omega)
    have ih := num_rng hm hQ hq hW d _ g3 (by show x.1 - 1 = d; omega)
    simp only at ih
    rw [hd] at ih ⊢
    rw [Nat.add_sub_cancel] at ih
    have hs := stF_lt (d := d) (c := x.2.1 / 8) hQ hq
    obtain ⟨w1, w2⟩ := hW (stF Q q d (x.2.1 / 8)) (x.2.1 % 8) (by omega) g2
    show 1 ≤ numF Q q wf d (x.2.1 / 8) * wf _ ∧ numF Q q wf d (x.2.1 / 8) * wf _ ≤ _
    refine ⟨?_, ?_⟩
    · have := Int.mul_le_mul ih.1 w1 (by omega) (by omega)
      simpa using this
    · rw [Int.pow_succ]
      exact Int.mul_le_mul ih.2 (by omega) (by omega) (Int.pow_nonneg (by omega))
theorem sc_rng {m Q q : Nat} {wf : Int → Int} (hm : m ≤ 8) (hQ : 1 ≤ Q ∧ Q ≤ 3) (hq : q < Q) (hW : WOK m wf) {S : Nat → Nat → Bool} {x : Nd} (hx : x ∈ dfs m S 8 0 0) : 1 ≤ scF Q q wf x.1 x.2.1 ∧ scF Q q wf x.1 x.2.1 ≤ 4294967296 := by
  have h := num_rng hm hQ hq hW x.1 x hx rfl
  have h8 := (dfs_code hm hx).1
  unfold scF
  have hp : (1 : Int) ≤ 16 ^ (8 - x.1) := by
    have := Int.pow_pos (show (0 : Int) < 16 by decide) (m := 8 - x.1)
    omega
  refine ⟨?_, ?_⟩
  · have := Int.mul_le_mul h.1 hp (by omega) (by omega)
    simpa using this
  · have h2 := Int.mul_le_mul_of_nonneg_right h.2 (show (0 : Int) ≤ 16 ^ (8 - x.1) by omega)
    rw [← Int.pow_add, show x.1 + (8 - x.1) = 8 by omega] at h2
    exact Int.le_trans h2 (by decide)
/-! a Growth's arrays hold the first k splits; wn: the words of its nodes -/
def GR (m : Nat) (φ : Nat → Nat → Int) (k : Nat) (wn : Nat → Nat × Nat) (lb dp ch so ns op : Int → Int) (oc : Nat) : Prop :=
  wn 0 = (0, 0) ∧
  (∀ n : Nat, n < 1 + k * m → dp n = ((wn n).1 : Int) ∧ lb n = ((wn n).2 : Int) ∧ ch n = φ (wn n).1 (wn n).2 ∧ ∃ s, (((wn n).1, (wn n).2, s) : Nd) ∈ TK m φ k) ∧
  (∀ n n' : Nat, n < 1 + k * m → n' < 1 + k * m → wn n = wn n' → n = n') ∧
  (∀ j : Nat, j < k → ∃ n : Nat, n < 1 + j * m ∧ ns j = (n : Int) ∧ so n = (j : Int) ∧ wn n = ((bK m φ j).1, (bK m φ j).2.1) ∧ ∀ l : Nat, l < m → wn (1 + j * m + l) = ((wn n).1 + 1, 8 * (wn n).2 + l)) ∧
  (∀ n : Nat, n < 1 + k * m → (so n = 63 ∧ SK m φ k (wn n).1 (wn n).2 = false) ∨ ∃ j : Nat, j < k ∧ so n = (j : Int) ∧ ns j = (n : Int)) ∧
  (∀ i : Nat, i < oc → ∃ n : Nat, n < 1 + k * m ∧ op i = (n : Int) ∧ so n = 63 ∧ (wn n).1 < 8) ∧
  (∀ n : Nat, n < 1 + k * m → so n = 63 → (wn n).1 < 8 → ∃ i : Nat, i < oc ∧ op i = (n : Int)) ∧
  (∀ i i' : Nat, i < oc → i' < oc → op i = op i' → i = i') ∧ oc ≤ 1 + k * (m - 1)
/-- a word is split if it was once split -/
theorem SK_ex {m : Nat} (hm2 : 2 ≤ m) (hm : m ≤ 8) (φ : Nat → Nat → Int) : ∀ (k : Nat), 1 + k * (m - 1) ≤ 256 → ∀ d c, (SK m φ k d c = true ↔ ∃ j, j < k ∧ (bK m φ j).1 = d ∧ (bK m φ j).2.1 = c)
  | 0, _, d, c => by
    constructor
    · intro h
      cases h
    · intro ⟨j, hj, _⟩
      omega
  | k + 1, hk, d, c => by
    have hmul : (k + 1) * (m - 1) = k * (m - 1) + (m - 1) := by rw [Nat.add_mul, Nat.one_mul]
    have hst := TK_step hm2 hm φ k (by omega)
    rw [hst.2.2.2.2.1]
    by_cases hq : d = (bK m φ k).1 ∧ c = (bK m φ k).2.1
    · obtain ⟨rfl, rfl⟩ := hq
      rw [addS_self]
      exact ⟨fun _ => ⟨k, by omega, rfl, rfl⟩, fun _ => rfl⟩
    · rw [addS_ne hq, SK_ex hm2 hm φ k (by omega) d c]
      constructor
      · intro ⟨j, hj, h2⟩
        exact ⟨j, by omega, h2⟩
      · intro ⟨j, hj, h2⟩
        by_cases e : j = k
        · subst e
          exact absurd ⟨h2.1.symm, h2.2.symm⟩ hq
        · exact ⟨j, by omega, h2⟩
theorem GR_sur {m : Nat} {φ : Nat → Nat → Int} {k : Nat} {wn : Nat → Nat × Nat} {lb dp ch so ns op : Int → Int} {oc : Nat} (hm2 : 2 ≤ m) (hm : m ≤ 8) (hk : 1 + k * (m - 1) ≤ 256) (G : GR m φ k wn lb dp ch so ns op oc) {x : Nd} (hx : x ∈ TK m φ k) : ∃ n : Nat, n < 1 + k * m ∧ wn n = (x.1, x.2.1) := by
  obtain ⟨g0, g1, g2, g3, g4, g5, g6, g7, g8⟩ := G
  have hr := dfs_rng hm 8 0 0 rfl x hx
  by_cases h0 : x.1 = 0
  · refine ⟨0, by omega, ?_⟩
    have h5 := hr.2.2.2.2
    rw [h0, Nat.sub_zero, Nat.pow_zero, Nat.div_one] at h5
    rw [g0, h0, h5]
  · obtain ⟨p1, p2, p3⟩ := dfs_par hm 8 0 0 rfl x hx (by omega)
    obtain ⟨j, hj, e1, e2⟩ := (SK_ex hm2 hm φ k hk _ _).mp p1
    obtain ⟨n, n1, n2, n3, n4, n5⟩ := g3 j hj
    refine ⟨1 + j * m + x.2.1 % 8, ?_, ?_⟩
    · have : (j + 1) * m ≤ k * m := Nat.mul_le_mul_right _ hj
      rw [Nat.add_mul, Nat.one_mul] at this
      omega
    · rw [n5 _ p2, n4, e1, e2]
      show (x.1 - 1 + 1, 8 * (x.2.1 / 8) + x.2.1 % 8) = _
      rw [show x.1 - 1 + 1 = x.1 by omega, show 8 * (x.2.1 / 8) + x.2.1 % 8 = x.2.1 by omega]

section GRS
variable {m : Nat} {φ : Nat → Nat → Int} {k : Nat} {wn : Nat → Nat × Nat} {lb dp ch so ns op : Int → Int} {oc : Nat}
/-- the flag of a node's word in the rows -/
theorem GR_flag (hm2 : 2 ≤ m) (hm : m ≤ 8) (hk : 1 + k * (m - 1) ≤ 256) (G : GR m φ k wn lb dp ch so ns op oc) {n : Nat} (hn : n < 1 + k * m) : (((wn n).1, (wn n).2, SK m φ k (wn n).1 (wn n).2) : Nd) ∈ TK m φ k ∧ (wn n).1 ≤ 8 ∧ (wn n).2 < 8 ^ (wn n).1 := by
  obtain ⟨g0, g1, g2, g3, g4, g5, g6, g7, g8⟩ := G
  obtain ⟨-, -, -, s, hs⟩ := g1 n hn
  have h1 := dfs_code hm hs
  have hf := dfs_flag 8 0 0 rfl _ hs
  refine ⟨?_, h1⟩
  simp only at hf
  have : SK m φ k (wn n).1 (wn n).2 = s := by
    rw [hf]
    by_cases h8 : (wn n).1 < 8
    · rw [decide_eq_true h8, Bool.true_and]
    · rw [decide_eq_false h8, Bool.false_and]
      cases e : SK m φ k (wn n).1 (wn n).2 with
      | false => rfl
      | true => exact absurd (SK_pc hm φ k _ _ e).1 h8
  rw [this]
  exact hs
theorem GR_so (hm2 : 2 ≤ m) (hm : m ≤ 8) (hk : 1 + k * (m - 1) ≤ 256) (G : GR m φ k wn lb dp ch so ns op oc) {n : Nat} (hn : n < 1 + k * m) (hS : SK m φ k (wn n).1 (wn n).2 = false) : so n = 63 := by
  obtain ⟨g0, g1, g2, g3, g4, g5, g6, g7, g8⟩ := G
  rcases g4 n hn with h | ⟨j, hj, h1, h2⟩
  · exact h.1
  · exfalso
    obtain ⟨n', n1, n2, n3, n4, n5⟩ := g3 j hj
    have hnn : n' = n := by
      have : (n' : Int) = (n : Int) := n2.symm.trans h2
      omega
    subst hnn
    have := (SK_ex hm2 hm φ k hk (wn n').1 (wn n').2).mpr ⟨j, hj, by rw [n4], by rw [n4]⟩
    rw [hS] at this
    cases this
/-- the open node that is ahead of all others is the one that is split next -/
theorem GR_best (hm2 : 2 ≤ m) (hm : m ≤ 8) (hk : 1 + k * (m - 1) < 256) (hk63 : k ≤ 63) (G : GR m φ k wn lb dp ch so ns op oc) {i0 n0 : Nat} (hi0 : i0 < oc) (hn0 : op i0 = (n0 : Int)) (hb : ∀ i : Nat, i < oc → i ≠ i0 → ahd ch dp lb (op i0) (op i)) : wn n0 = ((bK m φ k).1, (bK m φ k).2.1) := by
  have hst := TK_step hm2 hm φ k hk
  have hB := hst.2.2.2.1
  obtain ⟨n, n1, n2⟩ := GR_sur hm2 hm (by omega) G hB.1
  have hSn : SK m φ k (wn n).1 (wn n).2 = false := by rw [n2]; exact hst.2.2.2.2.2.1
  have hso := GR_so hm2 hm (by omega) G n1 hSn
  have G' := G
  obtain ⟨g0, g1, g2, g3, g4, g5, g6, g7, g8⟩ := G'
  obtain ⟨i, hi, hio⟩ := g6 n n1 hso (by rw [n2]; exact hB.2.1.2)
  by_cases e : i = i0
  · subst e
    have : (n : Int) = (n0 : Int) := hio.symm.trans hn0
    have hnn : n = n0 := by omega
    rw [← hnn]
    exact n2
  · exfalso
    obtain ⟨n', p1, p2, p3, p4⟩ := g5 i0 hi0
    have hnn : n' = n0 := by
      have : (n' : Int) = (n0 : Int) := p2.symm.trans hn0
      omega
    subst hnn
    have ha := hb i hi e
    obtain ⟨f1, f2, f3⟩ := GR_flag hm2 hm (by omega) G p1
    have hS0 : SK m φ k (wn n').1 (wn n').2 = false := by
      rcases g4 n' p1 with h | ⟨j, hj, h1, h2⟩
      · exact h.2
      · exfalso
        have : (j : Int) = 63 := h1.symm.trans p3
        omega
    rw [hS0] at f1
    rcases hB.2.2 _ f1 ⟨rfl, p4⟩ with h | h
    · have : n' = n := g2 n' n p1 n1 (by rw [n2]; have h1 := congrArg Prod.fst h; have h2 := congrArg (fun x : Nd => x.2.1) h; exact Prod.ext h1 h2)
      subst this
      exact e (g7 i i0 hi hi0 (by rw [hio, hn0]))
    · have c1 := g1 n' p1
      have c2 := g1 n n1
      rw [hn0, hio] at ha
      unfold ahd at ha
      rw [c1.1, c1.2.1, c1.2.2.1, c2.1, c2.2.1, c2.2.2.1, n2] at ha
      unfold AH at h
      simp only at h ha
      omega
/-- what a split does to the words of the nodes -/
def wnS (m k : Nat) (wn : Nat → Nat × Nat) (d c : Nat) : Nat → Nat × Nat := fun n => if 1 + k * m ≤ n ∧ n < 1 + k * m + m then (d + 1, 8 * c + (n - (1 + k * m))) else wn n
theorem GR_step {vc : Int → Int} (hm2 : 2 ≤ m) (hm : m ≤ 8) (hk : 1 + k * (m - 1) < 256) (hk63 : k < 63) (G : GR m φ k wn lb dp ch so ns op oc) {i0 n0 d c : Nat} (hi0 : i0 < oc) (hn0 : op i0 = (n0 : Int)) (hw : wn n0 = (d, c)) (hb : wn n0 = ((bK m φ k).1, (bK m φ k).2.1))
    (hv : ∀ l : Nat, l < m → vc (((1 + k * m : Nat) : Int) + (l : Int)) = φ (d + 1) (8 * c + l)) (opB : Int → Int) (ocB : Nat)
    (hop : (d + 1 < 8 ∧ ocB = oc - 1 + m ∧ opB = fl (up op i0 (op ((oc : Int) - 1))) ((oc : Int) - 1) ((oc : Int) - 1 + (m : Int)) (fun i => ((1 + k * m : Nat) : Int) + (i - ((oc : Int) - 1)))) ∨ (¬ d + 1 < 8 ∧ ocB = oc - 1 ∧ opB = up op i0 (op ((oc : Int) - 1)))) :
    GR m φ (k + 1) (wnS m k wn d c) (fl lb ((1 + k * m : Nat) : Int) (((1 + k * m : Nat) : Int) + (m : Int)) (fun i => 8 * (c : Int) + (i - ((1 + k * m : Nat) : Int)))) (fl dp ((1 + k * m : Nat) : Int) (((1 + k * m : Nat) : Int) + (m : Int)) (fun _ => (d : Int) + 1)) (fl ch ((1 + k * m : Nat) : Int) (((1 + k * m : Nat) : Int) + (m : Int)) vc) (up (fl so ((1 + k * m : Nat) : Int) (((1 + k * m : Nat) : Int) + (m : Int)) (fun _ => 63)) (n0 : Int) (k : Int)) (up ns (k : Int) (n0 : Int)) opB ocB := by
  have hst := TK_step hm2 hm φ k hk
  obtain ⟨-, -, -, hB, hSS, hxf, A, B, hA, hA2⟩ := hst
  have hflag := fun n hn => GR_flag (n := n) hm2 hm (by omega) G hn
  have G' := G
  obtain ⟨g0, g1, g2, g3, g4, g5, g6, g7, g8⟩ := G'
  obtain ⟨n', p1, p2, p3, p4⟩ := g5 i0 hi0
  have hnn : n' = n0 := by
    have : (n' : Int) = (n0 : Int) := p2.symm.trans hn0
    omega
  subst hnn
  have hbd : (bK m φ k).1 = d ∧ (bK m φ k).2.1 = c := by
    rw [hw] at hb
    exact ⟨(congrArg Prod.fst hb).symm, (congrArg Prod.snd hb).symm⟩
  rw [hbd.1, hbd.2] at hSS hA2
  rw [hbd.1, hbd.2] at hxf
  have hd8 : d < 8 := by rw [← hbd.1]; exact hB.2.1.2
  have hmk : (k + 1) * m = k * m + m := by rw [Nat.add_mul, Nat.one_mul]
  have hmk1 : (k + 1) * (m - 1) = k * (m - 1) + (m - 1) := by rw [Nat.add_mul, Nat.one_mul]
  generalize hC : 1 + k * m = C at *
  have hold : ∀ n : Nat, n < C → wnS m k wn d c n = wn n := by
    intro n hn
    unfold wnS
    rw [hC, if_neg (by omega)]
  have hnew : ∀ l : Nat, l < m → wnS m k wn d c (C + l) = (d + 1, 8 * c + l) := by
    intro l hl
    unfold wnS
    rw [hC, if_pos (by omega), show C + l - C = l by omega]
  have hcase : ∀ n : Nat, n < 1 + (k + 1) * m → n < C ∨ ∃ l : Nat, l < m ∧ n = C + l := by
    intro n hn
    by_cases h : n < C
    · exact Or.inl h
    · exact Or.inr ⟨n - C, by omega, by omega⟩
  have hmem : ∀ y : Nd, y ∈ TK m φ k → ∃ s, ((y.1, y.2.1, s) : Nd) ∈ TK m φ (k + 1) := by
    intro y hy
    rw [hA] at hy
    rw [hA2]
    rcases List.mem_append.mp hy with h | h
    · exact ⟨y.2.2, List.mem_append_left _ (List.mem_append_left _ h)⟩
    · rcases List.mem_cons.mp h with rfl | h
      · refine ⟨true, List.mem_append_left _ (List.mem_append_right _ ?_)⟩
        rw [hbd.1, hbd.2]
        exact List.mem_cons_self
      · exact ⟨y.2.2, List.mem_append_right _ h⟩
  have hmemN : ∀ l : Nat, l < m → ((d + 1, 8 * c + l, false) : Nd) ∈ TK m φ (k + 1) := by
    intro l hl
    rw [hA2]
    exact List.mem_append_left _ (List.mem_append_right _ (List.mem_cons_of_mem _ (List.mem_map.mpr ⟨l, List.mem_range.mpr hl, rfl⟩)))
  have hfresh : ∀ n : Nat, n < C → ∀ l : Nat, l < m → wn n ≠ (d + 1, 8 * c + l) := by
    intro n hn l hl he
    have h1 := (hflag n hn).1
    rw [he] at h1
    have h2 := (dfs_par hm 8 0 0 rfl _ h1 (by show 0 < d + 1; omega)).1
    simp only [Nat.add_sub_cancel, show (8 * c + l) / 8 = c by omega] at h2
    rw [hxf] at h2
    cases h2
  have hSN : ∀ l : Nat, l < m → SK m φ (k + 1) (d + 1) (8 * c + l) = false := by
    intro l hl
    rw [hSS, addS_ne (by omega)]
    cases e : SK m φ k (d + 1) (8 * c + l) with
    | false => rfl
    | true =>
      have := (SK_pc hm φ k _ _ e).2 (by omega)
      simp only [Nat.add_sub_cancel, show (8 * c + l) / 8 = c by omega] at this
      rw [hxf] at this
      cases this
  have hso' : ∀ n : Nat, n < C → n ≠ n' → up (fl so (C : Int) ((C : Int) + (m : Int)) (fun _ => 63)) (n' : Int) (k : Int) n = so n := by
    intro n hn hne
    rw [up_ne _ _ _ _ (by omega), fl_out (by omega)]
  have hsoN : ∀ l : Nat, l < m → up (fl so (C : Int) ((C : Int) + (m : Int)) (fun _ => 63)) (n' : Int) (k : Int) ((C + l : Nat) : Int) = 63 := by
    intro l hl
    rw [up_ne _ _ _ _ (by omega), fl_in (by omega)]
  refine ⟨?_, ?_, ?_, ?_, ?_, ?_, ?_, ?_, ?_⟩
  · rw [hold 0 (by omega)]
    exact g0
  · intro n hn
    rcases hcase n hn with h | ⟨l, hl, rfl⟩
    · rw [hold n h, fl_out (by omega), fl_out (by omega), fl_out (by omega)]
      obtain ⟨q1, q2, q3, s, q4⟩ := g1 n h
      exact ⟨q1, q2, q3, hmem _ q4⟩
    · rw [hnew l hl, fl_in (by omega), fl_in (by omega), fl_in (by omega)]
      refine ⟨by simp only; omega, by simp only; omega, ?_, false, hmemN l hl⟩
      have := hv l hl
      rw [show ((C + l : Nat) : Int) = (C : Int) + (l : Int) by omega]
      exact this
  · intro n n2 hn hn2 he
    rcases hcase n hn with h | ⟨l, hl, rfl⟩ <;> rcases hcase n2 hn2 with h2 | ⟨l2, hl2, rfl⟩
    · rw [hold n h, hold n2 h2] at he
      exact g2 n n2 h h2 he
    · rw [hold n h, hnew l2 hl2] at he
      exact absurd he (hfresh n h l2 hl2)
    · rw [hold n2 h2, hnew l hl] at he
      exact absurd he.symm (hfresh n2 h2 l hl)
    · rw [hnew l hl, hnew l2 hl2] at he
      have := congrArg Prod.snd he
      simp only at this
      omega
  · intro j hj
    by_cases e : j = k
    · subst e
      refine ⟨n', by rw [hC]; exact p1, by rw [up_same], by rw [up_same], ?_, ?_⟩
      · rw [hold n' p1, hw, hbd.1, hbd.2]
      · intro l hl
        rw [hC, hnew l hl, hold n' p1, hw]
    · obtain ⟨n, q1, q2, q3, q4, q5⟩ := g3 j (by omega)
      have hjm : (j + 1) * m ≤ k * m := Nat.mul_le_mul_right _ (by omega)
      rw [Nat.add_mul, Nat.one_mul] at hjm
      have hnC : n < C := by omega
      have hne : n ≠ n' := by
        intro e2
        subst e2
        have : (j : Int) = 63 := q3.symm.trans p3
        omega
      refine ⟨n, q1, by rw [up_ne _ _ _ _ (by omega)]; exact q2, by rw [hso' n hnC hne]; exact q3, by rw [hold n hnC]; exact q4, ?_⟩
      intro l hl
      rw [hold n hnC, hold _ (by omega)]
      exact q5 l hl
  · intro n hn
    rcases hcase n hn with h | ⟨l, hl, rfl⟩
    · by_cases e : n = n'
      · subst e
        exact Or.inr ⟨k, by omega, by rw [up_same], by rw [up_same]⟩
      · rw [hso' n h e, hold n h]
        rcases g4 n h with q | ⟨j, hj, q1, q2⟩
        · left
          refine ⟨q.1, ?_⟩
          rw [hSS, addS_ne]
          · exact q.2
          · intro he
            exact e (g2 n n' h p1 (by rw [hw]; exact Prod.ext he.1 he.2))
        · exact Or.inr ⟨j, by omega, q1, by rw [up_ne _ _ _ _ (by omega)]; exact q2⟩
    · left
      rw [hsoN l hl, hnew l hl]
      exact ⟨rfl, hSN l hl⟩
  · intro i hi
    have hlast : ∀ i : Nat, i < oc - 1 → ∃ n : Nat, n < C ∧ n ≠ n' ∧ up op (i0 : Int) (op ((oc : Int) - 1)) i = (n : Int) ∧ so n = 63 ∧ (wn n).1 < 8 := by
      intro i hi
      by_cases e : i = i0
      · subst e
        obtain ⟨n, q1, q2, q3, q4⟩ := g5 (oc - 1) (by omega)
        refine ⟨n, q1, ?_, ?_, q3, q4⟩
        · intro e2
          subst e2
          have := g7 i (oc - 1) hi0 (by omega) (by rw [hn0, q2])
          omega
        · rw [up_same, show (oc : Int) - 1 = ((oc - 1 : Nat) : Int) by omega]
          exact q2
      · obtain ⟨n, q1, q2, q3, q4⟩ := g5 i (by omega)
        refine ⟨n, q1, ?_, by rw [up_ne _ _ _ _ (by omega)]; exact q2, q3, q4⟩
        intro e2
        subst e2
        exact e (g7 i i0 (by omega) hi0 (by rw [hn0, q2]))
    rcases hop with ⟨o1, o2, o3⟩ | ⟨o1, o2, o3⟩
    · rw [o3]
      by_cases h : i < oc - 1
      · obtain ⟨n, q1, q0, q2, q3, q4⟩ := hlast i h
        refine ⟨n, by omega, by rw [fl_out (by omega)]; exact q2, by rw [hso' n q1 q0]; exact q3, by rw [hold n q1]; exact q4⟩
      · refine ⟨C + (i - (oc - 1)), by omega, by rw [fl_in (by omega)]; omega, hsoN _ (by omega), ?_⟩
        rw [hnew _ (by omega)]
        exact o1
    · rw [o3]
      obtain ⟨n, q1, q0, q2, q3, q4⟩ := hlast i (by omega)
      exact ⟨n, by omega, q2, by rw [hso' n q1 q0]; exact q3, by rw [hold n q1]; exact q4⟩
  · intro n hn hs hl8
    have hold2 : n < C → ∃ i : Nat, i < oc - 1 ∧ up op (i0 : Int) (op ((oc : Int) - 1)) i = (n : Int) := by
      intro h
      have hne : n ≠ n' := by
        intro e
        subst e
        rw [up_same] at hs
        omega
      rw [hso' n h hne] at hs
      rw [hold n h] at hl8
      obtain ⟨i, q1, q2⟩ := g6 n h hs hl8
      by_cases e : i = oc - 1
      · refine ⟨i0, ?_, ?_⟩
        · have : i0 ≠ oc - 1 := by
            intro e2
            have h3 : op i0 = op i := by rw [e, e2]
            rw [hn0, q2] at h3
            omega
          omega
        · rw [up_same, show (oc : Int) - 1 = ((oc - 1 : Nat) : Int) by omega, ← e]
          exact q2
      · refine ⟨i, by omega, ?_⟩
        rw [up_ne]
        · exact q2
        · intro e2
          have e3 : i = i0 := by omega
          rw [e3, hn0] at q2
          omega
    rcases hop with ⟨o1, o2, o3⟩ | ⟨o1, o2, o3⟩
    · rw [o3]
      rcases hcase n hn with h | ⟨l, hl, rfl⟩
      · obtain ⟨i, q1, q2⟩ := hold2 h
        exact ⟨i, by omega, by rw [fl_out (by omega)]; exact q2⟩
      · clear hold2
        exact ⟨oc - 1 + l, by omega, by rw [fl_in (by omega)]; omega⟩
    · rw [o3]
      rcases hcase n hn with h | ⟨l, hl, rfl⟩
      · obtain ⟨i, q1, q2⟩ := hold2 h
        exact ⟨i, by omega, q2⟩
      · rw [hnew l hl] at hl8
        exact absurd hl8 o1
  · intro i i' hi hi' he
    have hinj : ∀ i i' : Nat, i < oc - 1 → i' < oc - 1 → up op (i0 : Int) (op ((oc : Int) - 1)) i = up op (i0 : Int) (op ((oc : Int) - 1)) i' → i = i' := by
      intro i i' hi hi' he
      have hl : op ((oc : Int) - 1) = op ((oc - 1 : Nat) : Int) := by
        rw [show ((oc - 1 : Nat) : Int) = (oc : Int) - 1 by omega]
      by_cases e : i = i0
      · by_cases e' : i' = i0
        · omega
        · rw [e, up_same, up_ne _ _ _ _ (by omega), hl] at he
          have := g7 (oc - 1) i' (by omega) (by omega) he
          omega
      · by_cases e' : i' = i0
        · rw [e', up_same, up_ne _ _ _ _ (by omega), hl] at he
          have := g7 i (oc - 1) (by omega) (by omega) he
          omega
        · rw [up_ne _ _ _ _ (by omega), up_ne _ _ _ _ (by omega)] at he
          exact g7 i i' (by omega) (by omega) he
    have hsm : ∀ i : Nat, i < oc - 1 → up op (i0 : Int) (op ((oc : Int) - 1)) i < (C : Int) := by
      intro i hi
      by_cases e : i = i0
      · rw [e, up_same, show (oc : Int) - 1 = ((oc - 1 : Nat) : Int) by omega]
        obtain ⟨n, q1, q2, -⟩ := g5 (oc - 1) (by omega)
        omega
      · rw [up_ne _ _ _ _ (by omega)]
        obtain ⟨n, q1, q2, -⟩ := g5 i (by omega)
        omega
    rcases hop with ⟨o1, o2, o3⟩ | ⟨o1, o2, o3⟩
    · rw [o3] at he
      by_cases h : i < oc - 1 <;> by_cases h' : i' < oc - 1
      · rw [fl_out (by omega), fl_out (by omega)] at he
        exact hinj i i' h h' he
      · rw [fl_out (by omega), fl_in (by omega)] at he
        have := hsm i h
        omega
      · rw [fl_in (by omega), fl_out (by omega)] at he
        have := hsm i' h'
        omega
      · rw [fl_in (by omega), fl_in (by omega)] at he
        omega
    · rw [o3] at he
      exact hinj i i' (by omega) (by omega) he
  · rcases hop with ⟨o1, o2, o3⟩ | ⟨o1, o2, o3⟩ <;> omega
end GRS

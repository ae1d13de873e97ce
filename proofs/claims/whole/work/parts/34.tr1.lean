/-! a tree of t splits, out of a growth of k -/
theorem SK_mono {m : Nat} (hm2 : 2 ≤ m) (hm : m ≤ 8) (φ : Nat → Nat → Int) {t k : Nat} (htk : t ≤ k) (hk : 1 + k * (m - 1) ≤ 256) {d c : Nat} (h : SK m φ t d c = true) : SK m φ k d c = true := by
  have htk2 : t * (m - 1) ≤ k * (m - 1) := Nat.mul_le_mul_right _ htk
  obtain ⟨j, hj, e⟩ := (SK_ex hm2 hm φ t (by omega) d c).mp h
  exact (SK_ex hm2 hm φ k hk d c).mpr ⟨j, by omega, e⟩
theorem dfs_kid {m : Nat} {S : Nat → Nat → Bool} (hm : m ≤ 8) : ∀ (r d c : Nat), d + r = 8 → ∀ x ∈ dfs m S r d c, x.2.2 = true → ∀ l, l < m → ∃ s, ((x.1 + 1, 8 * x.2.1 + l, s) : Nd) ∈ dfs m S r d c
  | 0, d, c, hr, x, hx, hs, l, hl => by
    rw [dfs_0, List.mem_singleton] at hx
    subst hx
    cases hs
  | r + 1, d, c, hr, x, hx, hs, l, hl => by
    cases e : S d c with
    | false =>
      rw [dfs_f r e, List.mem_singleton] at hx
      subst hx
      cases hs
    | true =>
      rw [dfs_t r e] at hx ⊢
      rcases List.mem_cons.mp hx with rfl | hx
      · obtain ⟨s, t, ht⟩ := dfs_hd m S r (d + 1) (8 * c + l)
        exact ⟨s, List.mem_cons_of_mem _ (List.mem_flatMap.mpr ⟨l, List.mem_range.mpr hl, by rw [ht]; exact List.mem_cons_self⟩)⟩
      · obtain ⟨l2, hl2, hx⟩ := List.mem_flatMap.mp hx
        obtain ⟨s, hs2⟩ := dfs_kid hm r (d + 1) (8 * c + l2) (by omega) x hx hs l hl
        exact ⟨s, List.mem_cons_of_mem _ (List.mem_flatMap.mpr ⟨l2, hl2, hs2⟩)⟩
theorem TK_flag {m : Nat} (hm : m ≤ 8) {φ : Nat → Nat → Int} {t d c : Nat} {s : Bool} (h : ((d, c, s) : Nd) ∈ TK m φ t) : s = SK m φ t d c := by
  have hf := dfs_flag 8 0 0 rfl _ h
  simp only at hf
  rw [hf]
  by_cases h8 : d < 8
  · rw [decide_eq_true h8, Bool.true_and]
  · rw [decide_eq_false h8, Bool.false_and]
    cases e : SK m φ t d c with
    | false => rfl
    | true => exact absurd (SK_pc hm φ t _ _ e).1 h8
theorem TK_root (m : Nat) (φ : Nat → Nat → Int) (t : Nat) : ((0, 0, SK m φ t 0 0) : Nd) ∈ TK m φ t := by
  unfold TK
  obtain ⟨s, l, h⟩ := dfs_hd m (SK m φ t) 8 0 0
  rw [h]
  cases e : SK m φ t 0 0 with
  | true =>
    rw [dfs_t 7 e] at h
    have := (List.cons.inj h).1
    rw [this]
    exact List.mem_cons_self
  | false =>
    rw [dfs_f 7 e] at h
    have := (List.cons.inj h).1
    rw [this]
    exact List.mem_cons_self
def TR (m : Nat) (φ : Nat → Nat → Int) (t : Nat) (wn : Nat → Nat × Nat) (lb dp ch so ns : Int → Int) : Prop :=
  (∀ n : Nat, n < 1 + t * m → dp n = ((wn n).1 : Int) ∧ lb n = ((wn n).2 : Int) ∧ ch n = φ (wn n).1 (wn n).2 ∧ (((wn n).1, (wn n).2, SK m φ t (wn n).1 (wn n).2) : Nd) ∈ TK m φ t) ∧
  (∀ n n' : Nat, n < 1 + t * m → n' < 1 + t * m → wn n = wn n' → n = n') ∧
  (∀ j : Nat, j < t → ∃ n : Nat, n < 1 + j * m ∧ ns j = (n : Int) ∧ so n = (j : Int) ∧ SK m φ t (wn n).1 (wn n).2 = true ∧ (wn n).1 < 8 ∧ ∀ l : Nat, l < m → wn (1 + j * m + l) = ((wn n).1 + 1, 8 * (wn n).2 + l)) ∧
  (∀ n : Nat, n < 1 + t * m → 0 ≤ so n ∧ so n ≤ 63 ∧ (so n < (t : Int) ↔ SK m φ t (wn n).1 (wn n).2 = true) ∧ (so n < (t : Int) → ∃ j : Nat, j < t ∧ so n = (j : Int) ∧ ns j = (n : Int))) ∧
  (∀ x ∈ TK m φ t, ∃ n : Nat, n < 1 + t * m ∧ wn n = (x.1, x.2.1)) ∧ wn 0 = (0, 0)
theorem GR_TR {m : Nat} {φ : Nat → Nat → Int} {k t : Nat} {wn : Nat → Nat × Nat} {lb dp ch so ns op : Int → Int} {oc : Nat} (hm2 : 2 ≤ m) (hm : m ≤ 8) (hk : 1 + k * (m - 1) ≤ 256) (hk63 : k ≤ 63) (htk : t ≤ k) (G : GR m φ k wn lb dp ch so ns op oc) : TR m φ t wn lb dp ch so ns := by
  obtain ⟨g0, g1, g2, g3, g4, g5, g6, g7, g8⟩ := G
  have htm : t * m ≤ k * m := Nat.mul_le_mul_right _ htk
  have htm1 : t * (m - 1) ≤ k * (m - 1) := Nat.mul_le_mul_right _ htk
  have hSb : ∀ j, j < t → SK m φ t (bK m φ j).1 (bK m φ j).2.1 = true := fun j hj => (SK_ex hm2 hm φ t (by omega) _ _).mpr ⟨j, hj, rfl, rfl⟩
  have hb8 : ∀ j, j < k → (bK m φ j).1 < 8 := by
    intro j hj
    have : (j + 1) * (m - 1) ≤ k * (m - 1) := Nat.mul_le_mul_right _ hj
    rw [Nat.add_mul, Nat.one_mul] at this
    exact (TK_step hm2 hm φ j (by omega)).2.2.2.1.2.1.2
  have hin : ∀ n : Nat, n < 1 + t * m → (((wn n).1, (wn n).2, SK m φ t (wn n).1 (wn n).2) : Nd) ∈ TK m φ t := by
    intro n
    induction n using Nat.strongRecOn with
    | _ n ih =>
      intro hn
      by_cases h0 : n = 0
      · subst h0
        rw [g0]
        exact TK_root m φ t
      · have hmp : 0 < m := by omega
        have hj : (n - 1) / m < t := (Nat.div_lt_iff_lt_mul hmp).mpr (by omega)
        obtain ⟨n', p1, p2, p3, p4, p5⟩ := g3 ((n - 1) / m) (by omega)
        have hdm := Nat.div_add_mod (n - 1) m
        have hml := Nat.mod_lt (n - 1) hmp
        have hcm : (n - 1) / m * m = m * ((n - 1) / m) := Nat.mul_comm _ _
        have hwn := p5 ((n - 1) % m) hml
        rw [show 1 + (n - 1) / m * m + (n - 1) % m = n by omega] at hwn
        have hpar := ih n' (by omega) (by omega)
        have hs : SK m φ t (wn n').1 (wn n').2 = true := by
          rw [p4]
          exact hSb _ hj
        rw [hs] at hpar
        obtain ⟨s, hs2⟩ := dfs_kid hm 8 0 0 rfl _ hpar rfl _ hml
        have := TK_flag hm (t := t) (φ := φ) hs2
        rw [hwn]
        simp only at hs2 ⊢
        rw [← this]
        exact hs2
  refine ⟨fun n hn => ?_, fun n n' hn hn' e => g2 n n' (by omega) (by omega) e, fun j hj => ?_, fun n hn => ?_, fun x hx => ?_, g0⟩
  · obtain ⟨q1, q2, q3, q4⟩ := g1 n (by omega)
    exact ⟨q1, q2, q3, hin n hn⟩
  · obtain ⟨n, p1, p2, p3, p4, p5⟩ := g3 j (by omega)
    refine ⟨n, p1, p2, p3, ?_, ?_, p5⟩
    · rw [p4]
      exact hSb j hj
    · rw [p4]
      exact hb8 j (by omega)
  · rcases g4 n (by omega) with ⟨q1, q2⟩ | ⟨j, hj, q1, q2⟩
    · refine ⟨by omega, by omega, ⟨fun h => by omega, fun h => ?_⟩, fun h => by omega⟩
      have := SK_mono hm2 hm φ htk hk h
      rw [q2] at this
      cases this
    · refine ⟨by omega, by omega, ⟨fun h => ?_, fun h => ?_⟩, fun h => ⟨j, by omega, q1, q2⟩⟩
      · obtain ⟨n', p1, p2, p3, p4, p5⟩ := g3 j hj
        have hnn : n' = n := by
          have : (n' : Int) = (n : Int) := p2.symm.trans q2
          omega
        subst hnn
        rw [p4]
        exact hSb j (by omega)
      · by_cases hjt : j < t
        · omega
        · exfalso
          obtain ⟨n', p1, p2, p3, p4, p5⟩ := g3 j hj
          have hnn : n' = n := by
            have : (n' : Int) = (n : Int) := p2.symm.trans q2
            omega
          subst hnn
          have hjk : (j + 1) * (m - 1) ≤ k * (m - 1) := Nat.mul_le_mul_right _ hj
          rw [Nat.add_mul, Nat.one_mul] at hjk
          have h2 := SK_mono hm2 hm φ (t := t) (k := j) (by omega) (by omega) h
          rw [p4, (TK_step hm2 hm φ j (by omega)).2.2.2.2.2.1] at h2
          cases h2
  · have hr := dfs_rng hm 8 0 0 rfl x hx
    by_cases h0 : x.1 = 0
    · refine ⟨0, by omega, ?_⟩
      have h5 := hr.2.2.2.2
      rw [h0, Nat.sub_zero, Nat.pow_zero, Nat.div_one] at h5
      rw [g0, h0, h5]
    · obtain ⟨p1, p2, p3⟩ := dfs_par hm 8 0 0 rfl x hx (by omega)
      obtain ⟨j, hj, e1, e2⟩ := (SK_ex hm2 hm φ t (by omega) _ _).mp p1
      obtain ⟨n, n1, n2, n3, n4, n5⟩ := g3 j (by omega)
      refine ⟨1 + j * m + x.2.1 % 8, ?_, ?_⟩
      · have : (j + 1) * m ≤ t * m := Nat.mul_le_mul_right _ hj
        rw [Nat.add_mul, Nat.one_mul] at this
        omega
      · rw [n5 _ p2, n4, e1, e2]
        show (x.1 - 1 + 1, 8 * (x.2.1 / 8) + x.2.1 % 8) = _
        rw [show x.1 - 1 + 1 = x.1 by omega, show 8 * (x.2.1 / 8) + x.2.1 % 8 = x.2.1 by omega]
/-! ranks -/
def lfN (m : Nat) (S : Nat → Nat → Bool) (d c : Nat) : Nat := lfs (dfs m S (8 - d) d c)
def slf (m : Nat) (S : Nat → Nat → Bool) (d c : Nat) : Nat → Nat
  | 0 => 0
  | l + 1 => slf m S d c l + lfN m S (d + 1) (8 * c + l)
theorem slf_eq (m : Nat) (S : Nat → Nat → Bool) (d c : Nat) (l : Nat) : lfs ((List.range l).flatMap (fun l => dfs m S (8 - (d + 1)) (d + 1) (8 * c + l))) = slf m S d c l := by
  induction l with
  | zero => rfl
  | succ l ih =>
    rw [List.range_succ, List.flatMap_append, lfs_app, ih, List.flatMap_singleton]
    rfl
theorem lfN_t {m : Nat} {S : Nat → Nat → Bool} {d c : Nat} (hd : d < 8) (h : S d c = true) : lfN m S d c = slf m S d c m := by
  unfold lfN
  rw [show 8 - d = (8 - (d + 1)) + 1 by omega, dfs_t _ h]
  show 0 + lfs _ = _
  rw [slf_eq, Nat.zero_add]
theorem lfN_f {m : Nat} {S : Nat → Nat → Bool} {d c : Nat} (h : d < 8 → S d c = false) : lfN m S d c = 1 := by
  unfold lfN
  by_cases hd : d < 8
  · rw [show 8 - d = (8 - (d + 1)) + 1 by omega, dfs_f _ (h hd)]
    rfl
  · rw [show 8 - d = 0 by omega]
    rfl
def rkn (L : List Nd) (i : Nat) : Nat := lfs (L.take i)
/-- a child's rank -/
theorem blk_rank {m : Nat} {S : Nat → Nat → Bool} {L : List Nd} {i d c l : Nat} (hd : d < 8) (h : S d c = true) (hl : l ≤ m) (hB : Blk m S L i d c) : rkn L (i + 1 + ssz m S d c l) = rkn L i + slf m S d c l := by
  obtain ⟨A, B, h1, h2, h3⟩ := hB
  rw [show 8 - d = (8 - (d + 1)) + 1 by omega, dfs_t _ h] at h1
  have hr : List.range m = List.range l ++ (List.range (m - l)).map (fun x => l + x) := by
    rw [show m = l + (m - l) by omega, List.range_add]
    simp
  rw [hr, List.flatMap_append] at h1
  have hlen := ssz_eq m S d c l
  have hlf := slf_eq m S d c l
  generalize ((List.range l).flatMap (fun l => dfs m S (8 - (d + 1)) (d + 1) (8 * c + l))) = X at h1 hlen hlf
  generalize ((List.range (m - l)).map (fun x => l + x)).flatMap (fun l => dfs m S (8 - (d + 1)) (d + 1) (8 * c + l)) = Y at h1
  have e : L = (A ++ (d, c, true) :: X) ++ (Y ++ B) := by
    rw [h1]
    simp [List.append_assoc]
  have e2 : L = A ++ ((d, c, true) :: X ++ (Y ++ B)) := by
    rw [e, List.append_assoc]
  unfold rkn
  have t1 : L.take (i + 1 + ssz m S d c l) = A ++ (d, c, true) :: X := by
    rw [e]
    apply List.take_left'
    simp only [List.length_append, List.length_cons]
    omega
  have t2 : L.take i = A := by
    rw [e2]
    exact List.take_left' h2
  rw [t1, t2, lfs_app]
  show lfs A + (0 + lfs X) = _
  rw [hlf, Nat.zero_add]
theorem blk_0 (m : Nat) (φ : Nat → Nat → Int) (t : Nat) : Blk m (SK m φ t) (TK m φ t) 0 0 0 := ⟨[], [], by rw [List.nil_append, List.append_nil]; rfl, rfl, by simp⟩
/-! sums over the nodes in the order in which they came -/
theorem lsum_perm {φ : Nat → Nat → Int} {a b : List Nd} (h : a.Perm b) : lsum φ a = lsum φ b := by
  induction h with
  | nil => rfl
  | cons x _ ih => simp only [lsum, ih]
  | swap x y l =>
    simp only [lsum]
    omega
  | trans _ _ ih1 ih2 => exact ih1.trans ih2
noncomputable def cwl (m : Nat) (φ : Nat → Nat → Int) (t : Nat) (wn : Nat → Nat × Nat) (N : Nat) : List Nd := (List.range N).map (fun n => ((wn n).1, (wn n).2, SK m φ t (wn n).1 (wn n).2))
theorem TK_nodup {m : Nat} (hm : m ≤ 8) (φ : Nat → Nat → Int) (t : Nat) : (TK m φ t).Nodup := by
  have := TK_srt hm φ t
  exact this.imp (fun {a b} h e => by rw [e] at h; exact Nat.lt_irrefl _ h)
theorem cwl_perm {m : Nat} (hm : m ≤ 8) {φ : Nat → Nat → Int} {t : Nat} {wn : Nat → Nat × Nat} {lb dp ch so ns : Int → Int} (T : TR m φ t wn lb dp ch so ns) : (cwl m φ t wn (1 + t * m)).Perm (TK m φ t) := by
  obtain ⟨t1, t2, t3, t4, t5, t6⟩ := T
  have hnd : (cwl m φ t wn (1 + t * m)).Nodup := by
    unfold cwl
    rw [List.nodup_iff_pairwise_ne, List.pairwise_map]
    refine List.Pairwise.imp_of_mem ?_ (List.nodup_iff_pairwise_ne.mp List.nodup_range)
    intro a b ha hb hne e
    have e1 := congrArg Prod.fst e
    have e2 := congrArg (fun x : Nd => x.2.1) e
    exact hne (t2 a b (List.mem_range.mp ha) (List.mem_range.mp hb) (Prod.ext e1 e2))
  rw [List.perm_ext_iff_of_nodup hnd (TK_nodup hm φ t)]
  intro x
  unfold cwl
  constructor
  · intro h
    obtain ⟨n, hn, rfl⟩ := List.mem_map.mp h
    exact (t1 n (List.mem_range.mp hn)).2.2.2
  · intro h
    obtain ⟨n, hn, e⟩ := t5 x h
    refine List.mem_map.mpr ⟨n, List.mem_range.mpr hn, ?_⟩
    obtain ⟨d, c, s⟩ := x
    have := TK_flag hm h
    rw [e, this]
theorem cwl_succ (m : Nat) (φ : Nat → Nat → Int) (t : Nat) (wn : Nat → Nat × Nat) (N : Nat) (ψ : Nat → Nat → Int) : lsum ψ (cwl m φ t wn (N + 1)) = lsum ψ (cwl m φ t wn N) + (match SK m φ t (wn N).1 (wn N).2 with | true => 0 | false => ψ (wn N).1 (wn N).2) := by
  unfold cwl
  rw [List.range_succ, List.map_append, lsum_app]
  congr 1
  simp only [List.map_cons, List.map_nil, lsum, Int.add_zero]
  cases SK m φ t (wn N).1 (wn N).2 <;> rfl
/-- some leaf is as deep as any node -/
theorem dfs_leafd (m : Nat) (hm : 1 ≤ m) (S : Nat → Nat → Bool) : ∀ (r d c : Nat), ∃ y ∈ dfs m S r d c, y.2.2 = false ∧ d ≤ y.1
  | 0, d, c => ⟨(d, c, false), List.mem_cons_self, rfl, Nat.le_refl _⟩
  | r + 1, d, c => by
    cases e : S d c with
    | false =>
      rw [dfs_f r e]
      exact ⟨(d, c, false), List.mem_cons_self, rfl, Nat.le_refl _⟩
    | true =>
      obtain ⟨y, h1, h2, h3⟩ := dfs_leafd m hm S r (d + 1) (8 * c + 0)
      rw [dfs_t r e]
      exact ⟨y, List.mem_cons_of_mem _ (List.mem_flatMap.mpr ⟨0, List.mem_range.mpr (by omega), h1⟩), h2, by omega⟩
theorem TK_leafd {m : Nat} (hm : m ≤ 8) (hm1 : 1 ≤ m) {φ : Nat → Nat → Int} {t : Nat} {x : Nd} (hx : x ∈ TK m φ t) : ∃ y ∈ TK m φ t, y.2.2 = false ∧ x.1 ≤ y.1 := by
  obtain ⟨i, hi⟩ := List.getElem?_of_mem hx
  obtain ⟨A, B, h1, h2, h3⟩ := dfs_blk hm 8 0 0 rfl i x hi
  obtain ⟨y, g1, g2, g3⟩ := dfs_leafd m hm1 (SK m φ t) (8 - x.1) x.1 x.2.1
  refine ⟨y, ?_, g2, g3⟩
  show y ∈ dfs m (SK m φ t) 8 0 0
  rw [h1]
  exact List.mem_append_right _ (List.mem_append_left _ g1)

/-! floats by exponent and fraction -/
def fB (E T : Nat) : UInt32 := UInt32.ofNat (E * 8388608 + T)
theorem fB_toNat {E T : Nat} (hE : E ≤ 255) (hT : T < 8388608) : (fB E T).toNat = E * 8388608 + T := by
  unfold fB
  exact UInt32.toNat_ofNat_of_lt' (by have : (2 : Nat) ^ 32 = 4294967296 := rfl; show _ < 2 ^ 32; omega)
theorem ff_fits {E T : Nat} (hE : 1 ≤ E ∧ E ≤ 254) (hT : T < 8388608) : FP.Core.fits FP.Core.b32 (.fin false (8388608 + T) ((E : Int) - 150)) := by
  refine ⟨?_, ?_, ?_, Or.inr ?_⟩
  · show _ < 2 ^ 24
    have : (2 : Nat) ^ 24 = 16777216 := rfl
    omega
  · rw [FP.Core.qmin_b32]
    omega
  · rw [show FP.Core.b32.qmax = 104 from by decide]
    omega
  · rw [FP.Core.tails_b32]
    have : (2 : Nat) ^ 23 = 8388608 := rfl
    omega
theorem ff_enc {E T : Nat} (hE : 1 ≤ E ∧ E ≤ 254) (hT : T < 8388608) : FP.Core.encode FP.Core.b32 (.fin false (8388608 + T) ((E : Int) - 150)) = E * 8388608 + T := by
  unfold FP.Core.encode
  simp only
  rw [FP.Core.tails_b32, FP.Core.qmin_b32]
  have h52 : (2 : Nat) ^ 23 = 8388608 := rfl
  rw [h52, if_neg (by omega)]
  unfold FP.Core.assemble
  rw [FP.Core.tails_b32, h52, show ((E : Int) - 150 - -149).toNat + 1 = E by omega, show 8388608 + T - 8388608 = T by omega]
  simp
theorem ff_val {E T : Nat} (hE : 1 ≤ E ∧ E ≤ 254) (hT : T < 8388608) : FP.Core.val32 (fB E T) = .fin false (8388608 + T) ((E : Int) - 150) := by
  have e : fB E T = FP.Core.of32 (.fin false (8388608 + T) ((E : Int) - 150)) := by
    unfold fB FP.Core.of32
    rw [ff_enc hE hT]
  rw [e]
  exact FP.Core.val32_of32 (ff_fits hE hT)
theorem ff_norm {a : UInt32} {c : Nat} {q : Int} (h : FP.Core.val32 a = .fin false c q) (hc : 8388608 ≤ c) : ∃ E T : Nat, (1 ≤ E ∧ E ≤ 254) ∧ T < 8388608 ∧ a = fB E T := by
  have hf := FP.Core.val32_fits a
  rw [h] at hf
  obtain ⟨f1, f2, f3, f4⟩ := hf
  rw [FP.Core.qmin_b32] at f2
  rw [show FP.Core.b32.qmax = 104 from by decide] at f3
  have f1' : c < 16777216 := f1
  refine ⟨(q + 150).toNat, c - 8388608, by omega, by omega, ?_⟩
  refine FP.Core.val32_inj (by rw [h]; exact FP.Core.Datum.noConfusion) ?_
  rw [h, ff_val (by omega) (by omega), show 8388608 + (c - 8388608) = c by omega, show (((q + 150).toNat : Nat) : Int) - 150 = q by omega]
theorem ff_ne {E T : Nat} (hE : 1 ≤ E ∧ E ≤ 254) (hT : T < 8388608) : FP.Core.val32 (fB E T) ≠ .nan := by
  rw [ff_val hE hT]
  exact FP.Core.Datum.noConfusion
/-! rounding, where no exponent is at its end -/
theorem fr_norm {f : FP.Core.Fmt} (hf : FP.Core.Good f) {s : Bool} {A B : Nat} {e : Int} (hA : 0 < A) (hB : 0 < B) (h1 : f.qmin < FP.Core.leading A B + e - ((f.p : Int) - 1)) (h2 : FP.Core.leading A B + e - ((f.p : Int) - 1) + 1 ≤ f.qmax) : ∃ c q, FP.Core.roundRatio f s A B e = .fin s c q ∧ f.tails ≤ c ∧ FP.Core.leading A B + e - ((f.p : Int) - 1) ≤ q ∧ q ≤ FP.Core.leading A B + e - ((f.p : Int) - 1) + 1 := by
  have hfit := FP.Core.roundRatio_fits hf s A hB e
  have hq : FP.Core.quantum f A B e = FP.Core.leading A B + e - ((f.p : Int) - 1) := by
    unfold FP.Core.quantum
    omega
  have key : ∃ c q, FP.Core.roundRatio f s A B e = .fin s c q ∧ FP.Core.leading A B + e - ((f.p : Int) - 1) ≤ q ∧ q ≤ FP.Core.leading A B + e - ((f.p : Int) - 1) + 1 := by
    unfold FP.Core.roundRatio
    rw [if_neg (by omega)]
    unfold FP.Core.roundAt
    rw [hq]
    generalize FP.Core.leading A B + e - ((f.p : Int) - 1) = Z at h1 h2
    unfold FP.Core.settle FP.Core.bound
    rw [if_pos (show Z ≤ f.qmax by omega), if_pos (show Z + 1 ≤ f.qmax by omega)]
    split
    · exact ⟨_, _, rfl, Int.le_refl _, by omega⟩
    · exact ⟨_, _, rfl, by omega, Int.le_refl _⟩
  obtain ⟨c, q, k1, k2, k3⟩ := key
  refine ⟨c, q, k1, ?_, k2, k3⟩
  rw [k1] at hfit
  obtain ⟨-, -, -, f4⟩ := hfit
  rcases f4 with f4 | f4
  · omega
  · exact f4
theorem fr_shift {f : FP.Core.Fmt} {s : Bool} {A B : Nat} {e : Int} (j : Int) (hA : 0 < A) (h1 : f.qmin ≤ FP.Core.leading A B + e - ((f.p : Int) - 1)) (h2 : FP.Core.leading A B + e - ((f.p : Int) - 1) + 1 ≤ f.qmax) (h3 : f.qmin ≤ FP.Core.leading A B + (e + j) - ((f.p : Int) - 1)) (h4 : FP.Core.leading A B + (e + j) - ((f.p : Int) - 1) + 1 ≤ f.qmax) {c : Nat} {q : Int} (h : FP.Core.roundRatio f s A B e = .fin s c q) : FP.Core.roundRatio f s A B (e + j) = .fin s c (q + j) := by
  have hq : FP.Core.quantum f A B e = FP.Core.leading A B + e - ((f.p : Int) - 1) := by
    unfold FP.Core.quantum
    omega
  have hq2 : FP.Core.quantum f A B (e + j) = FP.Core.leading A B + e - ((f.p : Int) - 1) + j := by
    unfold FP.Core.quantum
    omega
  unfold FP.Core.roundRatio at h ⊢
  rw [if_neg (by omega)] at h ⊢
  unfold FP.Core.roundAt at h ⊢
  rw [hq] at h
  rw [hq2]
  have h3' : f.qmin ≤ FP.Core.leading A B + e - ((f.p : Int) - 1) + j := by omega
  have h4' : FP.Core.leading A B + e - ((f.p : Int) - 1) + j + 1 ≤ f.qmax := by omega
  clear h3 h4 hq hq2
  generalize FP.Core.leading A B + e - ((f.p : Int) - 1) = Z at h h1 h2 h3' h4' ⊢
  have u1 : FP.Core.unitsNum A (e + j) (Z + j) = FP.Core.unitsNum A e Z := by
    unfold FP.Core.unitsNum
    rw [show e + j - (Z + j) = e - Z by omega]
  have u2 : FP.Core.unitsDen B (e + j) (Z + j) = FP.Core.unitsDen B e Z := by
    unfold FP.Core.unitsDen
    rw [show Z + j - (e + j) = Z - e by omega]
  rw [u1, u2]
  unfold FP.Core.settle FP.Core.bound at h ⊢
  rw [if_pos (show Z ≤ f.qmax by omega), if_pos (show Z + 1 ≤ f.qmax by omega)] at h
  rw [if_pos (show Z + j ≤ f.qmax by omega), if_pos (show Z + j + 1 ≤ f.qmax by omega)]
  by_cases hc : FP.Core.nearest (FP.Core.unitsNum A e Z) (FP.Core.unitsDen B e Z) < 2 ^ f.p
  · rw [if_pos hc] at h ⊢
    simp only [FP.Core.Datum.fin.injEq, true_and] at h ⊢
    omega
  · rw [if_neg hc] at h ⊢
    simp only [FP.Core.Datum.fin.injEq, true_and] at h ⊢
    omega
theorem lead_1 {A : Nat} (hA : 0 < A) : FP.Core.leading A 1 = (A.log2 : Int) := by
  unfold FP.Core.leading
  have h1 : Nat.log2 1 = 0 := by decide
  have h2 : 2 ^ A.log2 ≤ A := Nat.log2_self_le (by omega)
  simp only [h1]
  rw [show ((A.log2 : Int) - ((0 : Nat) : Int)).toNat = A.log2 by omega, show (-((A.log2 : Int) - ((0 : Nat) : Int))).toNat = 0 by omega, Nat.one_mul, Nat.pow_zero, Nat.mul_one, if_pos h2]
  omega
theorem log_lt {A k : Nat} (hA : 0 < A) (h : A < 2 ^ k) : A.log2 < k := (Nat.log2_lt (by omega)).mpr h
theorem ofI_nat (A : Nat) : FP.Core.ofInt ((A : Nat) : Int) = .fin false A 0 := by
  unfold FP.Core.ofInt
  rw [decide_eq_false (by omega), Int.natAbs_natCast]
theorem l2f_rr {A : Nat} (h : A < 2 ^ 63) : FP.Core.val32 (FP.l2f (Int64.ofInt (A : Int))) = FP.Core.roundRatio FP.Core.b32 false A 1 0 := by
  show FP.Core.val32 (FP.Core.l2f _) = _
  rw [FP.Core.val32_l2f, L_toInt (by omega) (by omega), ofI_nat]
  rfl
theorem b32_q : FP.Core.b32.qmin = -149 ∧ FP.Core.b32.qmax = 104 ∧ ((FP.Core.b32.p : Nat) : Int) = 24 ∧ FP.Core.b32.tails = 8388608 := by decide
theorem b64_q : FP.Core.b64.qmin = -1074 ∧ FP.Core.b64.qmax = 971 ∧ ((FP.Core.b64.p : Nat) : Int) = 53 ∧ FP.Core.b64.tails = 4503599627370496 := by decide
/-- a whole number as a float, and 2^j times as much -/
theorem ff_l2f {A : Nat} (hA : 0 < A) (j : Nat) (hAj : A * 2 ^ j < 2 ^ 63) : ∃ (c : Nat) (q : Int), FP.Core.val32 (FP.l2f (Int64.ofInt (A : Int))) = .fin false c q ∧ FP.Core.val32 (FP.l2f (Int64.ofInt ((A * 2 ^ j : Nat) : Int))) = .fin false c (q + j) ∧ 8388608 ≤ c ∧ -23 ≤ q ∧ q + j ≤ 41 := by
  obtain ⟨b1, b2, b3, b4⟩ := b32_q
  have hA2 : A ≤ A * 2 ^ j := Nat.le_mul_of_pos_right _ (Nat.two_pow_pos j)
  have hl := lead_1 hA
  have hlog : A.log2 + j < 63 := by
    have h1 : 2 ^ A.log2 ≤ A := Nat.log2_self_le (by omega)
    have h2 : 2 ^ (A.log2 + j) < 2 ^ 63 := by
      rw [Nat.pow_add]
      exact Nat.lt_of_le_of_lt (Nat.mul_le_mul_right _ h1) hAj
    exact (Nat.pow_lt_pow_iff_right (by decide)).mp h2
  obtain ⟨c, q, k1, k2, k3, k4⟩ := fr_norm FP.Core.good_b32 (s := false) (e := 0) hA (show 0 < 1 by decide) (by rw [b1, b3, hl]; omega) (by rw [b2, b3, hl]; omega)
  rw [b3, hl] at k3 k4
  rw [b4] at k2
  have k5 := fr_shift (j : Int) hA (by rw [b1, b3, hl]; omega) (by rw [b2, b3, hl]; omega) (by rw [b1, b3, hl]; omega) (by rw [b2, b3, hl]; omega) k1
  refine ⟨c, q, by rw [l2f_rr (by omega)]; exact k1, ?_, k2, by omega, by omega⟩
  rw [l2f_rr hAj, ← k5]
  refine FP.Core.roundRatio_congr (by decide) (by decide) ?_
  rw [show ((0 : Int) - (0 + (j : Int))).toNat = 0 by omega, show ((0 : Int) + (j : Int) - 0).toNat = j by omega, Nat.pow_zero, Nat.mul_one, Nat.mul_one, Nat.mul_one]
theorem ff_pow {s : Nat} (hs : s ≤ 62) : FP.Core.val32 (FP.l2f (Int64.ofInt ((2 ^ s : Nat) : Int))) = .fin false 8388608 ((s : Int) - 23) := by
  have h2 : 2 ^ s < 2 ^ 63 := Nat.pow_lt_pow_right (by decide) (by omega)
  rw [l2f_rr h2]
  have hf := ff_fits (E := s + 127) (T := 0) (by omega) (by omega)
  rw [Nat.add_zero, show ((s + 127 : Nat) : Int) - 150 = (s : Int) - 23 by omega] at hf
  refine FP.Core.roundRatio_exact FP.Core.good_b32 (by decide) hf ?_
  have h23 : (8388608 : Nat) = 2 ^ 23 := rfl
  rw [h23, Nat.mul_one, ← Nat.pow_add, ← Nat.pow_add]
  congr 1
  omega
/-- a quotient by a power of two -/
theorem ff_div {x y : UInt32} {c s : Nat} {q : Int} (hx : FP.Core.val32 x = .fin false c q) (hc : 8388608 ≤ c) (hy : FP.Core.val32 y = .fin false 8388608 ((s : Int) - 23)) (hq : -149 ≤ q - s) (hs : 0 ≤ s) (hq2 : q - s ≤ 104) : FP.Core.val32 (FP.fdiv x y) = .fin false c (q - s) := by
  obtain ⟨b1, b2, b3, b4⟩ := b32_q
  have hfx := FP.Core.val32_fits x
  rw [hx] at hfx
  show FP.Core.val32 (FP.Core.fdiv x y) = _
  rw [FP.Core.val32_fdiv, hx, hy]
  unfold FP.Core.quotient
  simp only
  rw [if_neg (by omega)]
  refine FP.Core.roundRatio_exact FP.Core.good_b32 (by omega) ⟨hfx.1, by rw [b1]; omega, by rw [b2]; omega, Or.inr (by rw [b4]; exact hc)⟩ ?_
  rw [show (q - ((s : Int) - 23) - (q - s)).toNat = 23 by omega, show (q - s - (q - ((s : Int) - 23))).toNat = 0 by omega]
  have h23 : (2 : Nat) ^ 23 = 8388608 := rfl
  rw [h23, Nat.pow_zero, Nat.mul_one]
theorem t_f32 : UInt32.ofNat (1333788672 : Int).toNat = fB 159 0 := rfl
/-- a chance as a float, both ways -/
theorem ff_ch {n d : Nat} (hn : 0 < n) (hd : d ≤ 8) (h : n * 16 ^ (8 - d) ≤ 4294967296) : ∃ E T : Nat, (1 ≤ E ∧ E ≤ 254) ∧ T < 8388608 ∧ FP.fdiv (FP.l2f (Int64.ofInt ((n * 16 ^ (8 - d) : Nat) : Int))) (fB 159 0) = fB E T ∧ FP.fdiv (FP.l2f (Int64.ofInt (n : Int))) (FP.l2f (Int64.ofInt ((16 ^ d : Nat) : Int))) = fB E T := by
  have e16 : ∀ k : Nat, (16 : Nat) ^ k = 2 ^ (4 * k) := by
    intro k
    rw [Nat.pow_mul]
  rw [e16] at h ⊢
  rw [e16]
  obtain ⟨c, q, k1, k2, k3, k4, k5⟩ := ff_l2f hn (4 * (8 - d)) (by have : (2 : Nat) ^ 63 = 9223372036854775808 := rfl; omega)
  have y1 := ff_val (E := 159) (T := 0) (by omega) (by omega)
  rw [Nat.add_zero, show ((159 : Nat) : Int) - 150 = ((32 : Nat) : Int) - 23 by decide] at y1
  have y2 := ff_pow (s := 4 * d) (by omega)
  have r1 := ff_div k2 k3 y1 (by omega) (by omega) (by omega)
  have r2 := ff_div k1 k3 y2 (by omega) (by omega) (by omega)
  obtain ⟨E, T, hE, hT, hEq⟩ := ff_norm r1 k3
  refine ⟨E, T, hE, hT, hEq, ?_⟩
  rw [← hEq]
  refine FP.Core.val32_inj (by rw [r2]; exact FP.Core.Datum.noConfusion) ?_
  rw [r1, r2]
  congr 1
  omega
/-- a mean as a float, and its quotient by a width -/
theorem ff_mean {A w : Nat} (hA : 0 < A) (hA2 : A < 2 ^ 40) (hw : 1 ≤ w ∧ w ≤ 6) : ∃ E T E' T' : Nat, ((1 ≤ E ∧ E ≤ 254) ∧ T < 8388608) ∧ ((1 ≤ E' ∧ E' ≤ 254) ∧ T' < 8388608) ∧ FP.fdiv (FP.l2f (Int64.ofInt (A : Int))) (fB 159 0) = fB E T ∧ FP.fdiv (FP.l2f (Int64.ofInt (A : Int))) (FP.l2f (Int64.ofInt 4294967296)) = fB E T ∧ FP.fdiv (fB E T) (FP.i2f (Int32.ofInt (w : Int))) = fB E' T' := by
  obtain ⟨b1, b2, b3, b4⟩ := b32_q
  obtain ⟨c, q, k1, -, k3, k4, k5⟩ := ff_l2f hA 0 (by rw [Nat.pow_zero, Nat.mul_one]; have h40 : (2 : Nat) ^ 40 = 1099511627776 := rfl; have : (2 : Nat) ^ 63 = 9223372036854775808 := rfl; omega)
  have y1 := ff_val (E := 159) (T := 0) (by omega) (by omega)
  rw [Nat.add_zero, show ((159 : Nat) : Int) - 150 = ((32 : Nat) : Int) - 23 by decide] at y1
  have y2 := ff_pow (s := 32) (by omega)
  rw [show ((2 ^ 32 : Nat) : Int) = 4294967296 from rfl] at y2
  have r1 := ff_div k1 k3 y1 (by omega) (by omega) (by omega)
  have r2 := ff_div k1 k3 y2 (by omega) (by omega) (by omega)
  obtain ⟨E, T, hE, hT, hEq⟩ := ff_norm r1 k3
  have hEq2 : FP.fdiv (FP.l2f (Int64.ofInt (A : Int))) (FP.l2f (Int64.ofInt 4294967296)) = fB E T := by
    rw [← hEq]
    refine FP.Core.val32_inj (by rw [r2]; exact FP.Core.Datum.noConfusion) ?_
    rw [r1, r2]
  /- the width -/
  have wv : FP.Core.val32 (FP.i2f (Int32.ofInt (w : Int))) = FP.Core.roundRatio FP.Core.b32 false w 1 0 := by
    show FP.Core.val32 (FP.Core.i2f _) = _
    rw [FP.Core.val32_i2f, Int32.toInt_ofInt_of_le (by omega) (by omega), ofI_nat]
    rfl
  have hwl := lead_1 (A := w) (by omega)
  have hwlog := log_lt (A := w) (k := 3) (by omega) (by omega)
  obtain ⟨cw, qw, p1, p2, p3, p4⟩ := fr_norm FP.Core.good_b32 (s := false) (e := 0) (A := w) (B := 1) (by omega) (by decide) (by rw [b1, b3, hwl]; omega) (by rw [b2, b3, hwl]; omega)
  rw [b3, hwl] at p3 p4
  rw [b4] at p2
  rw [p1] at wv
  have hfw := FP.Core.val32_fits (FP.i2f (Int32.ofInt (w : Int)))
  rw [wv] at hfw
  have hcw : cw < 16777216 := hfw.1
  have hfc := FP.Core.val32_fits (FP.l2f (Int64.ofInt (A : Int)))
  rw [k1] at hfc
  have hc24 : c < 16777216 := hfc.1
  have hlead : -1 ≤ FP.Core.leading c cw ∧ FP.Core.leading c cw ≤ 0 := by
    have h1 : c.log2 = 23 := by
      have := log_lt (A := c) (k := 24) (by omega) hc24
      have := (Nat.le_log2 (n := c) (k := 23) (by omega)).mpr k3
      omega
    have h2 : cw.log2 = 23 := by
      have := log_lt (A := cw) (k := 24) (by omega) hcw
      have := (Nat.le_log2 (n := cw) (k := 23) (by omega)).mpr p2
      omega
    unfold FP.Core.leading
    simp only [h1, h2]
    split <;> omega
  have v3 : FP.Core.val32 (FP.fdiv (fB E T) (FP.i2f (Int32.ofInt (w : Int)))) = FP.Core.roundRatio FP.Core.b32 false c cw (q - ((32 : Nat) : Int) - qw) := by
    show FP.Core.val32 (FP.Core.fdiv _ _) = _
    rw [FP.Core.val32_fdiv, wv, ← hEq, r1]
    unfold FP.Core.quotient
    simp only
    rw [if_neg (by omega)]
    rfl
  obtain ⟨c3, q3, s1, s2, s3, s4⟩ := fr_norm FP.Core.good_b32 (s := false) (A := c) (B := cw) (e := q - ((32 : Nat) : Int) - qw) (by omega) (by omega) (by rw [b1, b3]; omega) (by rw [b2, b3]; omega)
  rw [s1] at v3
  rw [b4] at s2
  obtain ⟨E', T', hE', hT', hEq'⟩ := ff_norm v3 s2
  exact ⟨E, T, E', T', ⟨hE, hT⟩, ⟨hE', hT'⟩, hEq, hEq2, hEq'⟩
theorem ff_2d {E T : Nat} (hE : 1 ≤ E ∧ E ≤ 254) (hT : T < 8388608) : FP.f2d (fB E T) = dB (E + 896) (T * 536870912) := by
  have hn := ff_ne hE hT
  have hnn : FP.fIsNaN (fB E T) = false := by
    show FP.Core.fIsNaN _ = false
    exact (FP.Core.notNaN_iff32 _).mpr hn
  rw [FP.f2d_core hnn]
  have v : FP.Core.val64 (FP.Core.f2d (fB E T)) = .fin false (4503599627370496 + T * 536870912) (((E + 896 : Nat) : Int) - 1075) := by
    rw [FP.Core.val64_f2d, ff_val hE hT]
    unfold FP.Core.round
    simp only
    refine FP.Core.roundRatio_exact FP.Core.good_b64 (by decide) (fp_fits (by omega) (by omega)) ?_
    rw [show ((E : Int) - 150 - (((E + 896 : Nat) : Int) - 1075)).toNat = 29 by omega, show ((((E + 896 : Nat) : Int) - 1075) - ((E : Int) - 150)).toNat = 0 by omega]
    have : (2 : Nat) ^ 29 = 536870912 := rfl
    rw [this]
    omega
  refine FP.Core.val64_inj (by rw [v]; exact FP.Core.Datum.noConfusion) ?_
  rw [v, fp_val (by omega) (by omega)]
theorem tI_id {x : Int} (h : -2147483648 ≤ x ∧ x ≤ 2147483647) : tI x = x := by
  unfold tI
  rw [Int64.toInt_toInt32, L_toInt (by omega) (by omega)]
  exact Int.bmod_eq_of_le (by omega) (by omega)
set_option maxRecDepth 20000 in
set_option maxHeartbeats 4000000 in
theorem c_ofFloat {h : Hp} {E T : Nat} (hE : 1 ≤ E ∧ E ≤ 254) (hT : T < 8388608) {lim : Nat × Nat} {K : QT} (hK : K (pI ((E * 8388608 + T : Nat) : Int)) h) : WM 70 [pF (fB E T)] h lim K := by
  try simp (disch := omega) only [w70_0, e70, x_iconst, x_bipush, x_sipush, x_ldc, x_lconst, x_ldc2l, x_dconst, x_ldc2d, x_ldcf, x_iadd, x_isub, x_imul, x_idiv, x_irem, x_ishl, x_ishr, x_iand, x_ior, x_ixor, x_ladd, x_lsub, x_lmul, x_ldiv, x_lrem, x_lshl, x_lshr, x_lor, x_land, x_lcmp, x_i2l, x_l2i, x_i2b, x_i2f, x_l2f, x_l2d, x_f2d, x_d2l, x_fdiv, x_dadd, x_dsub, x_dmul, x_ddiv, x_dcmp, x_fcmp, x_dup, x_pop, x_dup2, x_objinit, x_rawF, x_rawD, gV_0, gV_1, gV_2, gV_3, gV_4, gV_S, x_iload, x_lload, x_fload, x_dload, x_aload, x_istore, x_fstore, x_astore, x_lstore, x_dstore, gX_I, x_iinc, x_getf, x_putfI, x_putfL, x_putfR, x_iald, x_bald, x_zald, x_lald, x_dald, x_aald, x_iast, x_bast, x_zast, x_last, x_dast, x_aast, x_alen, x_new, x_newa, x_anew, x_acopy, x_sld, x_slen, x_fall, x_goto, x_if, x_cmp, x_tsw, x_lsw, x_ret, x_iret, x_zret, x_lret, x_fret, x_dret, x_aret, x_callr, x_callv, x_calli, x_calls, rcv_R, isO_cO, JW_def, kO_some, sk4, cats_nil, cats_I, cats_L, cats_F, cats_D, cats_R, cats_S, Nat.reduceAdd, Nat.reduceLeDiff, inr, inq, Int.reduceEq, Int.reduceLT, Int.reduceLE, Int.reduceNeg, not_false_eq_true, not_true_eq_false, false_implies, and_self, pk_nil, pk_cons, wk_0, wk_1, wk_2, wk_3, wk_4, swt_nil, swt_cons, swl_nil, swl_cons, c3_eq, c3_lt, c3_ge, c3_le, c3_gt, c3_inr, c3_inr2, cnd_0, cnd_1, cnd_2, cnd_3, cnd_4, cnd_5, wide_I, wide_R, wide_L, wide_F, wide_D, wide_S, nw_I, nw_L, nw_F, nw_D, nw_U, nw_R, nw_S, fgo_cO, fso_cO, Option.map_some, alo_cI, ado_cD, aro_cR, ano_cI, ano_cD, lst, List.getElem?_cons_zero, List.getElem?_cons_succ, List.set_cons_zero, List.set_cons_succ, and_true, true_and, true_implies, forall_const, true_or, or_true, hg_same, hg_ne]
  rw [ff_2d hE hT]
  refine ⟨fp_n64 (fp_ne (by omega) (by omega)), c_ofDouble (by omega) (by omega) ?_⟩
  try simp (disch := omega) only [w70_0, e70, x_iconst, x_bipush, x_sipush, x_ldc, x_lconst, x_ldc2l, x_dconst, x_ldc2d, x_ldcf, x_iadd, x_isub, x_imul, x_idiv, x_irem, x_ishl, x_ishr, x_iand, x_ior, x_ixor, x_ladd, x_lsub, x_lmul, x_ldiv, x_lrem, x_lshl, x_lshr, x_lor, x_land, x_lcmp, x_i2l, x_l2i, x_i2b, x_i2f, x_l2f, x_l2d, x_f2d, x_d2l, x_fdiv, x_dadd, x_dsub, x_dmul, x_ddiv, x_dcmp, x_fcmp, x_dup, x_pop, x_dup2, x_objinit, x_rawF, x_rawD, gV_0, gV_1, gV_2, gV_3, gV_4, gV_S, x_iload, x_lload, x_fload, x_dload, x_aload, x_istore, x_fstore, x_astore, x_lstore, x_dstore, gX_I, x_iinc, x_getf, x_putfI, x_putfL, x_putfR, x_iald, x_bald, x_zald, x_lald, x_dald, x_aald, x_iast, x_bast, x_zast, x_last, x_dast, x_aast, x_alen, x_new, x_newa, x_anew, x_acopy, x_sld, x_slen, x_fall, x_goto, x_if, x_cmp, x_tsw, x_lsw, x_ret, x_iret, x_zret, x_lret, x_fret, x_dret, x_aret, x_callr, x_callv, x_calli, x_calls, rcv_R, isO_cO, JW_def, kO_some, sk4, cats_nil, cats_I, cats_L, cats_F, cats_D, cats_R, cats_S, Nat.reduceAdd, Nat.reduceLeDiff, inr, inq, Int.reduceEq, Int.reduceLT, Int.reduceLE, Int.reduceNeg, not_false_eq_true, not_true_eq_false, false_implies, and_self, pk_nil, pk_cons, wk_0, wk_1, wk_2, wk_3, wk_4, swt_nil, swt_cons, swl_nil, swl_cons, c3_eq, c3_lt, c3_ge, c3_le, c3_gt, c3_inr, c3_inr2, cnd_0, cnd_1, cnd_2, cnd_3, cnd_4, cnd_5, wide_I, wide_R, wide_L, wide_F, wide_D, wide_S, nw_I, nw_L, nw_F, nw_D, nw_U, nw_R, nw_S, fgo_cO, fso_cO, Option.map_some, alo_cI, ado_cD, aro_cR, ano_cI, ano_cD, lst, List.getElem?_cons_zero, List.getElem?_cons_succ, List.set_cons_zero, List.set_cons_succ, and_true, true_and, true_implies, forall_const, true_or, or_true, hg_same, hg_ne]
  rw [show (29 : Int) = ((29 : Nat) : Int) from rfl, lShr_n (by unfold inq; omega) (by decide)]
  rw [show (((E + 896) * 4503599627370496 + T * 536870912 : Nat) : Int) / 2 ^ 29 - 7516192768 = ((E * 8388608 + T : Nat) : Int) by
    have : (2 : Int) ^ 29 = 536870912 := rfl
    rw [this]
    omega, tI_id (by omega)]
  exact hK
theorem raw32 {n : Nat} (h : n < 2147483648) : (UInt32.ofNat n).toInt32.toInt = (n : Int) := by
  have : (UInt32.ofNat n).toInt32 = nI n := rfl
  rw [this, nI_toInt (by omega)]
theorem raw64 {n : Nat} (h : n < 2 ^ 63) : (UInt64.ofNat n).toInt64.toInt = (n : Int) := by
  have : (UInt64.ofNat n).toInt64 = lN n := rfl
  rw [this, lN_int h]
set_option maxRecDepth 20000 in
set_option maxHeartbeats 4000000 in
theorem c_floatBits {h : Hp} {E T : Nat} (hE : 1 ≤ E ∧ E ≤ 254) (hT : T < 8388608) {lim : Nat × Nat} {K : QT} (hK : K (pI ((E * 8388608 + T : Nat) : Int)) h) : WM 120 [pF (fB E T)] h lim K := by
  have hc : FP.fcmp (fB E T) (fB E T) = some .eq := by
    show FP.Core.fcmp _ _ = _
    rw [FP.Core.fcmp_key (ff_ne hE hT) (ff_ne hE hT), (FP.Core.compare_eq_iff _ _).mpr rfl]
  have hc0 : (Op.cmpValue (some Ordering.eq) (cop 0)).toInt = 0 := rfl
  have hr : (fB E T).toInt32.toInt = ((E * 8388608 + T : Nat) : Int) := raw32 (by omega)
  try simp (disch := omega) only [w120_0, w120_12, e120, w67_0, w67_10, w67_11, e67, x_iconst, x_bipush, x_sipush, x_ldc, x_lconst, x_ldc2l, x_dconst, x_ldc2d, x_ldcf, x_iadd, x_isub, x_imul, x_idiv, x_irem, x_ishl, x_ishr, x_iand, x_ior, x_ixor, x_ladd, x_lsub, x_lmul, x_ldiv, x_lrem, x_lshl, x_lshr, x_lor, x_land, x_lcmp, x_i2l, x_l2i, x_i2b, x_i2f, x_l2f, x_l2d, x_f2d, x_d2l, x_fdiv, x_dadd, x_dsub, x_dmul, x_ddiv, x_dcmp, x_fcmp, x_dup, x_pop, x_dup2, x_objinit, x_rawF, x_rawD, gV_0, gV_1, gV_2, gV_3, gV_4, gV_S, x_iload, x_lload, x_fload, x_dload, x_aload, x_istore, x_fstore, x_astore, x_lstore, x_dstore, gX_I, x_iinc, x_getf, x_putfI, x_putfL, x_putfR, x_iald, x_bald, x_zald, x_lald, x_dald, x_aald, x_iast, x_bast, x_zast, x_last, x_dast, x_aast, x_alen, x_new, x_newa, x_anew, x_acopy, x_sld, x_slen, x_fall, x_goto, x_if, x_cmp, x_tsw, x_lsw, x_ret, x_iret, x_zret, x_lret, x_fret, x_dret, x_aret, x_callr, x_callv, x_calli, x_calls, rcv_R, isO_cO, JW_def, kO_some, sk4, cats_nil, cats_I, cats_L, cats_F, cats_D, cats_R, cats_S, Nat.reduceAdd, Nat.reduceLeDiff, inr, inq, Int.reduceEq, Int.reduceLT, Int.reduceLE, Int.reduceNeg, not_false_eq_true, not_true_eq_false, false_implies, and_self, pk_nil, pk_cons, wk_0, wk_1, wk_2, wk_3, wk_4, swt_nil, swt_cons, swl_nil, swl_cons, c3_eq, c3_lt, c3_ge, c3_le, c3_gt, c3_inr, c3_inr2, cnd_0, cnd_1, cnd_2, cnd_3, cnd_4, cnd_5, wide_I, wide_R, wide_L, wide_F, wide_D, wide_S, nw_I, nw_L, nw_F, nw_D, nw_U, nw_R, nw_S, fgo_cO, fso_cO, Option.map_some, alo_cI, ado_cD, aro_cR, ano_cI, ano_cD, lst, List.getElem?_cons_zero, List.getElem?_cons_succ, List.set_cons_zero, List.set_cons_succ, and_true, true_and, true_implies, forall_const, true_or, or_true, hg_same, hg_ne,  hc, hc0, hr]
  exact hK
set_option maxRecDepth 20000 in
set_option maxHeartbeats 4000000 in
theorem c_doubleBits {h : Hp} {E T : Nat} (hE : 1 ≤ E ∧ E ≤ 2046) (hT : T < 4503599627370496) {lim : Nat × Nat} {K : QT} (hK : K (pL ((E * 4503599627370496 + T : Nat) : Int)) h) : WM 119 [pD (dB E T)] h lim K := by
  have hc : FP.dcmp (dB E T) (dB E T) = some .eq := by
    rw [fp_cmp hE hT hE hT, (FP.Core.compare_eq_iff _ _).mpr rfl]
  have hc0 : (Op.cmpValue (some Ordering.eq) (cop 0)).toInt = 0 := rfl
  have hr : (dB E T).toInt64.toInt = ((E * 4503599627370496 + T : Nat) : Int) := raw64 (by have : (2 : Nat) ^ 63 = 9223372036854775808 := rfl; omega)
  try simp (disch := omega) only [w119_0, w119_12, e119, w66_0, w66_10, w66_11, e66, x_iconst, x_bipush, x_sipush, x_ldc, x_lconst, x_ldc2l, x_dconst, x_ldc2d, x_ldcf, x_iadd, x_isub, x_imul, x_idiv, x_irem, x_ishl, x_ishr, x_iand, x_ior, x_ixor, x_ladd, x_lsub, x_lmul, x_ldiv, x_lrem, x_lshl, x_lshr, x_lor, x_land, x_lcmp, x_i2l, x_l2i, x_i2b, x_i2f, x_l2f, x_l2d, x_f2d, x_d2l, x_fdiv, x_dadd, x_dsub, x_dmul, x_ddiv, x_dcmp, x_fcmp, x_dup, x_pop, x_dup2, x_objinit, x_rawF, x_rawD, gV_0, gV_1, gV_2, gV_3, gV_4, gV_S, x_iload, x_lload, x_fload, x_dload, x_aload, x_istore, x_fstore, x_astore, x_lstore, x_dstore, gX_I, x_iinc, x_getf, x_putfI, x_putfL, x_putfR, x_iald, x_bald, x_zald, x_lald, x_dald, x_aald, x_iast, x_bast, x_zast, x_last, x_dast, x_aast, x_alen, x_new, x_newa, x_anew, x_acopy, x_sld, x_slen, x_fall, x_goto, x_if, x_cmp, x_tsw, x_lsw, x_ret, x_iret, x_zret, x_lret, x_fret, x_dret, x_aret, x_callr, x_callv, x_calli, x_calls, rcv_R, isO_cO, JW_def, kO_some, sk4, cats_nil, cats_I, cats_L, cats_F, cats_D, cats_R, cats_S, Nat.reduceAdd, Nat.reduceLeDiff, inr, inq, Int.reduceEq, Int.reduceLT, Int.reduceLE, Int.reduceNeg, not_false_eq_true, not_true_eq_false, false_implies, and_self, pk_nil, pk_cons, wk_0, wk_1, wk_2, wk_3, wk_4, swt_nil, swt_cons, swl_nil, swl_cons, c3_eq, c3_lt, c3_ge, c3_le, c3_gt, c3_inr, c3_inr2, cnd_0, cnd_1, cnd_2, cnd_3, cnd_4, cnd_5, wide_I, wide_R, wide_L, wide_F, wide_D, wide_S, nw_I, nw_L, nw_F, nw_D, nw_U, nw_R, nw_S, fgo_cO, fso_cO, Option.map_some, alo_cI, ado_cD, aro_cR, ano_cI, ano_cD, lst, List.getElem?_cons_zero, List.getElem?_cons_succ, List.set_cons_zero, List.set_cons_succ, and_true, true_and, true_implies, forall_const, true_or, or_true, hg_same, hg_ne,  hc, hc0, hr]
  exact hK

/-! nonnegative doubles by bounds of their bits -/
theorem nb_fin {a : UInt64} {K : Nat} (h : a.toNat < K * 4503599627370496) (hK : K ≤ 2047) : ∃ c q, FP.Core.val64 a = .fin false c q ∧ FP.Core.fits FP.Core.b64 (.fin false c q) ∧ FP.Core.zmag FP.Core.b64 (.fin false c q) = FP.Core.unitsOf FP.Core.b64 a.toNat := by
  have h63 : a.toNat < 2 ^ 63 := by have : (2 : Nat) ^ 63 = 9223372036854775808 := rfl; omega
  have hm : FP.Core.mag FP.Core.b64 a.toNat = a.toNat := by
    rw [FP.Core.mag_toNat64]
    exact Nat.mod_eq_of_lt h63
  obtain ⟨s, c, q, h1, h2, h3⟩ := FP.Core.fin_of_mag FP.Core.good_b64 (n := a.toNat) (by rw [hm, FP.Core.infBits_b64]; omega)
  rw [hm] at h3
  have hs := FP.Core.sign_bits (a := a) (s := s) (Or.inl ⟨c, q, h1⟩)
  have hs2 : s = false := by
    cases s with
    | false => rfl
    | true =>
      have := hs.mp rfl
      omega
  subst hs2
  exact ⟨c, q, h1, h2, h3⟩
theorem nb_low {a : UInt64} (h : FP.Core.val64 a ≠ .nan) (hs : FP.Core.sgn (FP.Core.val64 a) = false) : a.toNat < 2 ^ 63 := by
  rw [FP.Core.sgn_bits h] at hs
  have := of_decide_eq_false hs
  omega
theorem nb_mul {a b : UInt64} {Ka Kb : Nat} (ha : a.toNat < Ka * 4503599627370496) (hb : b.toNat < Kb * 4503599627370496) (hKa : Ka ≤ 2047) (hKb : Kb ≤ 2047) : FP.Core.val64 (FP.dmul a b) ≠ .nan ∧ (FP.dmul a b).toNat < (Ka + Kb - 1025 + 3) * 4503599627370496 := by
  obtain ⟨c, q, v1, -, -⟩ := nb_fin ha hKa
  obtain ⟨d, r, v2, -, -⟩ := nb_fin hb hKb
  have v : FP.Core.val64 (FP.dmul a b) = FP.Core.roundRatio FP.Core.b64 false (c * d) 1 (q + r) := by
    show FP.Core.val64 (FP.Core.dmul a b) = _
    rw [FP.Core.val64_dmul, v1, v2]
    rfl
  have hn : FP.Core.val64 (FP.dmul a b) ≠ .nan := by
    rw [v]
    exact FP.Core.roundRatio_ne_nan _ _ _ _ _
  have hl := nb_low hn (by rw [v]; exact FP.Core.sgn_roundRatio _ _ _ _ _)
  have h63 : (2 : Nat) ^ 63 = 9223372036854775808 := rfl
  have h52 : (2 : Nat) ^ 52 = 4503599627370496 := rfl
  have hm := FP.Core.dmul_mag (a := a) (b := b) (Ka := Ka) (Kb := Kb) (by rw [Nat.mod_eq_of_lt (by omega), h52]; exact ha) (by rw [Nat.mod_eq_of_lt (by omega), h52]; exact hb) hKa hKb
  have hm' : (FP.dmul a b).toNat % 2 ^ 63 < (Ka + Kb - 1025 + 3) * 2 ^ 52 := hm
  rw [Nat.mod_eq_of_lt hl, h52] at hm'
  exact ⟨hn, hm'⟩
theorem nb_add {a b : UInt64} {K : Nat} (ha : a.toNat < K * 4503599627370496) (hb : b.toNat < K * 4503599627370496) (hK : K ≤ 2047) : FP.Core.val64 (FP.dadd a b) ≠ .nan ∧ (FP.dadd a b).toNat < (K + 2) * 4503599627370496 := by
  obtain ⟨c, q, v1, -, -⟩ := nb_fin ha hK
  obtain ⟨d, r, v2, -, -⟩ := nb_fin hb hK
  have v : ∃ n e, FP.Core.val64 (FP.dadd a b) = FP.Core.roundRatio FP.Core.b64 false n 1 e := by
    refine ⟨(FP.Core.sumUnits false c q false d r (min q r)).natAbs, min q r, ?_⟩
    show FP.Core.val64 (FP.Core.dadd a b) = _
    rw [FP.Core.val64_dadd, v1, v2]
    have hs : FP.Core.sumSign false false (FP.Core.sumUnits false c q false d r (min q r)) = false := by
      unfold FP.Core.sumSign
      by_cases e : FP.Core.sumUnits false c q false d r (min q r) = 0
      · rw [if_pos e]
        rfl
      · rw [if_neg e]
        refine decide_eq_false ?_
        unfold FP.Core.sumUnits FP.Core.signed
        simp only [Bool.false_eq_true, if_false]
        omega
    show FP.Core.round FP.Core.b64 (.fin (FP.Core.sumSign false false (FP.Core.sumUnits false c q false d r (min q r))) _ _) = _
    rw [hs]
    rfl
  obtain ⟨n, e, v⟩ := v
  have hn : FP.Core.val64 (FP.dadd a b) ≠ .nan := by
    rw [v]
    exact FP.Core.roundRatio_ne_nan _ _ _ _ _
  have hl := nb_low hn (by rw [v]; exact FP.Core.sgn_roundRatio _ _ _ _ _)
  have h63 : (2 : Nat) ^ 63 = 9223372036854775808 := rfl
  have h52 : (2 : Nat) ^ 52 = 4503599627370496 := rfl
  have hm := FP.Core.dadd_mag (a := a) (b := b) (K := K) (by rw [Nat.mod_eq_of_lt (by omega), h52]; exact ha) (by rw [Nat.mod_eq_of_lt (by omega), h52]; exact hb) hK
  have hm' : (FP.dadd a b).toNat % 2 ^ 63 < (K + 2) * 2 ^ 52 := hm
  rw [Nat.mod_eq_of_lt hl, h52] at hm'
  exact ⟨hn, hm'⟩
theorem lb_units {n K : Nat} (hK : 1 ≤ K) (h : K * 4503599627370496 ≤ n) : 4503599627370496 * 2 ^ (K - 1) ≤ FP.Core.unitsOf FP.Core.b64 n := by
  have h1 := FP.Core.unitsOf_start (f := FP.Core.b64) hK
  rw [b64_q.2.2.2] at h1
  rw [← h1]
  exact FP.Core.unitsOf_le_iff.mpr h
set_option maxRecDepth 20000 in
theorem lb_mul {a b : UInt64} {Ka Kb Ma Mb K : Nat} (ha : a.toNat < Ma * 4503599627370496) (hb : b.toNat < Mb * 4503599627370496) (hMa : Ma ≤ 2047) (hMb : Mb ≤ 2047) (la : Ka * 4503599627370496 ≤ a.toNat) (lb : Kb * 4503599627370496 ≤ b.toNat) (hKa : 1 ≤ Ka) (hKb : 1 ≤ Kb) (hK : 1 ≤ K) (hK2 : K + 1023 ≤ Ka + Kb) (hK3 : K ≤ 2047) : K * 4503599627370496 ≤ (FP.dmul a b).toNat := by
  obtain ⟨c, q, v1, f1, z1⟩ := nb_fin ha hMa
  obtain ⟨d, r, v2, f2, z2⟩ := nb_fin hb hMb
  obtain ⟨p1, p2, p3⟩ := FP.Core.product_units f1 f2
  have hd : FP.Core.decode FP.Core.b64 (FP.dmul a b).toNat = FP.Core.roundRatio FP.Core.b64 false (c * d) 1 (q + r) := by
    show FP.Core.val64 (FP.Core.dmul a b) = _
    rw [FP.Core.val64_dmul, v1, v2, p1]
    rfl
  have hg1 := FP.Core.mag_ge FP.Core.good_b64 (m := K * 4503599627370496) (e0 := 2 * FP.Core.b64.qmin) hd (by decide) (by rw [b64_q.1]; omega) p2 (by rw [FP.Core.infBits_b64]; exact Nat.le_trans (Nat.mul_le_mul_right _ hK3) (by decide)) (by
    have h1 := FP.Core.unitsOf_start (f := FP.Core.b64) hK
    rw [b64_q.2.2.2] at h1
    rw [p3, z1, z2, h1, Nat.mul_one]
    have e1 := lb_units hKa la
    have e2 := lb_units hKb lb
    rw [b64_q.1, show ((-1074 : Int) - 2 * -1074).toNat = 1074 by decide]
    refine Nat.le_trans ?_ (Nat.mul_le_mul e1 e2)
    have h52 : (4503599627370496 : Nat) = 2 ^ 52 := rfl
    rw [h52, ← Nat.pow_add, ← Nat.pow_add, ← Nat.pow_add, ← Nat.pow_add, ← Nat.pow_add]
    exact Nat.pow_le_pow_right (by decide) (by omega))
  rw [FP.Core.mag_toNat64] at hg1
  exact Nat.le_trans hg1 (Nat.mod_le _ _)
set_option maxRecDepth 20000 in
theorem lb_add {a b : UInt64} {K M : Nat} (ha : a.toNat < M * 4503599627370496) (hb : b.toNat < M * 4503599627370496) (hM : M ≤ 2047) (la : K * 4503599627370496 ≤ a.toNat ∨ K * 4503599627370496 ≤ b.toNat) (hK : 1 ≤ K) (hK3 : K ≤ 2047) : K * 4503599627370496 ≤ (FP.dadd a b).toNat := by
  obtain ⟨c, q, v1, f1, z1⟩ := nb_fin ha hM
  obtain ⟨d, r, v2, f2, z2⟩ := nb_fin hb hM
  obtain ⟨sg, n, e, p1, p2, p3⟩ := FP.Core.sum_units f1 f2
  have hd : FP.Core.decode FP.Core.b64 (FP.dadd a b).toNat = FP.Core.roundRatio FP.Core.b64 sg n 1 e := by
    show FP.Core.val64 (FP.Core.dadd a b) = _
    rw [FP.Core.val64_dadd, v1, v2, p1]
    rfl
  have hsum : FP.Core.inUnits n e FP.Core.b64.qmin = FP.Core.zmag FP.Core.b64 (.fin false c q) + FP.Core.zmag FP.Core.b64 (.fin false d r) := by
    have p4 : FP.Core.signed sg (FP.Core.inUnits n e FP.Core.b64.qmin) = ((FP.Core.zmag FP.Core.b64 (.fin false c q) + FP.Core.zmag FP.Core.b64 (.fin false d r) : Nat) : Int) := by
      rw [p3, Int.natCast_add]
      rfl
    have := congrArg Int.natAbs p4
    rw [FP.Core.natAbs_signed, Int.natAbs_natCast] at this
    exact this
  have hg1 := FP.Core.mag_ge FP.Core.good_b64 (m := K * 4503599627370496) (e0 := FP.Core.b64.qmin) hd (by decide) (Int.le_refl _) p2 (by rw [FP.Core.infBits_b64]; exact Nat.le_trans (Nat.mul_le_mul_right _ hK3) (by decide)) (by
    have h1 := FP.Core.unitsOf_start (f := FP.Core.b64) hK
    rw [b64_q.2.2.2] at h1
    rw [hsum, z1, z2, h1, Int.sub_self, Int.toNat_zero, Nat.pow_zero, Nat.mul_one, Nat.mul_one]
    rcases la with la | la
    · have := lb_units hK la
      omega
    · have := lb_units hK la
      omega)
  rw [FP.Core.mag_toNat64] at hg1
  exact Nat.le_trans hg1 (Nat.mod_le _ _)
theorem dB_of {a : UInt64} {K : Nat} (h1 : 4503599627370496 ≤ a.toNat) (h2 : a.toNat < K * 4503599627370496) (hK : K ≤ 2047) : ∃ E T : Nat, (1 ≤ E ∧ E ≤ 2046) ∧ T < 4503599627370496 ∧ a = dB E T ∧ a.toNat = E * 4503599627370496 + T := by
  refine ⟨a.toNat / 4503599627370496, a.toNat % 4503599627370496, by omega, Nat.mod_lt _ (by decide), ?_, by omega⟩
  unfold dB
  rw [show a.toNat / 4503599627370496 * 4503599627370496 + a.toNat % 4503599627370496 = a.toNat by omega, UInt64.ofNat_toNat]
/-! whole numbers over 2^32 -/
noncomputable def prD (A : Int) : UInt64 := FP.ddiv (FP.l2d (Int64.ofInt A)) (dB 1055 0)
theorem l2d_rr {A : Nat} (h : A < 2 ^ 63) : FP.Core.val64 (FP.l2d (Int64.ofInt (A : Int))) = FP.Core.roundRatio FP.Core.b64 false A 1 0 := by
  show FP.Core.val64 (FP.Core.l2d _) = _
  rw [FP.Core.val64_l2d, L_toInt (by omega) (by omega), ofI_nat]
  rfl
set_option maxRecDepth 20000 in
theorem pr_val {A : Nat} (hA : 0 < A) (h : A < 2 ^ 53) : ∃ T : Nat, T < 4503599627370496 ∧ prD (A : Int) = dB (A.log2 + 991) T ∧ A.log2 < 53 := by
  have hlog := log_lt hA h
  have h1 : 2 ^ A.log2 ≤ A := Nat.log2_self_le (by omega)
  have h2 : A < 2 ^ (A.log2 + 1) := Nat.lt_log2_self
  have h52 : (4503599627370496 : Nat) = 2 ^ 52 := rfl
  have c1 : 4503599627370496 ≤ A * 2 ^ (52 - A.log2) := by
    rw [h52]
    refine Nat.le_trans ?_ (Nat.mul_le_mul_right _ h1)
    rw [← Nat.pow_add, show A.log2 + (52 - A.log2) = 52 by omega]
    exact Nat.le_refl _
  have c2 : A * 2 ^ (52 - A.log2) < 9007199254740992 := by
    have h53 : (9007199254740992 : Nat) = 2 ^ 53 := rfl
    rw [h53]
    refine Nat.lt_of_lt_of_le (Nat.mul_lt_mul_of_pos_right h2 (Nat.two_pow_pos _)) ?_
    rw [← Nat.pow_add, show A.log2 + 1 + (52 - A.log2) = 53 by omega]
    exact Nat.le_refl _
  generalize hc : A * 2 ^ (52 - A.log2) = c at c1 c2
  have v1 : FP.Core.val64 (FP.l2d (Int64.ofInt (A : Int))) = .fin false c ((A.log2 : Int) - 52) := by
    rw [l2d_rr (by have : (2 : Nat) ^ 53 = 9007199254740992 := rfl; have : (2 : Nat) ^ 63 = 9223372036854775808 := rfl; omega)]
    have hf := fp_fits (E := A.log2 + 1023) (T := c - 4503599627370496) (by omega) (by omega)
    rw [show 4503599627370496 + (c - 4503599627370496) = c by omega, show ((A.log2 + 1023 : Nat) : Int) - 1075 = (A.log2 : Int) - 52 by omega] at hf
    refine FP.Core.roundRatio_exact FP.Core.good_b64 (by decide) hf ?_
    rw [show ((0 : Int) - ((A.log2 : Int) - 52)).toNat = 52 - A.log2 by omega, show ((A.log2 : Int) - 52 - 0).toNat = 0 by omega, hc]
    simp
  have v2 : FP.Core.val64 (prD (A : Int)) = .fin false c ((A.log2 : Int) - 84) := by
    unfold prD
    show FP.Core.val64 (FP.Core.ddiv _ _) = _
    rw [FP.Core.val64_ddiv, v1, fp_val (by omega) (by omega)]
    unfold FP.Core.quotient
    simp only
    rw [if_neg (by omega)]
    have hf := fp_fits (E := A.log2 + 991) (T := c - 4503599627370496) (by omega) (by omega)
    rw [show 4503599627370496 + (c - 4503599627370496) = c by omega, show ((A.log2 + 991 : Nat) : Int) - 1075 = (A.log2 : Int) - 84 by omega] at hf
    refine FP.Core.roundRatio_exact FP.Core.good_b64 (by omega) hf ?_
    rw [show ((A.log2 : Int) - 52 - (((1055 : Nat) : Int) - 1075) - ((A.log2 : Int) - 84)).toNat = 52 by omega, show ((A.log2 : Int) - 84 - ((A.log2 : Int) - 52 - (((1055 : Nat) : Int) - 1075))).toNat = 0 by omega]
    rw [h52, Nat.add_zero, Nat.pow_zero, Nat.mul_one]
  obtain ⟨E, T, hE, hT, e1, e2, e3⟩ := fp_norm v2 c1
  refine ⟨T, hT, ?_, hlog⟩
  rw [e1, show E = A.log2 + 991 by omega]
theorem pr_0 : prD 0 = FP.dconst0 := by
  unfold prD
  decide +kernel
set_option maxRecDepth 20000 in
theorem pr_hi {A : Int} (h0 : 0 ≤ A) {k : Nat} (h : A < 2 ^ k) (hk : k ≤ 53) : (prD A).toNat < (k + 991) * 4503599627370496 ∧ FP.Core.val64 (prD A) ≠ .nan := by
  obtain ⟨n, rfl⟩ : ∃ n : Nat, A = (n : Int) := ⟨A.toNat, by omega⟩
  have hn : n < 2 ^ k := by
    have e : ((2 : Int) ^ k) = ((2 ^ k : Nat) : Int) := by rw [Int.natCast_pow]; rfl
    rw [e] at h
    exact Int.ofNat_lt.mp h
  by_cases e : n = 0
  · subst e
    rw [show ((0 : Nat) : Int) = 0 from rfl, pr_0]
    refine ⟨?_, by rw [show FP.dconst0 = FP.Core.dconst0 from rfl, FP.Core.val64_dconst0]; exact FP.Core.Datum.noConfusion⟩
    show 0 < _
    omega
  · have h53 : 2 ^ k ≤ 2 ^ 53 := Nat.pow_le_pow_right (by decide) hk
    obtain ⟨T, hT, e1, e2⟩ := pr_val (A := n) (by omega) (by omega)
    have hl := log_lt (A := n) (by omega) hn
    rw [e1, dB_toNat (by omega) hT]
    refine ⟨?_, fp_ne (by omega) hT⟩
    have := Nat.mul_le_mul_right 4503599627370496 (show n.log2 + 992 ≤ k + 991 by omega)
    omega
set_option maxRecDepth 20000 in
theorem pr_lo {A : Int} {k : Nat} (h : 2 ^ k ≤ A) (h2 : A < 9007199254740992) : (k + 991) * 4503599627370496 ≤ (prD A).toNat := by
  have hp : (0 : Int) < 2 ^ k := Int.pow_pos (by decide)
  obtain ⟨n, rfl⟩ : ∃ n : Nat, A = (n : Int) := ⟨A.toNat, by omega⟩
  have hn : 2 ^ k ≤ n := by
    have e : ((2 : Int) ^ k) = ((2 ^ k : Nat) : Int) := by rw [Int.natCast_pow]; rfl
    rw [e] at h
    exact Int.ofNat_le.mp h
  obtain ⟨T, hT, e1, e2⟩ := pr_val (A := n) (by omega) (by have : (2 : Nat) ^ 53 = 9007199254740992 := rfl; omega)
  have hl := (Nat.le_log2 (n := n) (k := k) (by omega)).mpr hn
  rw [e1, dB_toNat (by omega) hT]
  exact Nat.le_trans (Nat.mul_le_mul_right 4503599627370496 (show k + 991 ≤ n.log2 + 991 by omega)) (Nat.le_add_right _ _)
theorem t_l2d : FP.l2d (Int64.ofInt (16 ^ 8)) = dB 1055 0 := by decide +kernel
theorem t_l2f : FP.l2f (Int64.ofInt (16 ^ 8)) = FP.l2f (Int64.ofInt 4294967296) := rfl
/-! the long run -/
def dacc (s p : Nat → UInt64) : Nat → UInt64
  | 0 => FP.dconst0
  | k + 1 => FP.dadd (dacc s p k) (FP.dmul (s k) (p k))
def shT (Q : Nat) (P : Nat → Nat → UInt64) : Nat → Nat → UInt64
  | 0 => fun q => if q = 0 then FP.dconst1 else FP.dconst0
  | n + 1 => fun to => dacc (shT Q P n) (fun fr => P fr to) Q
theorem dacc_ok {s p : Nat → UInt64} {Q K Kp : Nat} (hQ : Q ≤ 3) (hK : K ≤ 1540 ∧ Kp ≤ 1028 ∧ 1025 ≤ K + Kp) (hs : ∀ k, k < Q → (s k).toNat < K * 4503599627370496) (hp : ∀ k, k < Q → (p k).toNat < Kp * 4503599627370496) : ∀ k : Nat, k ≤ Q → (dacc s p k).toNat < (K + Kp - 1025 + 3 + 2 * k) * 4503599627370496 ∧ (k < Q → FP.Core.val64 (FP.dmul (s k) (p k)) ≠ .nan ∧ (FP.dmul (s k) (p k)).toNat < (K + Kp - 1025 + 3) * 4503599627370496 ∧ FP.Core.val64 (FP.dadd (dacc s p k) (FP.dmul (s k) (p k))) ≠ .nan)
  | 0, _ => by
    have h0 : (dacc s p 0).toNat < (K + Kp - 1025 + 3 + 2 * 0) * 4503599627370496 := by
      show 0 < _
      omega
    refine ⟨h0, fun hk => ?_⟩
    have h1 := nb_mul (hs 0 hk) (hp 0 hk) (by omega) (by omega)
    exact ⟨h1.1, h1.2, (nb_add h0 (by rw [Nat.mul_zero, Nat.add_zero]; exact h1.2) (by omega)).1⟩
  | k + 1, hk => by
    obtain ⟨h0, h1⟩ := dacc_ok hQ hK hs hp k (by omega)
    obtain ⟨h2, h3, h4⟩ := h1 (by omega)
    have h5 := nb_add (K := K + Kp - 1025 + 3 + 2 * k) h0 (Nat.lt_of_lt_of_le h3 (Nat.mul_le_mul_right _ (by omega))) (by omega)
    have h6 : (dacc s p (k + 1)).toNat < (K + Kp - 1025 + 3 + 2 * (k + 1)) * 4503599627370496 := by
      show (FP.dadd (dacc s p k) (FP.dmul (s k) (p k))).toNat < _
      rw [show K + Kp - 1025 + 3 + 2 * (k + 1) = K + Kp - 1025 + 3 + 2 * k + 2 by omega]
      exact h5.2
    refine ⟨h6, fun hk2 => ?_⟩
    have g1 := nb_mul (hs (k + 1) hk2) (hp (k + 1) hk2) (by omega) (by omega)
    exact ⟨g1.1, g1.2, (nb_add h6 (Nat.lt_of_lt_of_le g1.2 (Nat.mul_le_mul_right _ (by omega))) (by omega)).1⟩
theorem dacc_lb {s p : Nat → UInt64} {Q K Kp Ka Kb Z : Nat} (hQ : Q ≤ 3) (hK : K ≤ 1540 ∧ Kp ≤ 1028 ∧ 1025 ≤ K + Kp) (hs : ∀ k, k < Q → (s k).toNat < K * 4503599627370496) (hp : ∀ k, k < Q → (p k).toNat < Kp * 4503599627370496) {k0 : Nat} (hk0 : k0 < Q) (l1 : Ka * 4503599627370496 ≤ (s k0).toNat) (l2 : Kb * 4503599627370496 ≤ (p k0).toNat) (hKa : 1 ≤ Ka) (hKb : 1 ≤ Kb) (hZ : 1 ≤ Z ∧ Z ≤ 2047) (hZ2 : Z + 1023 ≤ Ka + Kb) : Z * 4503599627370496 ≤ (dacc s p Q).toNat := by
  have key : ∀ k : Nat, k0 < k → k ≤ Q → Z * 4503599627370496 ≤ (dacc s p k).toNat := by
    intro k
    induction k with
    | zero => intro h; exact absurd h (Nat.not_lt_zero _)
    | succ k ih =>
      intro h1 h2
      obtain ⟨g0, g1⟩ := dacc_ok hQ hK hs hp k (by omega)
      obtain ⟨g2, g3, g4⟩ := g1 (by omega)
      refine lb_add (M := K + Kp - 1025 + 3 + 2 * k) g0 (Nat.lt_of_lt_of_le g3 (Nat.mul_le_mul_right _ (by omega))) (by omega) ?_ hZ.1 hZ.2
      by_cases e : k = k0
      · subst e
        exact Or.inr (lb_mul (hs k hk0) (hp k hk0) (by omega) (by omega) l1 l2 hKa hKb hZ.1 hZ2 hZ.2)
      · exact Or.inl (ih (by omega) (by omega))
  exact key Q (by omega) (Nat.le_refl _)
theorem shT_ok {Q : Nat} {P : Nat → Nat → UInt64} (hQ : 1 ≤ Q ∧ Q ≤ 3) (hP : ∀ a b, a < Q → b < Q → (P a b).toNat < 1024 * 4503599627370496) (hP2 : ∀ a, a < Q → ∃ b, b < Q ∧ 1021 * 4503599627370496 ≤ (P a b).toNat) : ∀ n : Nat, n ≤ 64 → (∀ q, q < Q → (shT Q P n q).toNat < (1024 + 8 * n) * 4503599627370496) ∧ ∃ q, q < Q ∧ (1023 - 2 * n) * 4503599627370496 ≤ (shT Q P n q).toNat
  | 0, _ => by
    refine ⟨fun q hq => ?_, 0, by omega, ?_⟩
    · show (if q = 0 then FP.dconst1 else FP.dconst0).toNat < _
      by_cases e : q = 0
      · rw [if_pos e]
        decide
      · rw [if_neg e]
        decide
    · show _ ≤ (if 0 = 0 then FP.dconst1 else FP.dconst0).toNat
      rw [if_pos rfl]
      decide
  | n + 1, hn => by
    obtain ⟨h1, q, hq, h2⟩ := shT_ok hQ hP hP2 n (by omega)
    obtain ⟨b, hb, h3⟩ := hP2 q hq
    refine ⟨fun to hto => ?_, b, hb, ?_⟩
    · have := (dacc_ok (p := fun fr => P fr to) hQ.2 ⟨by omega, (show 1024 ≤ 1028 by omega), by omega⟩ h1 (fun k hk => hP k to hk hto) Q (Nat.le_refl _)).1
      refine Nat.lt_of_lt_of_le this (Nat.mul_le_mul_right _ (by omega))
    · exact dacc_lb (p := fun fr => P fr b) hQ.2 ⟨by omega, (show 1024 ≤ 1028 by omega), by omega⟩ h1 (fun k hk => hP k b hk hb) hq h2 h3 (by omega) (by omega) (by omega) (by omega)

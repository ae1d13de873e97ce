/-! doubles by exponent and fraction -/
def dB (E T : Nat) : UInt64 := UInt64.ofNat (E * 4503599627370496 + T)
theorem dB_toNat {E T : Nat} (hE : E ≤ 2047) (hT : T < 4503599627370496) : (dB E T).toNat = E * 4503599627370496 + T := by
  unfold dB
  exact UInt64.toNat_ofNat_of_lt' (by have : (2 : Nat) ^ 64 = 18446744073709551616 := rfl; show _ < 2 ^ 64; omega)
theorem fp_fits {E T : Nat} (hE : 1 ≤ E ∧ E ≤ 2046) (hT : T < 4503599627370496) : FP.Core.fits FP.Core.b64 (.fin false (4503599627370496 + T) ((E : Int) - 1075)) := by
  refine ⟨?_, ?_, ?_, Or.inr ?_⟩
  · show _ < 2 ^ 53
    have : (2 : Nat) ^ 53 = 9007199254740992 := rfl
    omega
  · rw [FP.Core.qmin_b64]
    omega
  · rw [show FP.Core.b64.qmax = 971 from by decide]
    omega
  · rw [FP.Core.tails_b64]
    have : (2 : Nat) ^ 52 = 4503599627370496 := rfl
    omega
theorem fp_enc {E T : Nat} (hE : 1 ≤ E ∧ E ≤ 2046) (hT : T < 4503599627370496) : FP.Core.encode FP.Core.b64 (.fin false (4503599627370496 + T) ((E : Int) - 1075)) = E * 4503599627370496 + T := by
  unfold FP.Core.encode
  simp only
  rw [FP.Core.tails_b64, FP.Core.qmin_b64]
  have h52 : (2 : Nat) ^ 52 = 4503599627370496 := rfl
  rw [h52, if_neg (by omega)]
  unfold FP.Core.assemble
  rw [FP.Core.tails_b64, h52, show ((E : Int) - 1075 - -1074).toNat + 1 = E by omega, show 4503599627370496 + T - 4503599627370496 = T by omega]
  simp
theorem fp_of {E T : Nat} (hE : 1 ≤ E ∧ E ≤ 2046) (hT : T < 4503599627370496) : dB E T = FP.Core.of64 (.fin false (4503599627370496 + T) ((E : Int) - 1075)) := by
  unfold dB FP.Core.of64
  rw [fp_enc hE hT]
theorem fp_val {E T : Nat} (hE : 1 ≤ E ∧ E ≤ 2046) (hT : T < 4503599627370496) : FP.Core.val64 (dB E T) = .fin false (4503599627370496 + T) ((E : Int) - 1075) := by
  rw [fp_of hE hT]
  exact FP.Core.val64_of64 (fp_fits hE hT)
/-- a positive normal double -/
theorem fp_norm {a : UInt64} {c : Nat} {q : Int} (h : FP.Core.val64 a = .fin false c q) (hc : 4503599627370496 ≤ c) : ∃ E T : Nat, (1 ≤ E ∧ E ≤ 2046) ∧ T < 4503599627370496 ∧ a = dB E T ∧ c = 4503599627370496 + T ∧ q = (E : Int) - 1075 := by
  have hf := FP.Core.val64_fits a
  rw [h] at hf
  obtain ⟨f1, f2, f3, f4⟩ := hf
  rw [FP.Core.qmin_b64] at f2
  rw [show FP.Core.b64.qmax = 971 from by decide] at f3
  have f1' : c < 9007199254740992 := f1
  refine ⟨(q + 1075).toNat, c - 4503599627370496, by omega, by omega, ?_, by omega, by omega⟩
  refine FP.Core.val64_inj (by rw [h]; exact FP.Core.Datum.noConfusion) ?_
  rw [h, fp_val (by omega) (by omega), show 4503599627370496 + (c - 4503599627370496) = c by omega, show (((q + 1075).toNat : Nat) : Int) - 1075 = q by omega]
theorem fp_ne {E T : Nat} (hE : 1 ≤ E ∧ E ≤ 2046) (hT : T < 4503599627370496) : FP.Core.val64 (dB E T) ≠ .nan := by
  rw [fp_val hE hT]
  exact FP.Core.Datum.noConfusion
/-- no NaN, as the walk asks for it -/
theorem fp_n64 {a : UInt64} (h : FP.Core.val64 a ≠ .nan) : vf_n64 a := by
  have h1 := (FP.Core.ne_nan a).mp h
  unfold vf_n64
  rw [UInt64.le_iff_toNat_le, FP.Core.mask_toNat]
  exact h1
theorem fp_n32 {a : UInt32} (h : FP.Core.val32 a ≠ .nan) : vf_n32 a := by
  have h1 := (FP.Core.ne_nan32 a).mp h
  unfold vf_n32
  rw [UInt32.le_iff_toNat_le, FP.Core.mask_toNat32]
  exact h1
theorem fp_half {E T : Nat} (hE : 2 ≤ E ∧ E ≤ 2046) (hT : T < 4503599627370496) : FP.ddiv (dB E T) (dB 1024 0) = dB (E - 1) T := by
  have e : FP.Core.val64 (FP.ddiv (dB E T) (dB 1024 0)) = .fin false (4503599627370496 + T) (((E - 1 : Nat) : Int) - 1075) := by
    show FP.Core.val64 (FP.Core.ddiv (dB E T) (dB 1024 0)) = _
    rw [FP.Core.val64_ddiv, fp_val (by omega) hT, fp_val (by omega) (by omega)]
    unfold FP.Core.quotient
    simp only
    rw [if_neg (by omega)]
    refine FP.Core.roundRatio_exact FP.Core.good_b64 (by omega) (fp_fits (by omega) hT) ?_
    rw [show ((E : Int) - 1075 - (((1024 : Nat) : Int) - 1075) - (((E - 1 : Nat) : Int) - 1075)).toNat = 52 by omega, show ((((E - 1 : Nat) : Int) - 1075) - ((E : Int) - 1075 - (((1024 : Nat) : Int) - 1075))).toNat = 0 by omega]
    have h52 : (2 : Nat) ^ 52 = 4503599627370496 := rfl
    rw [h52, Nat.add_zero, Nat.pow_zero, Nat.mul_one]
  refine FP.Core.val64_inj (by rw [e]; exact FP.Core.Datum.noConfusion) ?_
  rw [e, fp_val (by omega) hT]
theorem fp_twice {E T : Nat} (hE : 1 ≤ E ∧ E ≤ 2045) (hT : T < 4503599627370496) : FP.dmul (dB E T) (dB 1024 0) = dB (E + 1) T := by
  have e : FP.Core.val64 (FP.dmul (dB E T) (dB 1024 0)) = .fin false (4503599627370496 + T) (((E + 1 : Nat) : Int) - 1075) := by
    show FP.Core.val64 (FP.Core.dmul (dB E T) (dB 1024 0)) = _
    rw [FP.Core.val64_dmul, fp_val (by omega) hT, fp_val (by omega) (by omega)]
    unfold FP.Core.exactProduct FP.Core.round
    simp only
    refine FP.Core.roundRatio_exact FP.Core.good_b64 (by decide) (fp_fits (by omega) hT) ?_
    rw [show ((E : Int) - 1075 + (((1024 : Nat) : Int) - 1075) - (((E + 1 : Nat) : Int) - 1075)).toNat = 0 by omega, show ((((E + 1 : Nat) : Int) - 1075) - ((E : Int) - 1075 + (((1024 : Nat) : Int) - 1075))).toNat = 52 by omega]
    have h52 : (2 : Nat) ^ 52 = 4503599627370496 := rfl
    rw [h52]
    omega
  refine FP.Core.val64_inj (by rw [e]; exact FP.Core.Datum.noConfusion) ?_
  rw [e, fp_val (by omega) hT]
theorem fp_key {E T : Nat} (hE : 1 ≤ E ∧ E ≤ 2046) (hT : T < 4503599627370496) : FP.Core.dkey (dB E T) = ((E * 4503599627370496 + T : Nat) : Int) := by
  unfold FP.Core.dkey
  rw [dB_toNat (by omega) hT, if_neg (by have : (2 : Nat) ^ 63 = 9223372036854775808 := rfl; omega)]
theorem fp_cmp {E T E' T' : Nat} (hE : 1 ≤ E ∧ E ≤ 2046) (hT : T < 4503599627370496) (hE' : 1 ≤ E' ∧ E' ≤ 2046) (hT' : T' < 4503599627370496) : FP.dcmp (dB E T) (dB E' T') = some (compare ((E * 4503599627370496 + T : Nat) : Int) ((E' * 4503599627370496 + T' : Nat) : Int)) := by
  show FP.Core.dcmp _ _ = _
  rw [FP.Core.dcmp_key (fp_ne hE hT) (fp_ne hE' hT'), fp_key hE hT, fp_key hE' hT']
theorem cmpv_lt {x y : Int} (h : x < y) (n : Nat) : (Op.cmpValue (some (compare x y)) (cop n)).toInt = -1 := by
  rw [(FP.Core.compare_lt_iff x y).mpr h]
  match n with
  | 0 => rfl
  | n + 1 => rfl
theorem cmpv_ge {x y : Int} (h : y ≤ x) (n : Nat) : 0 ≤ (Op.cmpValue (some (compare x y)) (cop n)).toInt ∧ (Op.cmpValue (some (compare x y)) (cop n)).toInt ≤ 1 := by
  by_cases e : x = y
  · rw [(FP.Core.compare_eq_iff x y).mpr e]
    match n with
    | 0 => decide
    | n + 1 => exact (show 0 ≤ (Op.cmpValue (some Ordering.eq) CmpOp.g).toInt ∧ (Op.cmpValue (some Ordering.eq) CmpOp.g).toInt ≤ 1 by decide)
  · rw [(FP.Core.compare_gt_iff x y).mpr (by omega)]
    match n with
    | 0 => decide
    | n + 1 => exact (show 0 ≤ (Op.cmpValue (some Ordering.gt) CmpOp.g).toInt ∧ (Op.cmpValue (some Ordering.gt) CmpOp.g).toInt ≤ 1 by decide)
theorem t_two : UInt64.ofNat (4611686018427387904 : Int).toNat = dB 1024 0 := rfl
theorem t_one : FP.dconst1 = dB 1023 0 := by decide
theorem t_big : UInt64.ofNat (4841369599423283200 : Int).toNat = dB 1075 0 := rfl
theorem t_32 : UInt64.ofNat (4751297606875873280 : Int).toNat = dB 1055 0 := rfl
/-- the fraction, told as a whole number -/
theorem fp_frac {T : Nat} (hT : T < 4503599627370496) : FP.Core.val64 (FP.dsub (dB 1023 T) (dB 1023 0)) ≠ .nan ∧ FP.Core.val64 (FP.dmul (FP.dsub (dB 1023 T) (dB 1023 0)) (dB 1075 0)) ≠ .nan ∧ (FP.d2l (FP.dmul (FP.dsub (dB 1023 T) (dB 1023 0)) (dB 1075 0))).toInt = (T : Int) := by
  have s1 : FP.Core.exactSum (.fin false (4503599627370496 + T) (((1023 : Nat) : Int) - 1075)) (FP.Core.negate (.fin false (4503599627370496 + 0) (((1023 : Nat) : Int) - 1075))) = .fin false T (-52) := by
    unfold FP.Core.negate FP.Core.exactSum
    simp only
    have hu : FP.Core.sumUnits false (4503599627370496 + T) (((1023 : Nat) : Int) - 1075) (!false) (4503599627370496 + 0) (((1023 : Nat) : Int) - 1075) (min (((1023 : Nat) : Int) - 1075) (((1023 : Nat) : Int) - 1075)) = (T : Int) := by
      unfold FP.Core.sumUnits FP.Core.signed FP.Core.inUnits
      rw [show (((1023 : Nat) : Int) - 1075 - min (((1023 : Nat) : Int) - 1075) (((1023 : Nat) : Int) - 1075)).toNat = 0 by omega]
      simp
      omega
    rw [hu]
    unfold FP.Core.sumSign
    by_cases e : (T : Int) = 0
    · rw [if_pos e, Int.natAbs_natCast]
      rfl
    · rw [if_neg e, Int.natAbs_natCast, decide_eq_false (by omega)]
      rfl
  obtain ⟨c1, q1, r1, r2⟩ := FP.Core.round_exact FP.Core.good_b64 false (c := T) (q := -52) (by show T < 2 ^ 53; have : (2 : Nat) ^ 53 = 9007199254740992 := rfl; omega) (by rw [FP.Core.qmin_b64]; omega) (by rw [show FP.Core.b64.qmax = 971 from by decide]; omega)
  have v1 : FP.Core.val64 (FP.dsub (dB 1023 T) (dB 1023 0)) = .fin false c1 q1 := by
    show FP.Core.val64 (FP.Core.dsub _ _) = _
    rw [FP.Core.val64_dsub, fp_val (by omega) hT, fp_val (by omega) (by omega), s1, r1]
  have hf1 := FP.Core.val64_fits (FP.dsub (dB 1023 T) (dB 1023 0))
  rw [v1] at hf1
  have hq1 : -1074 ≤ q1 := by
    have := hf1.2.1
    rw [FP.Core.qmin_b64] at this
    exact this
  obtain ⟨c2, q2, r3, r4⟩ := FP.Core.round_exact FP.Core.good_b64 false (c := T) (q := 0) (by show T < 2 ^ 53; have : (2 : Nat) ^ 53 = 9007199254740992 := rfl; omega) (by rw [FP.Core.qmin_b64]; omega) (by rw [show FP.Core.b64.qmax = 971 from by decide]; omega)
  have v2 : FP.Core.val64 (FP.dmul (FP.dsub (dB 1023 T) (dB 1023 0)) (dB 1075 0)) = .fin false c2 q2 := by
    show FP.Core.val64 (FP.Core.dmul _ _) = _
    rw [FP.Core.val64_dmul, v1, fp_val (by omega) (by omega), ← r3]
    unfold FP.Core.exactProduct FP.Core.round
    simp only
    refine FP.Core.roundRatio_congr (by decide) (by decide) ?_
    unfold FP.Core.inUnits at r2
    rw [FP.Core.qmin_b64, show ((-52 : Int) - -1074).toNat = 1022 by decide] at r2
    rw [Nat.mul_one, Nat.mul_one, Nat.add_zero]
    have h52 : (4503599627370496 : Nat) = 2 ^ 52 := rfl
    rw [h52]
    by_cases hq0 : 0 ≤ q1
    · obtain ⟨n, hn⟩ : ∃ n : Nat, q1 = (n : Int) := ⟨q1.toNat, by omega⟩
      subst hn
      rw [show ((n : Int) + (((1075 : Nat) : Int) - 1075) - 0).toNat = n by omega, show ((0 : Int) - ((n : Int) + (((1075 : Nat) : Int) - 1075))).toNat = 0 by omega, Nat.pow_zero, Nat.mul_one]
      rw [show ((n : Int) - -1074).toNat = 52 + n + 1022 by omega, Nat.pow_add, ← Nat.mul_assoc] at r2
      have := Nat.eq_of_mul_eq_mul_right (Nat.two_pow_pos 1022) r2
      rw [Nat.pow_add, ← Nat.mul_assoc] at this
      exact this
    · obtain ⟨n, hn⟩ : ∃ n : Nat, q1 = -(n : Int) := ⟨(-q1).toNat, by omega⟩
      subst hn
      rw [show (-(n : Int) + (((1075 : Nat) : Int) - 1075) - 0).toNat = 0 by omega, show ((0 : Int) - (-(n : Int) + (((1075 : Nat) : Int) - 1075))).toNat = n by omega, Nat.pow_zero, Nat.mul_one]
      rw [show (-(n : Int) - -1074).toNat = 1074 - n by omega] at r2
      have h2 : c1 * 2 ^ (1074 - n) * 2 ^ n = T * 2 ^ 1022 * 2 ^ n := by rw [r2]
      rw [Nat.mul_assoc, ← Nat.pow_add, show 1074 - n + n = 52 + 1022 by omega, Nat.pow_add, ← Nat.mul_assoc, Nat.mul_assoc T, Nat.mul_comm (2 ^ 1022) (2 ^ n), ← Nat.mul_assoc] at h2
      exact Nat.eq_of_mul_eq_mul_right (Nat.two_pow_pos 1022) h2
  have n2 : FP.Core.val64 (FP.dmul (FP.dsub (dB 1023 T) (dB 1023 0)) (dB 1075 0)) ≠ .nan := by
    rw [v2]
    exact FP.Core.Datum.noConfusion
  refine ⟨by rw [v1]; exact FP.Core.Datum.noConfusion, n2, ?_⟩
  show (FP.Core.d2l _).toInt = _
  rw [FP.Core.d2l_val n2, v2]
  show max (-2 ^ 63) (min (2 ^ 63 - 1) (FP.Core.signed false (FP.Core.inUnits c2 q2 FP.Core.b64.qmin / FP.Core.one64))) = _
  rw [r4]
  have e1 : FP.Core.inUnits T 0 FP.Core.b64.qmin / FP.Core.one64 = T := by
    unfold FP.Core.inUnits FP.Core.one64
    rw [FP.Core.qmin_b64, show ((0 : Int) - -1074).toNat = 1074 by decide]
    exact Nat.mul_div_cancel _ (Nat.two_pow_pos 1074)
  rw [e1]
  unfold FP.Core.signed
  rw [if_neg (by decide)]
  omega
theorem lShl_52 {E : Nat} (hE : E ≤ 2046) : lShl (E : Int) 52 = ((E * 4503599627370496 : Nat) : Int) := by
  have : ∀ j : Fin 2047, lShl ((j.val : Nat) : Int) 52 = ((j.val * 4503599627370496 : Nat) : Int) := by decide +kernel
  exact this ⟨E, by omega⟩
set_option maxRecDepth 20000 in
set_option maxHeartbeats 4000000 in
theorem c_ofDouble {h : Hp} {E T : Nat} (hE : 1 ≤ E ∧ E ≤ 2046) (hT : T < 4503599627370496) {lim : Nat × Nat} {K : QT} (hK : K (pL ((E * 4503599627370496 + T : Nat) : Int)) h) : WM 0 [pD (dB E T)] h lim K := by
  have last : ∀ (a : UInt64) (z6 : PV), WP 0 79 [pD a, pU, pD (dB 1023 T), pU, pL E, pU, z6] [] h lim K := by
    intro a z6
    obtain ⟨f1, f2, f3⟩ := fp_frac hT
    try simp (disch := omega) only [w0_0, w0_44, w0_79, e0, x_iconst, x_bipush, x_sipush, x_ldc, x_lconst, x_ldc2l, x_dconst, x_ldc2d, x_ldcf, x_iadd, x_isub, x_imul, x_idiv, x_irem, x_ishl, x_ishr, x_iand, x_ior, x_ixor, x_ladd, x_lsub, x_lmul, x_ldiv, x_lrem, x_lshl, x_lshr, x_lor, x_land, x_lcmp, x_i2l, x_l2i, x_i2b, x_i2f, x_l2f, x_l2d, x_f2d, x_d2l, x_fdiv, x_dadd, x_dsub, x_dmul, x_ddiv, x_dcmp, x_fcmp, x_dup, x_pop, x_dup2, x_objinit, x_rawF, x_rawD, gV_0, gV_1, gV_2, gV_3, gV_4, gV_S, x_iload, x_lload, x_fload, x_dload, x_aload, x_istore, x_fstore, x_astore, x_lstore, x_dstore, gX_I, x_iinc, x_getf, x_putfI, x_putfL, x_putfR, x_iald, x_bald, x_zald, x_lald, x_dald, x_aald, x_iast, x_bast, x_zast, x_last, x_dast, x_aast, x_alen, x_new, x_newa, x_anew, x_acopy, x_sld, x_slen, x_fall, x_goto, x_if, x_cmp, x_tsw, x_lsw, x_ret, x_iret, x_zret, x_lret, x_fret, x_dret, x_aret, x_callr, x_callv, x_calli, x_calls, rcv_R, isO_cO, JW_def, kO_some, sk4, cats_nil, cats_I, cats_L, cats_F, cats_D, cats_R, cats_S, Nat.reduceAdd, Nat.reduceLeDiff, inr, inq, Int.reduceEq, Int.reduceLT, Int.reduceLE, Int.reduceNeg, not_false_eq_true, not_true_eq_false, false_implies, and_self, pk_nil, pk_cons, wk_0, wk_1, wk_2, wk_3, wk_4, swt_nil, swt_cons, swl_nil, swl_cons, c3_eq, c3_lt, c3_ge, c3_le, c3_gt, c3_inr, c3_inr2, cnd_0, cnd_1, cnd_2, cnd_3, cnd_4, cnd_5, wide_I, wide_R, wide_L, wide_F, wide_D, wide_S, nw_I, nw_L, nw_F, nw_D, nw_U, nw_R, nw_S, fgo_cO, fso_cO, Option.map_some, alo_cI, ado_cD, aro_cR, ano_cI, ano_cD, lst, List.getElem?_cons_zero, List.getElem?_cons_succ, List.set_cons_zero, List.set_cons_succ, and_true, true_and, true_implies, forall_const, true_or, or_true, hg_same, hg_ne,  t_big, reduceIte]
    rw [t_one]
    refine ⟨fp_n64 f1, fp_n64 f2, ?_⟩
    rw [f3, lShl_52 hE.2, ← Int.natCast_add]
    exact hK
  have lo : ∀ (a : UInt64) (y k e : Nat), y + e = 1023 → 1 ≤ e → (e : Int) - (k : Int) = (E : Int) → k ≤ 1022 → WP 0 47 [pD a, pU, pD (dB e T), pU, pL (1023 - (k : Int)), pU, pI k] [] h lim K := by
    intro a y
    induction y with
    | zero =>
      intro k e hy h1 h2 h3
      have ee : e = 1023 := by omega
      subst ee
      have hl := last a (pI k)
      rw [show (1023 : Int) - (k : Int) = (E : Int) by omega]
      rw [w0_47]
      try simp (disch := omega) only [w0_0, w0_44, e0, x_iconst, x_bipush, x_sipush, x_ldc, x_lconst, x_ldc2l, x_dconst, x_ldc2d, x_ldcf, x_iadd, x_isub, x_imul, x_idiv, x_irem, x_ishl, x_ishr, x_iand, x_ior, x_ixor, x_ladd, x_lsub, x_lmul, x_ldiv, x_lrem, x_lshl, x_lshr, x_lor, x_land, x_lcmp, x_i2l, x_l2i, x_i2b, x_i2f, x_l2f, x_l2d, x_f2d, x_d2l, x_fdiv, x_dadd, x_dsub, x_dmul, x_ddiv, x_dcmp, x_fcmp, x_dup, x_pop, x_dup2, x_objinit, x_rawF, x_rawD, gV_0, gV_1, gV_2, gV_3, gV_4, gV_S, x_iload, x_lload, x_fload, x_dload, x_aload, x_istore, x_fstore, x_astore, x_lstore, x_dstore, gX_I, x_iinc, x_getf, x_putfI, x_putfL, x_putfR, x_iald, x_bald, x_zald, x_lald, x_dald, x_aald, x_iast, x_bast, x_zast, x_last, x_dast, x_aast, x_alen, x_new, x_newa, x_anew, x_acopy, x_sld, x_slen, x_fall, x_goto, x_if, x_cmp, x_tsw, x_lsw, x_ret, x_iret, x_zret, x_lret, x_fret, x_dret, x_aret, x_callr, x_callv, x_calli, x_calls, rcv_R, isO_cO, JW_def, kO_some, sk4, cats_nil, cats_I, cats_L, cats_F, cats_D, cats_R, cats_S, Nat.reduceAdd, Nat.reduceLeDiff, inr, inq, Int.reduceEq, Int.reduceLT, Int.reduceLE, Int.reduceNeg, not_false_eq_true, not_true_eq_false, false_implies, and_self, pk_nil, pk_cons, wk_0, wk_1, wk_2, wk_3, wk_4, swt_nil, swt_cons, swl_nil, swl_cons, c3_eq, c3_lt, c3_ge, c3_le, c3_gt, c3_inr, c3_inr2, cnd_0, cnd_1, cnd_2, cnd_3, cnd_4, cnd_5, wide_I, wide_R, wide_L, wide_F, wide_D, wide_S, nw_I, nw_L, nw_F, nw_D, nw_U, nw_R, nw_S, fgo_cO, fso_cO, Option.map_some, alo_cI, ado_cD, aro_cR, ano_cI, ano_cD, lst, List.getElem?_cons_zero, List.getElem?_cons_succ, List.set_cons_zero, List.set_cons_succ, and_true, true_and, true_implies, forall_const, true_or, or_true, hg_same, hg_ne, t_two, reduceIte]
      rw [t_one, fp_cmp (by omega) hT (by omega) (by omega)]
      have cg := cmpv_ge (x := ((1023 * 4503599627370496 + T : Nat) : Int)) (y := ((1023 * 4503599627370496 + 0 : Nat) : Int)) (by omega) 1
      exact ⟨by omega, fun _ => hl, fun _ => ⟨by omega, fun _ => hl, fun q => by omega⟩⟩
    | succ y ih =>
      intro k e hy h1 h2 h3
      have go := ih (k + 1) (e + 1) (by omega) (by omega) (by omega) (by omega)
      rw [show (1023 : Int) - ((k + 1 : Nat) : Int) = 1023 - (k : Int) - 1 by omega, show ((k + 1 : Nat) : Int) = (k : Int) + 1 by omega] at go
      rw [w0_47]
      try simp (disch := omega) only [w0_0, w0_44, e0, x_iconst, x_bipush, x_sipush, x_ldc, x_lconst, x_ldc2l, x_dconst, x_ldc2d, x_ldcf, x_iadd, x_isub, x_imul, x_idiv, x_irem, x_ishl, x_ishr, x_iand, x_ior, x_ixor, x_ladd, x_lsub, x_lmul, x_ldiv, x_lrem, x_lshl, x_lshr, x_lor, x_land, x_lcmp, x_i2l, x_l2i, x_i2b, x_i2f, x_l2f, x_l2d, x_f2d, x_d2l, x_fdiv, x_dadd, x_dsub, x_dmul, x_ddiv, x_dcmp, x_fcmp, x_dup, x_pop, x_dup2, x_objinit, x_rawF, x_rawD, gV_0, gV_1, gV_2, gV_3, gV_4, gV_S, x_iload, x_lload, x_fload, x_dload, x_aload, x_istore, x_fstore, x_astore, x_lstore, x_dstore, gX_I, x_iinc, x_getf, x_putfI, x_putfL, x_putfR, x_iald, x_bald, x_zald, x_lald, x_dald, x_aald, x_iast, x_bast, x_zast, x_last, x_dast, x_aast, x_alen, x_new, x_newa, x_anew, x_acopy, x_sld, x_slen, x_fall, x_goto, x_if, x_cmp, x_tsw, x_lsw, x_ret, x_iret, x_zret, x_lret, x_fret, x_dret, x_aret, x_callr, x_callv, x_calli, x_calls, rcv_R, isO_cO, JW_def, kO_some, sk4, cats_nil, cats_I, cats_L, cats_F, cats_D, cats_R, cats_S, Nat.reduceAdd, Nat.reduceLeDiff, inr, inq, Int.reduceEq, Int.reduceLT, Int.reduceLE, Int.reduceNeg, not_false_eq_true, not_true_eq_false, false_implies, and_self, pk_nil, pk_cons, wk_0, wk_1, wk_2, wk_3, wk_4, swt_nil, swt_cons, swl_nil, swl_cons, c3_eq, c3_lt, c3_ge, c3_le, c3_gt, c3_inr, c3_inr2, cnd_0, cnd_1, cnd_2, cnd_3, cnd_4, cnd_5, wide_I, wide_R, wide_L, wide_F, wide_D, wide_S, nw_I, nw_L, nw_F, nw_D, nw_U, nw_R, nw_S, fgo_cO, fso_cO, Option.map_some, alo_cI, ado_cD, aro_cR, ano_cI, ano_cD, lst, List.getElem?_cons_zero, List.getElem?_cons_succ, List.set_cons_zero, List.set_cons_succ, and_true, true_and, true_implies, forall_const, true_or, or_true, hg_same, hg_ne, t_two, reduceIte]
      rw [t_one, fp_cmp (by omega) hT (by omega) (by omega), fp_twice (by omega) hT, cmpv_lt (by omega)]
      exact ⟨by omega, fun q => by omega, fun _ => ⟨by omega, fun q => by omega, fun _ => ⟨fp_n64 (fp_ne (by omega) hT), go⟩⟩⟩
  have hi : ∀ (a : UInt64) (y k e : Nat), y + 1023 = e → e ≤ 2046 → (e : Int) + (k : Int) = (E : Int) → k ≤ 1023 → WP 0 10 [pD a, pU, pD (dB e T), pU, pL (1023 + (k : Int)), pU, pI k] [] h lim K := by
    intro a y
    induction y with
    | zero =>
      intro k e hy h1 h2 h3
      have ee : e = 1023 := by omega
      subst ee
      have hl := last a (pI 0)
      have w47 : WP 0 47 [pD a, pU, pD (dB 1023 T), pU, pL (E : Int), pU, pI 0] [] h lim K := by
        rw [w0_47]
        try simp (disch := omega) only [w0_0, w0_44, e0, x_iconst, x_bipush, x_sipush, x_ldc, x_lconst, x_ldc2l, x_dconst, x_ldc2d, x_ldcf, x_iadd, x_isub, x_imul, x_idiv, x_irem, x_ishl, x_ishr, x_iand, x_ior, x_ixor, x_ladd, x_lsub, x_lmul, x_ldiv, x_lrem, x_lshl, x_lshr, x_lor, x_land, x_lcmp, x_i2l, x_l2i, x_i2b, x_i2f, x_l2f, x_l2d, x_f2d, x_d2l, x_fdiv, x_dadd, x_dsub, x_dmul, x_ddiv, x_dcmp, x_fcmp, x_dup, x_pop, x_dup2, x_objinit, x_rawF, x_rawD, gV_0, gV_1, gV_2, gV_3, gV_4, gV_S, x_iload, x_lload, x_fload, x_dload, x_aload, x_istore, x_fstore, x_astore, x_lstore, x_dstore, gX_I, x_iinc, x_getf, x_putfI, x_putfL, x_putfR, x_iald, x_bald, x_zald, x_lald, x_dald, x_aald, x_iast, x_bast, x_zast, x_last, x_dast, x_aast, x_alen, x_new, x_newa, x_anew, x_acopy, x_sld, x_slen, x_fall, x_goto, x_if, x_cmp, x_tsw, x_lsw, x_ret, x_iret, x_zret, x_lret, x_fret, x_dret, x_aret, x_callr, x_callv, x_calli, x_calls, rcv_R, isO_cO, JW_def, kO_some, sk4, cats_nil, cats_I, cats_L, cats_F, cats_D, cats_R, cats_S, Nat.reduceAdd, Nat.reduceLeDiff, inr, inq, Int.reduceEq, Int.reduceLT, Int.reduceLE, Int.reduceNeg, not_false_eq_true, not_true_eq_false, false_implies, and_self, pk_nil, pk_cons, wk_0, wk_1, wk_2, wk_3, wk_4, swt_nil, swt_cons, swl_nil, swl_cons, c3_eq, c3_lt, c3_ge, c3_le, c3_gt, c3_inr, c3_inr2, cnd_0, cnd_1, cnd_2, cnd_3, cnd_4, cnd_5, wide_I, wide_R, wide_L, wide_F, wide_D, wide_S, nw_I, nw_L, nw_F, nw_D, nw_U, nw_R, nw_S, fgo_cO, fso_cO, Option.map_some, alo_cI, ado_cD, aro_cR, ano_cI, ano_cD, lst, List.getElem?_cons_zero, List.getElem?_cons_succ, List.set_cons_zero, List.set_cons_succ, and_true, true_and, true_implies, forall_const, true_or, or_true, hg_same, hg_ne, t_two, reduceIte]
        rw [t_one, fp_cmp (by omega) hT (by omega) (by omega)]
        have cg := cmpv_ge (x := ((1023 * 4503599627370496 + T : Nat) : Int)) (y := ((1023 * 4503599627370496 + 0 : Nat) : Int)) (by omega) 1
        exact ⟨by omega, fun _ => hl, fun q => by omega⟩
      rw [show (1023 : Int) + (k : Int) = (E : Int) by omega]
      rw [w0_10]
      try simp (disch := omega) only [w0_0, w0_44, w0_79, e0, x_iconst, x_bipush, x_sipush, x_ldc, x_lconst, x_ldc2l, x_dconst, x_ldc2d, x_ldcf, x_iadd, x_isub, x_imul, x_idiv, x_irem, x_ishl, x_ishr, x_iand, x_ior, x_ixor, x_ladd, x_lsub, x_lmul, x_ldiv, x_lrem, x_lshl, x_lshr, x_lor, x_land, x_lcmp, x_i2l, x_l2i, x_i2b, x_i2f, x_l2f, x_l2d, x_f2d, x_d2l, x_fdiv, x_dadd, x_dsub, x_dmul, x_ddiv, x_dcmp, x_fcmp, x_dup, x_pop, x_dup2, x_objinit, x_rawF, x_rawD, gV_0, gV_1, gV_2, gV_3, gV_4, gV_S, x_iload, x_lload, x_fload, x_dload, x_aload, x_istore, x_fstore, x_astore, x_lstore, x_dstore, gX_I, x_iinc, x_getf, x_putfI, x_putfL, x_putfR, x_iald, x_bald, x_zald, x_lald, x_dald, x_aald, x_iast, x_bast, x_zast, x_last, x_dast, x_aast, x_alen, x_new, x_newa, x_anew, x_acopy, x_sld, x_slen, x_fall, x_goto, x_if, x_cmp, x_tsw, x_lsw, x_ret, x_iret, x_zret, x_lret, x_fret, x_dret, x_aret, x_callr, x_callv, x_calli, x_calls, rcv_R, isO_cO, JW_def, kO_some, sk4, cats_nil, cats_I, cats_L, cats_F, cats_D, cats_R, cats_S, Nat.reduceAdd, Nat.reduceLeDiff, inr, inq, Int.reduceEq, Int.reduceLT, Int.reduceLE, Int.reduceNeg, not_false_eq_true, not_true_eq_false, false_implies, and_self, pk_nil, pk_cons, wk_0, wk_1, wk_2, wk_3, wk_4, swt_nil, swt_cons, swl_nil, swl_cons, c3_eq, c3_lt, c3_ge, c3_le, c3_gt, c3_inr, c3_inr2, cnd_0, cnd_1, cnd_2, cnd_3, cnd_4, cnd_5, wide_I, wide_R, wide_L, wide_F, wide_D, wide_S, nw_I, nw_L, nw_F, nw_D, nw_U, nw_R, nw_S, fgo_cO, fso_cO, Option.map_some, alo_cI, ado_cD, aro_cR, ano_cI, ano_cD, lst, List.getElem?_cons_zero, List.getElem?_cons_succ, List.set_cons_zero, List.set_cons_succ, and_true, true_and, true_implies, forall_const, true_or, or_true, hg_same, hg_ne,  t_two, reduceIte]
      rw [fp_cmp (by omega) hT (by omega) (by omega), cmpv_lt (by omega)]
      exact ⟨by omega, fun _ => w47, fun _ => ⟨by omega, fun _ => w47, fun q => by omega⟩⟩
    | succ y ih =>
      intro k e hy h1 h2 h3
      have go := ih (k + 1) (e - 1) (by omega) (by omega) (by omega) (by omega)
      rw [show (1023 : Int) + ((k + 1 : Nat) : Int) = 1023 + (k : Int) + 1 by omega, show ((k + 1 : Nat) : Int) = (k : Int) + 1 by omega] at go
      rw [w0_10]
      try simp (disch := omega) only [w0_0, w0_44, w0_79, e0, x_iconst, x_bipush, x_sipush, x_ldc, x_lconst, x_ldc2l, x_dconst, x_ldc2d, x_ldcf, x_iadd, x_isub, x_imul, x_idiv, x_irem, x_ishl, x_ishr, x_iand, x_ior, x_ixor, x_ladd, x_lsub, x_lmul, x_ldiv, x_lrem, x_lshl, x_lshr, x_lor, x_land, x_lcmp, x_i2l, x_l2i, x_i2b, x_i2f, x_l2f, x_l2d, x_f2d, x_d2l, x_fdiv, x_dadd, x_dsub, x_dmul, x_ddiv, x_dcmp, x_fcmp, x_dup, x_pop, x_dup2, x_objinit, x_rawF, x_rawD, gV_0, gV_1, gV_2, gV_3, gV_4, gV_S, x_iload, x_lload, x_fload, x_dload, x_aload, x_istore, x_fstore, x_astore, x_lstore, x_dstore, gX_I, x_iinc, x_getf, x_putfI, x_putfL, x_putfR, x_iald, x_bald, x_zald, x_lald, x_dald, x_aald, x_iast, x_bast, x_zast, x_last, x_dast, x_aast, x_alen, x_new, x_newa, x_anew, x_acopy, x_sld, x_slen, x_fall, x_goto, x_if, x_cmp, x_tsw, x_lsw, x_ret, x_iret, x_zret, x_lret, x_fret, x_dret, x_aret, x_callr, x_callv, x_calli, x_calls, rcv_R, isO_cO, JW_def, kO_some, sk4, cats_nil, cats_I, cats_L, cats_F, cats_D, cats_R, cats_S, Nat.reduceAdd, Nat.reduceLeDiff, inr, inq, Int.reduceEq, Int.reduceLT, Int.reduceLE, Int.reduceNeg, not_false_eq_true, not_true_eq_false, false_implies, and_self, pk_nil, pk_cons, wk_0, wk_1, wk_2, wk_3, wk_4, swt_nil, swt_cons, swl_nil, swl_cons, c3_eq, c3_lt, c3_ge, c3_le, c3_gt, c3_inr, c3_inr2, cnd_0, cnd_1, cnd_2, cnd_3, cnd_4, cnd_5, wide_I, wide_R, wide_L, wide_F, wide_D, wide_S, nw_I, nw_L, nw_F, nw_D, nw_U, nw_R, nw_S, fgo_cO, fso_cO, Option.map_some, alo_cI, ado_cD, aro_cR, ano_cI, ano_cD, lst, List.getElem?_cons_zero, List.getElem?_cons_succ, List.set_cons_zero, List.set_cons_succ, and_true, true_and, true_implies, forall_const, true_or, or_true, hg_same, hg_ne,  t_two, reduceIte]
      rw [fp_cmp (by omega) hT (by omega) (by omega), fp_half (by omega) hT]
      have cg := cmpv_ge (x := ((e * 4503599627370496 + T : Nat) : Int)) (y := ((1024 * 4503599627370496 + 0 : Nat) : Int)) (by omega) 0
      exact ⟨by omega, fun q => by omega, fun _ => ⟨by omega, fun q => by omega, fun _ => ⟨fp_n64 (fp_ne (by omega) hT), go⟩⟩⟩
  by_cases hc : 1023 ≤ E
  · have go := hi (dB E T) (E - 1023) 0 E (by omega) (by omega) (by omega) (by omega)
    try simp (disch := omega) only [w0_0, w0_44, w0_79, e0, x_iconst, x_bipush, x_sipush, x_ldc, x_lconst, x_ldc2l, x_dconst, x_ldc2d, x_ldcf, x_iadd, x_isub, x_imul, x_idiv, x_irem, x_ishl, x_ishr, x_iand, x_ior, x_ixor, x_ladd, x_lsub, x_lmul, x_ldiv, x_lrem, x_lshl, x_lshr, x_lor, x_land, x_lcmp, x_i2l, x_l2i, x_i2b, x_i2f, x_l2f, x_l2d, x_f2d, x_d2l, x_fdiv, x_dadd, x_dsub, x_dmul, x_ddiv, x_dcmp, x_fcmp, x_dup, x_pop, x_dup2, x_objinit, x_rawF, x_rawD, gV_0, gV_1, gV_2, gV_3, gV_4, gV_S, x_iload, x_lload, x_fload, x_dload, x_aload, x_istore, x_fstore, x_astore, x_lstore, x_dstore, gX_I, x_iinc, x_getf, x_putfI, x_putfL, x_putfR, x_iald, x_bald, x_zald, x_lald, x_dald, x_aald, x_iast, x_bast, x_zast, x_last, x_dast, x_aast, x_alen, x_new, x_newa, x_anew, x_acopy, x_sld, x_slen, x_fall, x_goto, x_if, x_cmp, x_tsw, x_lsw, x_ret, x_iret, x_zret, x_lret, x_fret, x_dret, x_aret, x_callr, x_callv, x_calli, x_calls, rcv_R, isO_cO, JW_def, kO_some, sk4, cats_nil, cats_I, cats_L, cats_F, cats_D, cats_R, cats_S, Nat.reduceAdd, Nat.reduceLeDiff, inr, inq, Int.reduceEq, Int.reduceLT, Int.reduceLE, Int.reduceNeg, not_false_eq_true, not_true_eq_false, false_implies, and_self, pk_nil, pk_cons, wk_0, wk_1, wk_2, wk_3, wk_4, swt_nil, swt_cons, swl_nil, swl_cons, c3_eq, c3_lt, c3_ge, c3_le, c3_gt, c3_inr, c3_inr2, cnd_0, cnd_1, cnd_2, cnd_3, cnd_4, cnd_5, wide_I, wide_R, wide_L, wide_F, wide_D, wide_S, nw_I, nw_L, nw_F, nw_D, nw_U, nw_R, nw_S, fgo_cO, fso_cO, Option.map_some, alo_cI, ado_cD, aro_cR, ano_cI, ano_cD, lst, List.getElem?_cons_zero, List.getElem?_cons_succ, List.set_cons_zero, List.set_cons_succ, and_true, true_and, true_implies, forall_const, true_or, or_true, hg_same, hg_ne]
    exact go
  · have go := lo (dB E T) (1023 - E) 0 E (by omega) (by omega) (by omega) (by omega)
    have w10 : WP 0 10 [pD (dB E T), pU, pD (dB E T), pU, pL 1023, pU, pI 0] [] h lim K := by
      rw [w0_10]
      try simp (disch := omega) only [w0_0, w0_44, w0_79, e0, x_iconst, x_bipush, x_sipush, x_ldc, x_lconst, x_ldc2l, x_dconst, x_ldc2d, x_ldcf, x_iadd, x_isub, x_imul, x_idiv, x_irem, x_ishl, x_ishr, x_iand, x_ior, x_ixor, x_ladd, x_lsub, x_lmul, x_ldiv, x_lrem, x_lshl, x_lshr, x_lor, x_land, x_lcmp, x_i2l, x_l2i, x_i2b, x_i2f, x_l2f, x_l2d, x_f2d, x_d2l, x_fdiv, x_dadd, x_dsub, x_dmul, x_ddiv, x_dcmp, x_fcmp, x_dup, x_pop, x_dup2, x_objinit, x_rawF, x_rawD, gV_0, gV_1, gV_2, gV_3, gV_4, gV_S, x_iload, x_lload, x_fload, x_dload, x_aload, x_istore, x_fstore, x_astore, x_lstore, x_dstore, gX_I, x_iinc, x_getf, x_putfI, x_putfL, x_putfR, x_iald, x_bald, x_zald, x_lald, x_dald, x_aald, x_iast, x_bast, x_zast, x_last, x_dast, x_aast, x_alen, x_new, x_newa, x_anew, x_acopy, x_sld, x_slen, x_fall, x_goto, x_if, x_cmp, x_tsw, x_lsw, x_ret, x_iret, x_zret, x_lret, x_fret, x_dret, x_aret, x_callr, x_callv, x_calli, x_calls, rcv_R, isO_cO, JW_def, kO_some, sk4, cats_nil, cats_I, cats_L, cats_F, cats_D, cats_R, cats_S, Nat.reduceAdd, Nat.reduceLeDiff, inr, inq, Int.reduceEq, Int.reduceLT, Int.reduceLE, Int.reduceNeg, not_false_eq_true, not_true_eq_false, false_implies, and_self, pk_nil, pk_cons, wk_0, wk_1, wk_2, wk_3, wk_4, swt_nil, swt_cons, swl_nil, swl_cons, c3_eq, c3_lt, c3_ge, c3_le, c3_gt, c3_inr, c3_inr2, cnd_0, cnd_1, cnd_2, cnd_3, cnd_4, cnd_5, wide_I, wide_R, wide_L, wide_F, wide_D, wide_S, nw_I, nw_L, nw_F, nw_D, nw_U, nw_R, nw_S, fgo_cO, fso_cO, Option.map_some, alo_cI, ado_cD, aro_cR, ano_cI, ano_cD, lst, List.getElem?_cons_zero, List.getElem?_cons_succ, List.set_cons_zero, List.set_cons_succ, and_true, true_and, true_implies, forall_const, true_or, or_true, hg_same, hg_ne,  t_two, reduceIte]
      rw [fp_cmp (by omega) hT (by omega) (by omega), cmpv_lt (by omega)]
      exact ⟨by omega, fun _ => go, fun q => by omega⟩
    try simp (disch := omega) only [w0_0, w0_44, w0_79, e0, x_iconst, x_bipush, x_sipush, x_ldc, x_lconst, x_ldc2l, x_dconst, x_ldc2d, x_ldcf, x_iadd, x_isub, x_imul, x_idiv, x_irem, x_ishl, x_ishr, x_iand, x_ior, x_ixor, x_ladd, x_lsub, x_lmul, x_ldiv, x_lrem, x_lshl, x_lshr, x_lor, x_land, x_lcmp, x_i2l, x_l2i, x_i2b, x_i2f, x_l2f, x_l2d, x_f2d, x_d2l, x_fdiv, x_dadd, x_dsub, x_dmul, x_ddiv, x_dcmp, x_fcmp, x_dup, x_pop, x_dup2, x_objinit, x_rawF, x_rawD, gV_0, gV_1, gV_2, gV_3, gV_4, gV_S, x_iload, x_lload, x_fload, x_dload, x_aload, x_istore, x_fstore, x_astore, x_lstore, x_dstore, gX_I, x_iinc, x_getf, x_putfI, x_putfL, x_putfR, x_iald, x_bald, x_zald, x_lald, x_dald, x_aald, x_iast, x_bast, x_zast, x_last, x_dast, x_aast, x_alen, x_new, x_newa, x_anew, x_acopy, x_sld, x_slen, x_fall, x_goto, x_if, x_cmp, x_tsw, x_lsw, x_ret, x_iret, x_zret, x_lret, x_fret, x_dret, x_aret, x_callr, x_callv, x_calli, x_calls, rcv_R, isO_cO, JW_def, kO_some, sk4, cats_nil, cats_I, cats_L, cats_F, cats_D, cats_R, cats_S, Nat.reduceAdd, Nat.reduceLeDiff, inr, inq, Int.reduceEq, Int.reduceLT, Int.reduceLE, Int.reduceNeg, not_false_eq_true, not_true_eq_false, false_implies, and_self, pk_nil, pk_cons, wk_0, wk_1, wk_2, wk_3, wk_4, swt_nil, swt_cons, swl_nil, swl_cons, c3_eq, c3_lt, c3_ge, c3_le, c3_gt, c3_inr, c3_inr2, cnd_0, cnd_1, cnd_2, cnd_3, cnd_4, cnd_5, wide_I, wide_R, wide_L, wide_F, wide_D, wide_S, nw_I, nw_L, nw_F, nw_D, nw_U, nw_R, nw_S, fgo_cO, fso_cO, Option.map_some, alo_cI, ado_cD, aro_cR, ano_cI, ano_cD, lst, List.getElem?_cons_zero, List.getElem?_cons_succ, List.set_cons_zero, List.set_cons_succ, and_true, true_and, true_implies, forall_const, true_or, or_true, hg_same, hg_ne]
    exact w10

section GRM
variable {h : Hp} {g : Nat} {st : Int} {lb dp ch so ns op : Int → Int} {sp mm : Int}
theorem ahd_tr {ch dp lb : Int → Int} {a b c : Int} (h1 : ahd ch dp lb a b) (h2 : ahd ch dp lb b c) : ahd ch dp lb a c := by
  unfold ahd at h1 h2 ⊢
  omega
set_option maxRecDepth 20000 in
set_option maxHeartbeats 4000000 in
theorem c_likeliest {oc : Nat} (s : GrA h g st lb dp ch so ns op oc sp mm) {lim : Nat × Nat} {K : QT} (ho : 1 ≤ oc ∧ oc ≤ 64)
    (hr : ∀ i : Nat, i < oc → (0 ≤ op i ∧ op i < 127) ∧ inq (ch (op i)) ∧ inr (dp (op i)) ∧ inr (lb (op i)))
    (hne : ∀ i j : Nat, i < oc → j < oc → i ≠ j → ahd ch dp lb (op i) (op j) ∨ ahd ch dp lb (op j) (op i))
    (hK : ∀ i0 : Nat, i0 < oc → (∀ i : Nat, i < oc → i ≠ i0 → ahd ch dp lb (op i0) (op i)) → K (pI i0) h) : WM 74 [pR g] h lim K := by
  have loop : ∀ (n a k : Nat), n + k = oc → 1 ≤ k → a < k → (∀ i : Nat, i < k → i ≠ a → ahd ch dp lb (op a) (op i)) → WP 74 4 [pR g, pI a, pI k] [] h lim K := by
    intro n
    induction n with
    | zero =>
      intro a k hn h1 ha hb
      obtain ⟨a0, a1, a2, a3, a4, a5, a6⟩ := id s
      rw [w74_4]
      simp (disch := omega) only [w74_0, w74_33, w74_39, e74, x_iconst, x_bipush, x_sipush, x_ldc, x_lconst, x_ldc2l, x_dconst, x_ldc2d, x_ldcf, x_iadd, x_isub, x_imul, x_idiv, x_irem, x_ishl, x_ishr, x_iand, x_ior, x_ixor, x_ladd, x_lsub, x_lmul, x_ldiv, x_lrem, x_lshl, x_lshr, x_lor, x_land, x_lcmp, x_i2l, x_l2i, x_i2b, x_i2f, x_l2f, x_l2d, x_f2d, x_d2l, x_fdiv, x_dadd, x_dsub, x_dmul, x_ddiv, x_dcmp, x_fcmp, x_dup, x_pop, x_dup2, x_objinit, x_rawF, x_rawD, gV_0, gV_1, gV_2, gV_3, gV_4, gV_S, x_iload, x_lload, x_fload, x_dload, x_aload, x_istore, x_fstore, x_astore, x_lstore, x_dstore, gX_I, x_iinc, x_getf, x_putfI, x_putfL, x_putfR, x_iald, x_bald, x_zald, x_lald, x_dald, x_aald, x_iast, x_bast, x_zast, x_last, x_dast, x_aast, x_alen, x_new, x_newa, x_anew, x_acopy, x_sld, x_slen, x_fall, x_goto, x_if, x_cmp, x_tsw, x_lsw, x_ret, x_iret, x_zret, x_lret, x_fret, x_dret, x_aret, x_callr, x_callv, x_calli, x_calls, rcv_R, isO_cO, JW_def, kO_some, sk4, cats_nil, cats_I, cats_L, cats_F, cats_D, cats_R, cats_S, Nat.reduceAdd, Nat.reduceLeDiff, inr, inq, Int.reduceEq, Int.reduceLT, Int.reduceLE, Int.reduceNeg, not_false_eq_true, not_true_eq_false, false_implies, and_self, pk_nil, pk_cons, wk_0, wk_1, wk_2, wk_3, wk_4, swt_nil, swt_cons, swl_nil, swl_cons, c3_eq, c3_lt, c3_ge, c3_le, c3_gt, c3_inr, c3_inr2, cnd_0, cnd_1, cnd_2, cnd_3, cnd_4, cnd_5, wide_I, wide_R, wide_L, wide_F, wide_D, wide_S, nw_I, nw_L, nw_F, nw_D, nw_U, nw_R, nw_S, fgo_cO, fso_cO, Option.map_some, alo_cI, ado_cD, aro_cR, ano_cI, ano_cD, lst, List.getElem?_cons_zero, List.getElem?_cons_succ, List.set_cons_zero, List.set_cons_succ, and_true, true_and, true_implies, forall_const, true_or, or_true, hg_same, hg_ne,  a0]
      have hko : k = oc := by omega
      subst hko
      exact ⟨by omega, fun _ => hK a (by omega) hb, fun q => by omega⟩
    | succ n ih =>
      intro a k hn h1 ha hb
      obtain ⟨a0, a1, a2, a3, a4, a5, a6⟩ := id s
      rw [w74_4]
      simp (disch := omega) only [w74_0, w74_33, w74_39, e74, x_iconst, x_bipush, x_sipush, x_ldc, x_lconst, x_ldc2l, x_dconst, x_ldc2d, x_ldcf, x_iadd, x_isub, x_imul, x_idiv, x_irem, x_ishl, x_ishr, x_iand, x_ior, x_ixor, x_ladd, x_lsub, x_lmul, x_ldiv, x_lrem, x_lshl, x_lshr, x_lor, x_land, x_lcmp, x_i2l, x_l2i, x_i2b, x_i2f, x_l2f, x_l2d, x_f2d, x_d2l, x_fdiv, x_dadd, x_dsub, x_dmul, x_ddiv, x_dcmp, x_fcmp, x_dup, x_pop, x_dup2, x_objinit, x_rawF, x_rawD, gV_0, gV_1, gV_2, gV_3, gV_4, gV_S, x_iload, x_lload, x_fload, x_dload, x_aload, x_istore, x_fstore, x_astore, x_lstore, x_dstore, gX_I, x_iinc, x_getf, x_putfI, x_putfL, x_putfR, x_iald, x_bald, x_zald, x_lald, x_dald, x_aald, x_iast, x_bast, x_zast, x_last, x_dast, x_aast, x_alen, x_new, x_newa, x_anew, x_acopy, x_sld, x_slen, x_fall, x_goto, x_if, x_cmp, x_tsw, x_lsw, x_ret, x_iret, x_zret, x_lret, x_fret, x_dret, x_aret, x_callr, x_callv, x_calli, x_calls, rcv_R, isO_cO, JW_def, kO_some, sk4, cats_nil, cats_I, cats_L, cats_F, cats_D, cats_R, cats_S, Nat.reduceAdd, Nat.reduceLeDiff, inr, inq, Int.reduceEq, Int.reduceLT, Int.reduceLE, Int.reduceNeg, not_false_eq_true, not_true_eq_false, false_implies, and_self, pk_nil, pk_cons, wk_0, wk_1, wk_2, wk_3, wk_4, swt_nil, swt_cons, swl_nil, swl_cons, c3_eq, c3_lt, c3_ge, c3_le, c3_gt, c3_inr, c3_inr2, cnd_0, cnd_1, cnd_2, cnd_3, cnd_4, cnd_5, wide_I, wide_R, wide_L, wide_F, wide_D, wide_S, nw_I, nw_L, nw_F, nw_D, nw_U, nw_R, nw_S, fgo_cO, fso_cO, Option.map_some, alo_cI, ado_cD, aro_cR, ano_cI, ano_cD, lst, List.getElem?_cons_zero, List.getElem?_cons_succ, List.set_cons_zero, List.set_cons_succ, and_true, true_and, true_implies, forall_const, true_or, or_true, hg_same, hg_ne,  a0, a6]
      refine ⟨by omega, fun q => by omega, fun _ => ⟨by omega, by omega, ?_⟩⟩
      have rk := hr k (by omega)
      have ra := hr a (by omega)
      refine c_isAhead s rk.1 ra.1 ⟨⟨rk.2.1, ra.2.1⟩, ⟨rk.2.2.1, ra.2.2.1⟩, rk.2.2.2, ra.2.2.2⟩ (fun q => ?_) (fun q => ?_)
      · simp (disch := omega) only [w74_0, w74_33, w74_39, e74, x_iconst, x_bipush, x_sipush, x_ldc, x_lconst, x_ldc2l, x_dconst, x_ldc2d, x_ldcf, x_iadd, x_isub, x_imul, x_idiv, x_irem, x_ishl, x_ishr, x_iand, x_ior, x_ixor, x_ladd, x_lsub, x_lmul, x_ldiv, x_lrem, x_lshl, x_lshr, x_lor, x_land, x_lcmp, x_i2l, x_l2i, x_i2b, x_i2f, x_l2f, x_l2d, x_f2d, x_d2l, x_fdiv, x_dadd, x_dsub, x_dmul, x_ddiv, x_dcmp, x_fcmp, x_dup, x_pop, x_dup2, x_objinit, x_rawF, x_rawD, gV_0, gV_1, gV_2, gV_3, gV_4, gV_S, x_iload, x_lload, x_fload, x_dload, x_aload, x_istore, x_fstore, x_astore, x_lstore, x_dstore, gX_I, x_iinc, x_getf, x_putfI, x_putfL, x_putfR, x_iald, x_bald, x_zald, x_lald, x_dald, x_aald, x_iast, x_bast, x_zast, x_last, x_dast, x_aast, x_alen, x_new, x_newa, x_anew, x_acopy, x_sld, x_slen, x_fall, x_goto, x_if, x_cmp, x_tsw, x_lsw, x_ret, x_iret, x_zret, x_lret, x_fret, x_dret, x_aret, x_callr, x_callv, x_calli, x_calls, rcv_R, isO_cO, JW_def, kO_some, sk4, cats_nil, cats_I, cats_L, cats_F, cats_D, cats_R, cats_S, Nat.reduceAdd, Nat.reduceLeDiff, inr, inq, Int.reduceEq, Int.reduceLT, Int.reduceLE, Int.reduceNeg, not_false_eq_true, not_true_eq_false, false_implies, and_self, pk_nil, pk_cons, wk_0, wk_1, wk_2, wk_3, wk_4, swt_nil, swt_cons, swl_nil, swl_cons, c3_eq, c3_lt, c3_ge, c3_le, c3_gt, c3_inr, c3_inr2, cnd_0, cnd_1, cnd_2, cnd_3, cnd_4, cnd_5, wide_I, wide_R, wide_L, wide_F, wide_D, wide_S, nw_I, nw_L, nw_F, nw_D, nw_U, nw_R, nw_S, fgo_cO, fso_cO, Option.map_some, alo_cI, ado_cD, aro_cR, ano_cI, ano_cD, lst, List.getElem?_cons_zero, List.getElem?_cons_succ, List.set_cons_zero, List.set_cons_succ, and_true, true_and, true_implies, forall_const, true_or, or_true, hg_same, hg_ne]
        have := ih k (k + 1) (by omega) (by omega) (by omega) (fun i hi hik => by
          by_cases e : i = a
          · rw [e]; exact q
          · exact ahd_tr q (hb i (by omega) e))
        rw [show ((k + 1 : Nat) : Int) = (k : Int) + 1 by omega] at this
        exact this
      · simp (disch := omega) only [w74_0, w74_33, w74_39, e74, x_iconst, x_bipush, x_sipush, x_ldc, x_lconst, x_ldc2l, x_dconst, x_ldc2d, x_ldcf, x_iadd, x_isub, x_imul, x_idiv, x_irem, x_ishl, x_ishr, x_iand, x_ior, x_ixor, x_ladd, x_lsub, x_lmul, x_ldiv, x_lrem, x_lshl, x_lshr, x_lor, x_land, x_lcmp, x_i2l, x_l2i, x_i2b, x_i2f, x_l2f, x_l2d, x_f2d, x_d2l, x_fdiv, x_dadd, x_dsub, x_dmul, x_ddiv, x_dcmp, x_fcmp, x_dup, x_pop, x_dup2, x_objinit, x_rawF, x_rawD, gV_0, gV_1, gV_2, gV_3, gV_4, gV_S, x_iload, x_lload, x_fload, x_dload, x_aload, x_istore, x_fstore, x_astore, x_lstore, x_dstore, gX_I, x_iinc, x_getf, x_putfI, x_putfL, x_putfR, x_iald, x_bald, x_zald, x_lald, x_dald, x_aald, x_iast, x_bast, x_zast, x_last, x_dast, x_aast, x_alen, x_new, x_newa, x_anew, x_acopy, x_sld, x_slen, x_fall, x_goto, x_if, x_cmp, x_tsw, x_lsw, x_ret, x_iret, x_zret, x_lret, x_fret, x_dret, x_aret, x_callr, x_callv, x_calli, x_calls, rcv_R, isO_cO, JW_def, kO_some, sk4, cats_nil, cats_I, cats_L, cats_F, cats_D, cats_R, cats_S, Nat.reduceAdd, Nat.reduceLeDiff, inr, inq, Int.reduceEq, Int.reduceLT, Int.reduceLE, Int.reduceNeg, not_false_eq_true, not_true_eq_false, false_implies, and_self, pk_nil, pk_cons, wk_0, wk_1, wk_2, wk_3, wk_4, swt_nil, swt_cons, swl_nil, swl_cons, c3_eq, c3_lt, c3_ge, c3_le, c3_gt, c3_inr, c3_inr2, cnd_0, cnd_1, cnd_2, cnd_3, cnd_4, cnd_5, wide_I, wide_R, wide_L, wide_F, wide_D, wide_S, nw_I, nw_L, nw_F, nw_D, nw_U, nw_R, nw_S, fgo_cO, fso_cO, Option.map_some, alo_cI, ado_cD, aro_cR, ano_cI, ano_cD, lst, List.getElem?_cons_zero, List.getElem?_cons_succ, List.set_cons_zero, List.set_cons_succ, and_true, true_and, true_implies, forall_const, true_or, or_true, hg_same, hg_ne]
        have := ih a (k + 1) (by omega) (by omega) (by omega) (fun i hi hia => by
          by_cases e : i = k
          · rw [e]
            rcases hne a k (by omega) (by omega) (by omega) with h3 | h3
            · exact h3
            · exact absurd h3 q
          · exact hb i (by omega) hia)
        rw [show ((k + 1 : Nat) : Int) = (k : Int) + 1 by omega] at this
        exact this
  simp (disch := omega) only [w74_0, w74_33, w74_39, e74, x_iconst, x_bipush, x_sipush, x_ldc, x_lconst, x_ldc2l, x_dconst, x_ldc2d, x_ldcf, x_iadd, x_isub, x_imul, x_idiv, x_irem, x_ishl, x_ishr, x_iand, x_ior, x_ixor, x_ladd, x_lsub, x_lmul, x_ldiv, x_lrem, x_lshl, x_lshr, x_lor, x_land, x_lcmp, x_i2l, x_l2i, x_i2b, x_i2f, x_l2f, x_l2d, x_f2d, x_d2l, x_fdiv, x_dadd, x_dsub, x_dmul, x_ddiv, x_dcmp, x_fcmp, x_dup, x_pop, x_dup2, x_objinit, x_rawF, x_rawD, gV_0, gV_1, gV_2, gV_3, gV_4, gV_S, x_iload, x_lload, x_fload, x_dload, x_aload, x_istore, x_fstore, x_astore, x_lstore, x_dstore, gX_I, x_iinc, x_getf, x_putfI, x_putfL, x_putfR, x_iald, x_bald, x_zald, x_lald, x_dald, x_aald, x_iast, x_bast, x_zast, x_last, x_dast, x_aast, x_alen, x_new, x_newa, x_anew, x_acopy, x_sld, x_slen, x_fall, x_goto, x_if, x_cmp, x_tsw, x_lsw, x_ret, x_iret, x_zret, x_lret, x_fret, x_dret, x_aret, x_callr, x_callv, x_calli, x_calls, rcv_R, isO_cO, JW_def, kO_some, sk4, cats_nil, cats_I, cats_L, cats_F, cats_D, cats_R, cats_S, Nat.reduceAdd, Nat.reduceLeDiff, inr, inq, Int.reduceEq, Int.reduceLT, Int.reduceLE, Int.reduceNeg, not_false_eq_true, not_true_eq_false, false_implies, and_self, pk_nil, pk_cons, wk_0, wk_1, wk_2, wk_3, wk_4, swt_nil, swt_cons, swl_nil, swl_cons, c3_eq, c3_lt, c3_ge, c3_le, c3_gt, c3_inr, c3_inr2, cnd_0, cnd_1, cnd_2, cnd_3, cnd_4, cnd_5, wide_I, wide_R, wide_L, wide_F, wide_D, wide_S, nw_I, nw_L, nw_F, nw_D, nw_U, nw_R, nw_S, fgo_cO, fso_cO, Option.map_some, alo_cI, ado_cD, aro_cR, ano_cI, ano_cD, lst, List.getElem?_cons_zero, List.getElem?_cons_succ, List.set_cons_zero, List.set_cons_succ, and_true, true_and, true_implies, forall_const, true_or, or_true, hg_same, hg_ne]
  exact loop (oc - 1) 0 1 (by omega) (by omega) (by omega) (fun i hi hi0 => by omega)
end GRM
theorem iOr_8 {c l : Nat} (hc : c < 2 ^ 24) (hl : l < 8) : iOr (iShl (c : Int) 3) (l : Int) = 8 * (c : Int) + (l : Int) := by
  unfold iOr iShl
  rw [I_nat (Int.natCast_nonneg c), Int.toNat_natCast, pk_shlN _ 3 (by decide) (by omega), nI_toInt (by omega), I_nat (Int.natCast_nonneg (c * 2 ^ 3)), I_nat (Int.natCast_nonneg l), Int.toNat_natCast, Int.toNat_natCast]
  have h1 : (nI (c * 2 ^ 3) ||| nI l) = nI (8 * c + l) := by
    apply Int32.toBitVec_inj.mp
    apply BitVec.eq_of_toNat_eq
    rw [Int32.toBitVec_or, BitVec.toNat_or, pk_tn (by omega), pk_tn (by omega), pk_tn (by omega), ← Nat.shiftLeft_eq, ← Nat.shiftLeft_add_eq_or_of_lt (by omega : l < 2 ^ 3), Nat.shiftLeft_eq]
    omega
  rw [h1, nI_toInt (by omega)]
  omega
/-- a Growth that holds the first k splits from a state on -/
def GroA (h : Hp) (g : Nat) (m Q q : Nat) (wf : Int → Int) (k : Nat) (wn : Nat → Nat × Nat) (lb dp ch so ns op : Int → Int) (oc : Nat) : Prop := GrA h g q lb dp ch so ns op oc k m ∧ GR m (scF Q q wf) k wn lb dp ch so ns op oc
section GRT
variable {h : Hp} {g p w : Nat} {m Q q k : Nat} {wd : Int} {wf : Int → Int} {wn : Nat → Nat × Nat} {lb dp ch so ns op : Int → Int} {oc : Nat}
set_option maxRecDepth 20000 in
set_option maxHeartbeats 4000000 in
theorem c_split (s : GroA h g m Q q wf k wn lb dp ch so ns op oc) (s2 : SetA h p w m Q wd wf) (hpg : (p < g ∨ g + 7 ≤ p) ∧ (w < g ∨ g + 7 ≤ w)) (hm : 2 ≤ m ∧ m ≤ 5) (hQ : 1 ≤ Q ∧ Q ≤ 3) (hq : q < Q) (hW : WOK m wf) (hk : k < 63) (hk64 : 1 + k * (m - 1) + (m - 1) ≤ 64) {lim : Nat × Nat} {K : QT} {i0 : Nat} (hi0 : i0 < oc)
    (hb : ∀ i : Nat, i < oc → i ≠ i0 → ahd ch dp lb (op i0) (op i))
    (hK : ∀ h' wn' lb' dp' ch' so' ns' op' oc', GroA h' g m Q q wf (k + 1) wn' lb' dp' ch' so' ns' op' oc' → Fr h h' g (g + 7) → K pU h') : WM 73 [pR g, pI i0, pR p] h lim K := by
  obtain ⟨sA, sG⟩ := s
  have hm8 : m ≤ 8 := by omega
  have sG' := sG
  obtain ⟨g0, g1, g2, g3, g4, g5, g6, g7, g8⟩ := sG'
  obtain ⟨n0, p1, p2, p3, p4⟩ := g5 i0 hi0
  have hbst := GR_best hm.1 hm8 (by omega) (by omega) sG hi0 p2 hb
  obtain ⟨d, c, hw⟩ : ∃ d c, wn n0 = (d, c) := ⟨_, _, rfl⟩
  have hfl := GR_flag hm.1 hm8 (by omega) sG p1
  rw [hw] at hfl p4
  have hdc := g1 n0 p1
  rw [hw] at hdc
  simp only at hfl hdc p4
  have hkm : k * m = k * (m - 1) + k := by
    rw [← Nat.mul_succ]
    congr 1
    omega
  have h8 := pow88 hfl.2.1
  have hc24 : c < 2 ^ 24 := by omega
  obtain ⟨a0, a1, a2, a3, a4, a5, a6⟩ := id sA
  -- the loop over the letters
  have loop : ∀ (j l : Nat) (h1 : Hp) (lb1 dp1 ch1 so1 op1 : Int → Int) (oc1 : Int), j + l = m →
      GrA h1 g q lb1 dp1 ch1 so1 ns op1 oc1 k m → Fr h h1 g (g + 7) →
      lb1 = fl lb ((1 + k * m : Nat) : Int) (((1 + k * m : Nat) : Int) + (l : Int)) (fun i => 8 * (c : Int) + (i - ((1 + k * m : Nat) : Int))) →
      dp1 = fl dp ((1 + k * m : Nat) : Int) (((1 + k * m : Nat) : Int) + (l : Int)) (fun _ => (d : Int) + 1) →
      ch1 = fl ch ((1 + k * m : Nat) : Int) (((1 + k * m : Nat) : Int) + (l : Int)) (fun i => scF Q q wf d c / 16 * wf (5 * (stF Q q d c : Int) + (i - ((1 + k * m : Nat) : Int)))) →
      so1 = fl so ((1 + k * m : Nat) : Int) (((1 + k * m : Nat) : Int) + (l : Int)) (fun _ => 63) →
      ((d + 1 < 8 ∧ oc1 = (oc : Int) - 1 + l ∧ op1 = fl (up op i0 (op ((oc : Int) - 1))) ((oc : Int) - 1) ((oc : Int) - 1 + (l : Int)) (fun i => ((1 + k * m : Nat) : Int) + (i - ((oc : Int) - 1)))) ∨ (¬ d + 1 < 8 ∧ oc1 = (oc : Int) - 1 ∧ op1 = up op i0 (op ((oc : Int) - 1)))) →
      WP 73 75 [pR g, pI i0, pR p, pI n0, pI (stF Q q d c), pI ((1 + k * m : Nat) : Int), pI l] [] h1 lim K := by
    intro j
    induction j with
    | zero =>
      intro l h1 lb1 dp1 ch1 so1 op1 oc1 hj t1 t2 e1 e2 e3 e4 e5
      have hlm : l = m := by omega
      subst hlm
      obtain ⟨b0, b1, b2, b3, b4, b5, b6⟩ := id t1
      rw [w73_75]
      simp (disch := omega) only [w73_0, w73_48, w73_57, w73_138, e73, x_iconst, x_bipush, x_sipush, x_ldc, x_lconst, x_ldc2l, x_dconst, x_ldc2d, x_ldcf, x_iadd, x_isub, x_imul, x_idiv, x_irem, x_ishl, x_ishr, x_iand, x_ior, x_ixor, x_ladd, x_lsub, x_lmul, x_ldiv, x_lrem, x_lshl, x_lshr, x_lor, x_land, x_lcmp, x_i2l, x_l2i, x_i2b, x_i2f, x_l2f, x_l2d, x_f2d, x_d2l, x_fdiv, x_dadd, x_dsub, x_dmul, x_ddiv, x_dcmp, x_fcmp, x_dup, x_pop, x_dup2, x_objinit, x_rawF, x_rawD, gV_0, gV_1, gV_2, gV_3, gV_4, gV_S, x_iload, x_lload, x_fload, x_dload, x_aload, x_istore, x_fstore, x_astore, x_lstore, x_dstore, gX_I, x_iinc, x_getf, x_putfI, x_putfL, x_putfR, x_iald, x_bald, x_zald, x_lald, x_dald, x_aald, x_iast, x_bast, x_zast, x_last, x_dast, x_aast, x_alen, x_new, x_newa, x_anew, x_acopy, x_sld, x_slen, x_fall, x_goto, x_if, x_cmp, x_tsw, x_lsw, x_ret, x_iret, x_zret, x_lret, x_fret, x_dret, x_aret, x_callr, x_callv, x_calli, x_calls, rcv_R, isO_cO, JW_def, kO_some, sk4, cats_nil, cats_I, cats_L, cats_F, cats_D, cats_R, cats_S, Nat.reduceAdd, Nat.reduceLeDiff, inr, inq, Int.reduceEq, Int.reduceLT, Int.reduceLE, Int.reduceNeg, not_false_eq_true, not_true_eq_false, false_implies, and_self, pk_nil, pk_cons, wk_0, wk_1, wk_2, wk_3, wk_4, swt_nil, swt_cons, swl_nil, swl_cons, c3_eq, c3_lt, c3_ge, c3_le, c3_gt, c3_inr, c3_inr2, cnd_0, cnd_1, cnd_2, cnd_3, cnd_4, cnd_5, wide_I, wide_R, wide_L, wide_F, wide_D, wide_S, nw_I, nw_L, nw_F, nw_D, nw_U, nw_R, nw_S, fgo_cO, fso_cO, Option.map_some, alo_cI, ado_cD, aro_cR, ano_cI, ano_cD, lst, List.getElem?_cons_zero, List.getElem?_cons_succ, List.set_cons_zero, List.set_cons_succ, and_true, true_and, true_implies, forall_const, true_or, or_true, hg_same, hg_ne,  b0, b1, b2, b3, b4, b5, b6]
      refine ⟨by omega, fun _ => ⟨by omega, by omega, ?_⟩, fun q2 => by omega⟩
      obtain ⟨ocB, hocB⟩ : ∃ ocB : Nat, (ocB : Int) = oc1 := by
        rcases e5 with ⟨-, q2, -⟩ | ⟨-, q2, -⟩
        · exact ⟨oc - 1 + l, by omega⟩
        · exact ⟨oc - 1, by omega⟩
      have hstep := GR_step (vc := fun i => scF Q q wf d c / 16 * wf (5 * (stF Q q d c : Int) + (i - ((1 + k * l : Nat) : Int)))) hm.1 hm8 (by omega) (by omega) sG hi0 p2 hw hbst (fun x hx => by
        rw [scF_child Q q wf p4 (by omega)]
        congr 3
        omega) op1 ocB (by
        rcases e5 with ⟨q1, q2, q3⟩ | ⟨q1, q2, q3⟩
        · exact Or.inl ⟨q1, by omega, q3⟩
        · exact Or.inr ⟨q1, by omega, q3⟩)
      rw [← e1, ← e2, ← e3, ← e4] at hstep
      refine hK _ _ _ _ _ _ _ _ _ ⟨⟨?_, ?_, ?_, ?_, ?_, ?_, ?_⟩, hstep⟩ ?_
      · simp (disch := omega) only [x_iconst, x_bipush, x_sipush, x_ldc, x_lconst, x_ldc2l, x_dconst, x_ldc2d, x_ldcf, x_iadd, x_isub, x_imul, x_idiv, x_irem, x_ishl, x_ishr, x_iand, x_ior, x_ixor, x_ladd, x_lsub, x_lmul, x_ldiv, x_lrem, x_lshl, x_lshr, x_lor, x_land, x_lcmp, x_i2l, x_l2i, x_i2b, x_i2f, x_l2f, x_l2d, x_f2d, x_d2l, x_fdiv, x_dadd, x_dsub, x_dmul, x_ddiv, x_dcmp, x_fcmp, x_dup, x_pop, x_dup2, x_objinit, x_rawF, x_rawD, gV_0, gV_1, gV_2, gV_3, gV_4, gV_S, x_iload, x_lload, x_fload, x_dload, x_aload, x_istore, x_fstore, x_astore, x_lstore, x_dstore, gX_I, x_iinc, x_getf, x_putfI, x_putfL, x_putfR, x_iald, x_bald, x_zald, x_lald, x_dald, x_aald, x_iast, x_bast, x_zast, x_last, x_dast, x_aast, x_alen, x_new, x_newa, x_anew, x_acopy, x_sld, x_slen, x_fall, x_goto, x_if, x_cmp, x_tsw, x_lsw, x_ret, x_iret, x_zret, x_lret, x_fret, x_dret, x_aret, x_callr, x_callv, x_calli, x_calls, rcv_R, isO_cO, JW_def, kO_some, sk4, cats_nil, cats_I, cats_L, cats_F, cats_D, cats_R, cats_S, Nat.reduceAdd, Nat.reduceLeDiff, inr, inq, Int.reduceEq, Int.reduceLT, Int.reduceLE, Int.reduceNeg, not_false_eq_true, not_true_eq_false, false_implies, and_self, pk_nil, pk_cons, wk_0, wk_1, wk_2, wk_3, wk_4, swt_nil, swt_cons, swl_nil, swl_cons, c3_eq, c3_lt, c3_ge, c3_le, c3_gt, c3_inr, c3_inr2, cnd_0, cnd_1, cnd_2, cnd_3, cnd_4, cnd_5, wide_I, wide_R, wide_L, wide_F, wide_D, wide_S, nw_I, nw_L, nw_F, nw_D, nw_U, nw_R, nw_S, fgo_cO, fso_cO, Option.map_some, alo_cI, ado_cD, aro_cR, ano_cI, ano_cD, lst, List.getElem?_cons_zero, List.getElem?_cons_succ, List.set_cons_zero, List.set_cons_succ, and_true, true_and, true_implies, forall_const, true_or, or_true, hg_same, hg_ne, hocB]
        rw [show ((k + 1 : Nat) : Int) = (k : Int) + 1 by omega]
      · simp (disch := omega) only [x_iconst, x_bipush, x_sipush, x_ldc, x_lconst, x_ldc2l, x_dconst, x_ldc2d, x_ldcf, x_iadd, x_isub, x_imul, x_idiv, x_irem, x_ishl, x_ishr, x_iand, x_ior, x_ixor, x_ladd, x_lsub, x_lmul, x_ldiv, x_lrem, x_lshl, x_lshr, x_lor, x_land, x_lcmp, x_i2l, x_l2i, x_i2b, x_i2f, x_l2f, x_l2d, x_f2d, x_d2l, x_fdiv, x_dadd, x_dsub, x_dmul, x_ddiv, x_dcmp, x_fcmp, x_dup, x_pop, x_dup2, x_objinit, x_rawF, x_rawD, gV_0, gV_1, gV_2, gV_3, gV_4, gV_S, x_iload, x_lload, x_fload, x_dload, x_aload, x_istore, x_fstore, x_astore, x_lstore, x_dstore, gX_I, x_iinc, x_getf, x_putfI, x_putfL, x_putfR, x_iald, x_bald, x_zald, x_lald, x_dald, x_aald, x_iast, x_bast, x_zast, x_last, x_dast, x_aast, x_alen, x_new, x_newa, x_anew, x_acopy, x_sld, x_slen, x_fall, x_goto, x_if, x_cmp, x_tsw, x_lsw, x_ret, x_iret, x_zret, x_lret, x_fret, x_dret, x_aret, x_callr, x_callv, x_calli, x_calls, rcv_R, isO_cO, JW_def, kO_some, sk4, cats_nil, cats_I, cats_L, cats_F, cats_D, cats_R, cats_S, Nat.reduceAdd, Nat.reduceLeDiff, inr, inq, Int.reduceEq, Int.reduceLT, Int.reduceLE, Int.reduceNeg, not_false_eq_true, not_true_eq_false, false_implies, and_self, pk_nil, pk_cons, wk_0, wk_1, wk_2, wk_3, wk_4, swt_nil, swt_cons, swl_nil, swl_cons, c3_eq, c3_lt, c3_ge, c3_le, c3_gt, c3_inr, c3_inr2, cnd_0, cnd_1, cnd_2, cnd_3, cnd_4, cnd_5, wide_I, wide_R, wide_L, wide_F, wide_D, wide_S, nw_I, nw_L, nw_F, nw_D, nw_U, nw_R, nw_S, fgo_cO, fso_cO, Option.map_some, alo_cI, ado_cD, aro_cR, ano_cI, ano_cD, lst, List.getElem?_cons_zero, List.getElem?_cons_succ, List.set_cons_zero, List.set_cons_succ, and_true, true_and, true_implies, forall_const, true_or, or_true, hg_same, hg_ne, b1]
      · simp (disch := omega) only [x_iconst, x_bipush, x_sipush, x_ldc, x_lconst, x_ldc2l, x_dconst, x_ldc2d, x_ldcf, x_iadd, x_isub, x_imul, x_idiv, x_irem, x_ishl, x_ishr, x_iand, x_ior, x_ixor, x_ladd, x_lsub, x_lmul, x_ldiv, x_lrem, x_lshl, x_lshr, x_lor, x_land, x_lcmp, x_i2l, x_l2i, x_i2b, x_i2f, x_l2f, x_l2d, x_f2d, x_d2l, x_fdiv, x_dadd, x_dsub, x_dmul, x_ddiv, x_dcmp, x_fcmp, x_dup, x_pop, x_dup2, x_objinit, x_rawF, x_rawD, gV_0, gV_1, gV_2, gV_3, gV_4, gV_S, x_iload, x_lload, x_fload, x_dload, x_aload, x_istore, x_fstore, x_astore, x_lstore, x_dstore, gX_I, x_iinc, x_getf, x_putfI, x_putfL, x_putfR, x_iald, x_bald, x_zald, x_lald, x_dald, x_aald, x_iast, x_bast, x_zast, x_last, x_dast, x_aast, x_alen, x_new, x_newa, x_anew, x_acopy, x_sld, x_slen, x_fall, x_goto, x_if, x_cmp, x_tsw, x_lsw, x_ret, x_iret, x_zret, x_lret, x_fret, x_dret, x_aret, x_callr, x_callv, x_calli, x_calls, rcv_R, isO_cO, JW_def, kO_some, sk4, cats_nil, cats_I, cats_L, cats_F, cats_D, cats_R, cats_S, Nat.reduceAdd, Nat.reduceLeDiff, inr, inq, Int.reduceEq, Int.reduceLT, Int.reduceLE, Int.reduceNeg, not_false_eq_true, not_true_eq_false, false_implies, and_self, pk_nil, pk_cons, wk_0, wk_1, wk_2, wk_3, wk_4, swt_nil, swt_cons, swl_nil, swl_cons, c3_eq, c3_lt, c3_ge, c3_le, c3_gt, c3_inr, c3_inr2, cnd_0, cnd_1, cnd_2, cnd_3, cnd_4, cnd_5, wide_I, wide_R, wide_L, wide_F, wide_D, wide_S, nw_I, nw_L, nw_F, nw_D, nw_U, nw_R, nw_S, fgo_cO, fso_cO, Option.map_some, alo_cI, ado_cD, aro_cR, ano_cI, ano_cD, lst, List.getElem?_cons_zero, List.getElem?_cons_succ, List.set_cons_zero, List.set_cons_succ, and_true, true_and, true_implies, forall_const, true_or, or_true, hg_same, hg_ne, b2]
      · simp (disch := omega) only [x_iconst, x_bipush, x_sipush, x_ldc, x_lconst, x_ldc2l, x_dconst, x_ldc2d, x_ldcf, x_iadd, x_isub, x_imul, x_idiv, x_irem, x_ishl, x_ishr, x_iand, x_ior, x_ixor, x_ladd, x_lsub, x_lmul, x_ldiv, x_lrem, x_lshl, x_lshr, x_lor, x_land, x_lcmp, x_i2l, x_l2i, x_i2b, x_i2f, x_l2f, x_l2d, x_f2d, x_d2l, x_fdiv, x_dadd, x_dsub, x_dmul, x_ddiv, x_dcmp, x_fcmp, x_dup, x_pop, x_dup2, x_objinit, x_rawF, x_rawD, gV_0, gV_1, gV_2, gV_3, gV_4, gV_S, x_iload, x_lload, x_fload, x_dload, x_aload, x_istore, x_fstore, x_astore, x_lstore, x_dstore, gX_I, x_iinc, x_getf, x_putfI, x_putfL, x_putfR, x_iald, x_bald, x_zald, x_lald, x_dald, x_aald, x_iast, x_bast, x_zast, x_last, x_dast, x_aast, x_alen, x_new, x_newa, x_anew, x_acopy, x_sld, x_slen, x_fall, x_goto, x_if, x_cmp, x_tsw, x_lsw, x_ret, x_iret, x_zret, x_lret, x_fret, x_dret, x_aret, x_callr, x_callv, x_calli, x_calls, rcv_R, isO_cO, JW_def, kO_some, sk4, cats_nil, cats_I, cats_L, cats_F, cats_D, cats_R, cats_S, Nat.reduceAdd, Nat.reduceLeDiff, inr, inq, Int.reduceEq, Int.reduceLT, Int.reduceLE, Int.reduceNeg, not_false_eq_true, not_true_eq_false, false_implies, and_self, pk_nil, pk_cons, wk_0, wk_1, wk_2, wk_3, wk_4, swt_nil, swt_cons, swl_nil, swl_cons, c3_eq, c3_lt, c3_ge, c3_le, c3_gt, c3_inr, c3_inr2, cnd_0, cnd_1, cnd_2, cnd_3, cnd_4, cnd_5, wide_I, wide_R, wide_L, wide_F, wide_D, wide_S, nw_I, nw_L, nw_F, nw_D, nw_U, nw_R, nw_S, fgo_cO, fso_cO, Option.map_some, alo_cI, ado_cD, aro_cR, ano_cI, ano_cD, lst, List.getElem?_cons_zero, List.getElem?_cons_succ, List.set_cons_zero, List.set_cons_succ, and_true, true_and, true_implies, forall_const, true_or, or_true, hg_same, hg_ne, b3]
      · simp (disch := omega) only [x_iconst, x_bipush, x_sipush, x_ldc, x_lconst, x_ldc2l, x_dconst, x_ldc2d, x_ldcf, x_iadd, x_isub, x_imul, x_idiv, x_irem, x_ishl, x_ishr, x_iand, x_ior, x_ixor, x_ladd, x_lsub, x_lmul, x_ldiv, x_lrem, x_lshl, x_lshr, x_lor, x_land, x_lcmp, x_i2l, x_l2i, x_i2b, x_i2f, x_l2f, x_l2d, x_f2d, x_d2l, x_fdiv, x_dadd, x_dsub, x_dmul, x_ddiv, x_dcmp, x_fcmp, x_dup, x_pop, x_dup2, x_objinit, x_rawF, x_rawD, gV_0, gV_1, gV_2, gV_3, gV_4, gV_S, x_iload, x_lload, x_fload, x_dload, x_aload, x_istore, x_fstore, x_astore, x_lstore, x_dstore, gX_I, x_iinc, x_getf, x_putfI, x_putfL, x_putfR, x_iald, x_bald, x_zald, x_lald, x_dald, x_aald, x_iast, x_bast, x_zast, x_last, x_dast, x_aast, x_alen, x_new, x_newa, x_anew, x_acopy, x_sld, x_slen, x_fall, x_goto, x_if, x_cmp, x_tsw, x_lsw, x_ret, x_iret, x_zret, x_lret, x_fret, x_dret, x_aret, x_callr, x_callv, x_calli, x_calls, rcv_R, isO_cO, JW_def, kO_some, sk4, cats_nil, cats_I, cats_L, cats_F, cats_D, cats_R, cats_S, Nat.reduceAdd, Nat.reduceLeDiff, inr, inq, Int.reduceEq, Int.reduceLT, Int.reduceLE, Int.reduceNeg, not_false_eq_true, not_true_eq_false, false_implies, and_self, pk_nil, pk_cons, wk_0, wk_1, wk_2, wk_3, wk_4, swt_nil, swt_cons, swl_nil, swl_cons, c3_eq, c3_lt, c3_ge, c3_le, c3_gt, c3_inr, c3_inr2, cnd_0, cnd_1, cnd_2, cnd_3, cnd_4, cnd_5, wide_I, wide_R, wide_L, wide_F, wide_D, wide_S, nw_I, nw_L, nw_F, nw_D, nw_U, nw_R, nw_S, fgo_cO, fso_cO, Option.map_some, alo_cI, ado_cD, aro_cR, ano_cI, ano_cD, lst, List.getElem?_cons_zero, List.getElem?_cons_succ, List.set_cons_zero, List.set_cons_succ, and_true, true_and, true_implies, forall_const, true_or, or_true, hg_same, hg_ne, b4]
      · simp (disch := omega) only [x_iconst, x_bipush, x_sipush, x_ldc, x_lconst, x_ldc2l, x_dconst, x_ldc2d, x_ldcf, x_iadd, x_isub, x_imul, x_idiv, x_irem, x_ishl, x_ishr, x_iand, x_ior, x_ixor, x_ladd, x_lsub, x_lmul, x_ldiv, x_lrem, x_lshl, x_lshr, x_lor, x_land, x_lcmp, x_i2l, x_l2i, x_i2b, x_i2f, x_l2f, x_l2d, x_f2d, x_d2l, x_fdiv, x_dadd, x_dsub, x_dmul, x_ddiv, x_dcmp, x_fcmp, x_dup, x_pop, x_dup2, x_objinit, x_rawF, x_rawD, gV_0, gV_1, gV_2, gV_3, gV_4, gV_S, x_iload, x_lload, x_fload, x_dload, x_aload, x_istore, x_fstore, x_astore, x_lstore, x_dstore, gX_I, x_iinc, x_getf, x_putfI, x_putfL, x_putfR, x_iald, x_bald, x_zald, x_lald, x_dald, x_aald, x_iast, x_bast, x_zast, x_last, x_dast, x_aast, x_alen, x_new, x_newa, x_anew, x_acopy, x_sld, x_slen, x_fall, x_goto, x_if, x_cmp, x_tsw, x_lsw, x_ret, x_iret, x_zret, x_lret, x_fret, x_dret, x_aret, x_callr, x_callv, x_calli, x_calls, rcv_R, isO_cO, JW_def, kO_some, sk4, cats_nil, cats_I, cats_L, cats_F, cats_D, cats_R, cats_S, Nat.reduceAdd, Nat.reduceLeDiff, inr, inq, Int.reduceEq, Int.reduceLT, Int.reduceLE, Int.reduceNeg, not_false_eq_true, not_true_eq_false, false_implies, and_self, pk_nil, pk_cons, wk_0, wk_1, wk_2, wk_3, wk_4, swt_nil, swt_cons, swl_nil, swl_cons, c3_eq, c3_lt, c3_ge, c3_le, c3_gt, c3_inr, c3_inr2, cnd_0, cnd_1, cnd_2, cnd_3, cnd_4, cnd_5, wide_I, wide_R, wide_L, wide_F, wide_D, wide_S, nw_I, nw_L, nw_F, nw_D, nw_U, nw_R, nw_S, fgo_cO, fso_cO, Option.map_some, alo_cI, ado_cD, aro_cR, ano_cI, ano_cD, lst, List.getElem?_cons_zero, List.getElem?_cons_succ, List.set_cons_zero, List.set_cons_succ, and_true, true_and, true_implies, forall_const, true_or, or_true, hg_same, hg_ne, b5]
      · simp (disch := omega) only [x_iconst, x_bipush, x_sipush, x_ldc, x_lconst, x_ldc2l, x_dconst, x_ldc2d, x_ldcf, x_iadd, x_isub, x_imul, x_idiv, x_irem, x_ishl, x_ishr, x_iand, x_ior, x_ixor, x_ladd, x_lsub, x_lmul, x_ldiv, x_lrem, x_lshl, x_lshr, x_lor, x_land, x_lcmp, x_i2l, x_l2i, x_i2b, x_i2f, x_l2f, x_l2d, x_f2d, x_d2l, x_fdiv, x_dadd, x_dsub, x_dmul, x_ddiv, x_dcmp, x_fcmp, x_dup, x_pop, x_dup2, x_objinit, x_rawF, x_rawD, gV_0, gV_1, gV_2, gV_3, gV_4, gV_S, x_iload, x_lload, x_fload, x_dload, x_aload, x_istore, x_fstore, x_astore, x_lstore, x_dstore, gX_I, x_iinc, x_getf, x_putfI, x_putfL, x_putfR, x_iald, x_bald, x_zald, x_lald, x_dald, x_aald, x_iast, x_bast, x_zast, x_last, x_dast, x_aast, x_alen, x_new, x_newa, x_anew, x_acopy, x_sld, x_slen, x_fall, x_goto, x_if, x_cmp, x_tsw, x_lsw, x_ret, x_iret, x_zret, x_lret, x_fret, x_dret, x_aret, x_callr, x_callv, x_calli, x_calls, rcv_R, isO_cO, JW_def, kO_some, sk4, cats_nil, cats_I, cats_L, cats_F, cats_D, cats_R, cats_S, Nat.reduceAdd, Nat.reduceLeDiff, inr, inq, Int.reduceEq, Int.reduceLT, Int.reduceLE, Int.reduceNeg, not_false_eq_true, not_true_eq_false, false_implies, and_self, pk_nil, pk_cons, wk_0, wk_1, wk_2, wk_3, wk_4, swt_nil, swt_cons, swl_nil, swl_cons, c3_eq, c3_lt, c3_ge, c3_le, c3_gt, c3_inr, c3_inr2, cnd_0, cnd_1, cnd_2, cnd_3, cnd_4, cnd_5, wide_I, wide_R, wide_L, wide_F, wide_D, wide_S, nw_I, nw_L, nw_F, nw_D, nw_U, nw_R, nw_S, fgo_cO, fso_cO, Option.map_some, alo_cI, ado_cD, aro_cR, ano_cI, ano_cD, lst, List.getElem?_cons_zero, List.getElem?_cons_succ, List.set_cons_zero, List.set_cons_succ, and_true, true_and, true_implies, forall_const, true_or, or_true, hg_same, hg_ne, b6]
      · exact Fr_tr t2 (Fr_tr (Fr_tr (Fr_hu _ (by omega) (by omega)) (Fr_hu _ (by omega) (by omega))) (Fr_hu _ (by omega) (by omega)))
    | succ j ih =>
      intro l h1 lb1 dp1 ch1 so1 op1 oc1 hj t1 t2 e1 e2 e3 e4 e5
      obtain ⟨b0, b1, b2, b3, b4, b5, b6⟩ := id t1
      have s3 := SetA_fr s2 t2 hpg.1 hpg.2
      have hdn : dp1 n0 = d := by rw [e2, fl_out (by omega)]; exact hdc.1
      have hln : lb1 n0 = c := by rw [e1, fl_out (by omega)]; exact hdc.2.1
      have hcn : ch1 n0 = scF Q q wf d c := by rw [e3, fl_out (by omega)]; exact hdc.2.2.1
      have hsc := sc_rng hm8 hQ hq hW hfl.1
      simp only at hsc
      have hst3 := stF_lt (d := d) (c := c) hQ hq
      have hww := hW (stF Q q d c) l (by omega) (by omega)
      rw [w73_75]
      simp (disch := omega) only [w73_0, w73_48, w73_57, w73_138, e73, x_iconst, x_bipush, x_sipush, x_ldc, x_lconst, x_ldc2l, x_dconst, x_ldc2d, x_ldcf, x_iadd, x_isub, x_imul, x_idiv, x_irem, x_ishl, x_ishr, x_iand, x_ior, x_ixor, x_ladd, x_lsub, x_lmul, x_ldiv, x_lrem, x_lshl, x_lshr, x_lor, x_land, x_lcmp, x_i2l, x_l2i, x_i2b, x_i2f, x_l2f, x_l2d, x_f2d, x_d2l, x_fdiv, x_dadd, x_dsub, x_dmul, x_ddiv, x_dcmp, x_fcmp, x_dup, x_pop, x_dup2, x_objinit, x_rawF, x_rawD, gV_0, gV_1, gV_2, gV_3, gV_4, gV_S, x_iload, x_lload, x_fload, x_dload, x_aload, x_istore, x_fstore, x_astore, x_lstore, x_dstore, gX_I, x_iinc, x_getf, x_putfI, x_putfL, x_putfR, x_iald, x_bald, x_zald, x_lald, x_dald, x_aald, x_iast, x_bast, x_zast, x_last, x_dast, x_aast, x_alen, x_new, x_newa, x_anew, x_acopy, x_sld, x_slen, x_fall, x_goto, x_if, x_cmp, x_tsw, x_lsw, x_ret, x_iret, x_zret, x_lret, x_fret, x_dret, x_aret, x_callr, x_callv, x_calli, x_calls, rcv_R, isO_cO, JW_def, kO_some, sk4, cats_nil, cats_I, cats_L, cats_F, cats_D, cats_R, cats_S, Nat.reduceAdd, Nat.reduceLeDiff, inr, inq, Int.reduceEq, Int.reduceLT, Int.reduceLE, Int.reduceNeg, not_false_eq_true, not_true_eq_false, false_implies, and_self, pk_nil, pk_cons, wk_0, wk_1, wk_2, wk_3, wk_4, swt_nil, swt_cons, swl_nil, swl_cons, c3_eq, c3_lt, c3_ge, c3_le, c3_gt, c3_inr, c3_inr2, cnd_0, cnd_1, cnd_2, cnd_3, cnd_4, cnd_5, wide_I, wide_R, wide_L, wide_F, wide_D, wide_S, nw_I, nw_L, nw_F, nw_D, nw_U, nw_R, nw_S, fgo_cO, fso_cO, Option.map_some, alo_cI, ado_cD, aro_cR, ano_cI, ano_cD, lst, List.getElem?_cons_zero, List.getElem?_cons_succ, List.set_cons_zero, List.set_cons_succ, and_true, true_and, true_implies, forall_const, true_or, or_true, hg_same, hg_ne,  b0, b1, b2, b3, b4, b5, b6, s3.1]
      refine ⟨by omega, fun q2 => by omega, fun _ => ⟨by omega, by omega, by omega, by rw [hcn]; omega, ?_⟩⟩
      · refine c_weightOf s3 (by omega) ?_
        simp (disch := omega) only [w73_0, w73_48, w73_57, w73_138, e73, x_iconst, x_bipush, x_sipush, x_ldc, x_lconst, x_ldc2l, x_dconst, x_ldc2d, x_ldcf, x_iadd, x_isub, x_imul, x_idiv, x_irem, x_ishl, x_ishr, x_iand, x_ior, x_ixor, x_ladd, x_lsub, x_lmul, x_ldiv, x_lrem, x_lshl, x_lshr, x_lor, x_land, x_lcmp, x_i2l, x_l2i, x_i2b, x_i2f, x_l2f, x_l2d, x_f2d, x_d2l, x_fdiv, x_dadd, x_dsub, x_dmul, x_ddiv, x_dcmp, x_fcmp, x_dup, x_pop, x_dup2, x_objinit, x_rawF, x_rawD, gV_0, gV_1, gV_2, gV_3, gV_4, gV_S, x_iload, x_lload, x_fload, x_dload, x_aload, x_istore, x_fstore, x_astore, x_lstore, x_dstore, gX_I, x_iinc, x_getf, x_putfI, x_putfL, x_putfR, x_iald, x_bald, x_zald, x_lald, x_dald, x_aald, x_iast, x_bast, x_zast, x_last, x_dast, x_aast, x_alen, x_new, x_newa, x_anew, x_acopy, x_sld, x_slen, x_fall, x_goto, x_if, x_cmp, x_tsw, x_lsw, x_ret, x_iret, x_zret, x_lret, x_fret, x_dret, x_aret, x_callr, x_callv, x_calli, x_calls, rcv_R, isO_cO, JW_def, kO_some, sk4, cats_nil, cats_I, cats_L, cats_F, cats_D, cats_R, cats_S, Nat.reduceAdd, Nat.reduceLeDiff, inr, inq, Int.reduceEq, Int.reduceLT, Int.reduceLE, Int.reduceNeg, not_false_eq_true, not_true_eq_false, false_implies, and_self, pk_nil, pk_cons, wk_0, wk_1, wk_2, wk_3, wk_4, swt_nil, swt_cons, swl_nil, swl_cons, c3_eq, c3_lt, c3_ge, c3_le, c3_gt, c3_inr, c3_inr2, cnd_0, cnd_1, cnd_2, cnd_3, cnd_4, cnd_5, wide_I, wide_R, wide_L, wide_F, wide_D, wide_S, nw_I, nw_L, nw_F, nw_D, nw_U, nw_R, nw_S, fgo_cO, fso_cO, Option.map_some, alo_cI, ado_cD, aro_cR, ano_cI, ano_cD, lst, List.getElem?_cons_zero, List.getElem?_cons_succ, List.set_cons_zero, List.set_cons_succ, and_true, true_and, true_implies, forall_const, true_or, or_true, hg_same, hg_ne,  b0]
        refine ⟨by omega, ?_⟩
        rw [hdn, hln, hcn, iOr_8 hc24 (by omega)]
        refine c_addNode t1 (by omega) (by omega) (by rcases e5 with ⟨-, q2, -⟩ | ⟨-, q2, -⟩ <;> omega) (fun h2 t3 t4 => ?_)
        have hfin := ih (l + 1) h2 _ _ _ _ _ _ (by omega) t3 (Fr_tr t2 t4) ?_ ?_ ?_ ?_ ?_
        · rw [show ((l + 1 : Nat) : Int) = (l : Int) + 1 by omega] at hfin
          exact hfin
        · have := fl_up lb (a := ((1 + k * m : Nat) : Int)) (b := ((1 + k * m : Nat) : Int) + (l : Int)) (by omega) (fun i => 8 * (c : Int) + (i - ((1 + k * m : Nat) : Int)))
          rw [e1, show ((1 + k * m : Nat) : Int) + ((l + 1 : Nat) : Int) = ((1 + k * m : Nat) : Int) + (l : Int) + 1 by omega, ← this]
          congr 1
          omega
        · have := fl_up dp (a := ((1 + k * m : Nat) : Int)) (b := ((1 + k * m : Nat) : Int) + (l : Int)) (by omega) (fun _ => (d : Int) + 1)
          rw [e2, show ((1 + k * m : Nat) : Int) + ((l + 1 : Nat) : Int) = ((1 + k * m : Nat) : Int) + (l : Int) + 1 by omega, ← this]
        · have := fl_up ch (a := ((1 + k * m : Nat) : Int)) (b := ((1 + k * m : Nat) : Int) + (l : Int)) (by omega) (fun i => scF Q q wf d c / 16 * wf (5 * (stF Q q d c : Int) + (i - ((1 + k * m : Nat) : Int))))
          rw [e3, show ((1 + k * m : Nat) : Int) + ((l + 1 : Nat) : Int) = ((1 + k * m : Nat) : Int) + (l : Int) + 1 by omega, ← this]
          congr 4
          omega
        · have := fl_up so (a := ((1 + k * m : Nat) : Int)) (b := ((1 + k * m : Nat) : Int) + (l : Int)) (by omega) (fun _ => 63)
          rw [e4, show ((1 + k * m : Nat) : Int) + ((l + 1 : Nat) : Int) = ((1 + k * m : Nat) : Int) + (l : Int) + 1 by omega, ← this]
        · rcases e5 with ⟨q1, q2, q3⟩ | ⟨q1, q2, q3⟩
          · left
            rw [if_pos (by omega), if_pos (by omega)]
            refine ⟨q1, by omega, ?_⟩
            have := fl_up (up op (i0 : Int) (op ((oc : Int) - 1))) (a := (oc : Int) - 1) (b := (oc : Int) - 1 + (l : Int)) (by omega) (fun i => ((1 + k * m : Nat) : Int) + (i - ((oc : Int) - 1)))
            rw [q2, q3, show (oc : Int) - 1 + ((l + 1 : Nat) : Int) = (oc : Int) - 1 + (l : Int) + 1 by omega, ← this]
            congr 1
            omega
          · right
            rw [if_neg (by omega), if_neg (by omega)]
            exact ⟨q1, q2, q3⟩
  simp (disch := omega) only [w73_0, w73_48, w73_57, w73_138, e73, x_iconst, x_bipush, x_sipush, x_ldc, x_lconst, x_ldc2l, x_dconst, x_ldc2d, x_ldcf, x_iadd, x_isub, x_imul, x_idiv, x_irem, x_ishl, x_ishr, x_iand, x_ior, x_ixor, x_ladd, x_lsub, x_lmul, x_ldiv, x_lrem, x_lshl, x_lshr, x_lor, x_land, x_lcmp, x_i2l, x_l2i, x_i2b, x_i2f, x_l2f, x_l2d, x_f2d, x_d2l, x_fdiv, x_dadd, x_dsub, x_dmul, x_ddiv, x_dcmp, x_fcmp, x_dup, x_pop, x_dup2, x_objinit, x_rawF, x_rawD, gV_0, gV_1, gV_2, gV_3, gV_4, gV_S, x_iload, x_lload, x_fload, x_dload, x_aload, x_istore, x_fstore, x_astore, x_lstore, x_dstore, gX_I, x_iinc, x_getf, x_putfI, x_putfL, x_putfR, x_iald, x_bald, x_zald, x_lald, x_dald, x_aald, x_iast, x_bast, x_zast, x_last, x_dast, x_aast, x_alen, x_new, x_newa, x_anew, x_acopy, x_sld, x_slen, x_fall, x_goto, x_if, x_cmp, x_tsw, x_lsw, x_ret, x_iret, x_zret, x_lret, x_fret, x_dret, x_aret, x_callr, x_callv, x_calli, x_calls, rcv_R, isO_cO, JW_def, kO_some, sk4, cats_nil, cats_I, cats_L, cats_F, cats_D, cats_R, cats_S, Nat.reduceAdd, Nat.reduceLeDiff, inr, inq, Int.reduceEq, Int.reduceLT, Int.reduceLE, Int.reduceNeg, not_false_eq_true, not_true_eq_false, false_implies, and_self, pk_nil, pk_cons, wk_0, wk_1, wk_2, wk_3, wk_4, swt_nil, swt_cons, swl_nil, swl_cons, c3_eq, c3_lt, c3_ge, c3_le, c3_gt, c3_inr, c3_inr2, cnd_0, cnd_1, cnd_2, cnd_3, cnd_4, cnd_5, wide_I, wide_R, wide_L, wide_F, wide_D, wide_S, nw_I, nw_L, nw_F, nw_D, nw_U, nw_R, nw_S, fgo_cO, fso_cO, Option.map_some, alo_cI, ado_cD, aro_cR, ano_cI, ano_cD, lst, List.getElem?_cons_zero, List.getElem?_cons_succ, List.set_cons_zero, List.set_cons_succ, and_true, true_and, true_implies, forall_const, true_or, or_true, hg_same, hg_ne,  a0, a1, a2, a3, a4, a5, a6]
  rw [p2]
  generalize hh1 : hu (hu h g (cO 1 [pI q, pR (g + 1), pR (g + 2), pR (g + 3), pR (g + 4), pR (g + 5), pR (g + 6), pI ((oc : Int) - 1), pI k, pI m])) (g + 6) (cI 0 64 (up op i0 (op ((oc : Int) - 1)))) = h1
  have t1 : GrA h1 g q lb dp ch so ns (up op i0 (op ((oc : Int) - 1))) ((oc : Int) - 1) k m := by
    rw [← hh1]
    refine ⟨?_, ?_, ?_, ?_, ?_, ?_, ?_⟩
    · simp (disch := omega) only [x_iconst, x_bipush, x_sipush, x_ldc, x_lconst, x_ldc2l, x_dconst, x_ldc2d, x_ldcf, x_iadd, x_isub, x_imul, x_idiv, x_irem, x_ishl, x_ishr, x_iand, x_ior, x_ixor, x_ladd, x_lsub, x_lmul, x_ldiv, x_lrem, x_lshl, x_lshr, x_lor, x_land, x_lcmp, x_i2l, x_l2i, x_i2b, x_i2f, x_l2f, x_l2d, x_f2d, x_d2l, x_fdiv, x_dadd, x_dsub, x_dmul, x_ddiv, x_dcmp, x_fcmp, x_dup, x_pop, x_dup2, x_objinit, x_rawF, x_rawD, gV_0, gV_1, gV_2, gV_3, gV_4, gV_S, x_iload, x_lload, x_fload, x_dload, x_aload, x_istore, x_fstore, x_astore, x_lstore, x_dstore, gX_I, x_iinc, x_getf, x_putfI, x_putfL, x_putfR, x_iald, x_bald, x_zald, x_lald, x_dald, x_aald, x_iast, x_bast, x_zast, x_last, x_dast, x_aast, x_alen, x_new, x_newa, x_anew, x_acopy, x_sld, x_slen, x_fall, x_goto, x_if, x_cmp, x_tsw, x_lsw, x_ret, x_iret, x_zret, x_lret, x_fret, x_dret, x_aret, x_callr, x_callv, x_calli, x_calls, rcv_R, isO_cO, JW_def, kO_some, sk4, cats_nil, cats_I, cats_L, cats_F, cats_D, cats_R, cats_S, Nat.reduceAdd, Nat.reduceLeDiff, inr, inq, Int.reduceEq, Int.reduceLT, Int.reduceLE, Int.reduceNeg, not_false_eq_true, not_true_eq_false, false_implies, and_self, pk_nil, pk_cons, wk_0, wk_1, wk_2, wk_3, wk_4, swt_nil, swt_cons, swl_nil, swl_cons, c3_eq, c3_lt, c3_ge, c3_le, c3_gt, c3_inr, c3_inr2, cnd_0, cnd_1, cnd_2, cnd_3, cnd_4, cnd_5, wide_I, wide_R, wide_L, wide_F, wide_D, wide_S, nw_I, nw_L, nw_F, nw_D, nw_U, nw_R, nw_S, fgo_cO, fso_cO, Option.map_some, alo_cI, ado_cD, aro_cR, ano_cI, ano_cD, lst, List.getElem?_cons_zero, List.getElem?_cons_succ, List.set_cons_zero, List.set_cons_succ, and_true, true_and, true_implies, forall_const, true_or, or_true, hg_same, hg_ne]
    · simp (disch := omega) only [x_iconst, x_bipush, x_sipush, x_ldc, x_lconst, x_ldc2l, x_dconst, x_ldc2d, x_ldcf, x_iadd, x_isub, x_imul, x_idiv, x_irem, x_ishl, x_ishr, x_iand, x_ior, x_ixor, x_ladd, x_lsub, x_lmul, x_ldiv, x_lrem, x_lshl, x_lshr, x_lor, x_land, x_lcmp, x_i2l, x_l2i, x_i2b, x_i2f, x_l2f, x_l2d, x_f2d, x_d2l, x_fdiv, x_dadd, x_dsub, x_dmul, x_ddiv, x_dcmp, x_fcmp, x_dup, x_pop, x_dup2, x_objinit, x_rawF, x_rawD, gV_0, gV_1, gV_2, gV_3, gV_4, gV_S, x_iload, x_lload, x_fload, x_dload, x_aload, x_istore, x_fstore, x_astore, x_lstore, x_dstore, gX_I, x_iinc, x_getf, x_putfI, x_putfL, x_putfR, x_iald, x_bald, x_zald, x_lald, x_dald, x_aald, x_iast, x_bast, x_zast, x_last, x_dast, x_aast, x_alen, x_new, x_newa, x_anew, x_acopy, x_sld, x_slen, x_fall, x_goto, x_if, x_cmp, x_tsw, x_lsw, x_ret, x_iret, x_zret, x_lret, x_fret, x_dret, x_aret, x_callr, x_callv, x_calli, x_calls, rcv_R, isO_cO, JW_def, kO_some, sk4, cats_nil, cats_I, cats_L, cats_F, cats_D, cats_R, cats_S, Nat.reduceAdd, Nat.reduceLeDiff, inr, inq, Int.reduceEq, Int.reduceLT, Int.reduceLE, Int.reduceNeg, not_false_eq_true, not_true_eq_false, false_implies, and_self, pk_nil, pk_cons, wk_0, wk_1, wk_2, wk_3, wk_4, swt_nil, swt_cons, swl_nil, swl_cons, c3_eq, c3_lt, c3_ge, c3_le, c3_gt, c3_inr, c3_inr2, cnd_0, cnd_1, cnd_2, cnd_3, cnd_4, cnd_5, wide_I, wide_R, wide_L, wide_F, wide_D, wide_S, nw_I, nw_L, nw_F, nw_D, nw_U, nw_R, nw_S, fgo_cO, fso_cO, Option.map_some, alo_cI, ado_cD, aro_cR, ano_cI, ano_cD, lst, List.getElem?_cons_zero, List.getElem?_cons_succ, List.set_cons_zero, List.set_cons_succ, and_true, true_and, true_implies, forall_const, true_or, or_true, hg_same, hg_ne, a1]
    · simp (disch := omega) only [x_iconst, x_bipush, x_sipush, x_ldc, x_lconst, x_ldc2l, x_dconst, x_ldc2d, x_ldcf, x_iadd, x_isub, x_imul, x_idiv, x_irem, x_ishl, x_ishr, x_iand, x_ior, x_ixor, x_ladd, x_lsub, x_lmul, x_ldiv, x_lrem, x_lshl, x_lshr, x_lor, x_land, x_lcmp, x_i2l, x_l2i, x_i2b, x_i2f, x_l2f, x_l2d, x_f2d, x_d2l, x_fdiv, x_dadd, x_dsub, x_dmul, x_ddiv, x_dcmp, x_fcmp, x_dup, x_pop, x_dup2, x_objinit, x_rawF, x_rawD, gV_0, gV_1, gV_2, gV_3, gV_4, gV_S, x_iload, x_lload, x_fload, x_dload, x_aload, x_istore, x_fstore, x_astore, x_lstore, x_dstore, gX_I, x_iinc, x_getf, x_putfI, x_putfL, x_putfR, x_iald, x_bald, x_zald, x_lald, x_dald, x_aald, x_iast, x_bast, x_zast, x_last, x_dast, x_aast, x_alen, x_new, x_newa, x_anew, x_acopy, x_sld, x_slen, x_fall, x_goto, x_if, x_cmp, x_tsw, x_lsw, x_ret, x_iret, x_zret, x_lret, x_fret, x_dret, x_aret, x_callr, x_callv, x_calli, x_calls, rcv_R, isO_cO, JW_def, kO_some, sk4, cats_nil, cats_I, cats_L, cats_F, cats_D, cats_R, cats_S, Nat.reduceAdd, Nat.reduceLeDiff, inr, inq, Int.reduceEq, Int.reduceLT, Int.reduceLE, Int.reduceNeg, not_false_eq_true, not_true_eq_false, false_implies, and_self, pk_nil, pk_cons, wk_0, wk_1, wk_2, wk_3, wk_4, swt_nil, swt_cons, swl_nil, swl_cons, c3_eq, c3_lt, c3_ge, c3_le, c3_gt, c3_inr, c3_inr2, cnd_0, cnd_1, cnd_2, cnd_3, cnd_4, cnd_5, wide_I, wide_R, wide_L, wide_F, wide_D, wide_S, nw_I, nw_L, nw_F, nw_D, nw_U, nw_R, nw_S, fgo_cO, fso_cO, Option.map_some, alo_cI, ado_cD, aro_cR, ano_cI, ano_cD, lst, List.getElem?_cons_zero, List.getElem?_cons_succ, List.set_cons_zero, List.set_cons_succ, and_true, true_and, true_implies, forall_const, true_or, or_true, hg_same, hg_ne, a2]
    · simp (disch := omega) only [x_iconst, x_bipush, x_sipush, x_ldc, x_lconst, x_ldc2l, x_dconst, x_ldc2d, x_ldcf, x_iadd, x_isub, x_imul, x_idiv, x_irem, x_ishl, x_ishr, x_iand, x_ior, x_ixor, x_ladd, x_lsub, x_lmul, x_ldiv, x_lrem, x_lshl, x_lshr, x_lor, x_land, x_lcmp, x_i2l, x_l2i, x_i2b, x_i2f, x_l2f, x_l2d, x_f2d, x_d2l, x_fdiv, x_dadd, x_dsub, x_dmul, x_ddiv, x_dcmp, x_fcmp, x_dup, x_pop, x_dup2, x_objinit, x_rawF, x_rawD, gV_0, gV_1, gV_2, gV_3, gV_4, gV_S, x_iload, x_lload, x_fload, x_dload, x_aload, x_istore, x_fstore, x_astore, x_lstore, x_dstore, gX_I, x_iinc, x_getf, x_putfI, x_putfL, x_putfR, x_iald, x_bald, x_zald, x_lald, x_dald, x_aald, x_iast, x_bast, x_zast, x_last, x_dast, x_aast, x_alen, x_new, x_newa, x_anew, x_acopy, x_sld, x_slen, x_fall, x_goto, x_if, x_cmp, x_tsw, x_lsw, x_ret, x_iret, x_zret, x_lret, x_fret, x_dret, x_aret, x_callr, x_callv, x_calli, x_calls, rcv_R, isO_cO, JW_def, kO_some, sk4, cats_nil, cats_I, cats_L, cats_F, cats_D, cats_R, cats_S, Nat.reduceAdd, Nat.reduceLeDiff, inr, inq, Int.reduceEq, Int.reduceLT, Int.reduceLE, Int.reduceNeg, not_false_eq_true, not_true_eq_false, false_implies, and_self, pk_nil, pk_cons, wk_0, wk_1, wk_2, wk_3, wk_4, swt_nil, swt_cons, swl_nil, swl_cons, c3_eq, c3_lt, c3_ge, c3_le, c3_gt, c3_inr, c3_inr2, cnd_0, cnd_1, cnd_2, cnd_3, cnd_4, cnd_5, wide_I, wide_R, wide_L, wide_F, wide_D, wide_S, nw_I, nw_L, nw_F, nw_D, nw_U, nw_R, nw_S, fgo_cO, fso_cO, Option.map_some, alo_cI, ado_cD, aro_cR, ano_cI, ano_cD, lst, List.getElem?_cons_zero, List.getElem?_cons_succ, List.set_cons_zero, List.set_cons_succ, and_true, true_and, true_implies, forall_const, true_or, or_true, hg_same, hg_ne, a3]
    · simp (disch := omega) only [x_iconst, x_bipush, x_sipush, x_ldc, x_lconst, x_ldc2l, x_dconst, x_ldc2d, x_ldcf, x_iadd, x_isub, x_imul, x_idiv, x_irem, x_ishl, x_ishr, x_iand, x_ior, x_ixor, x_ladd, x_lsub, x_lmul, x_ldiv, x_lrem, x_lshl, x_lshr, x_lor, x_land, x_lcmp, x_i2l, x_l2i, x_i2b, x_i2f, x_l2f, x_l2d, x_f2d, x_d2l, x_fdiv, x_dadd, x_dsub, x_dmul, x_ddiv, x_dcmp, x_fcmp, x_dup, x_pop, x_dup2, x_objinit, x_rawF, x_rawD, gV_0, gV_1, gV_2, gV_3, gV_4, gV_S, x_iload, x_lload, x_fload, x_dload, x_aload, x_istore, x_fstore, x_astore, x_lstore, x_dstore, gX_I, x_iinc, x_getf, x_putfI, x_putfL, x_putfR, x_iald, x_bald, x_zald, x_lald, x_dald, x_aald, x_iast, x_bast, x_zast, x_last, x_dast, x_aast, x_alen, x_new, x_newa, x_anew, x_acopy, x_sld, x_slen, x_fall, x_goto, x_if, x_cmp, x_tsw, x_lsw, x_ret, x_iret, x_zret, x_lret, x_fret, x_dret, x_aret, x_callr, x_callv, x_calli, x_calls, rcv_R, isO_cO, JW_def, kO_some, sk4, cats_nil, cats_I, cats_L, cats_F, cats_D, cats_R, cats_S, Nat.reduceAdd, Nat.reduceLeDiff, inr, inq, Int.reduceEq, Int.reduceLT, Int.reduceLE, Int.reduceNeg, not_false_eq_true, not_true_eq_false, false_implies, and_self, pk_nil, pk_cons, wk_0, wk_1, wk_2, wk_3, wk_4, swt_nil, swt_cons, swl_nil, swl_cons, c3_eq, c3_lt, c3_ge, c3_le, c3_gt, c3_inr, c3_inr2, cnd_0, cnd_1, cnd_2, cnd_3, cnd_4, cnd_5, wide_I, wide_R, wide_L, wide_F, wide_D, wide_S, nw_I, nw_L, nw_F, nw_D, nw_U, nw_R, nw_S, fgo_cO, fso_cO, Option.map_some, alo_cI, ado_cD, aro_cR, ano_cI, ano_cD, lst, List.getElem?_cons_zero, List.getElem?_cons_succ, List.set_cons_zero, List.set_cons_succ, and_true, true_and, true_implies, forall_const, true_or, or_true, hg_same, hg_ne, a4]
    · simp (disch := omega) only [x_iconst, x_bipush, x_sipush, x_ldc, x_lconst, x_ldc2l, x_dconst, x_ldc2d, x_ldcf, x_iadd, x_isub, x_imul, x_idiv, x_irem, x_ishl, x_ishr, x_iand, x_ior, x_ixor, x_ladd, x_lsub, x_lmul, x_ldiv, x_lrem, x_lshl, x_lshr, x_lor, x_land, x_lcmp, x_i2l, x_l2i, x_i2b, x_i2f, x_l2f, x_l2d, x_f2d, x_d2l, x_fdiv, x_dadd, x_dsub, x_dmul, x_ddiv, x_dcmp, x_fcmp, x_dup, x_pop, x_dup2, x_objinit, x_rawF, x_rawD, gV_0, gV_1, gV_2, gV_3, gV_4, gV_S, x_iload, x_lload, x_fload, x_dload, x_aload, x_istore, x_fstore, x_astore, x_lstore, x_dstore, gX_I, x_iinc, x_getf, x_putfI, x_putfL, x_putfR, x_iald, x_bald, x_zald, x_lald, x_dald, x_aald, x_iast, x_bast, x_zast, x_last, x_dast, x_aast, x_alen, x_new, x_newa, x_anew, x_acopy, x_sld, x_slen, x_fall, x_goto, x_if, x_cmp, x_tsw, x_lsw, x_ret, x_iret, x_zret, x_lret, x_fret, x_dret, x_aret, x_callr, x_callv, x_calli, x_calls, rcv_R, isO_cO, JW_def, kO_some, sk4, cats_nil, cats_I, cats_L, cats_F, cats_D, cats_R, cats_S, Nat.reduceAdd, Nat.reduceLeDiff, inr, inq, Int.reduceEq, Int.reduceLT, Int.reduceLE, Int.reduceNeg, not_false_eq_true, not_true_eq_false, false_implies, and_self, pk_nil, pk_cons, wk_0, wk_1, wk_2, wk_3, wk_4, swt_nil, swt_cons, swl_nil, swl_cons, c3_eq, c3_lt, c3_ge, c3_le, c3_gt, c3_inr, c3_inr2, cnd_0, cnd_1, cnd_2, cnd_3, cnd_4, cnd_5, wide_I, wide_R, wide_L, wide_F, wide_D, wide_S, nw_I, nw_L, nw_F, nw_D, nw_U, nw_R, nw_S, fgo_cO, fso_cO, Option.map_some, alo_cI, ado_cD, aro_cR, ano_cI, ano_cD, lst, List.getElem?_cons_zero, List.getElem?_cons_succ, List.set_cons_zero, List.set_cons_succ, and_true, true_and, true_implies, forall_const, true_or, or_true, hg_same, hg_ne, a5]
    · simp (disch := omega) only [x_iconst, x_bipush, x_sipush, x_ldc, x_lconst, x_ldc2l, x_dconst, x_ldc2d, x_ldcf, x_iadd, x_isub, x_imul, x_idiv, x_irem, x_ishl, x_ishr, x_iand, x_ior, x_ixor, x_ladd, x_lsub, x_lmul, x_ldiv, x_lrem, x_lshl, x_lshr, x_lor, x_land, x_lcmp, x_i2l, x_l2i, x_i2b, x_i2f, x_l2f, x_l2d, x_f2d, x_d2l, x_fdiv, x_dadd, x_dsub, x_dmul, x_ddiv, x_dcmp, x_fcmp, x_dup, x_pop, x_dup2, x_objinit, x_rawF, x_rawD, gV_0, gV_1, gV_2, gV_3, gV_4, gV_S, x_iload, x_lload, x_fload, x_dload, x_aload, x_istore, x_fstore, x_astore, x_lstore, x_dstore, gX_I, x_iinc, x_getf, x_putfI, x_putfL, x_putfR, x_iald, x_bald, x_zald, x_lald, x_dald, x_aald, x_iast, x_bast, x_zast, x_last, x_dast, x_aast, x_alen, x_new, x_newa, x_anew, x_acopy, x_sld, x_slen, x_fall, x_goto, x_if, x_cmp, x_tsw, x_lsw, x_ret, x_iret, x_zret, x_lret, x_fret, x_dret, x_aret, x_callr, x_callv, x_calli, x_calls, rcv_R, isO_cO, JW_def, kO_some, sk4, cats_nil, cats_I, cats_L, cats_F, cats_D, cats_R, cats_S, Nat.reduceAdd, Nat.reduceLeDiff, inr, inq, Int.reduceEq, Int.reduceLT, Int.reduceLE, Int.reduceNeg, not_false_eq_true, not_true_eq_false, false_implies, and_self, pk_nil, pk_cons, wk_0, wk_1, wk_2, wk_3, wk_4, swt_nil, swt_cons, swl_nil, swl_cons, c3_eq, c3_lt, c3_ge, c3_le, c3_gt, c3_inr, c3_inr2, cnd_0, cnd_1, cnd_2, cnd_3, cnd_4, cnd_5, wide_I, wide_R, wide_L, wide_F, wide_D, wide_S, nw_I, nw_L, nw_F, nw_D, nw_U, nw_R, nw_S, fgo_cO, fso_cO, Option.map_some, alo_cI, ado_cD, aro_cR, ano_cI, ano_cD, lst, List.getElem?_cons_zero, List.getElem?_cons_succ, List.set_cons_zero, List.set_cons_succ, and_true, true_and, true_implies, forall_const, true_or, or_true, hg_same, hg_ne]
  have t2 : Fr h h1 g (g + 7) := by
    rw [← hh1]
    exact Fr_tr (Fr_hu _ (by omega) (by omega)) (Fr_hu _ (by omega) (by omega))
  have s3 := SetA_fr s2 t2 hpg.1 hpg.2
  have e1k : (1 : Int) + (k : Int) * (m : Int) = ((1 + k * m : Nat) : Int) := by
    rw [Int.natCast_add, Int.natCast_mul]
    rfl
  have hstart : WP 73 75 [pR g, pI i0, pR p, pI n0, pI (stF Q q d c), pI ((1 + k * m : Nat) : Int), pI ((0 : Nat) : Int)] [] h1 lim K := by
    refine loop m 0 h1 _ _ _ _ _ _ (by omega) t1 t2 ?_ ?_ ?_ ?_ ?_
    · rw [show ((1 + k * m : Nat) : Int) + ((0 : Nat) : Int) = ((1 + k * m : Nat) : Int) by omega, fl_0]
    · rw [show ((1 + k * m : Nat) : Int) + ((0 : Nat) : Int) = ((1 + k * m : Nat) : Int) by omega, fl_0]
    · rw [show ((1 + k * m : Nat) : Int) + ((0 : Nat) : Int) = ((1 + k * m : Nat) : Int) by omega, fl_0]
    · rw [show ((1 + k * m : Nat) : Int) + ((0 : Nat) : Int) = ((1 + k * m : Nat) : Int) by omega, fl_0]
    · by_cases hd7 : d + 1 < 8
      · left
        refine ⟨hd7, by omega, ?_⟩
        rw [show (oc : Int) - 1 + ((0 : Nat) : Int) = (oc : Int) - 1 by omega, fl_0]
      · exact Or.inr ⟨hd7, rfl, rfl⟩
  have hdz : dp n0 = d := hdc.1
  refine ⟨by omega, by omega, by omega, by omega, by rw [hdz]; omega, fun q1 => ?_, fun q1 => ?_⟩
  · refine c_lastLetter t1 (by omega) hdc.2.1 (by omega) ?_
    simp (disch := omega) only [w73_0, w73_48, w73_57, w73_138, e73, x_iconst, x_bipush, x_sipush, x_ldc, x_lconst, x_ldc2l, x_dconst, x_ldc2d, x_ldcf, x_iadd, x_isub, x_imul, x_idiv, x_irem, x_ishl, x_ishr, x_iand, x_ior, x_ixor, x_ladd, x_lsub, x_lmul, x_ldiv, x_lrem, x_lshl, x_lshr, x_lor, x_land, x_lcmp, x_i2l, x_l2i, x_i2b, x_i2f, x_l2f, x_l2d, x_f2d, x_d2l, x_fdiv, x_dadd, x_dsub, x_dmul, x_ddiv, x_dcmp, x_fcmp, x_dup, x_pop, x_dup2, x_objinit, x_rawF, x_rawD, gV_0, gV_1, gV_2, gV_3, gV_4, gV_S, x_iload, x_lload, x_fload, x_dload, x_aload, x_istore, x_fstore, x_astore, x_lstore, x_dstore, gX_I, x_iinc, x_getf, x_putfI, x_putfL, x_putfR, x_iald, x_bald, x_zald, x_lald, x_dald, x_aald, x_iast, x_bast, x_zast, x_last, x_dast, x_aast, x_alen, x_new, x_newa, x_anew, x_acopy, x_sld, x_slen, x_fall, x_goto, x_if, x_cmp, x_tsw, x_lsw, x_ret, x_iret, x_zret, x_lret, x_fret, x_dret, x_aret, x_callr, x_callv, x_calli, x_calls, rcv_R, isO_cO, JW_def, kO_some, sk4, cats_nil, cats_I, cats_L, cats_F, cats_D, cats_R, cats_S, Nat.reduceAdd, Nat.reduceLeDiff, inr, inq, Int.reduceEq, Int.reduceLT, Int.reduceLE, Int.reduceNeg, not_false_eq_true, not_true_eq_false, false_implies, and_self, pk_nil, pk_cons, wk_0, wk_1, wk_2, wk_3, wk_4, swt_nil, swt_cons, swl_nil, swl_cons, c3_eq, c3_lt, c3_ge, c3_le, c3_gt, c3_inr, c3_inr2, cnd_0, cnd_1, cnd_2, cnd_3, cnd_4, cnd_5, wide_I, wide_R, wide_L, wide_F, wide_D, wide_S, nw_I, nw_L, nw_F, nw_D, nw_U, nw_R, nw_S, fgo_cO, fso_cO, Option.map_some, alo_cI, ado_cD, aro_cR, ano_cI, ano_cD, lst, List.getElem?_cons_zero, List.getElem?_cons_succ, List.set_cons_zero, List.set_cons_succ, and_true, true_and, true_implies, forall_const, true_or, or_true, hg_same, hg_ne,  s3.1]
    refine c_behind s3 (by omega) (by omega) ?_
    simp (disch := omega) only [w73_0, w73_48, w73_57, w73_138, e73, x_iconst, x_bipush, x_sipush, x_ldc, x_lconst, x_ldc2l, x_dconst, x_ldc2d, x_ldcf, x_iadd, x_isub, x_imul, x_idiv, x_irem, x_ishl, x_ishr, x_iand, x_ior, x_ixor, x_ladd, x_lsub, x_lmul, x_ldiv, x_lrem, x_lshl, x_lshr, x_lor, x_land, x_lcmp, x_i2l, x_l2i, x_i2b, x_i2f, x_l2f, x_l2d, x_f2d, x_d2l, x_fdiv, x_dadd, x_dsub, x_dmul, x_ddiv, x_dcmp, x_fcmp, x_dup, x_pop, x_dup2, x_objinit, x_rawF, x_rawD, gV_0, gV_1, gV_2, gV_3, gV_4, gV_S, x_iload, x_lload, x_fload, x_dload, x_aload, x_istore, x_fstore, x_astore, x_lstore, x_dstore, gX_I, x_iinc, x_getf, x_putfI, x_putfL, x_putfR, x_iald, x_bald, x_zald, x_lald, x_dald, x_aald, x_iast, x_bast, x_zast, x_last, x_dast, x_aast, x_alen, x_new, x_newa, x_anew, x_acopy, x_sld, x_slen, x_fall, x_goto, x_if, x_cmp, x_tsw, x_lsw, x_ret, x_iret, x_zret, x_lret, x_fret, x_dret, x_aret, x_callr, x_callv, x_calli, x_calls, rcv_R, isO_cO, JW_def, kO_some, sk4, cats_nil, cats_I, cats_L, cats_F, cats_D, cats_R, cats_S, Nat.reduceAdd, Nat.reduceLeDiff, inr, inq, Int.reduceEq, Int.reduceLT, Int.reduceLE, Int.reduceNeg, not_false_eq_true, not_true_eq_false, false_implies, and_self, pk_nil, pk_cons, wk_0, wk_1, wk_2, wk_3, wk_4, swt_nil, swt_cons, swl_nil, swl_cons, c3_eq, c3_lt, c3_ge, c3_le, c3_gt, c3_inr, c3_inr2, cnd_0, cnd_1, cnd_2, cnd_3, cnd_4, cnd_5, wide_I, wide_R, wide_L, wide_F, wide_D, wide_S, nw_I, nw_L, nw_F, nw_D, nw_U, nw_R, nw_S, fgo_cO, fso_cO, Option.map_some, alo_cI, ado_cD, aro_cR, ano_cI, ano_cD, lst, List.getElem?_cons_zero, List.getElem?_cons_succ, List.set_cons_zero, List.set_cons_succ, and_true, true_and, true_implies, forall_const, true_or, or_true, hg_same, hg_ne,  t1.1]
    have hst : stF Q q d c = c % 8 % Q := by
      unfold stF
      rw [if_neg (by omega)]
    rw [hst] at hstart
    rw [e1k, show ((c % 8 : Nat) : Int) % (Q : Int) = ((c % 8 % Q : Nat) : Int) from (Int.natCast_emod _ _).symm]
    exact hstart
  · have hst : stF Q q d c = q := by
      unfold stF
      rw [if_pos (by omega)]
    rw [hst] at hstart
    rw [e1k]
    exact hstart
end GRT
set_option maxRecDepth 20000 in
set_option maxHeartbeats 4000000 in
theorem c_min {h : Hp} {a b : Int} {lim : Nat × Nat} {K : QT} (ha : inr a) (hb : inr b) (hK : K (pI (if a ≤ b then a else b)) h) : WM 69 [pI a, pI b] h lim K := by
  unfold inr at ha hb
  simp (disch := omega) only [w69_0, w69_9, w69_10, e69, x_iconst, x_bipush, x_sipush, x_ldc, x_lconst, x_ldc2l, x_dconst, x_ldc2d, x_ldcf, x_iadd, x_isub, x_imul, x_idiv, x_irem, x_ishl, x_ishr, x_iand, x_ior, x_ixor, x_ladd, x_lsub, x_lmul, x_ldiv, x_lrem, x_lshl, x_lshr, x_lor, x_land, x_lcmp, x_i2l, x_l2i, x_i2b, x_i2f, x_l2f, x_l2d, x_f2d, x_d2l, x_fdiv, x_dadd, x_dsub, x_dmul, x_ddiv, x_dcmp, x_fcmp, x_dup, x_pop, x_dup2, x_objinit, x_rawF, x_rawD, gV_0, gV_1, gV_2, gV_3, gV_4, gV_S, x_iload, x_lload, x_fload, x_dload, x_aload, x_istore, x_fstore, x_astore, x_lstore, x_dstore, gX_I, x_iinc, x_getf, x_putfI, x_putfL, x_putfR, x_iald, x_bald, x_zald, x_lald, x_dald, x_aald, x_iast, x_bast, x_zast, x_last, x_dast, x_aast, x_alen, x_new, x_newa, x_anew, x_acopy, x_sld, x_slen, x_fall, x_goto, x_if, x_cmp, x_tsw, x_lsw, x_ret, x_iret, x_zret, x_lret, x_fret, x_dret, x_aret, x_callr, x_callv, x_calli, x_calls, rcv_R, isO_cO, JW_def, kO_some, sk4, cats_nil, cats_I, cats_L, cats_F, cats_D, cats_R, cats_S, Nat.reduceAdd, Nat.reduceLeDiff, inr, inq, Int.reduceEq, Int.reduceLT, Int.reduceLE, Int.reduceNeg, not_false_eq_true, not_true_eq_false, false_implies, and_self, pk_nil, pk_cons, wk_0, wk_1, wk_2, wk_3, wk_4, swt_nil, swt_cons, swl_nil, swl_cons, c3_eq, c3_lt, c3_ge, c3_le, c3_gt, c3_inr, c3_inr2, cnd_0, cnd_1, cnd_2, cnd_3, cnd_4, cnd_5, wide_I, wide_R, wide_L, wide_F, wide_D, wide_S, nw_I, nw_L, nw_F, nw_D, nw_U, nw_R, nw_S, fgo_cO, fso_cO, Option.map_some, alo_cI, ado_cD, aro_cR, ano_cI, ano_cD, lst, List.getElem?_cons_zero, List.getElem?_cons_succ, List.set_cons_zero, List.set_cons_succ, and_true, true_and, true_implies, forall_const, true_or, or_true, hg_same, hg_ne]
  refine ⟨⟨ha, hb⟩, fun q => ?_, fun q => ?_⟩
  · rw [if_neg (by omega)] at hK
    exact hK
  · rw [if_pos (by omega)] at hK
    exact hK
set_option maxRecDepth 20000 in
set_option maxHeartbeats 4000000 in
theorem c_max {h : Hp} {a b : Int} {lim : Nat × Nat} {K : QT} (ha : inr a) (hb : inr b) (hK : K (pI (if a < b then b else a)) h) : WM 68 [pI a, pI b] h lim K := by
  unfold inr at ha hb
  simp (disch := omega) only [w68_0, w68_9, w68_10, e68, x_iconst, x_bipush, x_sipush, x_ldc, x_lconst, x_ldc2l, x_dconst, x_ldc2d, x_ldcf, x_iadd, x_isub, x_imul, x_idiv, x_irem, x_ishl, x_ishr, x_iand, x_ior, x_ixor, x_ladd, x_lsub, x_lmul, x_ldiv, x_lrem, x_lshl, x_lshr, x_lor, x_land, x_lcmp, x_i2l, x_l2i, x_i2b, x_i2f, x_l2f, x_l2d, x_f2d, x_d2l, x_fdiv, x_dadd, x_dsub, x_dmul, x_ddiv, x_dcmp, x_fcmp, x_dup, x_pop, x_dup2, x_objinit, x_rawF, x_rawD, gV_0, gV_1, gV_2, gV_3, gV_4, gV_S, x_iload, x_lload, x_fload, x_dload, x_aload, x_istore, x_fstore, x_astore, x_lstore, x_dstore, gX_I, x_iinc, x_getf, x_putfI, x_putfL, x_putfR, x_iald, x_bald, x_zald, x_lald, x_dald, x_aald, x_iast, x_bast, x_zast, x_last, x_dast, x_aast, x_alen, x_new, x_newa, x_anew, x_acopy, x_sld, x_slen, x_fall, x_goto, x_if, x_cmp, x_tsw, x_lsw, x_ret, x_iret, x_zret, x_lret, x_fret, x_dret, x_aret, x_callr, x_callv, x_calli, x_calls, rcv_R, isO_cO, JW_def, kO_some, sk4, cats_nil, cats_I, cats_L, cats_F, cats_D, cats_R, cats_S, Nat.reduceAdd, Nat.reduceLeDiff, inr, inq, Int.reduceEq, Int.reduceLT, Int.reduceLE, Int.reduceNeg, not_false_eq_true, not_true_eq_false, false_implies, and_self, pk_nil, pk_cons, wk_0, wk_1, wk_2, wk_3, wk_4, swt_nil, swt_cons, swl_nil, swl_cons, c3_eq, c3_lt, c3_ge, c3_le, c3_gt, c3_inr, c3_inr2, cnd_0, cnd_1, cnd_2, cnd_3, cnd_4, cnd_5, wide_I, wide_R, wide_L, wide_F, wide_D, wide_S, nw_I, nw_L, nw_F, nw_D, nw_U, nw_R, nw_S, fgo_cO, fso_cO, Option.map_some, alo_cI, ado_cD, aro_cR, ano_cI, ano_cD, lst, List.getElem?_cons_zero, List.getElem?_cons_succ, List.set_cons_zero, List.set_cons_succ, and_true, true_and, true_implies, forall_const, true_or, or_true, hg_same, hg_ne]
  refine ⟨⟨ha, hb⟩, fun q => ?_, fun q => ?_⟩
  · rw [if_pos q] at hK
    exact hK
  · rw [if_neg q] at hK
    exact hK
section GRW
variable {p w : Nat} {m Q q : Nat} {wd : Int} {wf : Int → Int}
theorem GR_init {m : Nat} {φ : Nat → Nat → Int} (hφ : φ 0 0 = 4294967296) (lb dp ch so ns op : Int → Int) : GR m φ 0 (fun _ => (0, 0)) (up lb 0 0) (up dp 0 0) (up ch 0 4294967296) (up so 0 63) ns (up op 0 0) 1 := by
  refine ⟨rfl, ?_, ?_, ?_, ?_, ?_, ?_, ?_, ?_⟩
  · intro n hn
    have : n = 0 := by omega
    subst this
    exact ⟨up_same _ _ _, up_same _ _ _, by rw [hφ]; exact up_same _ _ _, false, by rw [TK_0]; exact List.mem_cons_self⟩
  · intro n n' hn hn' _
    omega
  · intro j hj
    omega
  · intro n hn
    have : n = 0 := by omega
    subst this
    exact Or.inl ⟨up_same _ _ _, rfl⟩
  · intro i hi
    have : i = 0 := by omega
    subst this
    exact ⟨0, by omega, up_same _ _ _, up_same _ _ _, by decide⟩
  · intro n hn _ _
    have : n = 0 := by omega
    subst this
    exact ⟨0, by omega, up_same _ _ _⟩
  · intro i i' hi hi' _
    omega
  · omega
/-- what a Growth may hold: nothing yet, or the first k splits -/
def GroX (h : Hp) (g m Q q : Nat) (wf : Int → Int) (k : Nat) : Prop := ∃ (wn : Nat → Nat × Nat) (lb dp ch so ns op : Int → Int) (oc : Nat) (mm : Int), GrA h g q lb dp ch so ns op oc k mm ∧ (0 < k → mm = (m : Int) ∧ GR m (scF Q q wf) k wn lb dp ch so ns op oc)
theorem GroX_of {h : Hp} {g : Nat} {k : Nat} {wn : Nat → Nat × Nat} {lb dp ch so ns op : Int → Int} {oc : Nat} (s : GroA h g m Q q wf k wn lb dp ch so ns op oc) : GroX h g m Q q wf k := ⟨wn, lb, dp, ch, so, ns, op, oc, m, s.1, fun _ => ⟨rfl, s.2⟩⟩
theorem GroX_fr {h h' : Hp} {g lo hi : Nat} {k : Nat} (s : GroX h g m Q q wf k) (f : Fr h h' lo hi) (hp : g + 6 < lo ∨ hi ≤ g) : GroX h' g m Q q wf k := by
  obtain ⟨wn, lb, dp, ch, so, ns, op, oc, mm, s1, s2⟩ := s
  exact ⟨wn, lb, dp, ch, so, ns, op, oc, mm, GrA_fr s1 f hp, s2⟩
theorem open_ne {φ : Nat → Nat → Int} {k : Nat} {wn : Nat → Nat × Nat} {lb dp ch so ns op : Int → Int} {oc : Nat} (G : GR m φ k wn lb dp ch so ns op oc) {i j : Nat} (hi : i < oc) (hj : j < oc) (hij : i ≠ j) : ahd ch dp lb (op i) (op j) ∨ ahd ch dp lb (op j) (op i) := by
  obtain ⟨g0, g1, g2, g3, g4, g5, g6, g7, g8⟩ := G
  obtain ⟨a, a1, a2, a3, a4⟩ := g5 i hi
  obtain ⟨b, b1, b2, b3, b4⟩ := g5 j hj
  have hne : wn a ≠ wn b := by
    intro e
    have := g2 a b a1 b1 e
    subst this
    exact hij (g7 i j hi hj (by rw [a2, b2]))
  have ca := g1 a a1
  have cb := g1 b b1
  rw [a2, b2]
  unfold ahd
  rw [ca.1, ca.2.1, cb.1, cb.2.1]
  have : (wn a).1 ≠ (wn b).1 ∨ (wn a).2 ≠ (wn b).2 := by
    by_cases h : (wn a).1 = (wn b).1
    · right
      intro h2
      exact hne (Prod.ext h h2)
    · exact Or.inl h
  omega
set_option maxRecDepth 20000 in
set_option maxHeartbeats 4000000 in
theorem c_growTo {h : Hp} {g k : Nat} (s : GroX h g m Q q wf k) (s2 : SetA h p w m Q wd wf) (hpg : (p < g ∨ g + 7 ≤ p) ∧ (w < g ∨ g + 7 ≤ w)) (hm : 2 ≤ m ∧ m ≤ 5) (hQ : 1 ≤ Q ∧ Q ≤ 3) (hq : q < Q) (hW : WOK m wf) {W : Nat} (hk : k * (m - 1) ≤ 63) (hW1 : W * (m - 1) ≤ 63) {lim : Nat × Nat} {K : QT}
    (hK : ∀ h' k', GroX h' g m Q q wf k' → W ≤ k' ∧ k ≤ k' ∧ k' * (m - 1) ≤ 63 → Fr h h' g (g + 7) → K pU h') : WM 121 [pR g, pI W, pR p] h lim K := by
  have hm8 : m ≤ 8 := by omega
  have hle : ∀ x : Nat, x * (m - 1) ≤ 63 → x ≤ 63 := by
    intro x hx
    have : x * 1 ≤ x * (m - 1) := Nat.mul_le_mul_left _ (by omega)
    omega
  have loop : ∀ (n j : Nat) (h1 : Hp) (wn : Nat → Nat × Nat) (lb dp ch so ns op : Int → Int) (oc : Nat), W ≤ j + n → j * (m - 1) ≤ 63 → k ≤ j → GroA h1 g m Q q wf j wn lb dp ch so ns op oc → Fr h h1 g (g + 7) → WP 121 43 [pR g, pI W, pR p, pI W, pI j] [] h1 lim K := by
    intro n
    induction n with
    | zero =>
      intro j h1 wn lb dp ch so ns op oc hn hj hkj t1 t2
      have hj63 := hle j hj
      rw [w121_43]
      simp (disch := omega) only [w121_0, w121_30, w121_71, e121, x_iconst, x_bipush, x_sipush, x_ldc, x_lconst, x_ldc2l, x_dconst, x_ldc2d, x_ldcf, x_iadd, x_isub, x_imul, x_idiv, x_irem, x_ishl, x_ishr, x_iand, x_ior, x_ixor, x_ladd, x_lsub, x_lmul, x_ldiv, x_lrem, x_lshl, x_lshr, x_lor, x_land, x_lcmp, x_i2l, x_l2i, x_i2b, x_i2f, x_l2f, x_l2d, x_f2d, x_d2l, x_fdiv, x_dadd, x_dsub, x_dmul, x_ddiv, x_dcmp, x_fcmp, x_dup, x_pop, x_dup2, x_objinit, x_rawF, x_rawD, gV_0, gV_1, gV_2, gV_3, gV_4, gV_S, x_iload, x_lload, x_fload, x_dload, x_aload, x_istore, x_fstore, x_astore, x_lstore, x_dstore, gX_I, x_iinc, x_getf, x_putfI, x_putfL, x_putfR, x_iald, x_bald, x_zald, x_lald, x_dald, x_aald, x_iast, x_bast, x_zast, x_last, x_dast, x_aast, x_alen, x_new, x_newa, x_anew, x_acopy, x_sld, x_slen, x_fall, x_goto, x_if, x_cmp, x_tsw, x_lsw, x_ret, x_iret, x_zret, x_lret, x_fret, x_dret, x_aret, x_callr, x_callv, x_calli, x_calls, rcv_R, isO_cO, JW_def, kO_some, sk4, cats_nil, cats_I, cats_L, cats_F, cats_D, cats_R, cats_S, Nat.reduceAdd, Nat.reduceLeDiff, inr, inq, Int.reduceEq, Int.reduceLT, Int.reduceLE, Int.reduceNeg, not_false_eq_true, not_true_eq_false, false_implies, and_self, pk_nil, pk_cons, wk_0, wk_1, wk_2, wk_3, wk_4, swt_nil, swt_cons, swl_nil, swl_cons, c3_eq, c3_lt, c3_ge, c3_le, c3_gt, c3_inr, c3_inr2, cnd_0, cnd_1, cnd_2, cnd_3, cnd_4, cnd_5, wide_I, wide_R, wide_L, wide_F, wide_D, wide_S, nw_I, nw_L, nw_F, nw_D, nw_U, nw_R, nw_S, fgo_cO, fso_cO, Option.map_some, alo_cI, ado_cD, aro_cR, ano_cI, ano_cD, lst, List.getElem?_cons_zero, List.getElem?_cons_succ, List.set_cons_zero, List.set_cons_succ, and_true, true_and, true_implies, forall_const, true_or, or_true, hg_same, hg_ne,  t1.1.1]
      have hW63 := hle W hW1
      refine ⟨by omega, fun _ => ?_, fun q1 => by omega⟩
      exact hK h1 j (GroX_of t1) ⟨by omega, hkj, hj⟩ t2
    | succ n ih =>
      intro j h1 wn lb dp ch so ns op oc hn hj hkj t1 t2
      have hj63 := hle j hj
      have hW63 := hle W hW1
      have s3 := SetA_fr s2 t2 hpg.1 hpg.2
      by_cases hWj : W ≤ j
      · rw [w121_43]
        simp (disch := omega) only [w121_0, w121_30, w121_71, e121, x_iconst, x_bipush, x_sipush, x_ldc, x_lconst, x_ldc2l, x_dconst, x_ldc2d, x_ldcf, x_iadd, x_isub, x_imul, x_idiv, x_irem, x_ishl, x_ishr, x_iand, x_ior, x_ixor, x_ladd, x_lsub, x_lmul, x_ldiv, x_lrem, x_lshl, x_lshr, x_lor, x_land, x_lcmp, x_i2l, x_l2i, x_i2b, x_i2f, x_l2f, x_l2d, x_f2d, x_d2l, x_fdiv, x_dadd, x_dsub, x_dmul, x_ddiv, x_dcmp, x_fcmp, x_dup, x_pop, x_dup2, x_objinit, x_rawF, x_rawD, gV_0, gV_1, gV_2, gV_3, gV_4, gV_S, x_iload, x_lload, x_fload, x_dload, x_aload, x_istore, x_fstore, x_astore, x_lstore, x_dstore, gX_I, x_iinc, x_getf, x_putfI, x_putfL, x_putfR, x_iald, x_bald, x_zald, x_lald, x_dald, x_aald, x_iast, x_bast, x_zast, x_last, x_dast, x_aast, x_alen, x_new, x_newa, x_anew, x_acopy, x_sld, x_slen, x_fall, x_goto, x_if, x_cmp, x_tsw, x_lsw, x_ret, x_iret, x_zret, x_lret, x_fret, x_dret, x_aret, x_callr, x_callv, x_calli, x_calls, rcv_R, isO_cO, JW_def, kO_some, sk4, cats_nil, cats_I, cats_L, cats_F, cats_D, cats_R, cats_S, Nat.reduceAdd, Nat.reduceLeDiff, inr, inq, Int.reduceEq, Int.reduceLT, Int.reduceLE, Int.reduceNeg, not_false_eq_true, not_true_eq_false, false_implies, and_self, pk_nil, pk_cons, wk_0, wk_1, wk_2, wk_3, wk_4, swt_nil, swt_cons, swl_nil, swl_cons, c3_eq, c3_lt, c3_ge, c3_le, c3_gt, c3_inr, c3_inr2, cnd_0, cnd_1, cnd_2, cnd_3, cnd_4, cnd_5, wide_I, wide_R, wide_L, wide_F, wide_D, wide_S, nw_I, nw_L, nw_F, nw_D, nw_U, nw_R, nw_S, fgo_cO, fso_cO, Option.map_some, alo_cI, ado_cD, aro_cR, ano_cI, ano_cD, lst, List.getElem?_cons_zero, List.getElem?_cons_succ, List.set_cons_zero, List.set_cons_succ, and_true, true_and, true_implies, forall_const, true_or, or_true, hg_same, hg_ne,  t1.1.1]
        refine ⟨by omega, fun _ => ?_, fun q1 => by omega⟩
        exact hK h1 j (GroX_of t1) ⟨by omega, hkj, hj⟩ t2
      · have hj1 : (j + 1) * (m - 1) ≤ W * (m - 1) := Nat.mul_le_mul_right _ (by omega)
        have hj2 : (j + 1) * (m - 1) = j * (m - 1) + (m - 1) := by rw [Nat.add_mul, Nat.one_mul]
        have hG := t1.2
        obtain ⟨g0, g1, g2, g3, g4, g5, g6, g7, g8⟩ := id hG
        -- some node is open
        have hst := TK_step hm.1 hm8 (scF Q q wf) j (by omega)
        obtain ⟨nb, b1, b2⟩ := GR_sur hm.1 hm8 (by omega) hG hst.2.2.2.1.1
        obtain ⟨ib, hib, -⟩ := g6 nb b1 (GR_so hm.1 hm8 (by omega) hG b1 (by rw [b2]; exact hst.2.2.2.2.2.1)) (by rw [b2]; exact hst.2.2.2.1.2.1.2)
        rw [w121_43]
        simp (disch := omega) only [w121_0, w121_30, w121_71, e121, x_iconst, x_bipush, x_sipush, x_ldc, x_lconst, x_ldc2l, x_dconst, x_ldc2d, x_ldcf, x_iadd, x_isub, x_imul, x_idiv, x_irem, x_ishl, x_ishr, x_iand, x_ior, x_ixor, x_ladd, x_lsub, x_lmul, x_ldiv, x_lrem, x_lshl, x_lshr, x_lor, x_land, x_lcmp, x_i2l, x_l2i, x_i2b, x_i2f, x_l2f, x_l2d, x_f2d, x_d2l, x_fdiv, x_dadd, x_dsub, x_dmul, x_ddiv, x_dcmp, x_fcmp, x_dup, x_pop, x_dup2, x_objinit, x_rawF, x_rawD, gV_0, gV_1, gV_2, gV_3, gV_4, gV_S, x_iload, x_lload, x_fload, x_dload, x_aload, x_istore, x_fstore, x_astore, x_lstore, x_dstore, gX_I, x_iinc, x_getf, x_putfI, x_putfL, x_putfR, x_iald, x_bald, x_zald, x_lald, x_dald, x_aald, x_iast, x_bast, x_zast, x_last, x_dast, x_aast, x_alen, x_new, x_newa, x_anew, x_acopy, x_sld, x_slen, x_fall, x_goto, x_if, x_cmp, x_tsw, x_lsw, x_ret, x_iret, x_zret, x_lret, x_fret, x_dret, x_aret, x_callr, x_callv, x_calli, x_calls, rcv_R, isO_cO, JW_def, kO_some, sk4, cats_nil, cats_I, cats_L, cats_F, cats_D, cats_R, cats_S, Nat.reduceAdd, Nat.reduceLeDiff, inr, inq, Int.reduceEq, Int.reduceLT, Int.reduceLE, Int.reduceNeg, not_false_eq_true, not_true_eq_false, false_implies, and_self, pk_nil, pk_cons, wk_0, wk_1, wk_2, wk_3, wk_4, swt_nil, swt_cons, swl_nil, swl_cons, c3_eq, c3_lt, c3_ge, c3_le, c3_gt, c3_inr, c3_inr2, cnd_0, cnd_1, cnd_2, cnd_3, cnd_4, cnd_5, wide_I, wide_R, wide_L, wide_F, wide_D, wide_S, nw_I, nw_L, nw_F, nw_D, nw_U, nw_R, nw_S, fgo_cO, fso_cO, Option.map_some, alo_cI, ado_cD, aro_cR, ano_cI, ano_cD, lst, List.getElem?_cons_zero, List.getElem?_cons_succ, List.set_cons_zero, List.set_cons_succ, and_true, true_and, true_implies, forall_const, true_or, or_true, hg_same, hg_ne,  t1.1.1]
        refine ⟨by omega, fun q1 => by omega, fun _ => ⟨by omega, fun q1 => by omega, fun _ => ?_⟩⟩
        have hjm : j * m = j * (m - 1) + j := by
          rw [← Nat.mul_succ]
          congr 1
          omega
        refine c_likeliest t1.1 ⟨by omega, by omega⟩ (fun i hi => ?_) (fun i i' hi hi' hne => open_ne hG hi hi' hne) (fun i0 hi0 hb => ?_)
        · obtain ⟨a, a1, a2, a3, a4⟩ := g5 i hi
          have ca := g1 a a1
          have hf := GR_flag hm.1 hm8 (by omega) hG a1
          have hsc := sc_rng hm8 hQ hq hW hf.1
          have h8 := pow88 hf.2.1
          simp only at hsc
          rw [a2]
          refine ⟨by omega, ?_, ?_, ?_⟩
          · unfold inq
            rw [ca.2.2.1]
            omega
          · unfold inr
            rw [ca.1]
            omega
          · unfold inr
            rw [ca.2.1]
            omega
        · simp (disch := omega) only [w121_0, w121_30, w121_71, e121, x_iconst, x_bipush, x_sipush, x_ldc, x_lconst, x_ldc2l, x_dconst, x_ldc2d, x_ldcf, x_iadd, x_isub, x_imul, x_idiv, x_irem, x_ishl, x_ishr, x_iand, x_ior, x_ixor, x_ladd, x_lsub, x_lmul, x_ldiv, x_lrem, x_lshl, x_lshr, x_lor, x_land, x_lcmp, x_i2l, x_l2i, x_i2b, x_i2f, x_l2f, x_l2d, x_f2d, x_d2l, x_fdiv, x_dadd, x_dsub, x_dmul, x_ddiv, x_dcmp, x_fcmp, x_dup, x_pop, x_dup2, x_objinit, x_rawF, x_rawD, gV_0, gV_1, gV_2, gV_3, gV_4, gV_S, x_iload, x_lload, x_fload, x_dload, x_aload, x_istore, x_fstore, x_astore, x_lstore, x_dstore, gX_I, x_iinc, x_getf, x_putfI, x_putfL, x_putfR, x_iald, x_bald, x_zald, x_lald, x_dald, x_aald, x_iast, x_bast, x_zast, x_last, x_dast, x_aast, x_alen, x_new, x_newa, x_anew, x_acopy, x_sld, x_slen, x_fall, x_goto, x_if, x_cmp, x_tsw, x_lsw, x_ret, x_iret, x_zret, x_lret, x_fret, x_dret, x_aret, x_callr, x_callv, x_calli, x_calls, rcv_R, isO_cO, JW_def, kO_some, sk4, cats_nil, cats_I, cats_L, cats_F, cats_D, cats_R, cats_S, Nat.reduceAdd, Nat.reduceLeDiff, inr, inq, Int.reduceEq, Int.reduceLT, Int.reduceLE, Int.reduceNeg, not_false_eq_true, not_true_eq_false, false_implies, and_self, pk_nil, pk_cons, wk_0, wk_1, wk_2, wk_3, wk_4, swt_nil, swt_cons, swl_nil, swl_cons, c3_eq, c3_lt, c3_ge, c3_le, c3_gt, c3_inr, c3_inr2, cnd_0, cnd_1, cnd_2, cnd_3, cnd_4, cnd_5, wide_I, wide_R, wide_L, wide_F, wide_D, wide_S, nw_I, nw_L, nw_F, nw_D, nw_U, nw_R, nw_S, fgo_cO, fso_cO, Option.map_some, alo_cI, ado_cD, aro_cR, ano_cI, ano_cD, lst, List.getElem?_cons_zero, List.getElem?_cons_succ, List.set_cons_zero, List.set_cons_succ, and_true, true_and, true_implies, forall_const, true_or, or_true, hg_same, hg_ne,  t1.1.1, s3.1]
          refine c_split t1 s3 hpg hm hQ hq hW (by omega) (by omega) hi0 hb (fun h2 wn' lb' dp' ch' so' ns' op' oc' t3 t4 => ?_)
          have := ih (j + 1) h2 wn' lb' dp' ch' so' ns' op' oc' (by omega) (by omega) (by omega) t3 (Fr_tr t2 t4)
          rw [show ((j + 1 : Nat) : Int) = (j : Int) + 1 by omega] at this
          exact this
  obtain ⟨wn, lb, dp, ch, so, ns, op, oc, mm, s1, s1b⟩ := s
  have hk63 := hle k hk
  have hW63 := hle W hW1
  have hmin : (if (W : Int) ≤ 63 then (W : Int) else 63) = W := by rw [if_pos (by omega)]
  have hmin2 : (if (63 : Int) ≤ (W : Int) then (63 : Int) else W) = W := by
    by_cases e : W = 63
    · rw [if_pos (by omega)]
      omega
    · rw [if_neg (by omega)]
  obtain ⟨a0, a1, a2, a3, a4, a5, a6⟩ := id s1
  simp (disch := omega) only [w121_0, w121_30, w121_71, e121, x_iconst, x_bipush, x_sipush, x_ldc, x_lconst, x_ldc2l, x_dconst, x_ldc2d, x_ldcf, x_iadd, x_isub, x_imul, x_idiv, x_irem, x_ishl, x_ishr, x_iand, x_ior, x_ixor, x_ladd, x_lsub, x_lmul, x_ldiv, x_lrem, x_lshl, x_lshr, x_lor, x_land, x_lcmp, x_i2l, x_l2i, x_i2b, x_i2f, x_l2f, x_l2d, x_f2d, x_d2l, x_fdiv, x_dadd, x_dsub, x_dmul, x_ddiv, x_dcmp, x_fcmp, x_dup, x_pop, x_dup2, x_objinit, x_rawF, x_rawD, gV_0, gV_1, gV_2, gV_3, gV_4, gV_S, x_iload, x_lload, x_fload, x_dload, x_aload, x_istore, x_fstore, x_astore, x_lstore, x_dstore, gX_I, x_iinc, x_getf, x_putfI, x_putfL, x_putfR, x_iald, x_bald, x_zald, x_lald, x_dald, x_aald, x_iast, x_bast, x_zast, x_last, x_dast, x_aast, x_alen, x_new, x_newa, x_anew, x_acopy, x_sld, x_slen, x_fall, x_goto, x_if, x_cmp, x_tsw, x_lsw, x_ret, x_iret, x_zret, x_lret, x_fret, x_dret, x_aret, x_callr, x_callv, x_calli, x_calls, rcv_R, isO_cO, JW_def, kO_some, sk4, cats_nil, cats_I, cats_L, cats_F, cats_D, cats_R, cats_S, Nat.reduceAdd, Nat.reduceLeDiff, inr, inq, Int.reduceEq, Int.reduceLT, Int.reduceLE, Int.reduceNeg, not_false_eq_true, not_true_eq_false, false_implies, and_self, pk_nil, pk_cons, wk_0, wk_1, wk_2, wk_3, wk_4, swt_nil, swt_cons, swl_nil, swl_cons, c3_eq, c3_lt, c3_ge, c3_le, c3_gt, c3_inr, c3_inr2, cnd_0, cnd_1, cnd_2, cnd_3, cnd_4, cnd_5, wide_I, wide_R, wide_L, wide_F, wide_D, wide_S, nw_I, nw_L, nw_F, nw_D, nw_U, nw_R, nw_S, fgo_cO, fso_cO, Option.map_some, alo_cI, ado_cD, aro_cR, ano_cI, ano_cD, lst, List.getElem?_cons_zero, List.getElem?_cons_succ, List.set_cons_zero, List.set_cons_succ, and_true, true_and, true_implies, forall_const, true_or, or_true, hg_same, hg_ne,  a0, s2.1]
  trace_state
  sorry
end GRW

def vCh (Q q : Nat) (wf : Int → Int) (x : Nd) (w : Int) : Int := vLow (numF Q q wf x.1 x.2.1).toNat (16 ^ x.1) w
theorem num_nat {m Q q wd : Nat} {wf : Int → Int} (v : SOK m Q wd wf) (hq : q < Q) {φ : Nat → Nat → Int} {k : Nat} {x : Nd} (hx : x ∈ TK m φ k) : ∃ n : Nat, numF Q q wf x.1 x.2.1 = (n : Int) ∧ 0 < n ∧ n ≤ 16 ^ x.1 ∧ scF Q q wf x.1 x.2.1 = ((n * 16 ^ (8 - x.1) : Nat) : Int) ∧ n * 16 ^ (8 - x.1) ≤ 4294967296 ∧ 16 ^ x.1 ≤ 4294967296 ∧ 16 ^ x.1 * 16 ^ (8 - x.1) = 4294967296 := by
  have hm8 : m ≤ 8 := by have := v.1.2; omega
  have h8 := TK_8 hm8 hx
  have r1 := num_rng (q := q) (Q := Q) (wf := wf) hm8 v.2.1 hq v.2.2.2.2.1 x.1 x hx rfl
  have r2 := sc_rng (q := q) (Q := Q) (wf := wf) hm8 v.2.1 hq v.2.2.2.2.1 hx
  obtain ⟨n, hn⟩ : ∃ n : Nat, numF Q q wf x.1 x.2.1 = (n : Int) := ⟨(numF Q q wf x.1 x.2.1).toNat, by omega⟩
  have e : scF Q q wf x.1 x.2.1 = ((n * 16 ^ (8 - x.1) : Nat) : Int) := by
    unfold scF
    rw [hn, Int.natCast_mul, Int.natCast_pow]
    rfl
  have p8 : 16 ^ x.1 * 16 ^ (8 - x.1) = 4294967296 := by
    rw [← Nat.pow_add, show x.1 + (8 - x.1) = 8 by omega]
  have p16 : 16 ^ x.1 ≤ 4294967296 := Nat.le_trans (Nat.pow_le_pow_right (by decide) h8) (by decide)
  refine ⟨n, hn, by omega, ?_, e, ?_, p16, p8⟩
  · have := r1.2
    rw [hn, show ((16 : Int) ^ x.1) = ((16 ^ x.1 : Nat) : Int) by rw [Int.natCast_pow]; rfl] at this
    exact Int.ofNat_le.mp this
  · rw [e] at r2
    omega
theorem vCh_sc {Q q : Nat} {wf : Int → Int} {x : Nd} {n : Nat} (hn : numF Q q wf x.1 x.2.1 = (n : Int)) (p8 : 16 ^ x.1 * 16 ^ (8 - x.1) = 4294967296) (w : Int) : vLow (n * 16 ^ (8 - x.1)) (2 ^ 32) w = vCh Q q wf x w := by
  unfold vCh
  rw [hn, Int.toNat_natCast, show (2 : Nat) ^ 32 = 16 ^ x.1 * 16 ^ (8 - x.1) by rw [p8]]
  exact vLow_mul (Nat.pow_pos (by decide)) w
section N6
variable {h : Hp} {m Q wd : Nat} {wf : Int → Int} {ts : Nat} {tx : Int → Int} {wc : Nat} {co : Int → Int} {re fi : Int} {kp : Int → Int} {sl : Int → Nat × Nat × Nat × (Int → Int)} {cf cs : Int → Int} {cd cl cc : Int → Int → Int} {ss : Int → Int} {sb : Int → Int → Int}
set_option maxRecDepth 20000 in
set_option maxHeartbeats 4000000 in
theorem c_chance (a : CA h m Q wd wf ts tx wc co re fi kp sl cf cs cd cl cc ss sb) (v : SOK m Q wd wf) {q i : Nat} (hq : q < Q) (hi : i < 1 + KK m wd * m) {w : Int} (hw : 0 ≤ w ∧ w ≤ 1) {lim : Nat × Nat} {K : QT} (hK : ∀ h', CA h' m Q wd wf ts tx wc co re fi kp sl cf cs cd cl cc ss sb → Fr h h' 14 59 → K (pL (vCh Q q wf (ndA (TK m (scF Q q wf) (KK m wd)) i) w)) h') : WM 169 [pR 0, pI q, pI i, pI w] h lim K := by
  obtain ⟨a1, a2, -⟩ := id a
  have a1' := id a1
  unfold PTO at a1'
  have hQ := v.2.1
  have hwd := v.2.2.1
  have hm := v.1
  have hn := KK_nodes hm.1 hm.2 hwd.2
  have hl := TT_len v q
  try simp (disch := omega) only [w169_0, w169_18, w169_24, e169, x_iconst, x_bipush, x_sipush, x_ldc, x_lconst, x_ldc2l, x_dconst, x_ldc2d, x_ldcf, x_iadd, x_isub, x_imul, x_idiv, x_irem, x_ishl, x_ishr, x_iand, x_ior, x_ixor, x_ladd, x_lsub, x_lmul, x_ldiv, x_lrem, x_lshl, x_lshr, x_lor, x_land, x_lcmp, x_i2l, x_l2i, x_i2b, x_i2f, x_l2f, x_l2d, x_f2d, x_d2l, x_fdiv, x_dadd, x_dsub, x_dmul, x_ddiv, x_dcmp, x_fcmp, x_dup, x_pop, x_dup2, x_objinit, x_rawF, x_rawD, gV_0, gV_1, gV_2, gV_3, gV_4, gV_S, x_iload, x_lload, x_fload, x_dload, x_aload, x_istore, x_fstore, x_astore, x_lstore, x_dstore, gX_I, x_iinc, x_getf, x_putfI, x_putfL, x_putfR, x_iald, x_bald, x_zald, x_lald, x_dald, x_aald, x_iast, x_bast, x_zast, x_last, x_dast, x_aast, x_alen, x_new, x_newa, x_anew, x_acopy, x_sld, x_slen, x_fall, x_goto, x_if, x_cmp, x_tsw, x_lsw, x_ret, x_iret, x_zret, x_lret, x_fret, x_dret, x_aret, x_callr, x_callv, x_calli, x_calls, rcv_R, isO_cO, JW_def, kO_some, sk4, cats_nil, cats_I, cats_L, cats_F, cats_D, cats_R, cats_S, Nat.reduceAdd, Nat.reduceLeDiff, inr, inq, Int.reduceEq, Int.reduceLT, Int.reduceLE, Int.reduceNeg, not_false_eq_true, not_true_eq_false, false_implies, and_self, pk_nil, pk_cons, wk_0, wk_1, wk_2, wk_3, wk_4, swt_nil, swt_cons, swl_nil, swl_cons, c3_eq, c3_lt, c3_ge, c3_le, c3_gt, c3_inr, c3_inr2, cnd_0, cnd_1, cnd_2, cnd_3, cnd_4, cnd_5, wide_I, wide_R, wide_L, wide_F, wide_D, wide_S, nw_I, nw_L, nw_F, nw_D, nw_U, nw_R, nw_S, fgo_cO, fso_cO, Option.map_some, alo_cI, ado_cD, aro_cR, ano_cI, ano_cD, lst, List.getElem?_cons_zero, List.getElem?_cons_succ, List.set_cons_zero, List.set_cons_succ, and_true, true_and, true_implies, forall_const, true_or, or_true, hg_same, hg_ne,  a1']
  refine c_isNode a v (by unfold inr; omega) (by unfold inr; omega) (fun _ => ?_) (fun q => by omega)
  try simp (disch := omega) only [w169_0, w169_18, w169_24, e169, x_iconst, x_bipush, x_sipush, x_ldc, x_lconst, x_ldc2l, x_dconst, x_ldc2d, x_ldcf, x_iadd, x_isub, x_imul, x_idiv, x_irem, x_ishl, x_ishr, x_iand, x_ior, x_ixor, x_ladd, x_lsub, x_lmul, x_ldiv, x_lrem, x_lshl, x_lshr, x_lor, x_land, x_lcmp, x_i2l, x_l2i, x_i2b, x_i2f, x_l2f, x_l2d, x_f2d, x_d2l, x_fdiv, x_dadd, x_dsub, x_dmul, x_ddiv, x_dcmp, x_fcmp, x_dup, x_pop, x_dup2, x_objinit, x_rawF, x_rawD, gV_0, gV_1, gV_2, gV_3, gV_4, gV_S, x_iload, x_lload, x_fload, x_dload, x_aload, x_istore, x_fstore, x_astore, x_lstore, x_dstore, gX_I, x_iinc, x_getf, x_putfI, x_putfL, x_putfR, x_iald, x_bald, x_zald, x_lald, x_dald, x_aald, x_iast, x_bast, x_zast, x_last, x_dast, x_aast, x_alen, x_new, x_newa, x_anew, x_acopy, x_sld, x_slen, x_fall, x_goto, x_if, x_cmp, x_tsw, x_lsw, x_ret, x_iret, x_zret, x_lret, x_fret, x_dret, x_aret, x_callr, x_callv, x_calli, x_calls, rcv_R, isO_cO, JW_def, kO_some, sk4, cats_nil, cats_I, cats_L, cats_F, cats_D, cats_R, cats_S, Nat.reduceAdd, Nat.reduceLeDiff, inr, inq, Int.reduceEq, Int.reduceLT, Int.reduceLE, Int.reduceNeg, not_false_eq_true, not_true_eq_false, false_implies, and_self, pk_nil, pk_cons, wk_0, wk_1, wk_2, wk_3, wk_4, swt_nil, swt_cons, swl_nil, swl_cons, c3_eq, c3_lt, c3_ge, c3_le, c3_gt, c3_inr, c3_inr2, cnd_0, cnd_1, cnd_2, cnd_3, cnd_4, cnd_5, wide_I, wide_R, wide_L, wide_F, wide_D, wide_S, nw_I, nw_L, nw_F, nw_D, nw_U, nw_R, nw_S, fgo_cO, fso_cO, Option.map_some, alo_cI, ado_cD, aro_cR, ano_cI, ano_cD, lst, List.getElem?_cons_zero, List.getElem?_cons_succ, List.set_cons_zero, List.set_cons_succ, and_true, true_and, true_implies, forall_const, true_or, or_true, hg_same, hg_ne,  a1']
  refine ⟨by omega, fun q => by omega, fun _ => ⟨by omega, fun _ => ?_, fun q => by omega⟩⟩
  refine c_rdy a v hq (fun h' lb dp ch so ns nf lf nu fw od lo es lg ls a' R f => ?_)
  have hx := ndA_at (L := TK m (scF Q q wf) (KK m wd)) (i := i) (by omega)
  have hK1 := hK h' a' f
  generalize hxx : ndA (TK m (scF Q q wf) (KK m wd)) i = x at hx hK1
  obtain ⟨n, n1, n2, n3, n4, n5, n6, n7, n8, n9, n10, n11, -⟩ := rdy_at R (by omega) hx
  obtain ⟨nn, c1, c2, c3, c4, c5, c6, c7⟩ := num_nat v hq (List.mem_of_getElem? hx)
  obtain ⟨⟨op, oc, k, r1⟩, r2, r3, r4⟩ := R
  obtain ⟨g0, g1, g2, g3, g4, g5, g6⟩ := id r1
  obtain ⟨y0, y1, y2, y3, y4, y5, y6, y7⟩ := id r2
  try simp (disch := omega) only [w169_0, w169_18, w169_24, e169, x_iconst, x_bipush, x_sipush, x_ldc, x_lconst, x_ldc2l, x_dconst, x_ldc2d, x_ldcf, x_iadd, x_isub, x_imul, x_idiv, x_irem, x_ishl, x_ishr, x_iand, x_ior, x_ixor, x_ladd, x_lsub, x_lmul, x_ldiv, x_lrem, x_lshl, x_lshr, x_lor, x_land, x_lcmp, x_i2l, x_l2i, x_i2b, x_i2f, x_l2f, x_l2d, x_f2d, x_d2l, x_fdiv, x_dadd, x_dsub, x_dmul, x_ddiv, x_dcmp, x_fcmp, x_dup, x_pop, x_dup2, x_objinit, x_rawF, x_rawD, gV_0, gV_1, gV_2, gV_3, gV_4, gV_S, x_iload, x_lload, x_fload, x_dload, x_aload, x_istore, x_fstore, x_astore, x_lstore, x_dstore, gX_I, x_iinc, x_getf, x_putfI, x_putfL, x_putfR, x_iald, x_bald, x_zald, x_lald, x_dald, x_aald, x_iast, x_bast, x_zast, x_last, x_dast, x_aast, x_alen, x_new, x_newa, x_anew, x_acopy, x_sld, x_slen, x_fall, x_goto, x_if, x_cmp, x_tsw, x_lsw, x_ret, x_iret, x_zret, x_lret, x_fret, x_dret, x_aret, x_callr, x_callv, x_calli, x_calls, rcv_R, isO_cO, JW_def, kO_some, sk4, cats_nil, cats_I, cats_L, cats_F, cats_D, cats_R, cats_S, Nat.reduceAdd, Nat.reduceLeDiff, inr, inq, Int.reduceEq, Int.reduceLT, Int.reduceLE, Int.reduceNeg, not_false_eq_true, not_true_eq_false, false_implies, and_self, pk_nil, pk_cons, wk_0, wk_1, wk_2, wk_3, wk_4, swt_nil, swt_cons, swl_nil, swl_cons, c3_eq, c3_lt, c3_ge, c3_le, c3_gt, c3_inr, c3_inr2, cnd_0, cnd_1, cnd_2, cnd_3, cnd_4, cnd_5, wide_I, wide_R, wide_L, wide_F, wide_D, wide_S, nw_I, nw_L, nw_F, nw_D, nw_U, nw_R, nw_S, fgo_cO, fso_cO, Option.map_some, alo_cI, ado_cD, aro_cR, ano_cI, ano_cD, lst, List.getElem?_cons_zero, List.getElem?_cons_succ, List.set_cons_zero, List.set_cons_succ, and_true, true_and, true_implies, forall_const, true_or, or_true, hg_same, hg_ne,  y0, y5, g0, g3]
  rw [n3, n8, c4, show (4294967296 : Int) = ((2 ^ 32 : Nat) : Int) from rfl]
  refine ⟨by omega, by omega, c_lowest (by omega) (Nat.mul_pos c2 (Nat.pow_pos (by decide))) (by omega) hw ?_⟩
  rw [vCh_sc c1 c7]
  try simp (disch := omega) only [w169_0, w169_18, w169_24, e169, x_iconst, x_bipush, x_sipush, x_ldc, x_lconst, x_ldc2l, x_dconst, x_ldc2d, x_ldcf, x_iadd, x_isub, x_imul, x_idiv, x_irem, x_ishl, x_ishr, x_iand, x_ior, x_ixor, x_ladd, x_lsub, x_lmul, x_ldiv, x_lrem, x_lshl, x_lshr, x_lor, x_land, x_lcmp, x_i2l, x_l2i, x_i2b, x_i2f, x_l2f, x_l2d, x_f2d, x_d2l, x_fdiv, x_dadd, x_dsub, x_dmul, x_ddiv, x_dcmp, x_fcmp, x_dup, x_pop, x_dup2, x_objinit, x_rawF, x_rawD, gV_0, gV_1, gV_2, gV_3, gV_4, gV_S, x_iload, x_lload, x_fload, x_dload, x_aload, x_istore, x_fstore, x_astore, x_lstore, x_dstore, gX_I, x_iinc, x_getf, x_putfI, x_putfL, x_putfR, x_iald, x_bald, x_zald, x_lald, x_dald, x_aald, x_iast, x_bast, x_zast, x_last, x_dast, x_aast, x_alen, x_new, x_newa, x_anew, x_acopy, x_sld, x_slen, x_fall, x_goto, x_if, x_cmp, x_tsw, x_lsw, x_ret, x_iret, x_zret, x_lret, x_fret, x_dret, x_aret, x_callr, x_callv, x_calli, x_calls, rcv_R, isO_cO, JW_def, kO_some, sk4, cats_nil, cats_I, cats_L, cats_F, cats_D, cats_R, cats_S, Nat.reduceAdd, Nat.reduceLeDiff, inr, inq, Int.reduceEq, Int.reduceLT, Int.reduceLE, Int.reduceNeg, not_false_eq_true, not_true_eq_false, false_implies, and_self, pk_nil, pk_cons, wk_0, wk_1, wk_2, wk_3, wk_4, swt_nil, swt_cons, swl_nil, swl_cons, c3_eq, c3_lt, c3_ge, c3_le, c3_gt, c3_inr, c3_inr2, cnd_0, cnd_1, cnd_2, cnd_3, cnd_4, cnd_5, wide_I, wide_R, wide_L, wide_F, wide_D, wide_S, nw_I, nw_L, nw_F, nw_D, nw_U, nw_R, nw_S, fgo_cO, fso_cO, Option.map_some, alo_cI, ado_cD, aro_cR, ano_cI, ano_cD, lst, List.getElem?_cons_zero, List.getElem?_cons_succ, List.set_cons_zero, List.set_cons_succ, and_true, true_and, true_implies, forall_const, true_or, or_true, hg_same, hg_ne]
  exact hK1
end N6
section N6b
variable {h : Hp} {fi : Int} {m Q wd ts wc : Nat} {re tm tr ph fu : Int} {le sp nu sn wo ro no lv : Int → Int}
/-- a node's numbers in the model -/
theorem MT_num {wd' : Nat} {wf : Int → Int} (v : SOK m Q wd' wf) {q b : Nat} (hq : q < Q) {φ : Nat → Nat → Int} {k : Nat} (T : MT0 le sp nu ro b (TK m φ k) (numF Q q wf)) {i : Nat} (hi : i < (TK m φ k).length) : ∃ n : Nat, numF Q q wf (ndA (TK m φ k) i).1 (ndA (TK m φ k) i).2.1 = (n : Int) ∧ 0 < n ∧ n ≤ 16 ^ (ndA (TK m φ k) i).1 ∧ 16 ^ (ndA (TK m φ k) i).1 ≤ 4294967296 ∧ nu ((128 * b + i : Nat) : Int) = (n : Int) ∧ le ((128 * b + i : Nat) : Int) = ((ndA (TK m φ k) i).1 : Int) ∧ (ndA (TK m φ k) i).1 ≤ 8 := by
  have hx := ndA_at hi
  generalize ndA (TK m φ k) i = x at hx
  obtain ⟨nn, c1, c2, c3, c4, c5, c6, c7⟩ := num_nat v hq (List.mem_of_getElem? hx)
  obtain ⟨u1, u2, u3, u4⟩ := T i x hx
  exact ⟨nn, c1, c2, c3, c6, u3.trans c1, u1, TK_8 (by have := v.1.2; omega) (List.mem_of_getElem? hx)⟩
end N6b
set_option maxRecDepth 20000 in
set_option maxHeartbeats 4000000 in
theorem k_chance {q i w : Int} (hq : inr q) (hi : inr i) (hw : inr w) : PairL 169 159 [pI q, pI i, pI w] := by
  intro h L xs I lim K1 hK
  obtain ⟨I1, I2, m, Q, wd, wf, ts, tx, wc, co, re, fi, kp, sl, cf, cs, cd, cl, cc, ss, sb, a, b, v⟩ := I
  obtain ⟨a1, a2, a3, a4, a5, a6, a7, a8, a9⟩ := id a
  obtain ⟨v1, v2, v3, v4, v5, v6, v7⟩ := id v
  have a1' := id a1
  unfold PTO at a1'
  obtain ⟨hts, htx⟩ := id v2
  obtain ⟨hwc, hco⟩ := id v3
  obtain ⟨hm, hQ, hwd, hmw, hW, hWs⟩ := id v1
  have hq' := hq
  have hi' := hi
  have hw' := hw
  unfold inr at hq hi hw
  have hn := KK_nodes hm.1 hm.2 hwd.2
  by_cases ok : ((0 ≤ q ∧ q < Q) ∧ (0 ≤ i ∧ i < ((1 + KK m wd * m : Nat) : Int))) ∧ (0 ≤ w ∧ w ≤ 1)
  · obtain ⟨q, rfl⟩ : ∃ n : Nat, q = (n : Int) := ⟨q.toNat, by omega⟩
    obtain ⟨i, rfl⟩ : ∃ n : Nat, i = (n : Int) := ⟨i.toNat, by omega⟩
    have hl := TT_len v1 q
    refine c_chance a v1 (by omega) (by omega) ok.2 (fun h' a' f => ?_)
    have fr : Fr h h' 0 87 := Fr_w f (by omega) (by omega)
    refine hK _ _ (Post_of I1 I2 b fr (fun b1 lim K2 hK2 => ?_))
    obtain ⟨⟨tm, tr, ph, b2⟩, b3, b4, b5, b6, b7, b8, b9⟩ := id b1
    have b2' := id b2
    unfold MO at b2'
    obtain ⟨le, sp, nu, sn, wo, ro, no, lv, z3, T⟩ := id b4
    obtain ⟨T1, T2, T3, T4⟩ := T q (by omega)
    obtain ⟨m1, m2, m3, m4, m5, m6, m7, m8⟩ := id z3
    obtain ⟨nn, c1, c2, c3, c4, c5, c6, c7⟩ := MT_num v1 (show q < Q by omega) T3 (i := i) (by omega)
    have fin := hK2 _ (Inv_of I1 I2 fr a' (Fr_rf _ _ _) b1 v)
    unfold vCh at fin
    rw [c1, Int.toNat_natCast] at fin
    generalize ndA (TK m (scF Q q wf) (KK m wd)) i = x at *
    try simp (disch := omega) only [w159_0, w159_50, w159_55, e159, x_iconst, x_bipush, x_sipush, x_ldc, x_lconst, x_ldc2l, x_dconst, x_ldc2d, x_ldcf, x_iadd, x_isub, x_imul, x_idiv, x_irem, x_ishl, x_ishr, x_iand, x_ior, x_ixor, x_ladd, x_lsub, x_lmul, x_ldiv, x_lrem, x_lshl, x_lshr, x_lor, x_land, x_lcmp, x_i2l, x_l2i, x_i2b, x_i2f, x_l2f, x_l2d, x_f2d, x_d2l, x_fdiv, x_dadd, x_dsub, x_dmul, x_ddiv, x_dcmp, x_fcmp, x_dup, x_pop, x_dup2, x_objinit, x_rawF, x_rawD, gV_0, gV_1, gV_2, gV_3, gV_4, gV_S, x_iload, x_lload, x_fload, x_dload, x_aload, x_istore, x_fstore, x_astore, x_lstore, x_dstore, gX_I, x_iinc, x_getf, x_putfI, x_putfL, x_putfR, x_iald, x_bald, x_zald, x_lald, x_dald, x_aald, x_iast, x_bast, x_zast, x_last, x_dast, x_aast, x_alen, x_new, x_newa, x_anew, x_acopy, x_sld, x_slen, x_fall, x_goto, x_if, x_cmp, x_tsw, x_lsw, x_ret, x_iret, x_zret, x_lret, x_fret, x_dret, x_aret, x_callr, x_callv, x_calli, x_calls, rcv_R, isO_cO, JW_def, kO_some, sk4, cats_nil, cats_I, cats_L, cats_F, cats_D, cats_R, cats_S, Nat.reduceAdd, Nat.reduceLeDiff, inr, inq, Int.reduceEq, Int.reduceLT, Int.reduceLE, Int.reduceNeg, not_false_eq_true, not_true_eq_false, false_implies, and_self, pk_nil, pk_cons, wk_0, wk_1, wk_2, wk_3, wk_4, swt_nil, swt_cons, swl_nil, swl_cons, c3_eq, c3_lt, c3_ge, c3_le, c3_gt, c3_inr, c3_inr2, cnd_0, cnd_1, cnd_2, cnd_3, cnd_4, cnd_5, wide_I, wide_R, wide_L, wide_F, wide_D, wide_S, nw_I, nw_L, nw_F, nw_D, nw_U, nw_R, nw_S, fgo_cO, fso_cO, Option.map_some, alo_cI, ado_cD, aro_cR, ano_cI, ano_cD, lst, List.getElem?_cons_zero, List.getElem?_cons_succ, List.set_cons_zero, List.set_cons_succ, and_true, true_and, true_implies, forall_const, true_or, or_true, hg_same, hg_ne,  b2']
    refine d_isNode b2 hQ.2 (N := 1 + KK m wd * m) m7 (fun q' hq' => (T q' hq').1) (by omega) hq' hi' (fun _ => ?_) (fun e => by omega)
    try simp (disch := omega) only [w159_0, w159_50, w159_55, e159, x_iconst, x_bipush, x_sipush, x_ldc, x_lconst, x_ldc2l, x_dconst, x_ldc2d, x_ldcf, x_iadd, x_isub, x_imul, x_idiv, x_irem, x_ishl, x_ishr, x_iand, x_ior, x_ixor, x_ladd, x_lsub, x_lmul, x_ldiv, x_lrem, x_lshl, x_lshr, x_lor, x_land, x_lcmp, x_i2l, x_l2i, x_i2b, x_i2f, x_l2f, x_l2d, x_f2d, x_d2l, x_fdiv, x_dadd, x_dsub, x_dmul, x_ddiv, x_dcmp, x_fcmp, x_dup, x_pop, x_dup2, x_objinit, x_rawF, x_rawD, gV_0, gV_1, gV_2, gV_3, gV_4, gV_S, x_iload, x_lload, x_fload, x_dload, x_aload, x_istore, x_fstore, x_astore, x_lstore, x_dstore, gX_I, x_iinc, x_getf, x_putfI, x_putfL, x_putfR, x_iald, x_bald, x_zald, x_lald, x_dald, x_aald, x_iast, x_bast, x_zast, x_last, x_dast, x_aast, x_alen, x_new, x_newa, x_anew, x_acopy, x_sld, x_slen, x_fall, x_goto, x_if, x_cmp, x_tsw, x_lsw, x_ret, x_iret, x_zret, x_lret, x_fret, x_dret, x_aret, x_callr, x_callv, x_calli, x_calls, rcv_R, isO_cO, JW_def, kO_some, sk4, cats_nil, cats_I, cats_L, cats_F, cats_D, cats_R, cats_S, Nat.reduceAdd, Nat.reduceLeDiff, inr, inq, Int.reduceEq, Int.reduceLT, Int.reduceLE, Int.reduceNeg, not_false_eq_true, not_true_eq_false, false_implies, and_self, pk_nil, pk_cons, wk_0, wk_1, wk_2, wk_3, wk_4, swt_nil, swt_cons, swl_nil, swl_cons, c3_eq, c3_lt, c3_ge, c3_le, c3_gt, c3_inr, c3_inr2, cnd_0, cnd_1, cnd_2, cnd_3, cnd_4, cnd_5, wide_I, wide_R, wide_L, wide_F, wide_D, wide_S, nw_I, nw_L, nw_F, nw_D, nw_U, nw_R, nw_S, fgo_cO, fso_cO, Option.map_some, alo_cI, ado_cD, aro_cR, ano_cI, ano_cD, lst, List.getElem?_cons_zero, List.getElem?_cons_succ, List.set_cons_zero, List.set_cons_succ, and_true, true_and, true_implies, forall_const, true_or, or_true, hg_same, hg_ne,  b2']
    refine c_isTwo hw' (fun _ => ?_) (fun e => by omega)
    try simp (disch := omega) only [w159_0, w159_50, w159_55, e159, x_iconst, x_bipush, x_sipush, x_ldc, x_lconst, x_ldc2l, x_dconst, x_ldc2d, x_ldcf, x_iadd, x_isub, x_imul, x_idiv, x_irem, x_ishl, x_ishr, x_iand, x_ior, x_ixor, x_ladd, x_lsub, x_lmul, x_ldiv, x_lrem, x_lshl, x_lshr, x_lor, x_land, x_lcmp, x_i2l, x_l2i, x_i2b, x_i2f, x_l2f, x_l2d, x_f2d, x_d2l, x_fdiv, x_dadd, x_dsub, x_dmul, x_ddiv, x_dcmp, x_fcmp, x_dup, x_pop, x_dup2, x_objinit, x_rawF, x_rawD, gV_0, gV_1, gV_2, gV_3, gV_4, gV_S, x_iload, x_lload, x_fload, x_dload, x_aload, x_istore, x_fstore, x_astore, x_lstore, x_dstore, gX_I, x_iinc, x_getf, x_putfI, x_putfL, x_putfR, x_iald, x_bald, x_zald, x_lald, x_dald, x_aald, x_iast, x_bast, x_zast, x_last, x_dast, x_aast, x_alen, x_new, x_newa, x_anew, x_acopy, x_sld, x_slen, x_fall, x_goto, x_if, x_cmp, x_tsw, x_lsw, x_ret, x_iret, x_zret, x_lret, x_fret, x_dret, x_aret, x_callr, x_callv, x_calli, x_calls, rcv_R, isO_cO, JW_def, kO_some, sk4, cats_nil, cats_I, cats_L, cats_F, cats_D, cats_R, cats_S, Nat.reduceAdd, Nat.reduceLeDiff, inr, inq, Int.reduceEq, Int.reduceLT, Int.reduceLE, Int.reduceNeg, not_false_eq_true, not_true_eq_false, false_implies, and_self, pk_nil, pk_cons, wk_0, wk_1, wk_2, wk_3, wk_4, swt_nil, swt_cons, swl_nil, swl_cons, c3_eq, c3_lt, c3_ge, c3_le, c3_gt, c3_inr, c3_inr2, cnd_0, cnd_1, cnd_2, cnd_3, cnd_4, cnd_5, wide_I, wide_R, wide_L, wide_F, wide_D, wide_S, nw_I, nw_L, nw_F, nw_D, nw_U, nw_R, nw_S, fgo_cO, fso_cO, Option.map_some, alo_cI, ado_cD, aro_cR, ano_cI, ano_cD, lst, List.getElem?_cons_zero, List.getElem?_cons_succ, List.set_cons_zero, List.set_cons_succ, and_true, true_and, true_implies, forall_const, true_or, or_true, hg_same, hg_ne,  b2', m3, m1]
    rw [show 128 * (q : Int) + (i : Int) = ((128 * q + i : Nat) : Int) by omega, c5, c6]
    refine ⟨by omega, by omega, c_power c7 ?_⟩
    try simp (disch := omega) only [w159_0, w159_50, w159_55, e159, x_iconst, x_bipush, x_sipush, x_ldc, x_lconst, x_ldc2l, x_dconst, x_ldc2d, x_ldcf, x_iadd, x_isub, x_imul, x_idiv, x_irem, x_ishl, x_ishr, x_iand, x_ior, x_ixor, x_ladd, x_lsub, x_lmul, x_ldiv, x_lrem, x_lshl, x_lshr, x_lor, x_land, x_lcmp, x_i2l, x_l2i, x_i2b, x_i2f, x_l2f, x_l2d, x_f2d, x_d2l, x_fdiv, x_dadd, x_dsub, x_dmul, x_ddiv, x_dcmp, x_fcmp, x_dup, x_pop, x_dup2, x_objinit, x_rawF, x_rawD, gV_0, gV_1, gV_2, gV_3, gV_4, gV_S, x_iload, x_lload, x_fload, x_dload, x_aload, x_istore, x_fstore, x_astore, x_lstore, x_dstore, gX_I, x_iinc, x_getf, x_putfI, x_putfL, x_putfR, x_iald, x_bald, x_zald, x_lald, x_dald, x_aald, x_iast, x_bast, x_zast, x_last, x_dast, x_aast, x_alen, x_new, x_newa, x_anew, x_acopy, x_sld, x_slen, x_fall, x_goto, x_if, x_cmp, x_tsw, x_lsw, x_ret, x_iret, x_zret, x_lret, x_fret, x_dret, x_aret, x_callr, x_callv, x_calli, x_calls, rcv_R, isO_cO, JW_def, kO_some, sk4, cats_nil, cats_I, cats_L, cats_F, cats_D, cats_R, cats_S, Nat.reduceAdd, Nat.reduceLeDiff, inr, inq, Int.reduceEq, Int.reduceLT, Int.reduceLE, Int.reduceNeg, not_false_eq_true, not_true_eq_false, false_implies, and_self, pk_nil, pk_cons, wk_0, wk_1, wk_2, wk_3, wk_4, swt_nil, swt_cons, swl_nil, swl_cons, c3_eq, c3_lt, c3_ge, c3_le, c3_gt, c3_inr, c3_inr2, cnd_0, cnd_1, cnd_2, cnd_3, cnd_4, cnd_5, wide_I, wide_R, wide_L, wide_F, wide_D, wide_S, nw_I, nw_L, nw_F, nw_D, nw_U, nw_R, nw_S, fgo_cO, fso_cO, Option.map_some, alo_cI, ado_cD, aro_cR, ano_cI, ano_cD, lst, List.getElem?_cons_zero, List.getElem?_cons_succ, List.set_cons_zero, List.set_cons_succ, and_true, true_and, true_implies, forall_const, true_or, or_true, hg_same, hg_ne]
    rw [show (16 : Int) ^ x.1 = ((16 ^ x.1 : Nat) : Int) by rw [Int.natCast_pow]; rfl]
    refine d_lowest (by omega) (by omega) c2 ok.2 ?_
    try simp (disch := omega) only [w159_0, w159_50, w159_55, e159, x_iconst, x_bipush, x_sipush, x_ldc, x_lconst, x_ldc2l, x_dconst, x_ldc2d, x_ldcf, x_iadd, x_isub, x_imul, x_idiv, x_irem, x_ishl, x_ishr, x_iand, x_ior, x_ixor, x_ladd, x_lsub, x_lmul, x_ldiv, x_lrem, x_lshl, x_lshr, x_lor, x_land, x_lcmp, x_i2l, x_l2i, x_i2b, x_i2f, x_l2f, x_l2d, x_f2d, x_d2l, x_fdiv, x_dadd, x_dsub, x_dmul, x_ddiv, x_dcmp, x_fcmp, x_dup, x_pop, x_dup2, x_objinit, x_rawF, x_rawD, gV_0, gV_1, gV_2, gV_3, gV_4, gV_S, x_iload, x_lload, x_fload, x_dload, x_aload, x_istore, x_fstore, x_astore, x_lstore, x_dstore, gX_I, x_iinc, x_getf, x_putfI, x_putfL, x_putfR, x_iald, x_bald, x_zald, x_lald, x_dald, x_aald, x_iast, x_bast, x_zast, x_last, x_dast, x_aast, x_alen, x_new, x_newa, x_anew, x_acopy, x_sld, x_slen, x_fall, x_goto, x_if, x_cmp, x_tsw, x_lsw, x_ret, x_iret, x_zret, x_lret, x_fret, x_dret, x_aret, x_callr, x_callv, x_calli, x_calls, rcv_R, isO_cO, JW_def, kO_some, sk4, cats_nil, cats_I, cats_L, cats_F, cats_D, cats_R, cats_S, Nat.reduceAdd, Nat.reduceLeDiff, inr, inq, Int.reduceEq, Int.reduceLT, Int.reduceLE, Int.reduceNeg, not_false_eq_true, not_true_eq_false, false_implies, and_self, pk_nil, pk_cons, wk_0, wk_1, wk_2, wk_3, wk_4, swt_nil, swt_cons, swl_nil, swl_cons, c3_eq, c3_lt, c3_ge, c3_le, c3_gt, c3_inr, c3_inr2, cnd_0, cnd_1, cnd_2, cnd_3, cnd_4, cnd_5, wide_I, wide_R, wide_L, wide_F, wide_D, wide_S, nw_I, nw_L, nw_F, nw_D, nw_U, nw_R, nw_S, fgo_cO, fso_cO, Option.map_some, alo_cI, ado_cD, aro_cR, ano_cI, ano_cD, lst, List.getElem?_cons_zero, List.getElem?_cons_succ, List.set_cons_zero, List.set_cons_succ, and_true, true_and, true_implies, forall_const, true_or, or_true, hg_same, hg_ne]
    exact fin
  · have bad : K1 (pL (-9223372036854775808 - -2)) h := by
      refine hK (-9223372036854775808 - -2) _ (Post_of I1 I2 b (Fr_rf _ _ _) (fun b1 lim K2 hK2 => ?_))
      obtain ⟨⟨tm, tr, ph, b2⟩, b3, b4, b5, b6, b7, b8, b9⟩ := id b1
      obtain ⟨⟨f1, x1, y1⟩, ⟨f2, x2, y2⟩⟩ := id b6
      have b2' := id b2
      unfold MO at b2'
      obtain ⟨le, sp, nu, sn, wo, ro, no, lv, z3, T⟩ := id b4
      try simp (disch := omega) only [w159_0, w159_50, w159_55, e159, x_iconst, x_bipush, x_sipush, x_ldc, x_lconst, x_ldc2l, x_dconst, x_ldc2d, x_ldcf, x_iadd, x_isub, x_imul, x_idiv, x_irem, x_ishl, x_ishr, x_iand, x_ior, x_ixor, x_ladd, x_lsub, x_lmul, x_ldiv, x_lrem, x_lshl, x_lshr, x_lor, x_land, x_lcmp, x_i2l, x_l2i, x_i2b, x_i2f, x_l2f, x_l2d, x_f2d, x_d2l, x_fdiv, x_dadd, x_dsub, x_dmul, x_ddiv, x_dcmp, x_fcmp, x_dup, x_pop, x_dup2, x_objinit, x_rawF, x_rawD, gV_0, gV_1, gV_2, gV_3, gV_4, gV_S, x_iload, x_lload, x_fload, x_dload, x_aload, x_istore, x_fstore, x_astore, x_lstore, x_dstore, gX_I, x_iinc, x_getf, x_putfI, x_putfL, x_putfR, x_iald, x_bald, x_zald, x_lald, x_dald, x_aald, x_iast, x_bast, x_zast, x_last, x_dast, x_aast, x_alen, x_new, x_newa, x_anew, x_acopy, x_sld, x_slen, x_fall, x_goto, x_if, x_cmp, x_tsw, x_lsw, x_ret, x_iret, x_zret, x_lret, x_fret, x_dret, x_aret, x_callr, x_callv, x_calli, x_calls, rcv_R, isO_cO, JW_def, kO_some, sk4, cats_nil, cats_I, cats_L, cats_F, cats_D, cats_R, cats_S, Nat.reduceAdd, Nat.reduceLeDiff, inr, inq, Int.reduceEq, Int.reduceLT, Int.reduceLE, Int.reduceNeg, not_false_eq_true, not_true_eq_false, false_implies, and_self, pk_nil, pk_cons, wk_0, wk_1, wk_2, wk_3, wk_4, swt_nil, swt_cons, swl_nil, swl_cons, c3_eq, c3_lt, c3_ge, c3_le, c3_gt, c3_inr, c3_inr2, cnd_0, cnd_1, cnd_2, cnd_3, cnd_4, cnd_5, wide_I, wide_R, wide_L, wide_F, wide_D, wide_S, nw_I, nw_L, nw_F, nw_D, nw_U, nw_R, nw_S, fgo_cO, fso_cO, Option.map_some, alo_cI, ado_cD, aro_cR, ano_cI, ano_cD, lst, List.getElem?_cons_zero, List.getElem?_cons_succ, List.set_cons_zero, List.set_cons_succ, and_true, true_and, true_implies, forall_const, true_or, or_true, hg_same, hg_ne,  b2']
      refine d_isNode b2 hQ.2 (N := 1 + KK m wd * m) z3.2.2.2.2.2.2.1 (fun q' hq' => (T q' hq').1) (by omega) hq' hi' (fun _ => ?_) (fun e => ?_)
      · try simp (disch := omega) only [w159_0, w159_50, w159_55, e159, x_iconst, x_bipush, x_sipush, x_ldc, x_lconst, x_ldc2l, x_dconst, x_ldc2d, x_ldcf, x_iadd, x_isub, x_imul, x_idiv, x_irem, x_ishl, x_ishr, x_iand, x_ior, x_ixor, x_ladd, x_lsub, x_lmul, x_ldiv, x_lrem, x_lshl, x_lshr, x_lor, x_land, x_lcmp, x_i2l, x_l2i, x_i2b, x_i2f, x_l2f, x_l2d, x_f2d, x_d2l, x_fdiv, x_dadd, x_dsub, x_dmul, x_ddiv, x_dcmp, x_fcmp, x_dup, x_pop, x_dup2, x_objinit, x_rawF, x_rawD, gV_0, gV_1, gV_2, gV_3, gV_4, gV_S, x_iload, x_lload, x_fload, x_dload, x_aload, x_istore, x_fstore, x_astore, x_lstore, x_dstore, gX_I, x_iinc, x_getf, x_putfI, x_putfL, x_putfR, x_iald, x_bald, x_zald, x_lald, x_dald, x_aald, x_iast, x_bast, x_zast, x_last, x_dast, x_aast, x_alen, x_new, x_newa, x_anew, x_acopy, x_sld, x_slen, x_fall, x_goto, x_if, x_cmp, x_tsw, x_lsw, x_ret, x_iret, x_zret, x_lret, x_fret, x_dret, x_aret, x_callr, x_callv, x_calli, x_calls, rcv_R, isO_cO, JW_def, kO_some, sk4, cats_nil, cats_I, cats_L, cats_F, cats_D, cats_R, cats_S, Nat.reduceAdd, Nat.reduceLeDiff, inr, inq, Int.reduceEq, Int.reduceLT, Int.reduceLE, Int.reduceNeg, not_false_eq_true, not_true_eq_false, false_implies, and_self, pk_nil, pk_cons, wk_0, wk_1, wk_2, wk_3, wk_4, swt_nil, swt_cons, swl_nil, swl_cons, c3_eq, c3_lt, c3_ge, c3_le, c3_gt, c3_inr, c3_inr2, cnd_0, cnd_1, cnd_2, cnd_3, cnd_4, cnd_5, wide_I, wide_R, wide_L, wide_F, wide_D, wide_S, nw_I, nw_L, nw_F, nw_D, nw_U, nw_R, nw_S, fgo_cO, fso_cO, Option.map_some, alo_cI, ado_cD, aro_cR, ano_cI, ano_cD, lst, List.getElem?_cons_zero, List.getElem?_cons_succ, List.set_cons_zero, List.set_cons_succ, and_true, true_and, true_implies, forall_const, true_or, or_true, hg_same, hg_ne,  b2']
        refine c_isTwo hw' (fun _ => by omega) (fun e => ?_)
        try simp (disch := omega) only [w159_0, w159_50, w159_55, e159, w44_0, e44, x_iconst, x_bipush, x_sipush, x_ldc, x_lconst, x_ldc2l, x_dconst, x_ldc2d, x_ldcf, x_iadd, x_isub, x_imul, x_idiv, x_irem, x_ishl, x_ishr, x_iand, x_ior, x_ixor, x_ladd, x_lsub, x_lmul, x_ldiv, x_lrem, x_lshl, x_lshr, x_lor, x_land, x_lcmp, x_i2l, x_l2i, x_i2b, x_i2f, x_l2f, x_l2d, x_f2d, x_d2l, x_fdiv, x_dadd, x_dsub, x_dmul, x_ddiv, x_dcmp, x_fcmp, x_dup, x_pop, x_dup2, x_objinit, x_rawF, x_rawD, gV_0, gV_1, gV_2, gV_3, gV_4, gV_S, x_iload, x_lload, x_fload, x_dload, x_aload, x_istore, x_fstore, x_astore, x_lstore, x_dstore, gX_I, x_iinc, x_getf, x_putfI, x_putfL, x_putfR, x_iald, x_bald, x_zald, x_lald, x_dald, x_aald, x_iast, x_bast, x_zast, x_last, x_dast, x_aast, x_alen, x_new, x_newa, x_anew, x_acopy, x_sld, x_slen, x_fall, x_goto, x_if, x_cmp, x_tsw, x_lsw, x_ret, x_iret, x_zret, x_lret, x_fret, x_dret, x_aret, x_callr, x_callv, x_calli, x_calls, rcv_R, isO_cO, JW_def, kO_some, sk4, cats_nil, cats_I, cats_L, cats_F, cats_D, cats_R, cats_S, Nat.reduceAdd, Nat.reduceLeDiff, inr, inq, Int.reduceEq, Int.reduceLT, Int.reduceLE, Int.reduceNeg, not_false_eq_true, not_true_eq_false, false_implies, and_self, pk_nil, pk_cons, wk_0, wk_1, wk_2, wk_3, wk_4, swt_nil, swt_cons, swl_nil, swl_cons, c3_eq, c3_lt, c3_ge, c3_le, c3_gt, c3_inr, c3_inr2, cnd_0, cnd_1, cnd_2, cnd_3, cnd_4, cnd_5, wide_I, wide_R, wide_L, wide_F, wide_D, wide_S, nw_I, nw_L, nw_F, nw_D, nw_U, nw_R, nw_S, fgo_cO, fso_cO, Option.map_some, alo_cI, ado_cD, aro_cR, ano_cI, ano_cD, lst, List.getElem?_cons_zero, List.getElem?_cons_succ, List.set_cons_zero, List.set_cons_succ, and_true, true_and, true_implies, forall_const, true_or, or_true, hg_same, hg_ne,  b2']
        exact hK2 _ (Inv_of I1 I2 (Fr_rf _ _ _) a (Fr_rf _ _ _) b v)
      · try simp (disch := omega) only [w159_0, w159_50, w159_55, e159, w44_0, e44, x_iconst, x_bipush, x_sipush, x_ldc, x_lconst, x_ldc2l, x_dconst, x_ldc2d, x_ldcf, x_iadd, x_isub, x_imul, x_idiv, x_irem, x_ishl, x_ishr, x_iand, x_ior, x_ixor, x_ladd, x_lsub, x_lmul, x_ldiv, x_lrem, x_lshl, x_lshr, x_lor, x_land, x_lcmp, x_i2l, x_l2i, x_i2b, x_i2f, x_l2f, x_l2d, x_f2d, x_d2l, x_fdiv, x_dadd, x_dsub, x_dmul, x_ddiv, x_dcmp, x_fcmp, x_dup, x_pop, x_dup2, x_objinit, x_rawF, x_rawD, gV_0, gV_1, gV_2, gV_3, gV_4, gV_S, x_iload, x_lload, x_fload, x_dload, x_aload, x_istore, x_fstore, x_astore, x_lstore, x_dstore, gX_I, x_iinc, x_getf, x_putfI, x_putfL, x_putfR, x_iald, x_bald, x_zald, x_lald, x_dald, x_aald, x_iast, x_bast, x_zast, x_last, x_dast, x_aast, x_alen, x_new, x_newa, x_anew, x_acopy, x_sld, x_slen, x_fall, x_goto, x_if, x_cmp, x_tsw, x_lsw, x_ret, x_iret, x_zret, x_lret, x_fret, x_dret, x_aret, x_callr, x_callv, x_calli, x_calls, rcv_R, isO_cO, JW_def, kO_some, sk4, cats_nil, cats_I, cats_L, cats_F, cats_D, cats_R, cats_S, Nat.reduceAdd, Nat.reduceLeDiff, inr, inq, Int.reduceEq, Int.reduceLT, Int.reduceLE, Int.reduceNeg, not_false_eq_true, not_true_eq_false, false_implies, and_self, pk_nil, pk_cons, wk_0, wk_1, wk_2, wk_3, wk_4, swt_nil, swt_cons, swl_nil, swl_cons, c3_eq, c3_lt, c3_ge, c3_le, c3_gt, c3_inr, c3_inr2, cnd_0, cnd_1, cnd_2, cnd_3, cnd_4, cnd_5, wide_I, wide_R, wide_L, wide_F, wide_D, wide_S, nw_I, nw_L, nw_F, nw_D, nw_U, nw_R, nw_S, fgo_cO, fso_cO, Option.map_some, alo_cI, ado_cD, aro_cR, ano_cI, ano_cD, lst, List.getElem?_cons_zero, List.getElem?_cons_succ, List.set_cons_zero, List.set_cons_succ, and_true, true_and, true_implies, forall_const, true_or, or_true, hg_same, hg_ne,  b2']
        exact hK2 _ (Inv_of I1 I2 (Fr_rf _ _ _) a (Fr_rf _ _ _) b v)
    try simp (disch := omega) only [w169_0, w169_18, w169_24, e169, x_iconst, x_bipush, x_sipush, x_ldc, x_lconst, x_ldc2l, x_dconst, x_ldc2d, x_ldcf, x_iadd, x_isub, x_imul, x_idiv, x_irem, x_ishl, x_ishr, x_iand, x_ior, x_ixor, x_ladd, x_lsub, x_lmul, x_ldiv, x_lrem, x_lshl, x_lshr, x_lor, x_land, x_lcmp, x_i2l, x_l2i, x_i2b, x_i2f, x_l2f, x_l2d, x_f2d, x_d2l, x_fdiv, x_dadd, x_dsub, x_dmul, x_ddiv, x_dcmp, x_fcmp, x_dup, x_pop, x_dup2, x_objinit, x_rawF, x_rawD, gV_0, gV_1, gV_2, gV_3, gV_4, gV_S, x_iload, x_lload, x_fload, x_dload, x_aload, x_istore, x_fstore, x_astore, x_lstore, x_dstore, gX_I, x_iinc, x_getf, x_putfI, x_putfL, x_putfR, x_iald, x_bald, x_zald, x_lald, x_dald, x_aald, x_iast, x_bast, x_zast, x_last, x_dast, x_aast, x_alen, x_new, x_newa, x_anew, x_acopy, x_sld, x_slen, x_fall, x_goto, x_if, x_cmp, x_tsw, x_lsw, x_ret, x_iret, x_zret, x_lret, x_fret, x_dret, x_aret, x_callr, x_callv, x_calli, x_calls, rcv_R, isO_cO, JW_def, kO_some, sk4, cats_nil, cats_I, cats_L, cats_F, cats_D, cats_R, cats_S, Nat.reduceAdd, Nat.reduceLeDiff, inr, inq, Int.reduceEq, Int.reduceLT, Int.reduceLE, Int.reduceNeg, not_false_eq_true, not_true_eq_false, false_implies, and_self, pk_nil, pk_cons, wk_0, wk_1, wk_2, wk_3, wk_4, swt_nil, swt_cons, swl_nil, swl_cons, c3_eq, c3_lt, c3_ge, c3_le, c3_gt, c3_inr, c3_inr2, cnd_0, cnd_1, cnd_2, cnd_3, cnd_4, cnd_5, wide_I, wide_R, wide_L, wide_F, wide_D, wide_S, nw_I, nw_L, nw_F, nw_D, nw_U, nw_R, nw_S, fgo_cO, fso_cO, Option.map_some, alo_cI, ado_cD, aro_cR, ano_cI, ano_cD, lst, List.getElem?_cons_zero, List.getElem?_cons_succ, List.set_cons_zero, List.set_cons_succ, and_true, true_and, true_implies, forall_const, true_or, or_true, hg_same, hg_ne,  a1']
    refine c_isNode a v1 hq' hi' (fun e1 => ?_) (fun e1 => ?_)
    · try simp (disch := omega) only [w169_0, w169_18, w169_24, e169, w37_0, e37, x_iconst, x_bipush, x_sipush, x_ldc, x_lconst, x_ldc2l, x_dconst, x_ldc2d, x_ldcf, x_iadd, x_isub, x_imul, x_idiv, x_irem, x_ishl, x_ishr, x_iand, x_ior, x_ixor, x_ladd, x_lsub, x_lmul, x_ldiv, x_lrem, x_lshl, x_lshr, x_lor, x_land, x_lcmp, x_i2l, x_l2i, x_i2b, x_i2f, x_l2f, x_l2d, x_f2d, x_d2l, x_fdiv, x_dadd, x_dsub, x_dmul, x_ddiv, x_dcmp, x_fcmp, x_dup, x_pop, x_dup2, x_objinit, x_rawF, x_rawD, gV_0, gV_1, gV_2, gV_3, gV_4, gV_S, x_iload, x_lload, x_fload, x_dload, x_aload, x_istore, x_fstore, x_astore, x_lstore, x_dstore, gX_I, x_iinc, x_getf, x_putfI, x_putfL, x_putfR, x_iald, x_bald, x_zald, x_lald, x_dald, x_aald, x_iast, x_bast, x_zast, x_last, x_dast, x_aast, x_alen, x_new, x_newa, x_anew, x_acopy, x_sld, x_slen, x_fall, x_goto, x_if, x_cmp, x_tsw, x_lsw, x_ret, x_iret, x_zret, x_lret, x_fret, x_dret, x_aret, x_callr, x_callv, x_calli, x_calls, rcv_R, isO_cO, JW_def, kO_some, sk4, cats_nil, cats_I, cats_L, cats_F, cats_D, cats_R, cats_S, Nat.reduceAdd, Nat.reduceLeDiff, inr, inq, Int.reduceEq, Int.reduceLT, Int.reduceLE, Int.reduceNeg, not_false_eq_true, not_true_eq_false, false_implies, and_self, pk_nil, pk_cons, wk_0, wk_1, wk_2, wk_3, wk_4, swt_nil, swt_cons, swl_nil, swl_cons, c3_eq, c3_lt, c3_ge, c3_le, c3_gt, c3_inr, c3_inr2, cnd_0, cnd_1, cnd_2, cnd_3, cnd_4, cnd_5, wide_I, wide_R, wide_L, wide_F, wide_D, wide_S, nw_I, nw_L, nw_F, nw_D, nw_U, nw_R, nw_S, fgo_cO, fso_cO, Option.map_some, alo_cI, ado_cD, aro_cR, ano_cI, ano_cD, lst, List.getElem?_cons_zero, List.getElem?_cons_succ, List.set_cons_zero, List.set_cons_succ, and_true, true_and, true_implies, forall_const, true_or, or_true, hg_same, hg_ne]
      exact ⟨by omega, fun e => bad, fun e => ⟨by omega, fun e => by omega, fun e => bad⟩⟩
    · try simp (disch := omega) only [w169_0, w169_18, w169_24, e169, w37_0, e37, x_iconst, x_bipush, x_sipush, x_ldc, x_lconst, x_ldc2l, x_dconst, x_ldc2d, x_ldcf, x_iadd, x_isub, x_imul, x_idiv, x_irem, x_ishl, x_ishr, x_iand, x_ior, x_ixor, x_ladd, x_lsub, x_lmul, x_ldiv, x_lrem, x_lshl, x_lshr, x_lor, x_land, x_lcmp, x_i2l, x_l2i, x_i2b, x_i2f, x_l2f, x_l2d, x_f2d, x_d2l, x_fdiv, x_dadd, x_dsub, x_dmul, x_ddiv, x_dcmp, x_fcmp, x_dup, x_pop, x_dup2, x_objinit, x_rawF, x_rawD, gV_0, gV_1, gV_2, gV_3, gV_4, gV_S, x_iload, x_lload, x_fload, x_dload, x_aload, x_istore, x_fstore, x_astore, x_lstore, x_dstore, gX_I, x_iinc, x_getf, x_putfI, x_putfL, x_putfR, x_iald, x_bald, x_zald, x_lald, x_dald, x_aald, x_iast, x_bast, x_zast, x_last, x_dast, x_aast, x_alen, x_new, x_newa, x_anew, x_acopy, x_sld, x_slen, x_fall, x_goto, x_if, x_cmp, x_tsw, x_lsw, x_ret, x_iret, x_zret, x_lret, x_fret, x_dret, x_aret, x_callr, x_callv, x_calli, x_calls, rcv_R, isO_cO, JW_def, kO_some, sk4, cats_nil, cats_I, cats_L, cats_F, cats_D, cats_R, cats_S, Nat.reduceAdd, Nat.reduceLeDiff, inr, inq, Int.reduceEq, Int.reduceLT, Int.reduceLE, Int.reduceNeg, not_false_eq_true, not_true_eq_false, false_implies, and_self, pk_nil, pk_cons, wk_0, wk_1, wk_2, wk_3, wk_4, swt_nil, swt_cons, swl_nil, swl_cons, c3_eq, c3_lt, c3_ge, c3_le, c3_gt, c3_inr, c3_inr2, cnd_0, cnd_1, cnd_2, cnd_3, cnd_4, cnd_5, wide_I, wide_R, wide_L, wide_F, wide_D, wide_S, nw_I, nw_L, nw_F, nw_D, nw_U, nw_R, nw_S, fgo_cO, fso_cO, Option.map_some, alo_cI, ado_cD, aro_cR, ano_cI, ano_cD, lst, List.getElem?_cons_zero, List.getElem?_cons_succ, List.set_cons_zero, List.set_cons_succ, and_true, true_and, true_implies, forall_const, true_or, or_true, hg_same, hg_ne]
      exact bad
/-! how likely a text is -/
def lkN (Q : Nat) (wf tx : Int → Int) (k : Nat) (s : Nat × Nat × Nat) : Option (Nat × Nat × Nat) := if 576460752303423487 < s.2.1 then none else some (s.1 * (wf (5 * (s.2.2 : Int) + tx k)).toNat / Nat.gcd (s.1 * (wf (5 * (s.2.2 : Int) + tx k)).toNat) (s.2.1 * 16), s.2.1 * 16 / Nat.gcd (s.1 * (wf (5 * (s.2.2 : Int) + tx k)).toNat) (s.2.1 * 16), (tx k).toNat % Q)
def lkS (Q : Nat) (wf tx : Int → Int) : Nat → Option (Nat × Nat × Nat)
  | 0 => some (1, 1, 0)
  | k + 1 => match lkS Q wf tx k with
    | none => none
    | some s => lkN Q wf tx k s
theorem lkS_none {Q : Nat} {wf tx : Int → Int} {k j : Nat} (h : lkS Q wf tx k = none) : lkS Q wf tx (k + j) = none := by
  induction j with
  | zero => exact h
  | succ j ih =>
    show (match lkS Q wf tx (k + j) with
      | none => none
      | some s => lkN Q wf tx (k + j) s) = none
    rw [ih]
theorem lkS_succ {Q : Nat} {wf tx : Int → Int} {k : Nat} {s : Nat × Nat × Nat} (h : lkS Q wf tx k = some s) : lkS Q wf tx (k + 1) = lkN Q wf tx k s := by
  show (match lkS Q wf tx k with
    | none => none
    | some s => lkN Q wf tx k s) = _
  rw [h]
def lkI (Q : Nat) (s : Nat × Nat × Nat) : Prop := 1 ≤ s.1 ∧ s.1 ≤ s.2.1 ∧ (∃ e : Nat, e ≤ 62 ∧ s.2.1 = 2 ^ e) ∧ s.2.2 < Q
theorem gcd_pow2 (a s : Nat) (ha : 0 < a) : ∃ k : Nat, k ≤ s ∧ Nat.gcd a (2 ^ s) = 2 ^ k := by
  have hex : ∀ n : Nat, ∀ i : Nat, n + i = s → 2 ^ i ∣ a → ∃ k : Nat, k ≤ s ∧ Nat.gcd a (2 ^ s) = 2 ^ k := by
    intro n
    induction n with
    | zero =>
      intro i hi hd
      have e : i = s := by omega
      subst e
      exact ⟨i, Nat.le_refl _, Nat.gcd_eq_right hd⟩
    | succ n ih =>
      intro i hi hd
      by_cases h : 2 ^ (i + 1) ∣ a
      · exact ih (i + 1) (by omega) h
      · exact ⟨i, by omega, gcd_two hd ((Nat.pow_dvd_pow_iff_le_right (by decide)).mpr (by omega)) (fun r => h r.1)⟩
  exact hex s 0 (by omega) (by rw [Nat.pow_zero]; exact Nat.one_dvd _)
theorem lkN_ok {m Q wd : Nat} {wf tx : Int → Int} (v : SOK m Q wd wf) {k : Nat} (htx : 0 ≤ tx k ∧ tx k < (m : Int)) {s s' : Nat × Nat × Nat} (h : lkI Q s) (e : lkN Q wf tx k s = some s') : lkI Q s' := by
  obtain ⟨A, B, st⟩ := s
  obtain ⟨h1, h2, ⟨ex, h3, h4⟩, h5⟩ := h
  simp only at h1 h2 h4 h5
  have hQ := v.2.1
  obtain ⟨l, hl⟩ : ∃ l : Nat, tx k = (l : Int) := ⟨(tx k).toNat, by omega⟩
  have hw := v.2.2.2.2.1 st l (by omega) (by omega)
  unfold lkN at e
  simp only at e
  by_cases c : 576460752303423487 < B
  · rw [if_pos c] at e
    cases e
  · rw [if_neg c, hl] at e
    obtain ⟨w, hw2⟩ : ∃ w : Nat, wf (5 * (st : Int) + (l : Int)) = (w : Int) := ⟨(wf (5 * (st : Int) + (l : Int))).toNat, by omega⟩
    rw [hw2, Int.toNat_natCast, Int.toNat_natCast] at e
    have hA : 0 < A * w := Nat.mul_pos (by omega) (by omega)
    have hB : B * 16 = 2 ^ (ex + 4) := by rw [h4, Nat.pow_add]
    obtain ⟨k2, hk2, hg'⟩ := gcd_pow2 (A * w) (ex + 4) hA
    rw [← hB] at hg'
    have hAB : A * w ≤ B * 16 := Nat.mul_le_mul h2 (by omega)
    have hex : ex ≤ 58 := by
      by_cases hh : ex ≤ 58
      · exact hh
      · have : 2 ^ 59 ≤ 2 ^ ex := Nat.pow_le_pow_right (by decide) (by omega)
        rw [← h4] at this
        omega
    have e2 : s' = (A * w / Nat.gcd (A * w) (B * 16), B * 16 / Nat.gcd (A * w) (B * 16), l % Q) := by simpa using e.symm
    subst e2
    refine ⟨?_, Nat.div_le_div_right hAB, ⟨ex + 4 - k2, by omega, ?_⟩, Nat.mod_lt _ (by omega)⟩
    · exact (Nat.one_le_div_iff (Nat.gcd_pos_of_pos_left _ hA)).mpr (Nat.gcd_le_left _ hA)
    · show B * 16 / Nat.gcd (A * w) (B * 16) = _
      rw [hg', hB, Nat.pow_div hk2 (by decide)]
theorem lkS_ok {m Q wd : Nat} {wf tx : Int → Int} (v : SOK m Q wd wf) : ∀ (k : Nat), (∀ i : Int, 0 ≤ i → i < k → 0 ≤ tx i ∧ tx i < (m : Int)) → ∀ s, lkS Q wf tx k = some s → lkI Q s
  | 0, _, s, h => by
    have e : s = (1, 1, 0) := by simpa [lkS] using h.symm
    subst e
    exact ⟨Nat.le_refl 1, Nat.le_refl 1, ⟨0, by omega, rfl⟩, by have := v.2.1; show 0 < Q; omega⟩
  | k + 1, ht, s, h => by
    cases e : lkS Q wf tx k with
    | none =>
      rw [lkS_none (j := 1) e] at h
      cases h
    | some s0 =>
      rw [lkS_succ e] at h
      exact lkN_ok v (ht k (by omega) (by omega)) (lkS_ok v k (fun i i0 i1 => ht i i0 (by omega)) s0 e) h
def vLk (Q : Nat) (wf tx : Int → Int) (ts : Nat) (w : Int) : Int := match lkS Q wf tx ts with
  | none => -9223372036854775808 - -5
  | some s => if w = 0 then (s.1 : Int) else (s.2.1 : Int)

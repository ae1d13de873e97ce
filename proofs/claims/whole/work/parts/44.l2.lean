section L2
variable {h h1 : Hp} {m Q wd : Nat} {wf : Int → Int} {ts : Nat} {tx : Int → Int} {wc : Nat} {co : Int → Int} {re fi : Int} {kp : Int → Int} {sl : Int → Nat × Nat × Nat × (Int → Int)} {cf cs : Int → Int} {cd cl cc : Int → Int → Int} {ss : Int → Int} {sb : Int → Int → Int}
/-- object, text and code change -/
theorem CA_txc (a : CA h m Q wd wf ts tx wc co re fi kp sl cf cs cd cl cc ss sb) {ts2 wc2 : Nat} {re2 fi2 : Int} {tx2 co2 : Int → Int} (e0 : hg h1 0 = some (cO 5 [pR 1, pR 3, pR 4, pR 5, pR 6, pR 7, pR 8, pR 9, pR 10, pR 11, pR 12, pR 13, pI ts2, pI wc2, pI re2, pI fi2])) (e1 : hg h1 8 = some (cI 0 80 tx2)) (e2 : hg h1 9 = some (cI 0 80 co2)) (f1 : Sm h h1 1 8) (f2 : Sm h h1 14 87) (a4 : CSc h1) : CA h1 m Q wd wf (ts2) (tx2) (wc2) (co2) (re2) (fi2) kp sl cf cs cd cl cc ss sb := by
  obtain ⟨b1, b2, b3, b4, b5, b6, b7, b8, b9⟩ := a
  exact ⟨e0, SetA_sm b2 (f1 _ (by omega) (by omega)) (f1 _ (by omega) (by omega)), CRf_fr b3 (Sm_w f1 (by omega) (by omega)) (Sm_w f1 (by omega) (by omega)), ⟨(f1 _ (by omega) (by omega)).trans b4.1, e1, e2⟩, a4, CTr_fr b6 (Sm_w f2 (by omega) (by omega)), CSl_fr b7 (Sm_w f2 (by omega) (by omega)), CCr_fr b8 (Sm_w f2 (by omega) (by omega)), CSh_fr b9 (Sm_w f2 (by omega) (by omega))⟩
end L2
set_option maxRecDepth 20000 in
set_option maxHeartbeats 4000000 in
theorem k_wipe : Pair 25 58 [] := by
  intro h L xs I lim K1 hK
  obtain ⟨I1, I2, m, Q, wd, wf, ts, tx, wc, co, re, fi, kp, sl, cf, cs, cd, cl, cc, ss, sb, a, b, v⟩ := I
  obtain ⟨a1, a2, a3, a4, a5, a6, a7, a8, a9⟩ := id a
  obtain ⟨v1, v2, v3, v4, v5, v6, v7⟩ := id v
  have a1' := id a1
  unfold PTO at a1'
  obtain ⟨hts, htx⟩ := id v2
  obtain ⟨hwc, hco⟩ := id v3
  obtain ⟨hm, hQ, hwd, hmw, hW, hWs⟩ := id v1
  simp (disch := omega) only [w25_0, e25, x_iconst, x_bipush, x_sipush, x_ldc, x_lconst, x_ldc2l, x_dconst, x_ldc2d, x_ldcf, x_iadd, x_isub, x_imul, x_idiv, x_irem, x_ishl, x_ishr, x_iand, x_ior, x_ixor, x_ladd, x_lsub, x_lmul, x_ldiv, x_lrem, x_lshl, x_lshr, x_lor, x_land, x_lcmp, x_i2l, x_l2i, x_i2b, x_i2f, x_l2f, x_l2d, x_f2d, x_d2l, x_fdiv, x_dadd, x_dsub, x_dmul, x_ddiv, x_dcmp, x_fcmp, x_dup, x_pop, x_dup2, x_objinit, x_rawF, x_rawD, gV_0, gV_1, gV_2, gV_3, gV_4, gV_S, x_iload, x_lload, x_fload, x_dload, x_aload, x_istore, x_fstore, x_astore, x_lstore, x_dstore, gX_I, x_iinc, x_getf, x_putfI, x_putfL, x_putfR, x_iald, x_bald, x_zald, x_lald, x_dald, x_aald, x_iast, x_bast, x_zast, x_last, x_dast, x_aast, x_alen, x_new, x_newa, x_anew, x_acopy, x_sld, x_slen, x_fall, x_goto, x_if, x_cmp, x_tsw, x_lsw, x_ret, x_iret, x_zret, x_lret, x_fret, x_dret, x_aret, x_callr, x_callv, x_calli, x_calls, rcv_R, isO_cO, JW_def, kO_some, sk4, cats_nil, cats_I, cats_L, cats_F, cats_D, cats_R, cats_S, Nat.reduceAdd, Nat.reduceLeDiff, inr, inq, Int.reduceEq, Int.reduceLT, Int.reduceLE, Int.reduceNeg, not_false_eq_true, not_true_eq_false, false_implies, and_self, pk_nil, pk_cons, wk_0, wk_1, wk_2, wk_3, wk_4, swt_nil, swt_cons, swl_nil, swl_cons, c3_eq, c3_lt, c3_ge, c3_le, c3_gt, c3_inr, c3_inr2, cnd_0, cnd_1, cnd_2, cnd_3, cnd_4, cnd_5, wide_I, wide_R, wide_L, wide_F, wide_D, wide_S, nw_I, nw_L, nw_F, nw_D, nw_U, nw_R, nw_S, fgo_cO, fso_cO, Option.map_some, alo_cI, ado_cD, aro_cR, ano_cI, ano_cD, lst, List.getElem?_cons_zero, List.getElem?_cons_succ, List.set_cons_zero, List.set_cons_succ, and_true, true_and, true_implies, forall_const, true_or, or_true, hg_same, hg_ne,  a1']
  refine hK (ts) _ (by unfold inr; omega) (Post_of I1 I2 b (Fr_hu _ (by omega) (by omega)) (fun b1 lim K2 hK2 => ?_))
  obtain ⟨⟨tm, tr, ph, b2⟩, b3, b4, b5, b6, b7, b8, b9⟩ := id b1
  obtain ⟨⟨f1, x1, y1⟩, ⟨f2, x2, y2⟩⟩ := id b6
  have b2' := id b2
  unfold MO at b2'
  simp (disch := omega) only [w58_0, e58, x_iconst, x_bipush, x_sipush, x_ldc, x_lconst, x_ldc2l, x_dconst, x_ldc2d, x_ldcf, x_iadd, x_isub, x_imul, x_idiv, x_irem, x_ishl, x_ishr, x_iand, x_ior, x_ixor, x_ladd, x_lsub, x_lmul, x_ldiv, x_lrem, x_lshl, x_lshr, x_lor, x_land, x_lcmp, x_i2l, x_l2i, x_i2b, x_i2f, x_l2f, x_l2d, x_f2d, x_d2l, x_fdiv, x_dadd, x_dsub, x_dmul, x_ddiv, x_dcmp, x_fcmp, x_dup, x_pop, x_dup2, x_objinit, x_rawF, x_rawD, gV_0, gV_1, gV_2, gV_3, gV_4, gV_S, x_iload, x_lload, x_fload, x_dload, x_aload, x_istore, x_fstore, x_astore, x_lstore, x_dstore, gX_I, x_iinc, x_getf, x_putfI, x_putfL, x_putfR, x_iald, x_bald, x_zald, x_lald, x_dald, x_aald, x_iast, x_bast, x_zast, x_last, x_dast, x_aast, x_alen, x_new, x_newa, x_anew, x_acopy, x_sld, x_slen, x_fall, x_goto, x_if, x_cmp, x_tsw, x_lsw, x_ret, x_iret, x_zret, x_lret, x_fret, x_dret, x_aret, x_callr, x_callv, x_calli, x_calls, rcv_R, isO_cO, JW_def, kO_some, sk4, cats_nil, cats_I, cats_L, cats_F, cats_D, cats_R, cats_S, Nat.reduceAdd, Nat.reduceLeDiff, inr, inq, Int.reduceEq, Int.reduceLT, Int.reduceLE, Int.reduceNeg, not_false_eq_true, not_true_eq_false, false_implies, and_self, pk_nil, pk_cons, wk_0, wk_1, wk_2, wk_3, wk_4, swt_nil, swt_cons, swl_nil, swl_cons, c3_eq, c3_lt, c3_ge, c3_le, c3_gt, c3_inr, c3_inr2, cnd_0, cnd_1, cnd_2, cnd_3, cnd_4, cnd_5, wide_I, wide_R, wide_L, wide_F, wide_D, wide_S, nw_I, nw_L, nw_F, nw_D, nw_U, nw_R, nw_S, fgo_cO, fso_cO, Option.map_some, alo_cI, ado_cD, aro_cR, ano_cI, ano_cD, lst, List.getElem?_cons_zero, List.getElem?_cons_succ, List.set_cons_zero, List.set_cons_succ, and_true, true_and, true_implies, forall_const, true_or, or_true, hg_same, hg_ne,  b2']
  exact hK2 _ (Inv_of I1 I2 (Fr_hu _ (by omega) (by omega)) (CA_ob a (ts2 := 0) (wc2 := wc) (re2 := re) (fi2 := fi) rfl) (Fr_hu _ (by omega) (by omega)) (MA_ob b1 (ts2 := 0) (wc2 := wc) (by omega) (by omega) rfl) ⟨v1, ⟨by omega, fun j j0 j1 => by omega⟩, v3, v4, v5, v6, v7⟩)
set_option maxRecDepth 20000 in
set_option maxHeartbeats 4000000 in
theorem k_letter {k : Int} (hk : inr k) : Pair 26 108 [pI k] := by
  intro h L xs I lim K1 hK
  obtain ⟨I1, I2, m, Q, wd, wf, ts, tx, wc, co, re, fi, kp, sl, cf, cs, cd, cl, cc, ss, sb, a, b, v⟩ := I
  obtain ⟨a1, a2, a3, a4, a5, a6, a7, a8, a9⟩ := id a
  obtain ⟨v1, v2, v3, v4, v5, v6, v7⟩ := id v
  have a1' := id a1
  unfold PTO at a1'
  obtain ⟨hts, htx⟩ := id v2
  obtain ⟨hwc, hco⟩ := id v3
  obtain ⟨hm, hQ, hwd, hmw, hW, hWs⟩ := id v1
  unfold inr at hk
  simp (disch := omega) only [w26_0, w26_12, w26_17, w26_23, e26, x_iconst, x_bipush, x_sipush, x_ldc, x_lconst, x_ldc2l, x_dconst, x_ldc2d, x_ldcf, x_iadd, x_isub, x_imul, x_idiv, x_irem, x_ishl, x_ishr, x_iand, x_ior, x_ixor, x_ladd, x_lsub, x_lmul, x_ldiv, x_lrem, x_lshl, x_lshr, x_lor, x_land, x_lcmp, x_i2l, x_l2i, x_i2b, x_i2f, x_l2f, x_l2d, x_f2d, x_d2l, x_fdiv, x_dadd, x_dsub, x_dmul, x_ddiv, x_dcmp, x_fcmp, x_dup, x_pop, x_dup2, x_objinit, x_rawF, x_rawD, gV_0, gV_1, gV_2, gV_3, gV_4, gV_S, x_iload, x_lload, x_fload, x_dload, x_aload, x_istore, x_fstore, x_astore, x_lstore, x_dstore, gX_I, x_iinc, x_getf, x_putfI, x_putfL, x_putfR, x_iald, x_bald, x_zald, x_lald, x_dald, x_aald, x_iast, x_bast, x_zast, x_last, x_dast, x_aast, x_alen, x_new, x_newa, x_anew, x_acopy, x_sld, x_slen, x_fall, x_goto, x_if, x_cmp, x_tsw, x_lsw, x_ret, x_iret, x_zret, x_lret, x_fret, x_dret, x_aret, x_callr, x_callv, x_calli, x_calls, rcv_R, isO_cO, JW_def, kO_some, sk4, cats_nil, cats_I, cats_L, cats_F, cats_D, cats_R, cats_S, Nat.reduceAdd, Nat.reduceLeDiff, inr, inq, Int.reduceEq, Int.reduceLT, Int.reduceLE, Int.reduceNeg, not_false_eq_true, not_true_eq_false, false_implies, and_self, pk_nil, pk_cons, wk_0, wk_1, wk_2, wk_3, wk_4, swt_nil, swt_cons, swl_nil, swl_cons, c3_eq, c3_lt, c3_ge, c3_le, c3_gt, c3_inr, c3_inr2, cnd_0, cnd_1, cnd_2, cnd_3, cnd_4, cnd_5, wide_I, wide_R, wide_L, wide_F, wide_D, wide_S, nw_I, nw_L, nw_F, nw_D, nw_U, nw_R, nw_S, fgo_cO, fso_cO, Option.map_some, alo_cI, ado_cD, aro_cR, ano_cI, ano_cD, lst, List.getElem?_cons_zero, List.getElem?_cons_succ, List.set_cons_zero, List.set_cons_succ, and_true, true_and, true_implies, forall_const, true_or, or_true, hg_same, hg_ne,  a1', a4.2.1]
  done

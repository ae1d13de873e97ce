set_option maxRecDepth 20000 in
set_option maxHeartbeats 4000000 in
theorem k_encode : Pair 173 136 [] := by
  intro h L xs I lim K1 hK
  obtain ⟨I1, I2, m, Q, wd, wf, ts, tx, wc, co, re, fi, kp, sl, cf, cs, cd, cl, cc, ss, sb, a, b, v⟩ := I
  obtain ⟨a1, a2, a3, a4, a5, a6, a7, a8, a9⟩ := id a
  obtain ⟨v1, v2, v3, v4, v5, v6, v7⟩ := id v
  have a1' := id a1
  unfold PTO at a1'
  obtain ⟨hts, htx⟩ := id v2
  obtain ⟨hwc, hco⟩ := id v3
  obtain ⟨hm, hQ, hwd, hmw, hW, hWs⟩ := id v1
  have hn := KK_nodes hm.1 hm.2 hwd.2
  have hp := KK_pos hm.1 hmw
  have hm8 : m ≤ 8 := by omega
  have en := encF_ok (wf := wf) (tx := tx) hm.1 hm8 (show 0 < Q by omega) hp (show 1 + KK m wd * (m - 1) < 256 by omega) ts htx
  have ew := encW_ok hm.1 hm8 (by omega) en
  have hd8 := (dfs_code hm8 en.2.1).1
  simp only at hd8
  refine c_encode a v1 v2 (fun h1 g A1 hA fr => ?_)
  refine hK _ _ (by unfold inr; omega) (Post_of I1 I2 b fr (fun b1 lim K2 hK2 => ?_))
  obtain ⟨⟨tm, tr, ph, b2⟩, b3, b4, b5, b6, b7, b8, b9⟩ := id b1
  have b2' := id b2
  unfold MO at b2'
  obtain ⟨⟨f1, x1, y1⟩, ⟨f2, x2, y2⟩⟩ := id b6
  obtain ⟨⟨s1, r1⟩, ⟨s2, r2⟩, ⟨s3, r3⟩, ⟨s4, r4⟩, ⟨s5, r5⟩, ⟨s6, r6⟩, ⟨s7, r7⟩⟩ := id b5
  obtain ⟨le, sp, nu, sn, wo, ro, no, lv, z3, T⟩ := id b4
  generalize hW : encW m Q (KK m wd) wf tx ts = W at *
  generalize hD : (encF m Q (KK m wd) wf tx ts).2.1 = D at *
  try simp (disch := omega) only [w136_0, w136_33, e136, x_iconst, x_bipush, x_sipush, x_ldc, x_lconst, x_ldc2l, x_dconst, x_ldc2d, x_ldcf, x_iadd, x_isub, x_imul, x_idiv, x_irem, x_ishl, x_ishr, x_iand, x_ior, x_ixor, x_ladd, x_lsub, x_lmul, x_ldiv, x_lrem, x_lshl, x_lshr, x_lor, x_land, x_lcmp, x_i2l, x_l2i, x_i2b, x_i2f, x_l2f, x_l2d, x_f2d, x_d2l, x_fdiv, x_dadd, x_dsub, x_dmul, x_ddiv, x_dcmp, x_fcmp, x_dup, x_pop, x_dup2, x_objinit, x_rawF, x_rawD, gV_0, gV_1, gV_2, gV_3, gV_4, gV_S, x_iload, x_lload, x_fload, x_dload, x_aload, x_istore, x_fstore, x_astore, x_lstore, x_dstore, gX_I, x_iinc, x_getf, x_putfI, x_putfL, x_putfR, x_iald, x_bald, x_zald, x_lald, x_dald, x_aald, x_iast, x_bast, x_zast, x_last, x_dast, x_aast, x_alen, x_new, x_newa, x_anew, x_acopy, x_sld, x_slen, x_fall, x_goto, x_if, x_cmp, x_tsw, x_lsw, x_ret, x_iret, x_zret, x_lret, x_fret, x_dret, x_aret, x_callr, x_callv, x_calli, x_calls, rcv_R, isO_cO, JW_def, kO_some, sk4, cats_nil, cats_I, cats_L, cats_F, cats_D, cats_R, cats_S, Nat.reduceAdd, Nat.reduceLeDiff, inr, inq, Int.reduceEq, Int.reduceLT, Int.reduceLE, Int.reduceNeg, not_false_eq_true, not_true_eq_false, false_implies, and_self, pk_nil, pk_cons, wk_0, wk_1, wk_2, wk_3, wk_4, swt_nil, swt_cons, swl_nil, swl_cons, c3_eq, c3_lt, c3_ge, c3_le, c3_gt, c3_inr, c3_inr2, cnd_0, cnd_1, cnd_2, cnd_3, cnd_4, cnd_5, wide_I, wide_R, wide_L, wide_F, wide_D, wide_S, nw_I, nw_L, nw_F, nw_D, nw_U, nw_R, nw_S, fgo_cO, fso_cO, Option.map_some, alo_cI, ado_cD, aro_cR, ano_cI, ano_cD, lst, List.getElem?_cons_zero, List.getElem?_cons_succ, List.set_cons_zero, List.set_cons_succ, and_true, true_and, true_implies, forall_const, true_or, or_true, hg_same, hg_ne,  b2']
  refine d_tells (F := 0) b2 z3 (by omega) hm hQ ⟨hp, hn.1, hn.2⟩ (fun q hq => by rw [Nat.zero_add]; exact T q hq) x1 y1 r4 v2 (fun h2 td f2' o2 e2 hA2 => ?_)
  rw [hW, hD] at o2
  rw [hW] at hA2
  have o2' := id o2
  unfold MO at o2'
  have loop : ∀ (y i : Nat) (h3 : Hp), y + i = W.length → FrP (fun k => k = 101) h2 h3 → hg h3 101 = some (cI 0 80 (fl f2 0 i td)) → WP 136 7 [pR 87, pI i] [] h3 lim K2 := by
    intro y
    induction y with
    | zero =>
      intro i h3 hy f3 e3
      have ei : i = W.length := by omega
      subst ei
      have p0 := (f3.1 87 (by omega)).trans o2'
      rw [w136_7]
      try simp (disch := omega) only [w136_0, w136_33, e136, x_iconst, x_bipush, x_sipush, x_ldc, x_lconst, x_ldc2l, x_dconst, x_ldc2d, x_ldcf, x_iadd, x_isub, x_imul, x_idiv, x_irem, x_ishl, x_ishr, x_iand, x_ior, x_ixor, x_ladd, x_lsub, x_lmul, x_ldiv, x_lrem, x_lshl, x_lshr, x_lor, x_land, x_lcmp, x_i2l, x_l2i, x_i2b, x_i2f, x_l2f, x_l2d, x_f2d, x_d2l, x_fdiv, x_dadd, x_dsub, x_dmul, x_ddiv, x_dcmp, x_fcmp, x_dup, x_pop, x_dup2, x_objinit, x_rawF, x_rawD, gV_0, gV_1, gV_2, gV_3, gV_4, gV_S, x_iload, x_lload, x_fload, x_dload, x_aload, x_istore, x_fstore, x_astore, x_lstore, x_dstore, gX_I, x_iinc, x_getf, x_putfI, x_putfL, x_putfR, x_iald, x_bald, x_zald, x_lald, x_dald, x_aald, x_iast, x_bast, x_zast, x_last, x_dast, x_aast, x_alen, x_new, x_newa, x_anew, x_acopy, x_sld, x_slen, x_fall, x_goto, x_if, x_cmp, x_tsw, x_lsw, x_ret, x_iret, x_zret, x_lret, x_fret, x_dret, x_aret, x_callr, x_callv, x_calli, x_calls, rcv_R, isO_cO, JW_def, kO_some, sk4, cats_nil, cats_I, cats_L, cats_F, cats_D, cats_R, cats_S, Nat.reduceAdd, Nat.reduceLeDiff, inr, inq, Int.reduceEq, Int.reduceLT, Int.reduceLE, Int.reduceNeg, not_false_eq_true, not_true_eq_false, false_implies, and_self, pk_nil, pk_cons, wk_0, wk_1, wk_2, wk_3, wk_4, swt_nil, swt_cons, swl_nil, swl_cons, c3_eq, c3_lt, c3_ge, c3_le, c3_gt, c3_inr, c3_inr2, cnd_0, cnd_1, cnd_2, cnd_3, cnd_4, cnd_5, wide_I, wide_R, wide_L, wide_F, wide_D, wide_S, nw_I, nw_L, nw_F, nw_D, nw_U, nw_R, nw_S, fgo_cO, fso_cO, Option.map_some, alo_cI, ado_cD, aro_cR, ano_cI, ano_cD, lst, List.getElem?_cons_zero, List.getElem?_cons_succ, List.set_cons_zero, List.set_cons_succ, and_true, true_and, true_implies, forall_const, true_or, or_true, hg_same, hg_ne,  p0, hu_hu]
      refine ⟨by omega, fun _ => ?_, fun q => by omega⟩
      have ft : ∀ k, k ≠ 87 → k ≠ 101 → k ≠ 102 → hg (hu h3 87 (cO 6 [pI fi, pI m, pI Q, pI wd, pR 88, pR 89, pR 90, pR 91, pR 92, pR 93, pR 94, pR 95, pR 96, pR 97, pR 98, pR 99, pR 100, pI ts, pR 101, pI (W.length), pI D, pR 102, pI (W.length), pI D, pR 103, pI ph, pR 104, pI (fuK kp), pR 105, pR 106, pR 107, pR 108, pR 109, pR 110, pR 111])) k = hg h1 k := fun k k0 k1 k2 => (hg_ne _ _ _ _ k0).trans ((f3.1 k (by omega)).trans (f2'.1 k (by omega)))
      refine hK2 _ (Inv_of I1 I2 fr A1 (Fr_tr (FrP_Fr f2' (fun k q => by omega)) (Fr_tr (FrP_Fr f3 (fun k q => by omega)) (Fr_hu _ (by omega) (by omega)))) (MA_txc b1 (h1 := hu h3 87 (cO 6 [pI fi, pI m, pI Q, pI wd, pR 88, pR 89, pR 90, pR 91, pR 92, pR 93, pR 94, pR 95, pR 96, pR 97, pR 98, pR 99, pR 100, pI ts, pR 101, pI (W.length), pI D, pR 102, pI (W.length), pI D, pR 103, pI ph, pR 104, pI (fuK kp), pR 105, pR 106, pR 107, pR 108, pR 109, pR 110, pR 111])) (hg_same _ _ _) ((ft _ (by omega) (by omega) (by omega)).trans x1) ((hg_ne _ _ _ _ (by omega)).trans e3) y1 (fun i i0 i1 => by rw [fl_in (by omega)]; exact AW_eq hA hA2 i i0 i1) (fun k k0 k1 => ft k (by omega) (by omega) (by omega)) (fun k k0 k1 => ft k (by omega) (by omega) (by omega)) ⟨⟨s1, (ft _ (by omega) (by omega) (by omega)).trans r1⟩, ⟨s2, (ft _ (by omega) (by omega) (by omega)).trans r2⟩, ⟨s3, (ft _ (by omega) (by omega) (by omega)).trans r3⟩, ⟨td, (hg_ne _ _ _ _ (by omega)).trans ((f3.1 _ (by omega)).trans e2)⟩, ⟨s5, (ft _ (by omega) (by omega) (by omega)).trans r5⟩, ⟨s6, (ft _ (by omega) (by omega) (by omega)).trans r6⟩, ⟨s7, (ft _ (by omega) (by omega) (by omega)).trans r7⟩⟩) ⟨v1, v2, ⟨by omega, fun i i0 i1 => ?_⟩, ⟨by omega, v4.2⟩, v5, v6, v7⟩)
      have := AW_rng hA ew.2 i i0 i1
      omega
    | succ y ih =>
      intro i h3 hy f3 e3
      have p0 := (f3.1 87 (by omega)).trans o2'
      have p2 := (f3.1 102 (by omega)).trans e2
      rw [w136_7]
      try simp (disch := omega) only [w136_0, w136_33, e136, x_iconst, x_bipush, x_sipush, x_ldc, x_lconst, x_ldc2l, x_dconst, x_ldc2d, x_ldcf, x_iadd, x_isub, x_imul, x_idiv, x_irem, x_ishl, x_ishr, x_iand, x_ior, x_ixor, x_ladd, x_lsub, x_lmul, x_ldiv, x_lrem, x_lshl, x_lshr, x_lor, x_land, x_lcmp, x_i2l, x_l2i, x_i2b, x_i2f, x_l2f, x_l2d, x_f2d, x_d2l, x_fdiv, x_dadd, x_dsub, x_dmul, x_ddiv, x_dcmp, x_fcmp, x_dup, x_pop, x_dup2, x_objinit, x_rawF, x_rawD, gV_0, gV_1, gV_2, gV_3, gV_4, gV_S, x_iload, x_lload, x_fload, x_dload, x_aload, x_istore, x_fstore, x_astore, x_lstore, x_dstore, gX_I, x_iinc, x_getf, x_putfI, x_putfL, x_putfR, x_iald, x_bald, x_zald, x_lald, x_dald, x_aald, x_iast, x_bast, x_zast, x_last, x_dast, x_aast, x_alen, x_new, x_newa, x_anew, x_acopy, x_sld, x_slen, x_fall, x_goto, x_if, x_cmp, x_tsw, x_lsw, x_ret, x_iret, x_zret, x_lret, x_fret, x_dret, x_aret, x_callr, x_callv, x_calli, x_calls, rcv_R, isO_cO, JW_def, kO_some, sk4, cats_nil, cats_I, cats_L, cats_F, cats_D, cats_R, cats_S, Nat.reduceAdd, Nat.reduceLeDiff, inr, inq, Int.reduceEq, Int.reduceLT, Int.reduceLE, Int.reduceNeg, not_false_eq_true, not_true_eq_false, false_implies, and_self, pk_nil, pk_cons, wk_0, wk_1, wk_2, wk_3, wk_4, swt_nil, swt_cons, swl_nil, swl_cons, c3_eq, c3_lt, c3_ge, c3_le, c3_gt, c3_inr, c3_inr2, cnd_0, cnd_1, cnd_2, cnd_3, cnd_4, cnd_5, wide_I, wide_R, wide_L, wide_F, wide_D, wide_S, nw_I, nw_L, nw_F, nw_D, nw_U, nw_R, nw_S, fgo_cO, fso_cO, Option.map_some, alo_cI, ado_cD, aro_cR, ano_cI, ano_cD, lst, List.getElem?_cons_zero, List.getElem?_cons_succ, List.set_cons_zero, List.set_cons_succ, and_true, true_and, true_implies, forall_const, true_or, or_true, hg_same, hg_ne,  p0, p2, e3]
      refine ⟨by omega, fun q => by omega, fun _ => ⟨by omega, by omega, ?_⟩⟩
      rw [fl_gap _ _ _ _ (by omega) rfl]
      exact ih (i + 1) _ (by omega) (FrP_up _ f3 rfl) (hg_same _ _ _)
  try simp (disch := omega) only [w136_0, w136_33, e136, x_iconst, x_bipush, x_sipush, x_ldc, x_lconst, x_ldc2l, x_dconst, x_ldc2d, x_ldcf, x_iadd, x_isub, x_imul, x_idiv, x_irem, x_ishl, x_ishr, x_iand, x_ior, x_ixor, x_ladd, x_lsub, x_lmul, x_ldiv, x_lrem, x_lshl, x_lshr, x_lor, x_land, x_lcmp, x_i2l, x_l2i, x_i2b, x_i2f, x_l2f, x_l2d, x_f2d, x_d2l, x_fdiv, x_dadd, x_dsub, x_dmul, x_ddiv, x_dcmp, x_fcmp, x_dup, x_pop, x_dup2, x_objinit, x_rawF, x_rawD, gV_0, gV_1, gV_2, gV_3, gV_4, gV_S, x_iload, x_lload, x_fload, x_dload, x_aload, x_istore, x_fstore, x_astore, x_lstore, x_dstore, gX_I, x_iinc, x_getf, x_putfI, x_putfL, x_putfR, x_iald, x_bald, x_zald, x_lald, x_dald, x_aald, x_iast, x_bast, x_zast, x_last, x_dast, x_aast, x_alen, x_new, x_newa, x_anew, x_acopy, x_sld, x_slen, x_fall, x_goto, x_if, x_cmp, x_tsw, x_lsw, x_ret, x_iret, x_zret, x_lret, x_fret, x_dret, x_aret, x_callr, x_callv, x_calli, x_calls, rcv_R, isO_cO, JW_def, kO_some, sk4, cats_nil, cats_I, cats_L, cats_F, cats_D, cats_R, cats_S, Nat.reduceAdd, Nat.reduceLeDiff, inr, inq, Int.reduceEq, Int.reduceLT, Int.reduceLE, Int.reduceNeg, not_false_eq_true, not_true_eq_false, false_implies, and_self, pk_nil, pk_cons, wk_0, wk_1, wk_2, wk_3, wk_4, swt_nil, swt_cons, swl_nil, swl_cons, c3_eq, c3_lt, c3_ge, c3_le, c3_gt, c3_inr, c3_inr2, cnd_0, cnd_1, cnd_2, cnd_3, cnd_4, cnd_5, wide_I, wide_R, wide_L, wide_F, wide_D, wide_S, nw_I, nw_L, nw_F, nw_D, nw_U, nw_R, nw_S, fgo_cO, fso_cO, Option.map_some, alo_cI, ado_cD, aro_cR, ano_cI, ano_cD, lst, List.getElem?_cons_zero, List.getElem?_cons_succ, List.set_cons_zero, List.set_cons_succ, and_true, true_and, true_implies, forall_const, true_or, or_true, hg_same, hg_ne]
  exact loop W.length 0 h2 (by omega) (FrP_rf _ _) (by rw [show ((0 : Nat) : Int) = 0 from rfl, fl_0]; exact (f2'.1 _ (by omega)).trans x2)
section Q4
variable {h : Hp} {m Q wd : Nat} {wf : Int → Int} {ts : Nat} {tx : Int → Int} {wc : Nat} {co : Int → Int} {re fi : Int} {kp : Int → Int} {sl : Int → Nat × Nat × Nat × (Int → Int)} {cf cs : Int → Int} {cd cl cc : Int → Int → Int} {ss : Int → Int} {sb : Int → Int → Int}
set_option maxRecDepth 20000 in
set_option maxHeartbeats 4000000 in
theorem c_wordsBy (a : CA h m Q wd wf ts tx wc co re fi kp sl cf cs cd cl cc ss sb) (v : SOK m Q wd wf) (v2 : TOK m ts tx) {b : Nat} (hb : 1 ≤ b ∧ b ≤ 6) (hmb : m ≤ 2 ^ b) {lim : Nat × Nat} {K : QT} (hK : ∀ h', CA h' m Q wd wf ts tx wc co re fi kp sl cf cs cd cl cc ss sb → Fr h h' 14 59 → K (pI ((encW m Q (KK m b) wf tx ts).length : Int)) h') : WM 156 [pR 0, pI b] h lim K := by
  obtain ⟨a1, a2, -⟩ := id a
  unfold PTO at a1
  have hQ := v.2.1
  have hm := v.1
  have hn := KK_nodes hm.1 hm.2 hb.2
  have hKl := KK_le hm.1 hb.2
  have h64 := pow6 hb.2
  have hp := KK_pos hm.1 hmb
  have hm8 : m ≤ 8 := by omega
  obtain ⟨hts, htx⟩ := v2
  have enc := fun k (hk : k ≤ ts) => encF_ok (wf := wf) (tx := tx) hm.1 hm8 (show 0 < Q by omega) hp (show 1 + KK m b * (m - 1) < 256 by omega) k (fun i i0 i1 => htx i i0 (by omega))
  have loop : ∀ (y k st d c : Nat) (ws : List Nat) (n : Nat) (h1 : Hp) (z : PV), y + k = ts → encF m Q (KK m b) wf tx k = (st, d, c, ws) → n < 1 + KK m b * m → wnC m (scF Q st wf) n = (d, c) → (n = 0 ↔ d = 0) → CA h1 m Q wd wf ts tx wc co re fi kp sl cf cs cd cl cc ss sb → Fr h h1 14 59 → WP 156 20 [pR 0, pI b, pI (KK m b), pI ws.length, pI st, pI n, pI k, z] [] h1 lim K := by
    intro y
    induction y with
    | zero =>
      intro k st d c ws n h1 z hy he hn1 hw hnd A1 f
      have ek : k = ts := by omega
      subst ek
      have b1 := A1.1
      unfold PTO at b1
      have hW : encW m Q (KK m b) wf tx k = if d = 0 then ws else ws ++ [rkD (TK m (scF Q st wf) (KK m b)) d c] := by
        unfold encW
        rw [he]
      have k1 := hK h1 A1 f
      rw [hW] at k1
      rw [w156_20]
      try simp (disch := omega) only [w156_0, w156_101, w156_107, w156_116, w156_119, e156, x_iconst, x_bipush, x_sipush, x_ldc, x_lconst, x_ldc2l, x_dconst, x_ldc2d, x_ldcf, x_iadd, x_isub, x_imul, x_idiv, x_irem, x_ishl, x_ishr, x_iand, x_ior, x_ixor, x_ladd, x_lsub, x_lmul, x_ldiv, x_lrem, x_lshl, x_lshr, x_lor, x_land, x_lcmp, x_i2l, x_l2i, x_i2b, x_i2f, x_l2f, x_l2d, x_f2d, x_d2l, x_fdiv, x_dadd, x_dsub, x_dmul, x_ddiv, x_dcmp, x_fcmp, x_dup, x_pop, x_dup2, x_objinit, x_rawF, x_rawD, gV_0, gV_1, gV_2, gV_3, gV_4, gV_S, x_iload, x_lload, x_fload, x_dload, x_aload, x_istore, x_fstore, x_astore, x_lstore, x_dstore, gX_I, x_iinc, x_getf, x_putfI, x_putfL, x_putfR, x_iald, x_bald, x_zald, x_lald, x_dald, x_aald, x_iast, x_bast, x_zast, x_last, x_dast, x_aast, x_alen, x_new, x_newa, x_anew, x_acopy, x_sld, x_slen, x_fall, x_goto, x_if, x_cmp, x_tsw, x_lsw, x_ret, x_iret, x_zret, x_lret, x_fret, x_dret, x_aret, x_callr, x_callv, x_calli, x_calls, rcv_R, isO_cO, JW_def, kO_some, sk4, cats_nil, cats_I, cats_L, cats_F, cats_D, cats_R, cats_S, Nat.reduceAdd, Nat.reduceLeDiff, inr, inq, Int.reduceEq, Int.reduceLT, Int.reduceLE, Int.reduceNeg, not_false_eq_true, not_true_eq_false, false_implies, and_self, pk_nil, pk_cons, wk_0, wk_1, wk_2, wk_3, wk_4, swt_nil, swt_cons, swl_nil, swl_cons, c3_eq, c3_lt, c3_ge, c3_le, c3_gt, c3_inr, c3_inr2, cnd_0, cnd_1, cnd_2, cnd_3, cnd_4, cnd_5, wide_I, wide_R, wide_L, wide_F, wide_D, wide_S, nw_I, nw_L, nw_F, nw_D, nw_U, nw_R, nw_S, fgo_cO, fso_cO, Option.map_some, alo_cI, ado_cD, aro_cR, ano_cI, ano_cD, lst, List.getElem?_cons_zero, List.getElem?_cons_succ, List.set_cons_zero, List.set_cons_succ, and_true, true_and, true_implies, forall_const, true_or, or_true, hg_same, hg_ne,  b1]
      refine ⟨by omega, fun _ => ⟨by omega, fun e => ?_, fun e => ?_⟩, fun q => by omega⟩
      · rw [if_neg (by omega), List.length_append, List.length_singleton] at k1
        exact k1
      · rw [if_pos (by omega)] at k1
        exact k1
    | succ y ih =>
      intro k st d c ws n h1 z hy he hn1 hw hnd A1 f
      obtain ⟨i1, i2, i3, i4⟩ := enc k (by omega)
      rw [he] at i1 i2 i3 i4
      simp only at i1 i2 i3 i4
      obtain ⟨b1, b2, b3, b4, b5, b6, b7, b8, b9⟩ := id A1
      have b1' := id b1
      unfold PTO at b1'
      obtain ⟨⟨tf, t1, t2⟩, -⟩ := id b3
      have t3 := t2 st (by omega)
      have ht := htx k (by omega) (by omega)
      obtain ⟨l, hl⟩ : ∃ l : Nat, tx k = (l : Int) := ⟨(tx k).toNat, by omega⟩
      have hlm : l < m := by omega
      have he1 : encF m Q (KK m b) wf tx (k + 1) = encN m Q (KK m b) wf l (st, d, c, ws) := by
        show encN m Q (KK m b) wf (tx k).toNat (encF m Q (KK m b) wf tx k) = _
        rw [he, hl, Int.toNat_natCast]
      obtain ⟨kk, tt, x⟩ := b6 st (by omega)
      obtain ⟨x1, x2, nf, lf, nu, fw, od, lo, es, lg, ls, x3, x4⟩ := id x
      obtain ⟨wn0, lb0, dp0, ch0, so0, ns0, op0, oc0, mm0, y1, -⟩ := id x1
      have x30 := x3.1
      have y10 := y1.1
      rw [w156_20]
      try simp (disch := omega) only [w156_0, w156_101, w156_107, w156_116, w156_119, e156, x_iconst, x_bipush, x_sipush, x_ldc, x_lconst, x_ldc2l, x_dconst, x_ldc2d, x_ldcf, x_iadd, x_isub, x_imul, x_idiv, x_irem, x_ishl, x_ishr, x_iand, x_ior, x_ixor, x_ladd, x_lsub, x_lmul, x_ldiv, x_lrem, x_lshl, x_lshr, x_lor, x_land, x_lcmp, x_i2l, x_l2i, x_i2b, x_i2f, x_l2f, x_l2d, x_f2d, x_d2l, x_fdiv, x_dadd, x_dsub, x_dmul, x_ddiv, x_dcmp, x_fcmp, x_dup, x_pop, x_dup2, x_objinit, x_rawF, x_rawD, gV_0, gV_1, gV_2, gV_3, gV_4, gV_S, x_iload, x_lload, x_fload, x_dload, x_aload, x_istore, x_fstore, x_astore, x_lstore, x_dstore, gX_I, x_iinc, x_getf, x_putfI, x_putfL, x_putfR, x_iald, x_bald, x_zald, x_lald, x_dald, x_aald, x_iast, x_bast, x_zast, x_last, x_dast, x_aast, x_alen, x_new, x_newa, x_anew, x_acopy, x_sld, x_slen, x_fall, x_goto, x_if, x_cmp, x_tsw, x_lsw, x_ret, x_iret, x_zret, x_lret, x_fret, x_dret, x_aret, x_callr, x_callv, x_calli, x_calls, rcv_R, isO_cO, JW_def, kO_some, sk4, cats_nil, cats_I, cats_L, cats_F, cats_D, cats_R, cats_S, Nat.reduceAdd, Nat.reduceLeDiff, inr, inq, Int.reduceEq, Int.reduceLT, Int.reduceLE, Int.reduceNeg, not_false_eq_true, not_true_eq_false, false_implies, and_self, pk_nil, pk_cons, wk_0, wk_1, wk_2, wk_3, wk_4, swt_nil, swt_cons, swl_nil, swl_cons, c3_eq, c3_lt, c3_ge, c3_le, c3_gt, c3_inr, c3_inr2, cnd_0, cnd_1, cnd_2, cnd_3, cnd_4, cnd_5, wide_I, wide_R, wide_L, wide_F, wide_D, wide_S, nw_I, nw_L, nw_F, nw_D, nw_U, nw_R, nw_S, fgo_cO, fso_cO, Option.map_some, alo_cI, ado_cD, aro_cR, ano_cI, ano_cD, lst, List.getElem?_cons_zero, List.getElem?_cons_succ, List.set_cons_zero, List.set_cons_succ, and_true, true_and, true_implies, forall_const, true_or, or_true, hg_same, hg_ne,  b1', t1, t3, x30, y10, b2.1]
      refine ⟨by omega, fun q => by omega, fun _ => ⟨by omega, ?_⟩⟩
      refine c_growTo x1 b2 (by omega) hm hQ i1 v.2.2.2.2.1 x2 (by omega) (fun h2 k2 g1 g2 g3 => ?_)
      have f2 : Fr h1 h2 (14 + 15 * st) (29 + 15 * st) := Fr_w g3 (by omega) (by omega)
      have A2 : CA h2 m Q wd wf ts tx wc co re fi kp sl cf cs cd cl cc ss sb := by
        refine ⟨PTO_fr b1 (Fr_Sm f2 (by omega)), SetA_fr b2 f2 (by omega) (by omega), CRf_fr b3 (Fr_Sm f2 (by omega)) (Fr_Sm f2 (by omega)), CTx_fr b4 (Fr_Sm f2 (by omega)) (Fr_Sm f2 (by omega)), CSc_fr b5 (Fr_Sm f2 (by omega)), ?_, CSl_fr b7 (Fr_Sm f2 (by omega)), CCr_fr b8 (Fr_Sm f2 (by omega)), CSh_fr b9 (Fr_Sm f2 (by omega))⟩
        intro q' hq'
        by_cases e : q' = st
        · subst e
          exact ⟨k2, tt, g1, g2.2.2, nf, lf, nu, fw, od, lo, es, lg, ls, TrA_fr x3 g3 (by omega), fun h0 => ⟨Nat.le_trans (x4 h0).1 g2.2.1, (x4 h0).2⟩⟩
        · obtain ⟨k3, t4, z4⟩ := b6 q' hq'
          exact ⟨k3, t4, TreX_sm z4 (Fr_Sm f2 (by omega))⟩
      obtain ⟨wn, lb, dp, ch, so, ns, op, oc, mm, G1, G2⟩ := g1
      obtain ⟨emm, G3⟩ := G2 (by omega)
      rw [emm] at G1
      have hk63 : k2 ≤ 63 := by
        have : k2 * 1 ≤ k2 * (m - 1) := Nat.mul_le_mul_left _ (by omega)
        omega
      have hWk : KK m b * m ≤ k2 * m := Nat.mul_le_mul_right _ g2.1
      have R : TR m (scF Q st wf) (KK m b) (wnC m (scF Q st wf)) lb dp ch so ns := TR_cg (fun n hn => GR_wnC (by omega) G3 (by omega)) (GR_TR (t := KK m b) hm.1 hm8 (by omega) hk63 g2.1 G3)
      obtain ⟨n', c1, c2, c3, c4⟩ := TR_kid hm8 R hn1 hw i2 hlm
      obtain ⟨w1, w2, w3, w4⟩ := R.2.2.2.1 n' c3
      rw [c4] at w3
      obtain ⟨d1, d2, d3, d4, -⟩ := id A2
      unfold PTO at d1
      obtain ⟨q0, q1, q2, q3, q4, q5, q6⟩ := id G1
      try simp (disch := omega) only [w156_0, w156_101, w156_107, w156_116, w156_119, e156, x_iconst, x_bipush, x_sipush, x_ldc, x_lconst, x_ldc2l, x_dconst, x_ldc2d, x_ldcf, x_iadd, x_isub, x_imul, x_idiv, x_irem, x_ishl, x_ishr, x_iand, x_ior, x_ixor, x_ladd, x_lsub, x_lmul, x_ldiv, x_lrem, x_lshl, x_lshr, x_lor, x_land, x_lcmp, x_i2l, x_l2i, x_i2b, x_i2f, x_l2f, x_l2d, x_f2d, x_d2l, x_fdiv, x_dadd, x_dsub, x_dmul, x_ddiv, x_dcmp, x_fcmp, x_dup, x_pop, x_dup2, x_objinit, x_rawF, x_rawD, gV_0, gV_1, gV_2, gV_3, gV_4, gV_S, x_iload, x_lload, x_fload, x_dload, x_aload, x_istore, x_fstore, x_astore, x_lstore, x_dstore, gX_I, x_iinc, x_getf, x_putfI, x_putfL, x_putfR, x_iald, x_bald, x_zald, x_lald, x_dald, x_aald, x_iast, x_bast, x_zast, x_last, x_dast, x_aast, x_alen, x_new, x_newa, x_anew, x_acopy, x_sld, x_slen, x_fall, x_goto, x_if, x_cmp, x_tsw, x_lsw, x_ret, x_iret, x_zret, x_lret, x_fret, x_dret, x_aret, x_callr, x_callv, x_calli, x_calls, rcv_R, isO_cO, JW_def, kO_some, sk4, cats_nil, cats_I, cats_L, cats_F, cats_D, cats_R, cats_S, Nat.reduceAdd, Nat.reduceLeDiff, inr, inq, Int.reduceEq, Int.reduceLT, Int.reduceLE, Int.reduceNeg, not_false_eq_true, not_true_eq_false, false_implies, and_self, pk_nil, pk_cons, wk_0, wk_1, wk_2, wk_3, wk_4, swt_nil, swt_cons, swl_nil, swl_cons, c3_eq, c3_lt, c3_ge, c3_le, c3_gt, c3_inr, c3_inr2, cnd_0, cnd_1, cnd_2, cnd_3, cnd_4, cnd_5, wide_I, wide_R, wide_L, wide_F, wide_D, wide_S, nw_I, nw_L, nw_F, nw_D, nw_U, nw_R, nw_S, fgo_cO, fso_cO, Option.map_some, alo_cI, ado_cD, aro_cR, ano_cI, ano_cD, lst, List.getElem?_cons_zero, List.getElem?_cons_succ, List.set_cons_zero, List.set_cons_succ, and_true, true_and, true_implies, forall_const, true_or, or_true, hg_same, hg_ne,  d1, d4.2.1, q0]
      rw [hl]
      refine ⟨by omega, c_childOf G1 (by omega) ?_⟩
      rw [c1]
      try simp (disch := omega) only [w156_0, w156_101, w156_107, w156_116, w156_119, e156, x_iconst, x_bipush, x_sipush, x_ldc, x_lconst, x_ldc2l, x_dconst, x_ldc2d, x_ldcf, x_iadd, x_isub, x_imul, x_idiv, x_irem, x_ishl, x_ishr, x_iand, x_ior, x_ixor, x_ladd, x_lsub, x_lmul, x_ldiv, x_lrem, x_lshl, x_lshr, x_lor, x_land, x_lcmp, x_i2l, x_l2i, x_i2b, x_i2f, x_l2f, x_l2d, x_f2d, x_d2l, x_fdiv, x_dadd, x_dsub, x_dmul, x_ddiv, x_dcmp, x_fcmp, x_dup, x_pop, x_dup2, x_objinit, x_rawF, x_rawD, gV_0, gV_1, gV_2, gV_3, gV_4, gV_S, x_iload, x_lload, x_fload, x_dload, x_aload, x_istore, x_fstore, x_astore, x_lstore, x_dstore, gX_I, x_iinc, x_getf, x_putfI, x_putfL, x_putfR, x_iald, x_bald, x_zald, x_lald, x_dald, x_aald, x_iast, x_bast, x_zast, x_last, x_dast, x_aast, x_alen, x_new, x_newa, x_anew, x_acopy, x_sld, x_slen, x_fall, x_goto, x_if, x_cmp, x_tsw, x_lsw, x_ret, x_iret, x_zret, x_lret, x_fret, x_dret, x_aret, x_callr, x_callv, x_calli, x_calls, rcv_R, isO_cO, JW_def, kO_some, sk4, cats_nil, cats_I, cats_L, cats_F, cats_D, cats_R, cats_S, Nat.reduceAdd, Nat.reduceLeDiff, inr, inq, Int.reduceEq, Int.reduceLT, Int.reduceLE, Int.reduceNeg, not_false_eq_true, not_true_eq_false, false_implies, and_self, pk_nil, pk_cons, wk_0, wk_1, wk_2, wk_3, wk_4, swt_nil, swt_cons, swl_nil, swl_cons, c3_eq, c3_lt, c3_ge, c3_le, c3_gt, c3_inr, c3_inr2, cnd_0, cnd_1, cnd_2, cnd_3, cnd_4, cnd_5, wide_I, wide_R, wide_L, wide_F, wide_D, wide_S, nw_I, nw_L, nw_F, nw_D, nw_U, nw_R, nw_S, fgo_cO, fso_cO, Option.map_some, alo_cI, ado_cD, aro_cR, ano_cI, ano_cD, lst, List.getElem?_cons_zero, List.getElem?_cons_succ, List.set_cons_zero, List.set_cons_succ, and_true, true_and, true_implies, forall_const, true_or, or_true, hg_same, hg_ne,  d1, d2.1, d4.2.1, q0, q4]
      refine ⟨by omega, by omega, fun e => ?_, fun e => ⟨by omega, ?_⟩⟩
      · have hS := w3.mp e
        rw [encN_t hS] at he1
        have go := ih (k + 1) st (d + 1) (8 * c + l) ws n' h2 (pR (14 + 15 * st + 8)) (by omega) he1 c3 c4 (by omega) A2 (Fr_tr f (Fr_w f2 (by omega) (by omega)))
        rw [show ((k + 1 : Nat) : Int) = (k : Int) + 1 by omega] at go
        exact go
      · have hS : SK m (scF Q st wf) (KK m b) (d + 1) (8 * c + l) = false := by
          cases es' : SK m (scF Q st wf) (KK m b) (d + 1) (8 * c + l) with
          | false => rfl
          | true => exact absurd (w3.mpr es') e
        rw [encN_f hS] at he1
        rw [hl]
        refine c_behind d2 (by omega) (by omega) ?_
        have go := ih (k + 1) (l % Q) 0 0 _ 0 h2 (pR (14 + 15 * st + 8)) (by omega) he1 (by omega) (by unfold wnC; rw [if_pos rfl]) (by omega) A2 (Fr_tr f (Fr_w f2 (by omega) (by omega)))
        rw [List.length_append, List.length_singleton, show ((k + 1 : Nat) : Int) = (k : Int) + 1 by omega, show ((l % Q : Nat) : Int) = (l : Int) % (Q : Int) from Int.natCast_emod _ _] at go
        try simp (disch := omega) only [w156_0, w156_101, w156_107, w156_116, w156_119, e156, x_iconst, x_bipush, x_sipush, x_ldc, x_lconst, x_ldc2l, x_dconst, x_ldc2d, x_ldcf, x_iadd, x_isub, x_imul, x_idiv, x_irem, x_ishl, x_ishr, x_iand, x_ior, x_ixor, x_ladd, x_lsub, x_lmul, x_ldiv, x_lrem, x_lshl, x_lshr, x_lor, x_land, x_lcmp, x_i2l, x_l2i, x_i2b, x_i2f, x_l2f, x_l2d, x_f2d, x_d2l, x_fdiv, x_dadd, x_dsub, x_dmul, x_ddiv, x_dcmp, x_fcmp, x_dup, x_pop, x_dup2, x_objinit, x_rawF, x_rawD, gV_0, gV_1, gV_2, gV_3, gV_4, gV_S, x_iload, x_lload, x_fload, x_dload, x_aload, x_istore, x_fstore, x_astore, x_lstore, x_dstore, gX_I, x_iinc, x_getf, x_putfI, x_putfL, x_putfR, x_iald, x_bald, x_zald, x_lald, x_dald, x_aald, x_iast, x_bast, x_zast, x_last, x_dast, x_aast, x_alen, x_new, x_newa, x_anew, x_acopy, x_sld, x_slen, x_fall, x_goto, x_if, x_cmp, x_tsw, x_lsw, x_ret, x_iret, x_zret, x_lret, x_fret, x_dret, x_aret, x_callr, x_callv, x_calli, x_calls, rcv_R, isO_cO, JW_def, kO_some, sk4, cats_nil, cats_I, cats_L, cats_F, cats_D, cats_R, cats_S, Nat.reduceAdd, Nat.reduceLeDiff, inr, inq, Int.reduceEq, Int.reduceLT, Int.reduceLE, Int.reduceNeg, not_false_eq_true, not_true_eq_false, false_implies, and_self, pk_nil, pk_cons, wk_0, wk_1, wk_2, wk_3, wk_4, swt_nil, swt_cons, swl_nil, swl_cons, c3_eq, c3_lt, c3_ge, c3_le, c3_gt, c3_inr, c3_inr2, cnd_0, cnd_1, cnd_2, cnd_3, cnd_4, cnd_5, wide_I, wide_R, wide_L, wide_F, wide_D, wide_S, nw_I, nw_L, nw_F, nw_D, nw_U, nw_R, nw_S, fgo_cO, fso_cO, Option.map_some, alo_cI, ado_cD, aro_cR, ano_cI, ano_cD, lst, List.getElem?_cons_zero, List.getElem?_cons_succ, List.set_cons_zero, List.set_cons_succ, and_true, true_and, true_implies, forall_const, true_or, or_true, hg_same, hg_ne]
        exact go
  try simp (disch := omega) only [w156_0, w156_101, w156_107, w156_116, w156_119, e156, x_iconst, x_bipush, x_sipush, x_ldc, x_lconst, x_ldc2l, x_dconst, x_ldc2d, x_ldcf, x_iadd, x_isub, x_imul, x_idiv, x_irem, x_ishl, x_ishr, x_iand, x_ior, x_ixor, x_ladd, x_lsub, x_lmul, x_ldiv, x_lrem, x_lshl, x_lshr, x_lor, x_land, x_lcmp, x_i2l, x_l2i, x_i2b, x_i2f, x_l2f, x_l2d, x_f2d, x_d2l, x_fdiv, x_dadd, x_dsub, x_dmul, x_ddiv, x_dcmp, x_fcmp, x_dup, x_pop, x_dup2, x_objinit, x_rawF, x_rawD, gV_0, gV_1, gV_2, gV_3, gV_4, gV_S, x_iload, x_lload, x_fload, x_dload, x_aload, x_istore, x_fstore, x_astore, x_lstore, x_dstore, gX_I, x_iinc, x_getf, x_putfI, x_putfL, x_putfR, x_iald, x_bald, x_zald, x_lald, x_dald, x_aald, x_iast, x_bast, x_zast, x_last, x_dast, x_aast, x_alen, x_new, x_newa, x_anew, x_acopy, x_sld, x_slen, x_fall, x_goto, x_if, x_cmp, x_tsw, x_lsw, x_ret, x_iret, x_zret, x_lret, x_fret, x_dret, x_aret, x_callr, x_callv, x_calli, x_calls, rcv_R, isO_cO, JW_def, kO_some, sk4, cats_nil, cats_I, cats_L, cats_F, cats_D, cats_R, cats_S, Nat.reduceAdd, Nat.reduceLeDiff, inr, inq, Int.reduceEq, Int.reduceLT, Int.reduceLE, Int.reduceNeg, not_false_eq_true, not_true_eq_false, false_implies, and_self, pk_nil, pk_cons, wk_0, wk_1, wk_2, wk_3, wk_4, swt_nil, swt_cons, swl_nil, swl_cons, c3_eq, c3_lt, c3_ge, c3_le, c3_gt, c3_inr, c3_inr2, cnd_0, cnd_1, cnd_2, cnd_3, cnd_4, cnd_5, wide_I, wide_R, wide_L, wide_F, wide_D, wide_S, nw_I, nw_L, nw_F, nw_D, nw_U, nw_R, nw_S, fgo_cO, fso_cO, Option.map_some, alo_cI, ado_cD, aro_cR, ano_cI, ano_cD, lst, List.getElem?_cons_zero, List.getElem?_cons_succ, List.set_cons_zero, List.set_cons_succ, and_true, true_and, true_implies, forall_const, true_or, or_true, hg_same, hg_ne,  a1, a2.1]
  refine c_splitsBy a2 hm hb.2 ?_
  try simp (disch := omega) only [w156_0, w156_101, w156_107, w156_116, w156_119, e156, x_iconst, x_bipush, x_sipush, x_ldc, x_lconst, x_ldc2l, x_dconst, x_ldc2d, x_ldcf, x_iadd, x_isub, x_imul, x_idiv, x_irem, x_ishl, x_ishr, x_iand, x_ior, x_ixor, x_ladd, x_lsub, x_lmul, x_ldiv, x_lrem, x_lshl, x_lshr, x_lor, x_land, x_lcmp, x_i2l, x_l2i, x_i2b, x_i2f, x_l2f, x_l2d, x_f2d, x_d2l, x_fdiv, x_dadd, x_dsub, x_dmul, x_ddiv, x_dcmp, x_fcmp, x_dup, x_pop, x_dup2, x_objinit, x_rawF, x_rawD, gV_0, gV_1, gV_2, gV_3, gV_4, gV_S, x_iload, x_lload, x_fload, x_dload, x_aload, x_istore, x_fstore, x_astore, x_lstore, x_dstore, gX_I, x_iinc, x_getf, x_putfI, x_putfL, x_putfR, x_iald, x_bald, x_zald, x_lald, x_dald, x_aald, x_iast, x_bast, x_zast, x_last, x_dast, x_aast, x_alen, x_new, x_newa, x_anew, x_acopy, x_sld, x_slen, x_fall, x_goto, x_if, x_cmp, x_tsw, x_lsw, x_ret, x_iret, x_zret, x_lret, x_fret, x_dret, x_aret, x_callr, x_callv, x_calli, x_calls, rcv_R, isO_cO, JW_def, kO_some, sk4, cats_nil, cats_I, cats_L, cats_F, cats_D, cats_R, cats_S, Nat.reduceAdd, Nat.reduceLeDiff, inr, inq, Int.reduceEq, Int.reduceLT, Int.reduceLE, Int.reduceNeg, not_false_eq_true, not_true_eq_false, false_implies, and_self, pk_nil, pk_cons, wk_0, wk_1, wk_2, wk_3, wk_4, swt_nil, swt_cons, swl_nil, swl_cons, c3_eq, c3_lt, c3_ge, c3_le, c3_gt, c3_inr, c3_inr2, cnd_0, cnd_1, cnd_2, cnd_3, cnd_4, cnd_5, wide_I, wide_R, wide_L, wide_F, wide_D, wide_S, nw_I, nw_L, nw_F, nw_D, nw_U, nw_R, nw_S, fgo_cO, fso_cO, Option.map_some, alo_cI, ado_cD, aro_cR, ano_cI, ano_cD, lst, List.getElem?_cons_zero, List.getElem?_cons_succ, List.set_cons_zero, List.set_cons_succ, and_true, true_and, true_implies, forall_const, true_or, or_true, hg_same, hg_ne]
  exact loop ts 0 0 0 0 [] 0 h _ (by omega) rfl (by omega) (by unfold wnC; rw [if_pos rfl]) (by omega) a (Fr_rf _ _ _)
end Q4
/-- the best width up to k, and its bits -/
def bstF (cn : Nat → Nat) (m : Nat) : Nat → Nat × Nat
  | 0 => (0, 0)
  | k + 1 => if 2 ^ (k + 1) < m then bstF cn m k else if (bstF cn m k).1 = 0 ∨ cn (k + 1) * (k + 1) < (bstF cn m k).2 then (k + 1, cn (k + 1) * (k + 1)) else bstF cn m k
theorem bstF_rng (cn : Nat → Nat) (hc : ∀ k, cn k ≤ 80) (m : Nat) : ∀ k : Nat, k ≤ 6 → (bstF cn m k).1 ≤ k ∧ (bstF cn m k).2 ≤ 480
  | 0, _ => ⟨Nat.le_refl 0, Nat.zero_le _⟩
  | k + 1, hk => by
    have ih := bstF_rng cn hc m k (by omega)
    unfold bstF
    by_cases e : 2 ^ (k + 1) < m
    · rw [if_pos e]
      exact ⟨by omega, ih.2⟩
    · rw [if_neg e]
      by_cases e2 : (bstF cn m k).1 = 0 ∨ cn (k + 1) * (k + 1) < (bstF cn m k).2
      · rw [if_pos e2]
        refine ⟨Nat.le_refl _, ?_⟩
        show cn (k + 1) * (k + 1) ≤ 480
        exact Nat.mul_le_mul (hc _) hk
      · rw [if_neg e2]
        exact ⟨by omega, ih.2⟩
theorem bstF_ne {cn : Nat → Nat} {m : Nat} (hm : m ≤ 5) : ¬ (bstF cn m 6).1 = 0 := by
  have key : ∀ k, 3 ≤ k → ¬ (bstF cn m k).1 = 0 := by
    intro k hk
    obtain ⟨j, rfl⟩ : ∃ j, k = j + 3 := ⟨k - 3, by omega⟩
    clear hk
    induction j with
    | zero =>
      show ¬ (bstF cn m (2 + 1)).1 = 0
      unfold bstF
      rw [if_neg (show ¬ 2 ^ (2 + 1) < m by have : (2 : Nat) ^ (2 + 1) = 8 := rfl; omega)]
      by_cases e2 : (bstF cn m 2).1 = 0 ∨ cn (2 + 1) * (2 + 1) < (bstF cn m 2).2
      · rw [if_pos e2]
        show ¬ (2 + 1 = 0)
        omega
      · rw [if_neg e2]
        exact fun r => e2 (Or.inl r)
    | succ j ih =>
      show ¬ (bstF cn m (j + 3 + 1)).1 = 0
      unfold bstF
      by_cases e : 2 ^ (j + 3 + 1) < m
      · rw [if_pos e]
        exact ih
      · rw [if_neg e]
        by_cases e2 : (bstF cn m (j + 3)).1 = 0 ∨ cn (j + 3 + 1) * (j + 3 + 1) < (bstF cn m (j + 3)).2
        · rw [if_pos e2]
          show ¬ (j + 3 + 1 = 0)
          omega
        · rw [if_neg e2]
          exact ih
  exact key 6 (by omega)
noncomputable def cnW (m Q : Nat) (wf tx : Int → Int) (ts b : Nat) : Nat := if 1 ≤ b ∧ b ≤ 6 ∧ m ≤ 2 ^ b then (encW m Q (KK m b) wf tx ts).length else 0
theorem cnW_le {m Q wd ts : Nat} {wf tx : Int → Int} (v : SOK m Q wd wf) (v2 : TOK m ts tx) (b : Nat) : cnW m Q wf tx ts b ≤ 80 := by
  unfold cnW
  by_cases e : 1 ≤ b ∧ b ≤ 6 ∧ m ≤ 2 ^ b
  · rw [if_pos e]
    have hn := KK_nodes v.1.1 v.1.2 e.2.1
    have hp := KK_pos v.1.1 e.2.2
    have en := encF_ok (wf := wf) (tx := tx) v.1.1 (show m ≤ 8 by have := v.1.2; omega) (show 0 < Q by have := v.2.1; omega) hp (show 1 + KK m b * (m - 1) < 256 by omega) ts v2.2
    have ew := encW_ok v.1.1 (show m ≤ 8 by have := v.1.2; omega) (by omega) en
    have := v2.1
    omega
  · rw [if_neg e]
    omega
noncomputable def vBs (m Q : Nat) (wf tx : Int → Int) (ts : Nat) (w : Int) : Int := if w = 0 then ((bstF (cnW m Q wf tx ts) m 6).1 : Int) else ((bstF (cnW m Q wf tx ts) m 6).2 : Int)
section Q4b
variable {h : Hp} {m Q wd : Nat} {wf : Int → Int} {ts : Nat} {tx : Int → Int} {wc : Nat} {co : Int → Int} {re fi : Int} {kp : Int → Int} {sl : Int → Nat × Nat × Nat × (Int → Int)} {cf cs : Int → Int} {cd cl cc : Int → Int → Int} {ss : Int → Int} {sb : Int → Int → Int}
set_option maxRecDepth 20000 in
set_option maxHeartbeats 4000000 in
theorem c_best (a : CA h m Q wd wf ts tx wc co re fi kp sl cf cs cd cl cc ss sb) (v : SOK m Q wd wf) (v2 : TOK m ts tx) {w : Int} (hw : 0 ≤ w ∧ w ≤ 1) {lim : Nat × Nat} {K : QT} (hK : ∀ h', CA h' m Q wd wf ts tx wc co re fi kp sl cf cs cd cl cc ss sb → Fr h h' 14 59 → K (pI (vBs m Q wf tx ts w)) h') : WM 174 [pR 0, pI w] h lim K := by
  have hm := v.1
  have loop : ∀ (y k : Nat) (h1 : Hp) (z : PV), y + k = 6 → CA h1 m Q wd wf ts tx wc co re fi kp sl cf cs cd cl cc ss sb → Fr h h1 14 59 → WP 174 19 [pR 0, pI w, pI ((bstF (cnW m Q wf tx ts) m k).1 : Int), pI ((bstF (cnW m Q wf tx ts) m k).2 : Int), pI ((k : Int) + 1), z] [] h1 lim K := by
    intro y
    induction y with
    | zero =>
      intro k h1 z hy A1 f
      have ek : k = 6 := by omega
      subst ek
      have k1 := hK h1 A1 f
      unfold vBs at k1
      rw [w174_19]
      try simp (disch := omega) only [w174_0, w174_9, w174_12, w174_61, w174_67, w174_73, w174_81, w174_82, e174, x_iconst, x_bipush, x_sipush, x_ldc, x_lconst, x_ldc2l, x_dconst, x_ldc2d, x_ldcf, x_iadd, x_isub, x_imul, x_idiv, x_irem, x_ishl, x_ishr, x_iand, x_ior, x_ixor, x_ladd, x_lsub, x_lmul, x_ldiv, x_lrem, x_lshl, x_lshr, x_lor, x_land, x_lcmp, x_i2l, x_l2i, x_i2b, x_i2f, x_l2f, x_l2d, x_f2d, x_d2l, x_fdiv, x_dadd, x_dsub, x_dmul, x_ddiv, x_dcmp, x_fcmp, x_dup, x_pop, x_dup2, x_objinit, x_rawF, x_rawD, gV_0, gV_1, gV_2, gV_3, gV_4, gV_S, x_iload, x_lload, x_fload, x_dload, x_aload, x_istore, x_fstore, x_astore, x_lstore, x_dstore, gX_I, x_iinc, x_getf, x_putfI, x_putfL, x_putfR, x_iald, x_bald, x_zald, x_lald, x_dald, x_aald, x_iast, x_bast, x_zast, x_last, x_dast, x_aast, x_alen, x_new, x_newa, x_anew, x_acopy, x_sld, x_slen, x_fall, x_goto, x_if, x_cmp, x_tsw, x_lsw, x_ret, x_iret, x_zret, x_lret, x_fret, x_dret, x_aret, x_callr, x_callv, x_calli, x_calls, rcv_R, isO_cO, JW_def, kO_some, sk4, cats_nil, cats_I, cats_L, cats_F, cats_D, cats_R, cats_S, Nat.reduceAdd, Nat.reduceLeDiff, inr, inq, Int.reduceEq, Int.reduceLT, Int.reduceLE, Int.reduceNeg, not_false_eq_true, not_true_eq_false, false_implies, and_self, pk_nil, pk_cons, wk_0, wk_1, wk_2, wk_3, wk_4, swt_nil, swt_cons, swl_nil, swl_cons, c3_eq, c3_lt, c3_ge, c3_le, c3_gt, c3_inr, c3_inr2, cnd_0, cnd_1, cnd_2, cnd_3, cnd_4, cnd_5, wide_I, wide_R, wide_L, wide_F, wide_D, wide_S, nw_I, nw_L, nw_F, nw_D, nw_U, nw_R, nw_S, fgo_cO, fso_cO, Option.map_some, alo_cI, ado_cD, aro_cR, ano_cI, ano_cD, lst, List.getElem?_cons_zero, List.getElem?_cons_succ, List.set_cons_zero, List.set_cons_succ, and_true, true_and, true_implies, forall_const, true_or, or_true, hg_same, hg_ne]
      refine ⟨by omega, fun _ => ⟨by omega, fun e => ?_, fun e => ?_⟩, fun q => by omega⟩
      · rw [if_neg (by omega)] at k1
        exact k1
      · rw [if_pos (by omega)] at k1
        exact k1
    | succ y ih =>
      intro k h1 z hy A1 f
      obtain ⟨b1, b2, -⟩ := id A1
      unfold PTO at b1
      have hr := bstF_rng (cnW m Q wf tx ts) (cnW_le v v2) m k (by omega)
      have h64 := pow6 (b := k + 1) (by omega)
      have hb : bstF (cnW m Q wf tx ts) m (k + 1) = if 2 ^ (k + 1) < m then bstF (cnW m Q wf tx ts) m k else if (bstF (cnW m Q wf tx ts) m k).1 = 0 ∨ cnW m Q wf tx ts (k + 1) * (k + 1) < (bstF (cnW m Q wf tx ts) m k).2 then (k + 1, cnW m Q wf tx ts (k + 1) * (k + 1)) else bstF (cnW m Q wf tx ts) m k := rfl
      have next : ∀ (h2 : Hp) (z : PV) (p : Nat × Nat), p = bstF (cnW m Q wf tx ts) m (k + 1) → CA h2 m Q wd wf ts tx wc co re fi kp sl cf cs cd cl cc ss sb → Fr h h2 14 59 → WP 174 19 [pR 0, pI w, pI (p.1 : Int), pI (p.2 : Int), pI ((k : Int) + 1 + 1), z] [] h2 lim K := by
        intro h2 z p hp A2 f2
        subst hp
        exact ih (k + 1) h2 z (by omega) A2 f2
      rw [w174_19]
      try simp (disch := omega) only [w174_0, w174_9, w174_12, w174_61, w174_67, w174_73, w174_81, w174_82, e174, x_iconst, x_bipush, x_sipush, x_ldc, x_lconst, x_ldc2l, x_dconst, x_ldc2d, x_ldcf, x_iadd, x_isub, x_imul, x_idiv, x_irem, x_ishl, x_ishr, x_iand, x_ior, x_ixor, x_ladd, x_lsub, x_lmul, x_ldiv, x_lrem, x_lshl, x_lshr, x_lor, x_land, x_lcmp, x_i2l, x_l2i, x_i2b, x_i2f, x_l2f, x_l2d, x_f2d, x_d2l, x_fdiv, x_dadd, x_dsub, x_dmul, x_ddiv, x_dcmp, x_fcmp, x_dup, x_pop, x_dup2, x_objinit, x_rawF, x_rawD, gV_0, gV_1, gV_2, gV_3, gV_4, gV_S, x_iload, x_lload, x_fload, x_dload, x_aload, x_istore, x_fstore, x_astore, x_lstore, x_dstore, gX_I, x_iinc, x_getf, x_putfI, x_putfL, x_putfR, x_iald, x_bald, x_zald, x_lald, x_dald, x_aald, x_iast, x_bast, x_zast, x_last, x_dast, x_aast, x_alen, x_new, x_newa, x_anew, x_acopy, x_sld, x_slen, x_fall, x_goto, x_if, x_cmp, x_tsw, x_lsw, x_ret, x_iret, x_zret, x_lret, x_fret, x_dret, x_aret, x_callr, x_callv, x_calli, x_calls, rcv_R, isO_cO, JW_def, kO_some, sk4, cats_nil, cats_I, cats_L, cats_F, cats_D, cats_R, cats_S, Nat.reduceAdd, Nat.reduceLeDiff, inr, inq, Int.reduceEq, Int.reduceLT, Int.reduceLE, Int.reduceNeg, not_false_eq_true, not_true_eq_false, false_implies, and_self, pk_nil, pk_cons, wk_0, wk_1, wk_2, wk_3, wk_4, swt_nil, swt_cons, swl_nil, swl_cons, c3_eq, c3_lt, c3_ge, c3_le, c3_gt, c3_inr, c3_inr2, cnd_0, cnd_1, cnd_2, cnd_3, cnd_4, cnd_5, wide_I, wide_R, wide_L, wide_F, wide_D, wide_S, nw_I, nw_L, nw_F, nw_D, nw_U, nw_R, nw_S, fgo_cO, fso_cO, Option.map_some, alo_cI, ado_cD, aro_cR, ano_cI, ano_cD, lst, List.getElem?_cons_zero, List.getElem?_cons_succ, List.set_cons_zero, List.set_cons_succ, and_true, true_and, true_implies, forall_const, true_or, or_true, hg_same, hg_ne,  b1, b2.1]
      rw [show (k : Int) + 1 = ((k + 1 : Nat) : Int) by omega, iShl_1 (k + 1) (by omega)]
      refine ⟨by omega, fun q => by omega, fun _ => ⟨by omega, fun q => ?_, fun q => ?_⟩⟩
      · exact next h1 _ _ (by rw [hb, if_pos (by omega)]) A1 f
      · refine c_wordsBy A1 v v2 (by omega) (by omega) (fun h2 A2 f2 => ?_)
        have hcn : cnW m Q wf tx ts (k + 1) = (encW m Q (KK m (k + 1)) wf tx ts).length := if_pos ⟨by omega, by omega, by omega⟩
        have hc8 := cnW_le v v2 (k + 1)
        rw [← hcn]
        have hmul : cnW m Q wf tx ts (k + 1) * (k + 1) ≤ 80 * 6 := Nat.mul_le_mul hc8 (by omega)
        have fr := Fr_tr f f2
        try simp (disch := omega) only [w174_0, w174_9, w174_12, w174_61, w174_67, w174_73, w174_81, w174_82, e174, x_iconst, x_bipush, x_sipush, x_ldc, x_lconst, x_ldc2l, x_dconst, x_ldc2d, x_ldcf, x_iadd, x_isub, x_imul, x_idiv, x_irem, x_ishl, x_ishr, x_iand, x_ior, x_ixor, x_ladd, x_lsub, x_lmul, x_ldiv, x_lrem, x_lshl, x_lshr, x_lor, x_land, x_lcmp, x_i2l, x_l2i, x_i2b, x_i2f, x_l2f, x_l2d, x_f2d, x_d2l, x_fdiv, x_dadd, x_dsub, x_dmul, x_ddiv, x_dcmp, x_fcmp, x_dup, x_pop, x_dup2, x_objinit, x_rawF, x_rawD, gV_0, gV_1, gV_2, gV_3, gV_4, gV_S, x_iload, x_lload, x_fload, x_dload, x_aload, x_istore, x_fstore, x_astore, x_lstore, x_dstore, gX_I, x_iinc, x_getf, x_putfI, x_putfL, x_putfR, x_iald, x_bald, x_zald, x_lald, x_dald, x_aald, x_iast, x_bast, x_zast, x_last, x_dast, x_aast, x_alen, x_new, x_newa, x_anew, x_acopy, x_sld, x_slen, x_fall, x_goto, x_if, x_cmp, x_tsw, x_lsw, x_ret, x_iret, x_zret, x_lret, x_fret, x_dret, x_aret, x_callr, x_callv, x_calli, x_calls, rcv_R, isO_cO, JW_def, kO_some, sk4, cats_nil, cats_I, cats_L, cats_F, cats_D, cats_R, cats_S, Nat.reduceAdd, Nat.reduceLeDiff, inr, inq, Int.reduceEq, Int.reduceLT, Int.reduceLE, Int.reduceNeg, not_false_eq_true, not_true_eq_false, false_implies, and_self, pk_nil, pk_cons, wk_0, wk_1, wk_2, wk_3, wk_4, swt_nil, swt_cons, swl_nil, swl_cons, c3_eq, c3_lt, c3_ge, c3_le, c3_gt, c3_inr, c3_inr2, cnd_0, cnd_1, cnd_2, cnd_3, cnd_4, cnd_5, wide_I, wide_R, wide_L, wide_F, wide_D, wide_S, nw_I, nw_L, nw_F, nw_D, nw_U, nw_R, nw_S, fgo_cO, fso_cO, Option.map_some, alo_cI, ado_cD, aro_cR, ano_cI, ano_cD, lst, List.getElem?_cons_zero, List.getElem?_cons_succ, List.set_cons_zero, List.set_cons_succ, and_true, true_and, true_implies, forall_const, true_or, or_true, hg_same, hg_ne]
        rw [show (cnW m Q wf tx ts (k + 1) : Int) * ((k + 1 : Nat) : Int) = ((cnW m Q wf tx ts (k + 1) * (k + 1) : Nat) : Int) from (Int.natCast_mul _ _).symm]
        refine ⟨by omega, fun e => ?_, fun e => ⟨by omega, fun e2 => ?_, fun e2 => ?_⟩⟩
        · exact next h2 _ (k + 1, cnW m Q wf tx ts (k + 1) * (k + 1)) (by rw [hb, if_neg (by omega), if_pos (Or.inl (by omega))]) A2 fr
        · exact next h2 _ _ (by rw [hb, if_neg (by omega), if_neg (by omega)]) A2 fr
        · exact next h2 _ (k + 1, cnW m Q wf tx ts (k + 1) * (k + 1)) (by rw [hb, if_neg (by omega), if_pos (Or.inr (by omega))]) A2 fr
  try simp (disch := omega) only [w174_0, w174_9, w174_12, w174_61, w174_67, w174_73, w174_81, w174_82, e174, x_iconst, x_bipush, x_sipush, x_ldc, x_lconst, x_ldc2l, x_dconst, x_ldc2d, x_ldcf, x_iadd, x_isub, x_imul, x_idiv, x_irem, x_ishl, x_ishr, x_iand, x_ior, x_ixor, x_ladd, x_lsub, x_lmul, x_ldiv, x_lrem, x_lshl, x_lshr, x_lor, x_land, x_lcmp, x_i2l, x_l2i, x_i2b, x_i2f, x_l2f, x_l2d, x_f2d, x_d2l, x_fdiv, x_dadd, x_dsub, x_dmul, x_ddiv, x_dcmp, x_fcmp, x_dup, x_pop, x_dup2, x_objinit, x_rawF, x_rawD, gV_0, gV_1, gV_2, gV_3, gV_4, gV_S, x_iload, x_lload, x_fload, x_dload, x_aload, x_istore, x_fstore, x_astore, x_lstore, x_dstore, gX_I, x_iinc, x_getf, x_putfI, x_putfL, x_putfR, x_iald, x_bald, x_zald, x_lald, x_dald, x_aald, x_iast, x_bast, x_zast, x_last, x_dast, x_aast, x_alen, x_new, x_newa, x_anew, x_acopy, x_sld, x_slen, x_fall, x_goto, x_if, x_cmp, x_tsw, x_lsw, x_ret, x_iret, x_zret, x_lret, x_fret, x_dret, x_aret, x_callr, x_callv, x_calli, x_calls, rcv_R, isO_cO, JW_def, kO_some, sk4, cats_nil, cats_I, cats_L, cats_F, cats_D, cats_R, cats_S, Nat.reduceAdd, Nat.reduceLeDiff, inr, inq, Int.reduceEq, Int.reduceLT, Int.reduceLE, Int.reduceNeg, not_false_eq_true, not_true_eq_false, false_implies, and_self, pk_nil, pk_cons, wk_0, wk_1, wk_2, wk_3, wk_4, swt_nil, swt_cons, swl_nil, swl_cons, c3_eq, c3_lt, c3_ge, c3_le, c3_gt, c3_inr, c3_inr2, cnd_0, cnd_1, cnd_2, cnd_3, cnd_4, cnd_5, wide_I, wide_R, wide_L, wide_F, wide_D, wide_S, nw_I, nw_L, nw_F, nw_D, nw_U, nw_R, nw_S, fgo_cO, fso_cO, Option.map_some, alo_cI, ado_cD, aro_cR, ano_cI, ano_cD, lst, List.getElem?_cons_zero, List.getElem?_cons_succ, List.set_cons_zero, List.set_cons_succ, and_true, true_and, true_implies, forall_const, true_or, or_true, hg_same, hg_ne]
  exact ⟨by omega, fun q => by omega, fun _ => ⟨by omega, fun _ => loop 6 0 h _ (by omega) a (Fr_rf _ _ _), fun q => by omega⟩⟩
set_option maxRecDepth 20000 in
set_option maxHeartbeats 4000000 in
theorem d_bestBy (b : MA h m Q wd wf ts tx wc co re fi kp sl cf cs cd cl cc ss sb) (v : SOK m Q wd wf) (v2 : TOK m ts tx) {w : Int} (hw : 0 ≤ w ∧ w ≤ 1) {lim : Nat × Nat} {K : QT} (hK : ∀ h', MA h' m Q wd wf ts tx wc co re fi kp sl cf cs cd cl cc ss sb → Fr h h' 87 112 → K (pI (vBs m Q wf tx ts w)) h') : WM 184 [pR 87, pI w] h lim K := by
  have hm := v.1
  have hQ := v.2.1
  have hwd := v.2.2.1
  have hn := KK_nodes hm.1 hm.2 hwd.2
  have loop : ∀ (y k : Nat) (h1 : Hp) (z : PV), y + k = 6 → MA h1 m Q wd wf ts tx wc co re fi kp sl cf cs cd cl cc ss sb → Fr h h1 87 112 → WP 184 7 [pR 87, pI w, pI (if (bstF (cnW m Q wf tx ts) m k).1 = 0 then -1 else ((bstF (cnW m Q wf tx ts) m k).1 : Int)), pI ((bstF (cnW m Q wf tx ts) m k).2 : Int), pI ((k : Int) + 1), z] [] h1 lim K := by
    intro y
    induction y with
    | zero =>
      intro k h1 z hy B1 f
      have ek : k = 6 := by omega
      subst ek
      have k1 := hK h1 B1 f
      unfold vBs at k1
      rw [if_neg (bstF_ne hm.2)]
      rw [w184_7]
      try simp (disch := omega) only [w184_0, w184_53, w184_57, w184_58, w184_70, w184_71, w184_87, w184_88, w184_89, w184_95, w184_103, w184_104, e184, x_iconst, x_bipush, x_sipush, x_ldc, x_lconst, x_ldc2l, x_dconst, x_ldc2d, x_ldcf, x_iadd, x_isub, x_imul, x_idiv, x_irem, x_ishl, x_ishr, x_iand, x_ior, x_ixor, x_ladd, x_lsub, x_lmul, x_ldiv, x_lrem, x_lshl, x_lshr, x_lor, x_land, x_lcmp, x_i2l, x_l2i, x_i2b, x_i2f, x_l2f, x_l2d, x_f2d, x_d2l, x_fdiv, x_dadd, x_dsub, x_dmul, x_ddiv, x_dcmp, x_fcmp, x_dup, x_pop, x_dup2, x_objinit, x_rawF, x_rawD, gV_0, gV_1, gV_2, gV_3, gV_4, gV_S, x_iload, x_lload, x_fload, x_dload, x_aload, x_istore, x_fstore, x_astore, x_lstore, x_dstore, gX_I, x_iinc, x_getf, x_putfI, x_putfL, x_putfR, x_iald, x_bald, x_zald, x_lald, x_dald, x_aald, x_iast, x_bast, x_zast, x_last, x_dast, x_aast, x_alen, x_new, x_newa, x_anew, x_acopy, x_sld, x_slen, x_fall, x_goto, x_if, x_cmp, x_tsw, x_lsw, x_ret, x_iret, x_zret, x_lret, x_fret, x_dret, x_aret, x_callr, x_callv, x_calli, x_calls, rcv_R, isO_cO, JW_def, kO_some, sk4, cats_nil, cats_I, cats_L, cats_F, cats_D, cats_R, cats_S, Nat.reduceAdd, Nat.reduceLeDiff, inr, inq, Int.reduceEq, Int.reduceLT, Int.reduceLE, Int.reduceNeg, not_false_eq_true, not_true_eq_false, false_implies, and_self, pk_nil, pk_cons, wk_0, wk_1, wk_2, wk_3, wk_4, swt_nil, swt_cons, swl_nil, swl_cons, c3_eq, c3_lt, c3_ge, c3_le, c3_gt, c3_inr, c3_inr2, cnd_0, cnd_1, cnd_2, cnd_3, cnd_4, cnd_5, wide_I, wide_R, wide_L, wide_F, wide_D, wide_S, nw_I, nw_L, nw_F, nw_D, nw_U, nw_R, nw_S, fgo_cO, fso_cO, Option.map_some, alo_cI, ado_cD, aro_cR, ano_cI, ano_cD, lst, List.getElem?_cons_zero, List.getElem?_cons_succ, List.set_cons_zero, List.set_cons_succ, and_true, true_and, true_implies, forall_const, true_or, or_true, hg_same, hg_ne]
      refine ⟨by omega, fun _ => ⟨by omega, fun e => ?_, fun e => ?_⟩, fun q => by omega⟩
      · rw [if_neg (by omega)] at k1
        exact k1
      · rw [if_pos (by omega)] at k1
        exact k1
    | succ y ih =>
      intro k h1 z hy B1 f
      obtain ⟨⟨tm, tr, ph, o1⟩, w1, ⟨le, sp, nu, sn, wo, ro, no, lv, z3, T⟩, ⟨⟨s1, r1⟩, ⟨s2, r2⟩, ⟨s3, r3⟩, ⟨s4, r4⟩, ⟨s5, r5⟩, ⟨s6, r6⟩, ⟨s7, r7⟩⟩, ⟨⟨f1, x1, y1⟩, -⟩, -⟩ := id B1
      have o1' := id o1
      unfold MO at o1'
      have hr := bstF_rng (cnW m Q wf tx ts) (cnW_le v v2) m k (by omega)
      have h64 := pow6 (b := k + 1) (by omega)
      have hb : bstF (cnW m Q wf tx ts) m (k + 1) = if 2 ^ (k + 1) < m then bstF (cnW m Q wf tx ts) m k else if (bstF (cnW m Q wf tx ts) m k).1 = 0 ∨ cnW m Q wf tx ts (k + 1) * (k + 1) < (bstF (cnW m Q wf tx ts) m k).2 then (k + 1, cnW m Q wf tx ts (k + 1) * (k + 1)) else bstF (cnW m Q wf tx ts) m k := rfl
      have next : ∀ (h2 : Hp) (z : PV) (p : Nat × Nat) (x : Int), p = bstF (cnW m Q wf tx ts) m (k + 1) → (x = if p.1 = 0 then -1 else (p.1 : Int)) → MA h2 m Q wd wf ts tx wc co re fi kp sl cf cs cd cl cc ss sb → Fr h h2 87 112 → WP 184 7 [pR 87, pI w, pI x, pI (p.2 : Int), pI ((k : Int) + 1 + 1), z] [] h2 lim K := by
        intro h2 z p x hp hx B2 f2
        subst hx
        subst hp
        exact ih (k + 1) h2 z (by omega) B2 f2
      generalize hbest : (if (bstF (cnW m Q wf tx ts) m k).1 = 0 then -1 else ((bstF (cnW m Q wf tx ts) m k).1 : Int)) = best
      have hbr : (best = -1 ↔ (bstF (cnW m Q wf tx ts) m k).1 = 0) ∧ (-1 ≤ best ∧ best ≤ 6) := by
        rw [← hbest]
        by_cases e : (bstF (cnW m Q wf tx ts) m k).1 = 0
        · rw [if_pos e]
          omega
        · rw [if_neg e]
          omega
      rw [w184_7]
      try simp (disch := omega) only [w184_0, w184_53, w184_57, w184_58, w184_70, w184_71, w184_87, w184_88, w184_89, w184_95, w184_103, w184_104, e184, x_iconst, x_bipush, x_sipush, x_ldc, x_lconst, x_ldc2l, x_dconst, x_ldc2d, x_ldcf, x_iadd, x_isub, x_imul, x_idiv, x_irem, x_ishl, x_ishr, x_iand, x_ior, x_ixor, x_ladd, x_lsub, x_lmul, x_ldiv, x_lrem, x_lshl, x_lshr, x_lor, x_land, x_lcmp, x_i2l, x_l2i, x_i2b, x_i2f, x_l2f, x_l2d, x_f2d, x_d2l, x_fdiv, x_dadd, x_dsub, x_dmul, x_ddiv, x_dcmp, x_fcmp, x_dup, x_pop, x_dup2, x_objinit, x_rawF, x_rawD, gV_0, gV_1, gV_2, gV_3, gV_4, gV_S, x_iload, x_lload, x_fload, x_dload, x_aload, x_istore, x_fstore, x_astore, x_lstore, x_dstore, gX_I, x_iinc, x_getf, x_putfI, x_putfL, x_putfR, x_iald, x_bald, x_zald, x_lald, x_dald, x_aald, x_iast, x_bast, x_zast, x_last, x_dast, x_aast, x_alen, x_new, x_newa, x_anew, x_acopy, x_sld, x_slen, x_fall, x_goto, x_if, x_cmp, x_tsw, x_lsw, x_ret, x_iret, x_zret, x_lret, x_fret, x_dret, x_aret, x_callr, x_callv, x_calli, x_calls, rcv_R, isO_cO, JW_def, kO_some, sk4, cats_nil, cats_I, cats_L, cats_F, cats_D, cats_R, cats_S, Nat.reduceAdd, Nat.reduceLeDiff, inr, inq, Int.reduceEq, Int.reduceLT, Int.reduceLE, Int.reduceNeg, not_false_eq_true, not_true_eq_false, false_implies, and_self, pk_nil, pk_cons, wk_0, wk_1, wk_2, wk_3, wk_4, swt_nil, swt_cons, swl_nil, swl_cons, c3_eq, c3_lt, c3_ge, c3_le, c3_gt, c3_inr, c3_inr2, cnd_0, cnd_1, cnd_2, cnd_3, cnd_4, cnd_5, wide_I, wide_R, wide_L, wide_F, wide_D, wide_S, nw_I, nw_L, nw_F, nw_D, nw_U, nw_R, nw_S, fgo_cO, fso_cO, Option.map_some, alo_cI, ado_cD, aro_cR, ano_cI, ano_cD, lst, List.getElem?_cons_zero, List.getElem?_cons_succ, List.set_cons_zero, List.set_cons_succ, and_true, true_and, true_implies, forall_const, true_or, or_true, hg_same, hg_ne,  o1']
      rw [show (k : Int) + 1 = ((k + 1 : Nat) : Int) by omega, iShl_1 (k + 1) (by omega)]
      refine ⟨by omega, fun q => by omega, fun _ => ⟨by omega, fun q => ?_, fun q => ?_⟩⟩
      · exact next h1 _ _ _ (by rw [hb, if_pos (by omega)]) hbest.symm B1 f
      · refine d_builds (F := 3) (wi := k + 1) o1 z3 w1 (by omega) hm hQ v.2.2.2.2.1 (by omega) (fun h2 le2 sp2 nu2 sn2 wo2 ro2 no2 lv2 t2 f2 T2 E2 => ?_)
        have o2 := MO_fr o1 (Fr_Sm f2 (by omega))
        have o2' := id o2
        unfold MO at o2'
        have hn2 := KK_nodes hm.1 hm.2 (show k + 1 ≤ 6 by omega)
        have hp2 := KK_pos hm.1 (show m ≤ 2 ^ (k + 1) by omega)
        try simp (disch := omega) only [w184_0, w184_53, w184_57, w184_58, w184_70, w184_71, w184_87, w184_88, w184_89, w184_95, w184_103, w184_104, e184, x_iconst, x_bipush, x_sipush, x_ldc, x_lconst, x_ldc2l, x_dconst, x_ldc2d, x_ldcf, x_iadd, x_isub, x_imul, x_idiv, x_irem, x_ishl, x_ishr, x_iand, x_ior, x_ixor, x_ladd, x_lsub, x_lmul, x_ldiv, x_lrem, x_lshl, x_lshr, x_lor, x_land, x_lcmp, x_i2l, x_l2i, x_i2b, x_i2f, x_l2f, x_l2d, x_f2d, x_d2l, x_fdiv, x_dadd, x_dsub, x_dmul, x_ddiv, x_dcmp, x_fcmp, x_dup, x_pop, x_dup2, x_objinit, x_rawF, x_rawD, gV_0, gV_1, gV_2, gV_3, gV_4, gV_S, x_iload, x_lload, x_fload, x_dload, x_aload, x_istore, x_fstore, x_astore, x_lstore, x_dstore, gX_I, x_iinc, x_getf, x_putfI, x_putfL, x_putfR, x_iald, x_bald, x_zald, x_lald, x_dald, x_aald, x_iast, x_bast, x_zast, x_last, x_dast, x_aast, x_alen, x_new, x_newa, x_anew, x_acopy, x_sld, x_slen, x_fall, x_goto, x_if, x_cmp, x_tsw, x_lsw, x_ret, x_iret, x_zret, x_lret, x_fret, x_dret, x_aret, x_callr, x_callv, x_calli, x_calls, rcv_R, isO_cO, JW_def, kO_some, sk4, cats_nil, cats_I, cats_L, cats_F, cats_D, cats_R, cats_S, Nat.reduceAdd, Nat.reduceLeDiff, inr, inq, Int.reduceEq, Int.reduceLT, Int.reduceLE, Int.reduceNeg, not_false_eq_true, not_true_eq_false, false_implies, and_self, pk_nil, pk_cons, wk_0, wk_1, wk_2, wk_3, wk_4, swt_nil, swt_cons, swl_nil, swl_cons, c3_eq, c3_lt, c3_ge, c3_le, c3_gt, c3_inr, c3_inr2, cnd_0, cnd_1, cnd_2, cnd_3, cnd_4, cnd_5, wide_I, wide_R, wide_L, wide_F, wide_D, wide_S, nw_I, nw_L, nw_F, nw_D, nw_U, nw_R, nw_S, fgo_cO, fso_cO, Option.map_some, alo_cI, ado_cD, aro_cR, ano_cI, ano_cD, lst, List.getElem?_cons_zero, List.getElem?_cons_succ, List.set_cons_zero, List.set_cons_succ, and_true, true_and, true_implies, forall_const, true_or, or_true, hg_same, hg_ne,  o2']
        refine d_tells (F := 3) o2 t2 (by omega) hm hQ ⟨hp2, hn2.1, hn2.2⟩ T2 ((f2.1 _ (by omega)).trans x1) y1 ((f2.1 _ (by omega)).trans r4) v2 (fun h3 td f3 o3 e3 hA3 => ?_)
        have hcn : cnW m Q wf tx ts (k + 1) = (encW m Q (KK m (k + 1)) wf tx ts).length := if_pos ⟨by omega, by omega, by omega⟩
        have hc8 := cnW_le v v2 (k + 1)
        rw [← hcn] at o3
        have o3' := id o3
        unfold MO at o3'
        have hmul : cnW m Q wf tx ts (k + 1) * (k + 1) ≤ 80 * 6 := Nat.mul_le_mul hc8 (by omega)
        have ft : ∀ k, k < 87 ∨ 97 ≤ k → k ≠ 102 → hg h3 k = hg h1 k := fun k k0 k1 => (f3.1 k (by omega)).trans (f2.1 k (by omega))
        have M3 : MTs h3 m Q wd wf := ⟨le2, sp2, nu2, sn2, wo2, ro2, no2, lv2, MTa_fr t2 (FrP_Sm f3 (fun k k0 k1 q => by omega)), fun q hq => MTr_eq hm.1 (by omega) (by omega) (by omega) (E2 q (by omega)) (T q hq)⟩
        have B3 : MA h3 m Q wd wf ts tx wc co re fi kp sl cf cs cd cl cc ss sb := MA_scr B1 o3 M3 ⟨⟨s1, (ft _ (by omega) (by omega)).trans r1⟩, ⟨s2, (ft _ (by omega) (by omega)).trans r2⟩, ⟨s3, (ft _ (by omega) (by omega)).trans r3⟩, ⟨td, e3⟩, ⟨s5, (ft _ (by omega) (by omega)).trans r5⟩, ⟨s6, (ft _ (by omega) (by omega)).trans r6⟩, ⟨s7, (ft _ (by omega) (by omega)).trans r7⟩⟩ (fun k k0 k1 => (f3.1 k (by omega)).trans (f2.1 k (by omega))) (fun k k0 k1 => ft k (by omega) (by omega)) (fun k k0 k1 => ft k (by omega) (by omega)) (fun k k0 k1 => ft k (by omega) (by omega))
        have fr3 : Fr h h3 87 112 := Fr_tr f (Fr_tr (Fr_w f2 (by omega) (by omega)) (FrP_Fr f3 (fun k q => by omega)))
        try simp (disch := omega) only [w184_0, w184_53, w184_57, w184_58, w184_70, w184_71, w184_87, w184_88, w184_89, w184_95, w184_103, w184_104, e184, x_iconst, x_bipush, x_sipush, x_ldc, x_lconst, x_ldc2l, x_dconst, x_ldc2d, x_ldcf, x_iadd, x_isub, x_imul, x_idiv, x_irem, x_ishl, x_ishr, x_iand, x_ior, x_ixor, x_ladd, x_lsub, x_lmul, x_ldiv, x_lrem, x_lshl, x_lshr, x_lor, x_land, x_lcmp, x_i2l, x_l2i, x_i2b, x_i2f, x_l2f, x_l2d, x_f2d, x_d2l, x_fdiv, x_dadd, x_dsub, x_dmul, x_ddiv, x_dcmp, x_fcmp, x_dup, x_pop, x_dup2, x_objinit, x_rawF, x_rawD, gV_0, gV_1, gV_2, gV_3, gV_4, gV_S, x_iload, x_lload, x_fload, x_dload, x_aload, x_istore, x_fstore, x_astore, x_lstore, x_dstore, gX_I, x_iinc, x_getf, x_putfI, x_putfL, x_putfR, x_iald, x_bald, x_zald, x_lald, x_dald, x_aald, x_iast, x_bast, x_zast, x_last, x_dast, x_aast, x_alen, x_new, x_newa, x_anew, x_acopy, x_sld, x_slen, x_fall, x_goto, x_if, x_cmp, x_tsw, x_lsw, x_ret, x_iret, x_zret, x_lret, x_fret, x_dret, x_aret, x_callr, x_callv, x_calli, x_calls, rcv_R, isO_cO, JW_def, kO_some, sk4, cats_nil, cats_I, cats_L, cats_F, cats_D, cats_R, cats_S, Nat.reduceAdd, Nat.reduceLeDiff, inr, inq, Int.reduceEq, Int.reduceLT, Int.reduceLE, Int.reduceNeg, not_false_eq_true, not_true_eq_false, false_implies, and_self, pk_nil, pk_cons, wk_0, wk_1, wk_2, wk_3, wk_4, swt_nil, swt_cons, swl_nil, swl_cons, c3_eq, c3_lt, c3_ge, c3_le, c3_gt, c3_inr, c3_inr2, cnd_0, cnd_1, cnd_2, cnd_3, cnd_4, cnd_5, wide_I, wide_R, wide_L, wide_F, wide_D, wide_S, nw_I, nw_L, nw_F, nw_D, nw_U, nw_R, nw_S, fgo_cO, fso_cO, Option.map_some, alo_cI, ado_cD, aro_cR, ano_cI, ano_cD, lst, List.getElem?_cons_zero, List.getElem?_cons_succ, List.set_cons_zero, List.set_cons_succ, and_true, true_and, true_implies, forall_const, true_or, or_true, hg_same, hg_ne,  o3']
        rw [show (cnW m Q wf tx ts (k + 1) : Int) * ((k + 1 : Nat) : Int) = ((cnW m Q wf tx ts (k + 1) * (k + 1) : Nat) : Int) from (Int.natCast_mul _ _).symm]
        refine ⟨by omega, fun e => ?_, fun e => ⟨by omega, fun e2 => ?_, fun e2 => ?_⟩⟩
        · exact next h3 _ (k + 1, cnW m Q wf tx ts (k + 1) * (k + 1)) _ (by rw [hb, if_neg (by omega), if_pos (Or.inl (hbr.1.mp e))]) (by rw [if_neg (by omega)]) B3 fr3
        · exact next h3 _ _ _ (by rw [hb, if_neg (by omega), if_neg (by omega)]) hbest.symm B3 fr3
        · exact next h3 _ (k + 1, cnW m Q wf tx ts (k + 1) * (k + 1)) _ (by rw [hb, if_neg (by omega), if_pos (Or.inr (by omega))]) (by rw [if_neg (by omega)]) B3 fr3
  have go := fun z => loop 6 0 h z (by omega) b (Fr_rf _ _ _)
  try simp (disch := omega) only [w184_0, w184_53, w184_57, w184_58, w184_70, w184_71, w184_87, w184_88, w184_89, w184_95, w184_103, w184_104, e184, x_iconst, x_bipush, x_sipush, x_ldc, x_lconst, x_ldc2l, x_dconst, x_ldc2d, x_ldcf, x_iadd, x_isub, x_imul, x_idiv, x_irem, x_ishl, x_ishr, x_iand, x_ior, x_ixor, x_ladd, x_lsub, x_lmul, x_ldiv, x_lrem, x_lshl, x_lshr, x_lor, x_land, x_lcmp, x_i2l, x_l2i, x_i2b, x_i2f, x_l2f, x_l2d, x_f2d, x_d2l, x_fdiv, x_dadd, x_dsub, x_dmul, x_ddiv, x_dcmp, x_fcmp, x_dup, x_pop, x_dup2, x_objinit, x_rawF, x_rawD, gV_0, gV_1, gV_2, gV_3, gV_4, gV_S, x_iload, x_lload, x_fload, x_dload, x_aload, x_istore, x_fstore, x_astore, x_lstore, x_dstore, gX_I, x_iinc, x_getf, x_putfI, x_putfL, x_putfR, x_iald, x_bald, x_zald, x_lald, x_dald, x_aald, x_iast, x_bast, x_zast, x_last, x_dast, x_aast, x_alen, x_new, x_newa, x_anew, x_acopy, x_sld, x_slen, x_fall, x_goto, x_if, x_cmp, x_tsw, x_lsw, x_ret, x_iret, x_zret, x_lret, x_fret, x_dret, x_aret, x_callr, x_callv, x_calli, x_calls, rcv_R, isO_cO, JW_def, kO_some, sk4, cats_nil, cats_I, cats_L, cats_F, cats_D, cats_R, cats_S, Nat.reduceAdd, Nat.reduceLeDiff, inr, inq, Int.reduceEq, Int.reduceLT, Int.reduceLE, Int.reduceNeg, not_false_eq_true, not_true_eq_false, false_implies, and_self, pk_nil, pk_cons, wk_0, wk_1, wk_2, wk_3, wk_4, swt_nil, swt_cons, swl_nil, swl_cons, c3_eq, c3_lt, c3_ge, c3_le, c3_gt, c3_inr, c3_inr2, cnd_0, cnd_1, cnd_2, cnd_3, cnd_4, cnd_5, wide_I, wide_R, wide_L, wide_F, wide_D, wide_S, nw_I, nw_L, nw_F, nw_D, nw_U, nw_R, nw_S, fgo_cO, fso_cO, Option.map_some, alo_cI, ado_cD, aro_cR, ano_cI, ano_cD, lst, List.getElem?_cons_zero, List.getElem?_cons_succ, List.set_cons_zero, List.set_cons_succ, and_true, true_and, true_implies, forall_const, true_or, or_true, hg_same, hg_ne]
  exact go _
end Q4b
set_option maxRecDepth 20000 in
set_option maxHeartbeats 4000000 in
theorem k_best {w : Int} (hw : inr w) : Pair 174 190 [pI w] := by
  intro h L xs I lim K1 hK
  obtain ⟨I1, I2, m, Q, wd, wf, ts, tx, wc, co, re, fi, kp, sl, cf, cs, cd, cl, cc, ss, sb, a, b, v⟩ := I
  obtain ⟨a1, a2, a3, a4, a5, a6, a7, a8, a9⟩ := id a
  obtain ⟨v1, v2, v3, v4, v5, v6, v7⟩ := id v
  have a1' := id a1
  unfold PTO at a1'
  obtain ⟨hts, htx⟩ := id v2
  obtain ⟨hwc, hco⟩ := id v3
  obtain ⟨hm, hQ, hwd, hmw, hW, hWs⟩ := id v1
  have hw' := hw
  unfold inr at hw
  by_cases ok : 0 ≤ w ∧ w ≤ 1
  · have hr := bstF_rng (cnW m Q wf tx ts) (cnW_le v1 v2) m 6 (by omega)
    have hv : inr (vBs m Q wf tx ts w) := by
      unfold inr vBs
      by_cases e : w = 0
      · rw [if_pos e]; omega
      · rw [if_neg e]; omega
    refine c_best a v1 v2 ok (fun h1 A1 f1 => ?_)
    have fr : Fr h h1 0 87 := Fr_w f1 (by omega) (by omega)
    refine hK _ _ hv (Post_of I1 I2 b fr (fun b1 lim K2 hK2 => ?_))
    obtain ⟨⟨tm, tr, ph, b2⟩, -⟩ := id b1
    have b2' := id b2
    unfold MO at b2'
    try simp (disch := omega) only [w190_0, w190_15, w190_17, e190, x_iconst, x_bipush, x_sipush, x_ldc, x_lconst, x_ldc2l, x_dconst, x_ldc2d, x_ldcf, x_iadd, x_isub, x_imul, x_idiv, x_irem, x_ishl, x_ishr, x_iand, x_ior, x_ixor, x_ladd, x_lsub, x_lmul, x_ldiv, x_lrem, x_lshl, x_lshr, x_lor, x_land, x_lcmp, x_i2l, x_l2i, x_i2b, x_i2f, x_l2f, x_l2d, x_f2d, x_d2l, x_fdiv, x_dadd, x_dsub, x_dmul, x_ddiv, x_dcmp, x_fcmp, x_dup, x_pop, x_dup2, x_objinit, x_rawF, x_rawD, gV_0, gV_1, gV_2, gV_3, gV_4, gV_S, x_iload, x_lload, x_fload, x_dload, x_aload, x_istore, x_fstore, x_astore, x_lstore, x_dstore, gX_I, x_iinc, x_getf, x_putfI, x_putfL, x_putfR, x_iald, x_bald, x_zald, x_lald, x_dald, x_aald, x_iast, x_bast, x_zast, x_last, x_dast, x_aast, x_alen, x_new, x_newa, x_anew, x_acopy, x_sld, x_slen, x_fall, x_goto, x_if, x_cmp, x_tsw, x_lsw, x_ret, x_iret, x_zret, x_lret, x_fret, x_dret, x_aret, x_callr, x_callv, x_calli, x_calls, rcv_R, isO_cO, JW_def, kO_some, sk4, cats_nil, cats_I, cats_L, cats_F, cats_D, cats_R, cats_S, Nat.reduceAdd, Nat.reduceLeDiff, inr, inq, Int.reduceEq, Int.reduceLT, Int.reduceLE, Int.reduceNeg, not_false_eq_true, not_true_eq_false, false_implies, and_self, pk_nil, pk_cons, wk_0, wk_1, wk_2, wk_3, wk_4, swt_nil, swt_cons, swl_nil, swl_cons, c3_eq, c3_lt, c3_ge, c3_le, c3_gt, c3_inr, c3_inr2, cnd_0, cnd_1, cnd_2, cnd_3, cnd_4, cnd_5, wide_I, wide_R, wide_L, wide_F, wide_D, wide_S, nw_I, nw_L, nw_F, nw_D, nw_U, nw_R, nw_S, fgo_cO, fso_cO, Option.map_some, alo_cI, ado_cD, aro_cR, ano_cI, ano_cD, lst, List.getElem?_cons_zero, List.getElem?_cons_succ, List.set_cons_zero, List.set_cons_succ, and_true, true_and, true_implies, forall_const, true_or, or_true, hg_same, hg_ne,  b2']
    refine c_isTwo hw' (fun _ => ?_) (fun e => by omega)
    try simp (disch := omega) only [w190_0, w190_15, w190_17, e190, x_iconst, x_bipush, x_sipush, x_ldc, x_lconst, x_ldc2l, x_dconst, x_ldc2d, x_ldcf, x_iadd, x_isub, x_imul, x_idiv, x_irem, x_ishl, x_ishr, x_iand, x_ior, x_ixor, x_ladd, x_lsub, x_lmul, x_ldiv, x_lrem, x_lshl, x_lshr, x_lor, x_land, x_lcmp, x_i2l, x_l2i, x_i2b, x_i2f, x_l2f, x_l2d, x_f2d, x_d2l, x_fdiv, x_dadd, x_dsub, x_dmul, x_ddiv, x_dcmp, x_fcmp, x_dup, x_pop, x_dup2, x_objinit, x_rawF, x_rawD, gV_0, gV_1, gV_2, gV_3, gV_4, gV_S, x_iload, x_lload, x_fload, x_dload, x_aload, x_istore, x_fstore, x_astore, x_lstore, x_dstore, gX_I, x_iinc, x_getf, x_putfI, x_putfL, x_putfR, x_iald, x_bald, x_zald, x_lald, x_dald, x_aald, x_iast, x_bast, x_zast, x_last, x_dast, x_aast, x_alen, x_new, x_newa, x_anew, x_acopy, x_sld, x_slen, x_fall, x_goto, x_if, x_cmp, x_tsw, x_lsw, x_ret, x_iret, x_zret, x_lret, x_fret, x_dret, x_aret, x_callr, x_callv, x_calli, x_calls, rcv_R, isO_cO, JW_def, kO_some, sk4, cats_nil, cats_I, cats_L, cats_F, cats_D, cats_R, cats_S, Nat.reduceAdd, Nat.reduceLeDiff, inr, inq, Int.reduceEq, Int.reduceLT, Int.reduceLE, Int.reduceNeg, not_false_eq_true, not_true_eq_false, false_implies, and_self, pk_nil, pk_cons, wk_0, wk_1, wk_2, wk_3, wk_4, swt_nil, swt_cons, swl_nil, swl_cons, c3_eq, c3_lt, c3_ge, c3_le, c3_gt, c3_inr, c3_inr2, cnd_0, cnd_1, cnd_2, cnd_3, cnd_4, cnd_5, wide_I, wide_R, wide_L, wide_F, wide_D, wide_S, nw_I, nw_L, nw_F, nw_D, nw_U, nw_R, nw_S, fgo_cO, fso_cO, Option.map_some, alo_cI, ado_cD, aro_cR, ano_cI, ano_cD, lst, List.getElem?_cons_zero, List.getElem?_cons_succ, List.set_cons_zero, List.set_cons_succ, and_true, true_and, true_implies, forall_const, true_or, or_true, hg_same, hg_ne,  b2']
    refine d_bestBy b1 v1 v2 ok (fun h2 B2 f2 => ?_)
    try simp (disch := omega) only [w190_0, w190_15, w190_17, e190, x_iconst, x_bipush, x_sipush, x_ldc, x_lconst, x_ldc2l, x_dconst, x_ldc2d, x_ldcf, x_iadd, x_isub, x_imul, x_idiv, x_irem, x_ishl, x_ishr, x_iand, x_ior, x_ixor, x_ladd, x_lsub, x_lmul, x_ldiv, x_lrem, x_lshl, x_lshr, x_lor, x_land, x_lcmp, x_i2l, x_l2i, x_i2b, x_i2f, x_l2f, x_l2d, x_f2d, x_d2l, x_fdiv, x_dadd, x_dsub, x_dmul, x_ddiv, x_dcmp, x_fcmp, x_dup, x_pop, x_dup2, x_objinit, x_rawF, x_rawD, gV_0, gV_1, gV_2, gV_3, gV_4, gV_S, x_iload, x_lload, x_fload, x_dload, x_aload, x_istore, x_fstore, x_astore, x_lstore, x_dstore, gX_I, x_iinc, x_getf, x_putfI, x_putfL, x_putfR, x_iald, x_bald, x_zald, x_lald, x_dald, x_aald, x_iast, x_bast, x_zast, x_last, x_dast, x_aast, x_alen, x_new, x_newa, x_anew, x_acopy, x_sld, x_slen, x_fall, x_goto, x_if, x_cmp, x_tsw, x_lsw, x_ret, x_iret, x_zret, x_lret, x_fret, x_dret, x_aret, x_callr, x_callv, x_calli, x_calls, rcv_R, isO_cO, JW_def, kO_some, sk4, cats_nil, cats_I, cats_L, cats_F, cats_D, cats_R, cats_S, Nat.reduceAdd, Nat.reduceLeDiff, inr, inq, Int.reduceEq, Int.reduceLT, Int.reduceLE, Int.reduceNeg, not_false_eq_true, not_true_eq_false, false_implies, and_self, pk_nil, pk_cons, wk_0, wk_1, wk_2, wk_3, wk_4, swt_nil, swt_cons, swl_nil, swl_cons, c3_eq, c3_lt, c3_ge, c3_le, c3_gt, c3_inr, c3_inr2, cnd_0, cnd_1, cnd_2, cnd_3, cnd_4, cnd_5, wide_I, wide_R, wide_L, wide_F, wide_D, wide_S, nw_I, nw_L, nw_F, nw_D, nw_U, nw_R, nw_S, fgo_cO, fso_cO, Option.map_some, alo_cI, ado_cD, aro_cR, ano_cI, ano_cD, lst, List.getElem?_cons_zero, List.getElem?_cons_succ, List.set_cons_zero, List.set_cons_succ, and_true, true_and, true_implies, forall_const, true_or, or_true, hg_same, hg_ne]
    exact hK2 _ (Inv_of I1 I2 fr A1 f2 B2 v)
  · have bad : K1 (pI (-2)) h := by
      refine hK (-2) _ (by unfold inr; omega) (Post_of I1 I2 b (Fr_rf _ _ _) (fun b1 lim K2 hK2 => ?_))
      obtain ⟨⟨tm, tr, ph, b2⟩, b3, b4, b5, b6, b7, b8, b9⟩ := id b1
      obtain ⟨⟨f1, x1, y1⟩, ⟨f2, x2, y2⟩⟩ := id b6
      have b2' := id b2
      unfold MO at b2'
      try simp (disch := omega) only [w190_0, w190_15, w190_17, e190, x_iconst, x_bipush, x_sipush, x_ldc, x_lconst, x_ldc2l, x_dconst, x_ldc2d, x_ldcf, x_iadd, x_isub, x_imul, x_idiv, x_irem, x_ishl, x_ishr, x_iand, x_ior, x_ixor, x_ladd, x_lsub, x_lmul, x_ldiv, x_lrem, x_lshl, x_lshr, x_lor, x_land, x_lcmp, x_i2l, x_l2i, x_i2b, x_i2f, x_l2f, x_l2d, x_f2d, x_d2l, x_fdiv, x_dadd, x_dsub, x_dmul, x_ddiv, x_dcmp, x_fcmp, x_dup, x_pop, x_dup2, x_objinit, x_rawF, x_rawD, gV_0, gV_1, gV_2, gV_3, gV_4, gV_S, x_iload, x_lload, x_fload, x_dload, x_aload, x_istore, x_fstore, x_astore, x_lstore, x_dstore, gX_I, x_iinc, x_getf, x_putfI, x_putfL, x_putfR, x_iald, x_bald, x_zald, x_lald, x_dald, x_aald, x_iast, x_bast, x_zast, x_last, x_dast, x_aast, x_alen, x_new, x_newa, x_anew, x_acopy, x_sld, x_slen, x_fall, x_goto, x_if, x_cmp, x_tsw, x_lsw, x_ret, x_iret, x_zret, x_lret, x_fret, x_dret, x_aret, x_callr, x_callv, x_calli, x_calls, rcv_R, isO_cO, JW_def, kO_some, sk4, cats_nil, cats_I, cats_L, cats_F, cats_D, cats_R, cats_S, Nat.reduceAdd, Nat.reduceLeDiff, inr, inq, Int.reduceEq, Int.reduceLT, Int.reduceLE, Int.reduceNeg, not_false_eq_true, not_true_eq_false, false_implies, and_self, pk_nil, pk_cons, wk_0, wk_1, wk_2, wk_3, wk_4, swt_nil, swt_cons, swl_nil, swl_cons, c3_eq, c3_lt, c3_ge, c3_le, c3_gt, c3_inr, c3_inr2, cnd_0, cnd_1, cnd_2, cnd_3, cnd_4, cnd_5, wide_I, wide_R, wide_L, wide_F, wide_D, wide_S, nw_I, nw_L, nw_F, nw_D, nw_U, nw_R, nw_S, fgo_cO, fso_cO, Option.map_some, alo_cI, ado_cD, aro_cR, ano_cI, ano_cD, lst, List.getElem?_cons_zero, List.getElem?_cons_succ, List.set_cons_zero, List.set_cons_succ, and_true, true_and, true_implies, forall_const, true_or, or_true, hg_same, hg_ne,  b2']
      refine c_isTwo hw' (fun _ => by omega) (fun e => ?_)
      try simp (disch := omega) only [w190_0, w190_15, w190_17, e190, x_iconst, x_bipush, x_sipush, x_ldc, x_lconst, x_ldc2l, x_dconst, x_ldc2d, x_ldcf, x_iadd, x_isub, x_imul, x_idiv, x_irem, x_ishl, x_ishr, x_iand, x_ior, x_ixor, x_ladd, x_lsub, x_lmul, x_ldiv, x_lrem, x_lshl, x_lshr, x_lor, x_land, x_lcmp, x_i2l, x_l2i, x_i2b, x_i2f, x_l2f, x_l2d, x_f2d, x_d2l, x_fdiv, x_dadd, x_dsub, x_dmul, x_ddiv, x_dcmp, x_fcmp, x_dup, x_pop, x_dup2, x_objinit, x_rawF, x_rawD, gV_0, gV_1, gV_2, gV_3, gV_4, gV_S, x_iload, x_lload, x_fload, x_dload, x_aload, x_istore, x_fstore, x_astore, x_lstore, x_dstore, gX_I, x_iinc, x_getf, x_putfI, x_putfL, x_putfR, x_iald, x_bald, x_zald, x_lald, x_dald, x_aald, x_iast, x_bast, x_zast, x_last, x_dast, x_aast, x_alen, x_new, x_newa, x_anew, x_acopy, x_sld, x_slen, x_fall, x_goto, x_if, x_cmp, x_tsw, x_lsw, x_ret, x_iret, x_zret, x_lret, x_fret, x_dret, x_aret, x_callr, x_callv, x_calli, x_calls, rcv_R, isO_cO, JW_def, kO_some, sk4, cats_nil, cats_I, cats_L, cats_F, cats_D, cats_R, cats_S, Nat.reduceAdd, Nat.reduceLeDiff, inr, inq, Int.reduceEq, Int.reduceLT, Int.reduceLE, Int.reduceNeg, not_false_eq_true, not_true_eq_false, false_implies, and_self, pk_nil, pk_cons, wk_0, wk_1, wk_2, wk_3, wk_4, swt_nil, swt_cons, swl_nil, swl_cons, c3_eq, c3_lt, c3_ge, c3_le, c3_gt, c3_inr, c3_inr2, cnd_0, cnd_1, cnd_2, cnd_3, cnd_4, cnd_5, wide_I, wide_R, wide_L, wide_F, wide_D, wide_S, nw_I, nw_L, nw_F, nw_D, nw_U, nw_R, nw_S, fgo_cO, fso_cO, Option.map_some, alo_cI, ado_cD, aro_cR, ano_cI, ano_cD, lst, List.getElem?_cons_zero, List.getElem?_cons_succ, List.set_cons_zero, List.set_cons_succ, and_true, true_and, true_implies, forall_const, true_or, or_true, hg_same, hg_ne,  b2']
      exact hK2 _ (Inv_of I1 I2 (Fr_rf _ _ _) a (Fr_rf _ _ _) b v)
    try simp (disch := omega) only [w174_0, w174_9, w174_12, w174_61, w174_67, w174_73, w174_81, w174_82, e174, x_iconst, x_bipush, x_sipush, x_ldc, x_lconst, x_ldc2l, x_dconst, x_ldc2d, x_ldcf, x_iadd, x_isub, x_imul, x_idiv, x_irem, x_ishl, x_ishr, x_iand, x_ior, x_ixor, x_ladd, x_lsub, x_lmul, x_ldiv, x_lrem, x_lshl, x_lshr, x_lor, x_land, x_lcmp, x_i2l, x_l2i, x_i2b, x_i2f, x_l2f, x_l2d, x_f2d, x_d2l, x_fdiv, x_dadd, x_dsub, x_dmul, x_ddiv, x_dcmp, x_fcmp, x_dup, x_pop, x_dup2, x_objinit, x_rawF, x_rawD, gV_0, gV_1, gV_2, gV_3, gV_4, gV_S, x_iload, x_lload, x_fload, x_dload, x_aload, x_istore, x_fstore, x_astore, x_lstore, x_dstore, gX_I, x_iinc, x_getf, x_putfI, x_putfL, x_putfR, x_iald, x_bald, x_zald, x_lald, x_dald, x_aald, x_iast, x_bast, x_zast, x_last, x_dast, x_aast, x_alen, x_new, x_newa, x_anew, x_acopy, x_sld, x_slen, x_fall, x_goto, x_if, x_cmp, x_tsw, x_lsw, x_ret, x_iret, x_zret, x_lret, x_fret, x_dret, x_aret, x_callr, x_callv, x_calli, x_calls, rcv_R, isO_cO, JW_def, kO_some, sk4, cats_nil, cats_I, cats_L, cats_F, cats_D, cats_R, cats_S, Nat.reduceAdd, Nat.reduceLeDiff, inr, inq, Int.reduceEq, Int.reduceLT, Int.reduceLE, Int.reduceNeg, not_false_eq_true, not_true_eq_false, false_implies, and_self, pk_nil, pk_cons, wk_0, wk_1, wk_2, wk_3, wk_4, swt_nil, swt_cons, swl_nil, swl_cons, c3_eq, c3_lt, c3_ge, c3_le, c3_gt, c3_inr, c3_inr2, cnd_0, cnd_1, cnd_2, cnd_3, cnd_4, cnd_5, wide_I, wide_R, wide_L, wide_F, wide_D, wide_S, nw_I, nw_L, nw_F, nw_D, nw_U, nw_R, nw_S, fgo_cO, fso_cO, Option.map_some, alo_cI, ado_cD, aro_cR, ano_cI, ano_cD, lst, List.getElem?_cons_zero, List.getElem?_cons_succ, List.set_cons_zero, List.set_cons_succ, and_true, true_and, true_implies, forall_const, true_or, or_true, hg_same, hg_ne]
    exact ⟨by omega, fun e => bad, fun e => ⟨by omega, fun e => by omega, fun e => bad⟩⟩

section Q2
variable {h : Hp} {m Q wd : Nat} {wf : Int → Int} {ts : Nat} {tx : Int → Int} {wc : Nat} {co : Int → Int} {re fi : Int} {kp : Int → Int} {sl : Int → Nat × Nat × Nat × (Int → Int)} {cf cs : Int → Int} {cd cl cc : Int → Int → Int} {ss : Int → Int} {sb : Int → Int → Int}
set_option maxRecDepth 20000 in
set_option maxHeartbeats 4000000 in
theorem c_addWord {h : Hp} {ts wc : Nat} {re fi : Int} (a1 : PTO h ts wc re fi) {g : Int → Int} (e : hg h 9 = some (cI 0 80 g)) (hwc : wc < 80) {x : Int} {lim : Nat × Nat} {K : QT} (hK : ∀ h', FrP (fun k => k = 0 ∨ k = 9) h h' → PTO h' ts (wc + 1) re fi → hg h' 9 = some (cI 0 80 (up g wc x)) → K pU h') : WM 40 [pR 0, pI x] h lim K := by
  unfold PTO at a1
  try simp (disch := omega) only [w40_0, w40_29, e40, x_iconst, x_bipush, x_sipush, x_ldc, x_lconst, x_ldc2l, x_dconst, x_ldc2d, x_ldcf, x_iadd, x_isub, x_imul, x_idiv, x_irem, x_ishl, x_ishr, x_iand, x_ior, x_ixor, x_ladd, x_lsub, x_lmul, x_ldiv, x_lrem, x_lshl, x_lshr, x_lor, x_land, x_lcmp, x_i2l, x_l2i, x_i2b, x_i2f, x_l2f, x_l2d, x_f2d, x_d2l, x_fdiv, x_dadd, x_dsub, x_dmul, x_ddiv, x_dcmp, x_fcmp, x_dup, x_pop, x_dup2, x_objinit, x_rawF, x_rawD, gV_0, gV_1, gV_2, gV_3, gV_4, gV_S, x_iload, x_lload, x_fload, x_dload, x_aload, x_istore, x_fstore, x_astore, x_lstore, x_dstore, gX_I, x_iinc, x_getf, x_putfI, x_putfL, x_putfR, x_iald, x_bald, x_zald, x_lald, x_dald, x_aald, x_iast, x_bast, x_zast, x_last, x_dast, x_aast, x_alen, x_new, x_newa, x_anew, x_acopy, x_sld, x_slen, x_fall, x_goto, x_if, x_cmp, x_tsw, x_lsw, x_ret, x_iret, x_zret, x_lret, x_fret, x_dret, x_aret, x_callr, x_callv, x_calli, x_calls, rcv_R, isO_cO, JW_def, kO_some, sk4, cats_nil, cats_I, cats_L, cats_F, cats_D, cats_R, cats_S, Nat.reduceAdd, Nat.reduceLeDiff, inr, inq, Int.reduceEq, Int.reduceLT, Int.reduceLE, Int.reduceNeg, not_false_eq_true, not_true_eq_false, false_implies, and_self, pk_nil, pk_cons, wk_0, wk_1, wk_2, wk_3, wk_4, swt_nil, swt_cons, swl_nil, swl_cons, c3_eq, c3_lt, c3_ge, c3_le, c3_gt, c3_inr, c3_inr2, cnd_0, cnd_1, cnd_2, cnd_3, cnd_4, cnd_5, wide_I, wide_R, wide_L, wide_F, wide_D, wide_S, nw_I, nw_L, nw_F, nw_D, nw_U, nw_R, nw_S, fgo_cO, fso_cO, Option.map_some, alo_cI, ado_cD, aro_cR, ano_cI, ano_cD, lst, List.getElem?_cons_zero, List.getElem?_cons_succ, List.set_cons_zero, List.set_cons_succ, and_true, true_and, true_implies, forall_const, true_or, or_true, hg_same, hg_ne,  a1, e]
  refine ⟨by omega, fun q => by omega, fun _ => ⟨by omega, ?_⟩⟩
  exact hK _ (FrP_up _ (FrP_hu _ (Or.inr rfl)) (Or.inl rfl)) (hg_same _ _ _) (by rw [hg_ne _ _ _ _ (by omega)]; exact hg_same _ _ _)
set_option maxRecDepth 20000 in
set_option maxHeartbeats 4000000 in
theorem c_encode (a : CA h m Q wd wf ts tx wc co re fi kp sl cf cs cd cl cc ss sb) (v : SOK m Q wd wf) (v2 : TOK m ts tx) {lim : Nat × Nat} {K : QT}
    (hK : ∀ (h' : Hp) (g : Int → Int), CA h' m Q wd wf ts tx ((encW m Q (KK m wd) wf tx ts).length) (g) ((encF m Q (KK m wd) wf tx ts).2.1) fi kp sl cf cs cd cl cc ss sb → AW (encW m Q (KK m wd) wf tx ts) g → Fr h h' 0 87 → K (pI ((encW m Q (KK m wd) wf tx ts).length : Int)) h') : WM 173 [pR 0] h lim K := by
  obtain ⟨a1, a2, a3, a4, a5, a6, a7, a8, a9⟩ := id a
  have a1' := id a1
  unfold PTO at a1'
  have hQ := v.2.1
  have hm := v.1
  have hwd := v.2.2.1
  have hn := KK_nodes hm.1 hm.2 hwd.2
  have hKl := KK_le hm.1 hwd.2
  have hp := KK_pos hm.1 v.2.2.2.1
  have hm8 : m ≤ 8 := by omega
  obtain ⟨hts, htx⟩ := v2
  have enc := fun k (hk : k ≤ ts) => encF_ok (wf := wf) (tx := tx) hm.1 hm8 (show 0 < Q by omega) hp (show 1 + KK m wd * (m - 1) < 256 by omega) k (fun i i0 i1 => htx i i0 (by omega))
  have loop : ∀ (y k st d c : Nat) (ws : List Nat) (n : Nat) (h1 : Hp) (g : Int → Int) (z : PV), y + k = ts → encF m Q (KK m wd) wf tx k = (st, d, c, ws) → n < 1 + KK m wd * m → wnC m (scF Q st wf) n = (d, c) → CA h1 m Q wd wf ts tx (ws.length) (g) (0) fi kp sl cf cs cd cl cc ss sb → AW ws g → Fr h h1 0 87 → WP 173 10 [pR 0, pI st, pI n, pI k, z] [] h1 lim K := by
    intro y
    induction y with
    | zero =>
      intro k st d c ws n h1 g z hy he hn1 hw A1 hA f
      have ek : k = ts := by omega
      subst ek
      obtain ⟨i1, i2, i3, i4⟩ := enc k (Nat.le_refl _)
      rw [he] at i1 i2 i3 i4
      simp only at i1 i2 i3 i4
      have b1 := A1.1
      unfold PTO at b1
      have hc := (dfs_code hm8 i2).2
      have hd8 := (dfs_code hm8 i2).1
      have hW : encW m Q (KK m wd) wf tx k = if d = 0 then ws else ws ++ [rkD (TK m (scF Q st wf) (KK m wd)) d c] := by
        unfold encW
        rw [he]
      rw [w173_10]
      try simp (disch := omega) only [w173_0, w173_77, w173_83, w173_116, e173, x_iconst, x_bipush, x_sipush, x_ldc, x_lconst, x_ldc2l, x_dconst, x_ldc2d, x_ldcf, x_iadd, x_isub, x_imul, x_idiv, x_irem, x_ishl, x_ishr, x_iand, x_ior, x_ixor, x_ladd, x_lsub, x_lmul, x_ldiv, x_lrem, x_lshl, x_lshr, x_lor, x_land, x_lcmp, x_i2l, x_l2i, x_i2b, x_i2f, x_l2f, x_l2d, x_f2d, x_d2l, x_fdiv, x_dadd, x_dsub, x_dmul, x_ddiv, x_dcmp, x_fcmp, x_dup, x_pop, x_dup2, x_objinit, x_rawF, x_rawD, gV_0, gV_1, gV_2, gV_3, gV_4, gV_S, x_iload, x_lload, x_fload, x_dload, x_aload, x_istore, x_fstore, x_astore, x_lstore, x_dstore, gX_I, x_iinc, x_getf, x_putfI, x_putfL, x_putfR, x_iald, x_bald, x_zald, x_lald, x_dald, x_aald, x_iast, x_bast, x_zast, x_last, x_dast, x_aast, x_alen, x_new, x_newa, x_anew, x_acopy, x_sld, x_slen, x_fall, x_goto, x_if, x_cmp, x_tsw, x_lsw, x_ret, x_iret, x_zret, x_lret, x_fret, x_dret, x_aret, x_callr, x_callv, x_calli, x_calls, rcv_R, isO_cO, JW_def, kO_some, sk4, cats_nil, cats_I, cats_L, cats_F, cats_D, cats_R, cats_S, Nat.reduceAdd, Nat.reduceLeDiff, inr, inq, Int.reduceEq, Int.reduceLT, Int.reduceLE, Int.reduceNeg, not_false_eq_true, not_true_eq_false, false_implies, and_self, pk_nil, pk_cons, wk_0, wk_1, wk_2, wk_3, wk_4, swt_nil, swt_cons, swl_nil, swl_cons, c3_eq, c3_lt, c3_ge, c3_le, c3_gt, c3_inr, c3_inr2, cnd_0, cnd_1, cnd_2, cnd_3, cnd_4, cnd_5, wide_I, wide_R, wide_L, wide_F, wide_D, wide_S, nw_I, nw_L, nw_F, nw_D, nw_U, nw_R, nw_S, fgo_cO, fso_cO, Option.map_some, alo_cI, ado_cD, aro_cR, ano_cI, ano_cD, lst, List.getElem?_cons_zero, List.getElem?_cons_succ, List.set_cons_zero, List.set_cons_succ, and_true, true_and, true_implies, forall_const, true_or, or_true, hg_same, hg_ne,  b1]
      refine ⟨by omega, fun _ => ⟨by omega, fun e => ?_, fun e => ?_⟩, fun q => by omega⟩
      · have hd0 : d = 0 := by
          have hn0 : n = 0 := by omega
          subst hn0
          unfold wnC at hw
          rw [if_pos rfl] at hw
          simp only [Prod.mk.injEq] at hw
          omega
        have := hK h1 g
        rw [hW, he, if_pos hd0, hd0] at this
        exact this A1 hA f
      · refine c_rdy A1 v i1 (fun h2 lb dp ch so ns nf lf nu fw od lo es lg ls A2 R f2 => ?_)
        have d1 := A2.1
        have d1' := id d1
        unfold PTO at d1'
        obtain ⟨-, -, -, d4, -⟩ := id A2
        have hdn : ¬ d = 0 := by
          intro hd0
          obtain ⟨-, -, r3, -⟩ := R
          have := (TR_root r3 hn1 hw hc).mpr hd0
          omega
        obtain ⟨ix, hix, hixx⟩ := List.mem_iff_getElem.mp i2
        have hi2 : (TK m (scF Q st wf) (KK m wd))[ix]? = some (d, c, true) := by
          rw [List.getElem?_eq_getElem hix, hixx]
        have hl := TT_len v st
        obtain ⟨n', n1, n2, n3, n4, n5, n6, n7, n8, n9, n10, n11, n12⟩ := rdy_at R hm8 hi2
        obtain ⟨⟨op, oc, k', r1⟩, r2, r3, r4⟩ := id R
        have en : n' = n := r3.2.1 n' n n1 hn1 (by rw [n2, hw])
        subst en
        obtain ⟨y0, y1, y2, y3, y4, y5, y6, y7⟩ := id r2
        obtain ⟨g0, g1, g2, g3, g4, g5, g6⟩ := id r1
        have hrk := rkD_TK hm8 hi2
        try simp (disch := omega) only [w173_0, w173_77, w173_83, w173_116, e173, x_iconst, x_bipush, x_sipush, x_ldc, x_lconst, x_ldc2l, x_dconst, x_ldc2d, x_ldcf, x_iadd, x_isub, x_imul, x_idiv, x_irem, x_ishl, x_ishr, x_iand, x_ior, x_ixor, x_ladd, x_lsub, x_lmul, x_ldiv, x_lrem, x_lshl, x_lshr, x_lor, x_land, x_lcmp, x_i2l, x_l2i, x_i2b, x_i2f, x_l2f, x_l2d, x_f2d, x_d2l, x_fdiv, x_dadd, x_dsub, x_dmul, x_ddiv, x_dcmp, x_fcmp, x_dup, x_pop, x_dup2, x_objinit, x_rawF, x_rawD, gV_0, gV_1, gV_2, gV_3, gV_4, gV_S, x_iload, x_lload, x_fload, x_dload, x_aload, x_istore, x_fstore, x_astore, x_lstore, x_dstore, gX_I, x_iinc, x_getf, x_putfI, x_putfL, x_putfR, x_iald, x_bald, x_zald, x_lald, x_dald, x_aald, x_iast, x_bast, x_zast, x_last, x_dast, x_aast, x_alen, x_new, x_newa, x_anew, x_acopy, x_sld, x_slen, x_fall, x_goto, x_if, x_cmp, x_tsw, x_lsw, x_ret, x_iret, x_zret, x_lret, x_fret, x_dret, x_aret, x_callr, x_callv, x_calli, x_calls, rcv_R, isO_cO, JW_def, kO_some, sk4, cats_nil, cats_I, cats_L, cats_F, cats_D, cats_R, cats_S, Nat.reduceAdd, Nat.reduceLeDiff, inr, inq, Int.reduceEq, Int.reduceLT, Int.reduceLE, Int.reduceNeg, not_false_eq_true, not_true_eq_false, false_implies, and_self, pk_nil, pk_cons, wk_0, wk_1, wk_2, wk_3, wk_4, swt_nil, swt_cons, swl_nil, swl_cons, c3_eq, c3_lt, c3_ge, c3_le, c3_gt, c3_inr, c3_inr2, cnd_0, cnd_1, cnd_2, cnd_3, cnd_4, cnd_5, wide_I, wide_R, wide_L, wide_F, wide_D, wide_S, nw_I, nw_L, nw_F, nw_D, nw_U, nw_R, nw_S, fgo_cO, fso_cO, Option.map_some, alo_cI, ado_cD, aro_cR, ano_cI, ano_cD, lst, List.getElem?_cons_zero, List.getElem?_cons_succ, List.set_cons_zero, List.set_cons_succ, and_true, true_and, true_implies, forall_const, true_or, or_true, hg_same, hg_ne,  d1', y0, y4]
        refine ⟨by omega, ?_⟩
        refine c_addWord d1 d4.2.2 (by omega) (fun h3 f3 p3 e3 => ?_)
        have p3' := id p3
        unfold PTO at p3'
        have y0' := (f3.1 _ (by omega)).trans y0
        have g0' := (f3.1 (14 + 15 * st + 8) (by omega)).trans g0
        have g2' := (f3.1 (14 + 15 * st + 8 + 2) (by omega)).trans g2
        try simp (disch := omega) only [w173_0, w173_77, w173_83, w173_116, e173, x_iconst, x_bipush, x_sipush, x_ldc, x_lconst, x_ldc2l, x_dconst, x_ldc2d, x_ldcf, x_iadd, x_isub, x_imul, x_idiv, x_irem, x_ishl, x_ishr, x_iand, x_ior, x_ixor, x_ladd, x_lsub, x_lmul, x_ldiv, x_lrem, x_lshl, x_lshr, x_lor, x_land, x_lcmp, x_i2l, x_l2i, x_i2b, x_i2f, x_l2f, x_l2d, x_f2d, x_d2l, x_fdiv, x_dadd, x_dsub, x_dmul, x_ddiv, x_dcmp, x_fcmp, x_dup, x_pop, x_dup2, x_objinit, x_rawF, x_rawD, gV_0, gV_1, gV_2, gV_3, gV_4, gV_S, x_iload, x_lload, x_fload, x_dload, x_aload, x_istore, x_fstore, x_astore, x_lstore, x_dstore, gX_I, x_iinc, x_getf, x_putfI, x_putfL, x_putfR, x_iald, x_bald, x_zald, x_lald, x_dald, x_aald, x_iast, x_bast, x_zast, x_last, x_dast, x_aast, x_alen, x_new, x_newa, x_anew, x_acopy, x_sld, x_slen, x_fall, x_goto, x_if, x_cmp, x_tsw, x_lsw, x_ret, x_iret, x_zret, x_lret, x_fret, x_dret, x_aret, x_callr, x_callv, x_calli, x_calls, rcv_R, isO_cO, JW_def, kO_some, sk4, cats_nil, cats_I, cats_L, cats_F, cats_D, cats_R, cats_S, Nat.reduceAdd, Nat.reduceLeDiff, inr, inq, Int.reduceEq, Int.reduceLT, Int.reduceLE, Int.reduceNeg, not_false_eq_true, not_true_eq_false, false_implies, and_self, pk_nil, pk_cons, wk_0, wk_1, wk_2, wk_3, wk_4, swt_nil, swt_cons, swl_nil, swl_cons, c3_eq, c3_lt, c3_ge, c3_le, c3_gt, c3_inr, c3_inr2, cnd_0, cnd_1, cnd_2, cnd_3, cnd_4, cnd_5, wide_I, wide_R, wide_L, wide_F, wide_D, wide_S, nw_I, nw_L, nw_F, nw_D, nw_U, nw_R, nw_S, fgo_cO, fso_cO, Option.map_some, alo_cI, ado_cD, aro_cR, ano_cI, ano_cD, lst, List.getElem?_cons_zero, List.getElem?_cons_succ, List.set_cons_zero, List.set_cons_succ, and_true, true_and, true_implies, forall_const, true_or, or_true, hg_same, hg_ne,  p3', y0', g0', g2', hu_hu]
        rw [n6]
        have fr3 : Fr h2 (hu h3 0 (cO 5 [pR 1, pR 3, pR 4, pR 5, pR 6, pR 7, pR 8, pR 9, pR 10, pR 11, pR 12, pR 13, pI k, pI ((ws.length + 1 : Nat)), pI d, pI fi])) 0 87 := Fr_tr (FrP_Fr f3 (fun k q => by omega)) (Fr_hu _ (by omega) (by omega))
        have := hK (hu h3 0 (cO 5 [pR 1, pR 3, pR 4, pR 5, pR 6, pR 7, pR 8, pR 9, pR 10, pR 11, pR 12, pR 13, pI k, pI ((ws.length + 1 : Nat)), pI d, pI fi])) (up g (ws.length : Int) (fw n'))
        rw [hW, he, if_neg hdn, List.length_append, List.length_singleton] at this
        refine ⟨by omega, this ?_ (AW_push hA (by rw [n5, ← hrk])) (Fr_tr f (Fr_tr (Fr_w f2 (by omega) (by omega)) fr3))⟩
        exact CA_txc A2 (hg_same _ _ _) ((hg_ne _ _ _ _ (by omega)).trans ((f3.1 _ (by omega)).trans d4.2.1)) ((hg_ne _ _ _ _ (by omega)).trans e3) (fun k k0 k1 => (hg_ne _ _ _ _ (by omega)).trans (f3.1 k (by omega))) (fun k k0 k1 => (hg_ne _ _ _ _ (by omega)).trans (f3.1 k (by omega))) (CSc_fr A2.2.2.2.2.1 (fun k k0 k1 => (hg_ne _ _ _ _ (by omega)).trans (f3.1 k (by omega))))
    | succ y ih =>
      intro k st d c ws n h1 g z hy he hn1 hw A1 hA f
      obtain ⟨i1, i2, i3, i4⟩ := enc k (by omega)
      rw [he] at i1 i2 i3 i4
      simp only at i1 i2 i3 i4
      obtain ⟨b1, b2, b3, b4, -⟩ := id A1
      unfold PTO at b1
      have ht := htx k (by omega) (by omega)
      obtain ⟨l, hl⟩ : ∃ l : Nat, tx k = (l : Int) := ⟨(tx k).toNat, by omega⟩
      have hlm : l < m := by omega
      have hlen := TT_len v st
      have he1 : encF m Q (KK m wd) wf tx (k + 1) = encN m Q (KK m wd) wf l (st, d, c, ws) := by
        show encN m Q (KK m wd) wf (tx k).toNat (encF m Q (KK m wd) wf tx k) = _
        rw [he, hl, Int.toNat_natCast]
      rw [w173_10]
      try simp (disch := omega) only [w173_0, w173_77, w173_83, w173_116, e173, x_iconst, x_bipush, x_sipush, x_ldc, x_lconst, x_ldc2l, x_dconst, x_ldc2d, x_ldcf, x_iadd, x_isub, x_imul, x_idiv, x_irem, x_ishl, x_ishr, x_iand, x_ior, x_ixor, x_ladd, x_lsub, x_lmul, x_ldiv, x_lrem, x_lshl, x_lshr, x_lor, x_land, x_lcmp, x_i2l, x_l2i, x_i2b, x_i2f, x_l2f, x_l2d, x_f2d, x_d2l, x_fdiv, x_dadd, x_dsub, x_dmul, x_ddiv, x_dcmp, x_fcmp, x_dup, x_pop, x_dup2, x_objinit, x_rawF, x_rawD, gV_0, gV_1, gV_2, gV_3, gV_4, gV_S, x_iload, x_lload, x_fload, x_dload, x_aload, x_istore, x_fstore, x_astore, x_lstore, x_dstore, gX_I, x_iinc, x_getf, x_putfI, x_putfL, x_putfR, x_iald, x_bald, x_zald, x_lald, x_dald, x_aald, x_iast, x_bast, x_zast, x_last, x_dast, x_aast, x_alen, x_new, x_newa, x_anew, x_acopy, x_sld, x_slen, x_fall, x_goto, x_if, x_cmp, x_tsw, x_lsw, x_ret, x_iret, x_zret, x_lret, x_fret, x_dret, x_aret, x_callr, x_callv, x_calli, x_calls, rcv_R, isO_cO, JW_def, kO_some, sk4, cats_nil, cats_I, cats_L, cats_F, cats_D, cats_R, cats_S, Nat.reduceAdd, Nat.reduceLeDiff, inr, inq, Int.reduceEq, Int.reduceLT, Int.reduceLE, Int.reduceNeg, not_false_eq_true, not_true_eq_false, false_implies, and_self, pk_nil, pk_cons, wk_0, wk_1, wk_2, wk_3, wk_4, swt_nil, swt_cons, swl_nil, swl_cons, c3_eq, c3_lt, c3_ge, c3_le, c3_gt, c3_inr, c3_inr2, cnd_0, cnd_1, cnd_2, cnd_3, cnd_4, cnd_5, wide_I, wide_R, wide_L, wide_F, wide_D, wide_S, nw_I, nw_L, nw_F, nw_D, nw_U, nw_R, nw_S, fgo_cO, fso_cO, Option.map_some, alo_cI, ado_cD, aro_cR, ano_cI, ano_cD, lst, List.getElem?_cons_zero, List.getElem?_cons_succ, List.set_cons_zero, List.set_cons_succ, and_true, true_and, true_implies, forall_const, true_or, or_true, hg_same, hg_ne,  b1]
      refine ⟨by omega, fun q => by omega, fun _ => ?_⟩
      refine c_rdy A1 v i1 (fun h2 lb dp ch so ns nf lf nu fw od lo es lg ls A2 R f2 => ?_)
      obtain ⟨d1, d2, d3, d4, -⟩ := id A2
      have d1' := id d1
      unfold PTO at d1'
      obtain ⟨⟨op, oc, k', r1⟩, r2, r3, r4⟩ := id R
      obtain ⟨y0, y1, y2, y3, y4, y5, y6, y7⟩ := id r2
      obtain ⟨g0, g1, g2, g3, g4, g5, g6⟩ := id r1
      obtain ⟨n', c1, c2, c3, c4⟩ := TR_kid hm8 r3 hn1 hw i2 hlm
      obtain ⟨hd8, ix, hix⟩ := kid_at hm8 i2 hlm
      obtain ⟨n2, q1, q2, q3, q4, q5, q6, q7, q8, q9, q10, q11, q12⟩ := rdy_at R hm8 hix
      have en : n2 = n' := r3.2.1 n2 n' q1 c3 (by rw [q2, c4])
      subst en
      have hrk := rkD_TK hm8 hix
      try simp (disch := omega) only [w173_0, w173_77, w173_83, w173_116, e173, x_iconst, x_bipush, x_sipush, x_ldc, x_lconst, x_ldc2l, x_dconst, x_ldc2d, x_ldcf, x_iadd, x_isub, x_imul, x_idiv, x_irem, x_ishl, x_ishr, x_iand, x_ior, x_ixor, x_ladd, x_lsub, x_lmul, x_ldiv, x_lrem, x_lshl, x_lshr, x_lor, x_land, x_lcmp, x_i2l, x_l2i, x_i2b, x_i2f, x_l2f, x_l2d, x_f2d, x_d2l, x_fdiv, x_dadd, x_dsub, x_dmul, x_ddiv, x_dcmp, x_fcmp, x_dup, x_pop, x_dup2, x_objinit, x_rawF, x_rawD, gV_0, gV_1, gV_2, gV_3, gV_4, gV_S, x_iload, x_lload, x_fload, x_dload, x_aload, x_istore, x_fstore, x_astore, x_lstore, x_dstore, gX_I, x_iinc, x_getf, x_putfI, x_putfL, x_putfR, x_iald, x_bald, x_zald, x_lald, x_dald, x_aald, x_iast, x_bast, x_zast, x_last, x_dast, x_aast, x_alen, x_new, x_newa, x_anew, x_acopy, x_sld, x_slen, x_fall, x_goto, x_if, x_cmp, x_tsw, x_lsw, x_ret, x_iret, x_zret, x_lret, x_fret, x_dret, x_aret, x_callr, x_callv, x_calli, x_calls, rcv_R, isO_cO, JW_def, kO_some, sk4, cats_nil, cats_I, cats_L, cats_F, cats_D, cats_R, cats_S, Nat.reduceAdd, Nat.reduceLeDiff, inr, inq, Int.reduceEq, Int.reduceLT, Int.reduceLE, Int.reduceNeg, not_false_eq_true, not_true_eq_false, false_implies, and_self, pk_nil, pk_cons, wk_0, wk_1, wk_2, wk_3, wk_4, swt_nil, swt_cons, swl_nil, swl_cons, c3_eq, c3_lt, c3_ge, c3_le, c3_gt, c3_inr, c3_inr2, cnd_0, cnd_1, cnd_2, cnd_3, cnd_4, cnd_5, wide_I, wide_R, wide_L, wide_F, wide_D, wide_S, nw_I, nw_L, nw_F, nw_D, nw_U, nw_R, nw_S, fgo_cO, fso_cO, Option.map_some, alo_cI, ado_cD, aro_cR, ano_cI, ano_cD, lst, List.getElem?_cons_zero, List.getElem?_cons_succ, List.set_cons_zero, List.set_cons_succ, and_true, true_and, true_implies, forall_const, true_or, or_true, hg_same, hg_ne,  d1', d4.2.1, y0, g0]
      rw [hl]
      refine ⟨by omega, c_childOf r1 (by omega) ?_⟩
      rw [c1]
      try simp (disch := omega) only [w173_0, w173_77, w173_83, w173_116, e173, x_iconst, x_bipush, x_sipush, x_ldc, x_lconst, x_ldc2l, x_dconst, x_ldc2d, x_ldcf, x_iadd, x_isub, x_imul, x_idiv, x_irem, x_ishl, x_ishr, x_iand, x_ior, x_ixor, x_ladd, x_lsub, x_lmul, x_ldiv, x_lrem, x_lshl, x_lshr, x_lor, x_land, x_lcmp, x_i2l, x_l2i, x_i2b, x_i2f, x_l2f, x_l2d, x_f2d, x_d2l, x_fdiv, x_dadd, x_dsub, x_dmul, x_ddiv, x_dcmp, x_fcmp, x_dup, x_pop, x_dup2, x_objinit, x_rawF, x_rawD, gV_0, gV_1, gV_2, gV_3, gV_4, gV_S, x_iload, x_lload, x_fload, x_dload, x_aload, x_istore, x_fstore, x_astore, x_lstore, x_dstore, gX_I, x_iinc, x_getf, x_putfI, x_putfL, x_putfR, x_iald, x_bald, x_zald, x_lald, x_dald, x_aald, x_iast, x_bast, x_zast, x_last, x_dast, x_aast, x_alen, x_new, x_newa, x_anew, x_acopy, x_sld, x_slen, x_fall, x_goto, x_if, x_cmp, x_tsw, x_lsw, x_ret, x_iret, x_zret, x_lret, x_fret, x_dret, x_aret, x_callr, x_callv, x_calli, x_calls, rcv_R, isO_cO, JW_def, kO_some, sk4, cats_nil, cats_I, cats_L, cats_F, cats_D, cats_R, cats_S, Nat.reduceAdd, Nat.reduceLeDiff, inr, inq, Int.reduceEq, Int.reduceLT, Int.reduceLE, Int.reduceNeg, not_false_eq_true, not_true_eq_false, false_implies, and_self, pk_nil, pk_cons, wk_0, wk_1, wk_2, wk_3, wk_4, swt_nil, swt_cons, swl_nil, swl_cons, c3_eq, c3_lt, c3_ge, c3_le, c3_gt, c3_inr, c3_inr2, cnd_0, cnd_1, cnd_2, cnd_3, cnd_4, cnd_5, wide_I, wide_R, wide_L, wide_F, wide_D, wide_S, nw_I, nw_L, nw_F, nw_D, nw_U, nw_R, nw_S, fgo_cO, fso_cO, Option.map_some, alo_cI, ado_cD, aro_cR, ano_cI, ano_cD, lst, List.getElem?_cons_zero, List.getElem?_cons_succ, List.set_cons_zero, List.set_cons_succ, and_true, true_and, true_implies, forall_const, true_or, or_true, hg_same, hg_ne,  y0]
      refine c_isLeaf r1 r2 (by omega) (by unfold inr; omega) ?_
      cases es : SK m (scF Q st wf) (KK m wd) (d + 1) (8 * c + l) with
      | true =>
        rw [es] at hix q10
        rw [if_pos (q10.mpr rfl)]
        rw [encN_t es] at he1
        have go := ih (k + 1) st (d + 1) (8 * c + l) ws n2 h2 g (pR (14 + 15 * st)) (by omega) he1 (by omega) c4 A2 hA (Fr_tr f (Fr_w f2 (by omega) (by omega)))
        rw [show ((k + 1 : Nat) : Int) = (k : Int) + 1 by omega] at go
        try simp (disch := omega) only [w173_0, w173_77, w173_83, w173_116, e173, x_iconst, x_bipush, x_sipush, x_ldc, x_lconst, x_ldc2l, x_dconst, x_ldc2d, x_ldcf, x_iadd, x_isub, x_imul, x_idiv, x_irem, x_ishl, x_ishr, x_iand, x_ior, x_ixor, x_ladd, x_lsub, x_lmul, x_ldiv, x_lrem, x_lshl, x_lshr, x_lor, x_land, x_lcmp, x_i2l, x_l2i, x_i2b, x_i2f, x_l2f, x_l2d, x_f2d, x_d2l, x_fdiv, x_dadd, x_dsub, x_dmul, x_ddiv, x_dcmp, x_fcmp, x_dup, x_pop, x_dup2, x_objinit, x_rawF, x_rawD, gV_0, gV_1, gV_2, gV_3, gV_4, gV_S, x_iload, x_lload, x_fload, x_dload, x_aload, x_istore, x_fstore, x_astore, x_lstore, x_dstore, gX_I, x_iinc, x_getf, x_putfI, x_putfL, x_putfR, x_iald, x_bald, x_zald, x_lald, x_dald, x_aald, x_iast, x_bast, x_zast, x_last, x_dast, x_aast, x_alen, x_new, x_newa, x_anew, x_acopy, x_sld, x_slen, x_fall, x_goto, x_if, x_cmp, x_tsw, x_lsw, x_ret, x_iret, x_zret, x_lret, x_fret, x_dret, x_aret, x_callr, x_callv, x_calli, x_calls, rcv_R, isO_cO, JW_def, kO_some, sk4, cats_nil, cats_I, cats_L, cats_F, cats_D, cats_R, cats_S, Nat.reduceAdd, Nat.reduceLeDiff, inr, inq, Int.reduceEq, Int.reduceLT, Int.reduceLE, Int.reduceNeg, not_false_eq_true, not_true_eq_false, false_implies, and_self, pk_nil, pk_cons, wk_0, wk_1, wk_2, wk_3, wk_4, swt_nil, swt_cons, swl_nil, swl_cons, c3_eq, c3_lt, c3_ge, c3_le, c3_gt, c3_inr, c3_inr2, cnd_0, cnd_1, cnd_2, cnd_3, cnd_4, cnd_5, wide_I, wide_R, wide_L, wide_F, wide_D, wide_S, nw_I, nw_L, nw_F, nw_D, nw_U, nw_R, nw_S, fgo_cO, fso_cO, Option.map_some, alo_cI, ado_cD, aro_cR, ano_cI, ano_cD, lst, List.getElem?_cons_zero, List.getElem?_cons_succ, List.set_cons_zero, List.set_cons_succ, and_true, true_and, true_implies, forall_const, true_or, or_true, hg_same, hg_ne]
        exact go
      | false =>
        rw [es] at hix q10
        have q10' : ¬ so n2 < ((KK m wd : Nat) : Int) := fun r => by have := q10.mp r; cases this
        rw [if_neg q10']
        rw [encN_f es] at he1
        try simp (disch := omega) only [w173_0, w173_77, w173_83, w173_116, e173, x_iconst, x_bipush, x_sipush, x_ldc, x_lconst, x_ldc2l, x_dconst, x_ldc2d, x_ldcf, x_iadd, x_isub, x_imul, x_idiv, x_irem, x_ishl, x_ishr, x_iand, x_ior, x_ixor, x_ladd, x_lsub, x_lmul, x_ldiv, x_lrem, x_lshl, x_lshr, x_lor, x_land, x_lcmp, x_i2l, x_l2i, x_i2b, x_i2f, x_l2f, x_l2d, x_f2d, x_d2l, x_fdiv, x_dadd, x_dsub, x_dmul, x_ddiv, x_dcmp, x_fcmp, x_dup, x_pop, x_dup2, x_objinit, x_rawF, x_rawD, gV_0, gV_1, gV_2, gV_3, gV_4, gV_S, x_iload, x_lload, x_fload, x_dload, x_aload, x_istore, x_fstore, x_astore, x_lstore, x_dstore, gX_I, x_iinc, x_getf, x_putfI, x_putfL, x_putfR, x_iald, x_bald, x_zald, x_lald, x_dald, x_aald, x_iast, x_bast, x_zast, x_last, x_dast, x_aast, x_alen, x_new, x_newa, x_anew, x_acopy, x_sld, x_slen, x_fall, x_goto, x_if, x_cmp, x_tsw, x_lsw, x_ret, x_iret, x_zret, x_lret, x_fret, x_dret, x_aret, x_callr, x_callv, x_calli, x_calls, rcv_R, isO_cO, JW_def, kO_some, sk4, cats_nil, cats_I, cats_L, cats_F, cats_D, cats_R, cats_S, Nat.reduceAdd, Nat.reduceLeDiff, inr, inq, Int.reduceEq, Int.reduceLT, Int.reduceLE, Int.reduceNeg, not_false_eq_true, not_true_eq_false, false_implies, and_self, pk_nil, pk_cons, wk_0, wk_1, wk_2, wk_3, wk_4, swt_nil, swt_cons, swl_nil, swl_cons, c3_eq, c3_lt, c3_ge, c3_le, c3_gt, c3_inr, c3_inr2, cnd_0, cnd_1, cnd_2, cnd_3, cnd_4, cnd_5, wide_I, wide_R, wide_L, wide_F, wide_D, wide_S, nw_I, nw_L, nw_F, nw_D, nw_U, nw_R, nw_S, fgo_cO, fso_cO, Option.map_some, alo_cI, ado_cD, aro_cR, ano_cI, ano_cD, lst, List.getElem?_cons_zero, List.getElem?_cons_succ, List.set_cons_zero, List.set_cons_succ, and_true, true_and, true_implies, forall_const, true_or, or_true, hg_same, hg_ne,  d1', y0, y4]
        refine ⟨by omega, ?_⟩
        refine c_addWord d1 d4.2.2 (by omega) (fun h3 f3 p3 e3 => ?_)
        have p3' := id p3
        unfold PTO at p3'
        have d2' := SetA_sm d2 (f3.1 1 (by omega)) (f3.1 2 (by omega))
        have d42 := (f3.1 8 (by omega)).trans d4.2.1
        try simp (disch := omega) only [w173_0, w173_77, w173_83, w173_116, e173, x_iconst, x_bipush, x_sipush, x_ldc, x_lconst, x_ldc2l, x_dconst, x_ldc2d, x_ldcf, x_iadd, x_isub, x_imul, x_idiv, x_irem, x_ishl, x_ishr, x_iand, x_ior, x_ixor, x_ladd, x_lsub, x_lmul, x_ldiv, x_lrem, x_lshl, x_lshr, x_lor, x_land, x_lcmp, x_i2l, x_l2i, x_i2b, x_i2f, x_l2f, x_l2d, x_f2d, x_d2l, x_fdiv, x_dadd, x_dsub, x_dmul, x_ddiv, x_dcmp, x_fcmp, x_dup, x_pop, x_dup2, x_objinit, x_rawF, x_rawD, gV_0, gV_1, gV_2, gV_3, gV_4, gV_S, x_iload, x_lload, x_fload, x_dload, x_aload, x_istore, x_fstore, x_astore, x_lstore, x_dstore, gX_I, x_iinc, x_getf, x_putfI, x_putfL, x_putfR, x_iald, x_bald, x_zald, x_lald, x_dald, x_aald, x_iast, x_bast, x_zast, x_last, x_dast, x_aast, x_alen, x_new, x_newa, x_anew, x_acopy, x_sld, x_slen, x_fall, x_goto, x_if, x_cmp, x_tsw, x_lsw, x_ret, x_iret, x_zret, x_lret, x_fret, x_dret, x_aret, x_callr, x_callv, x_calli, x_calls, rcv_R, isO_cO, JW_def, kO_some, sk4, cats_nil, cats_I, cats_L, cats_F, cats_D, cats_R, cats_S, Nat.reduceAdd, Nat.reduceLeDiff, inr, inq, Int.reduceEq, Int.reduceLT, Int.reduceLE, Int.reduceNeg, not_false_eq_true, not_true_eq_false, false_implies, and_self, pk_nil, pk_cons, wk_0, wk_1, wk_2, wk_3, wk_4, swt_nil, swt_cons, swl_nil, swl_cons, c3_eq, c3_lt, c3_ge, c3_le, c3_gt, c3_inr, c3_inr2, cnd_0, cnd_1, cnd_2, cnd_3, cnd_4, cnd_5, wide_I, wide_R, wide_L, wide_F, wide_D, wide_S, nw_I, nw_L, nw_F, nw_D, nw_U, nw_R, nw_S, fgo_cO, fso_cO, Option.map_some, alo_cI, ado_cD, aro_cR, ano_cI, ano_cD, lst, List.getElem?_cons_zero, List.getElem?_cons_succ, List.set_cons_zero, List.set_cons_succ, and_true, true_and, true_implies, forall_const, true_or, or_true, hg_same, hg_ne,  p3', d2'.1, d42]
        rw [hl]
        refine ⟨by omega, c_behind d2' (by omega) (by omega) ?_⟩
        have go := ih (k + 1) (l % Q) 0 0 (ws ++ [rkD (TK m (scF Q st wf) (KK m wd)) (d + 1) (8 * c + l)]) 0 h3 (up g (ws.length : Int) (fw n2)) (pR (14 + 15 * st)) (by omega) he1 (by omega) (by unfold wnC; rw [if_pos rfl]) (by
          rw [List.length_append, List.length_singleton]
          exact CA_txc A2 p3 d42 e3 (fun k k0 k1 => f3.1 k (by omega)) (fun k k0 k1 => f3.1 k (by omega)) (CSc_fr A2.2.2.2.2.1 (fun k k0 k1 => f3.1 k (by omega)))) (AW_push hA (by rw [q5, ← hrk])) (Fr_tr f (Fr_tr (Fr_w f2 (by omega) (by omega)) (FrP_Fr f3 (fun k q => by omega))))
        rw [show ((k + 1 : Nat) : Int) = (k : Int) + 1 by omega, show ((l % Q : Nat) : Int) = (l : Int) % (Q : Int) from Int.natCast_emod _ _] at go
        try simp (disch := omega) only [w173_0, w173_77, w173_83, w173_116, e173, x_iconst, x_bipush, x_sipush, x_ldc, x_lconst, x_ldc2l, x_dconst, x_ldc2d, x_ldcf, x_iadd, x_isub, x_imul, x_idiv, x_irem, x_ishl, x_ishr, x_iand, x_ior, x_ixor, x_ladd, x_lsub, x_lmul, x_ldiv, x_lrem, x_lshl, x_lshr, x_lor, x_land, x_lcmp, x_i2l, x_l2i, x_i2b, x_i2f, x_l2f, x_l2d, x_f2d, x_d2l, x_fdiv, x_dadd, x_dsub, x_dmul, x_ddiv, x_dcmp, x_fcmp, x_dup, x_pop, x_dup2, x_objinit, x_rawF, x_rawD, gV_0, gV_1, gV_2, gV_3, gV_4, gV_S, x_iload, x_lload, x_fload, x_dload, x_aload, x_istore, x_fstore, x_astore, x_lstore, x_dstore, gX_I, x_iinc, x_getf, x_putfI, x_putfL, x_putfR, x_iald, x_bald, x_zald, x_lald, x_dald, x_aald, x_iast, x_bast, x_zast, x_last, x_dast, x_aast, x_alen, x_new, x_newa, x_anew, x_acopy, x_sld, x_slen, x_fall, x_goto, x_if, x_cmp, x_tsw, x_lsw, x_ret, x_iret, x_zret, x_lret, x_fret, x_dret, x_aret, x_callr, x_callv, x_calli, x_calls, rcv_R, isO_cO, JW_def, kO_some, sk4, cats_nil, cats_I, cats_L, cats_F, cats_D, cats_R, cats_S, Nat.reduceAdd, Nat.reduceLeDiff, inr, inq, Int.reduceEq, Int.reduceLT, Int.reduceLE, Int.reduceNeg, not_false_eq_true, not_true_eq_false, false_implies, and_self, pk_nil, pk_cons, wk_0, wk_1, wk_2, wk_3, wk_4, swt_nil, swt_cons, swl_nil, swl_cons, c3_eq, c3_lt, c3_ge, c3_le, c3_gt, c3_inr, c3_inr2, cnd_0, cnd_1, cnd_2, cnd_3, cnd_4, cnd_5, wide_I, wide_R, wide_L, wide_F, wide_D, wide_S, nw_I, nw_L, nw_F, nw_D, nw_U, nw_R, nw_S, fgo_cO, fso_cO, Option.map_some, alo_cI, ado_cD, aro_cR, ano_cI, ano_cD, lst, List.getElem?_cons_zero, List.getElem?_cons_succ, List.set_cons_zero, List.set_cons_succ, and_true, true_and, true_implies, forall_const, true_or, or_true, hg_same, hg_ne]
        exact go
  try simp (disch := omega) only [w173_0, w173_77, w173_83, w173_116, e173, w39_0, e39, x_iconst, x_bipush, x_sipush, x_ldc, x_lconst, x_ldc2l, x_dconst, x_ldc2d, x_ldcf, x_iadd, x_isub, x_imul, x_idiv, x_irem, x_ishl, x_ishr, x_iand, x_ior, x_ixor, x_ladd, x_lsub, x_lmul, x_ldiv, x_lrem, x_lshl, x_lshr, x_lor, x_land, x_lcmp, x_i2l, x_l2i, x_i2b, x_i2f, x_l2f, x_l2d, x_f2d, x_d2l, x_fdiv, x_dadd, x_dsub, x_dmul, x_ddiv, x_dcmp, x_fcmp, x_dup, x_pop, x_dup2, x_objinit, x_rawF, x_rawD, gV_0, gV_1, gV_2, gV_3, gV_4, gV_S, x_iload, x_lload, x_fload, x_dload, x_aload, x_istore, x_fstore, x_astore, x_lstore, x_dstore, gX_I, x_iinc, x_getf, x_putfI, x_putfL, x_putfR, x_iald, x_bald, x_zald, x_lald, x_dald, x_aald, x_iast, x_bast, x_zast, x_last, x_dast, x_aast, x_alen, x_new, x_newa, x_anew, x_acopy, x_sld, x_slen, x_fall, x_goto, x_if, x_cmp, x_tsw, x_lsw, x_ret, x_iret, x_zret, x_lret, x_fret, x_dret, x_aret, x_callr, x_callv, x_calli, x_calls, rcv_R, isO_cO, JW_def, kO_some, sk4, cats_nil, cats_I, cats_L, cats_F, cats_D, cats_R, cats_S, Nat.reduceAdd, Nat.reduceLeDiff, inr, inq, Int.reduceEq, Int.reduceLT, Int.reduceLE, Int.reduceNeg, not_false_eq_true, not_true_eq_false, false_implies, and_self, pk_nil, pk_cons, wk_0, wk_1, wk_2, wk_3, wk_4, swt_nil, swt_cons, swl_nil, swl_cons, c3_eq, c3_lt, c3_ge, c3_le, c3_gt, c3_inr, c3_inr2, cnd_0, cnd_1, cnd_2, cnd_3, cnd_4, cnd_5, wide_I, wide_R, wide_L, wide_F, wide_D, wide_S, nw_I, nw_L, nw_F, nw_D, nw_U, nw_R, nw_S, fgo_cO, fso_cO, Option.map_some, alo_cI, ado_cD, aro_cR, ano_cI, ano_cD, lst, List.getElem?_cons_zero, List.getElem?_cons_succ, List.set_cons_zero, List.set_cons_succ, and_true, true_and, true_implies, forall_const, true_or, or_true, hg_same, hg_ne,  a1', hu_hu]
  have A0 := CA_ob a (ts2 := ts) (wc2 := 0) (re2 := 0) (fi2 := fi) rfl
  exact loop ts 0 0 0 0 [] 0 _ co _ (by omega) rfl (by omega) (by unfold wnC; rw [if_pos rfl]) A0 (fun j hj => absurd hj (Nat.not_lt_zero _)) (Fr_hu _ (by omega) (by omega))
end Q2

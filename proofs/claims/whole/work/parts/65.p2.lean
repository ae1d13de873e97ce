/-- a tree that tells all splits of the width -/
def RQ (h : Hp) (m Q wd : Nat) (wf : Int → Int) (q : Nat) : Prop := ∃ k, TreX h (14 + 15 * q) m Q q wf k (KK m wd)
theorem RQ_sm {h h' : Hp} {m Q wd : Nat} {wf : Int → Int} {q : Nat} (r : RQ h m Q wd wf q) (f : Sm h h' (14 + 15 * q) (29 + 15 * q)) : RQ h' m Q wd wf q := by
  obtain ⟨k, x⟩ := r
  exact ⟨k, TreX_sm x (Sm_w f (by omega) (by omega))⟩
/-- what is told of a node of a ready tree -/
theorem RQ_at {h : Hp} {m Q wd : Nat} {wf : Int → Int} {q : Nat} (v : SOK m Q wd wf) (r : RQ h m Q wd wf q) {n : Nat} (hn : n < 1 + KK m wd * m) {d c : Nat} (hw : wnC m (scF Q q wf) n = (d, c)) : ∃ (us : List PV) (lb dp ch so ns op : Int → Int) (oc k : Int), hg h (14 + 15 * q) = some (cO 4 (pR (22 + 15 * q) :: us)) ∧ GrA h (22 + 15 * q) q lb dp ch so ns op oc k m ∧ dp n = (d : Int) ∧ lb n = (c : Int) := by
  obtain ⟨k, x⟩ := r
  obtain ⟨lb, dp, ch, so, ns, nf, lf, nu, fw, od, lo, es, lg, ls, R⟩ := TreX_rdy v.1 (KK_pos v.1.1 v.2.2.2.1) x
  obtain ⟨⟨op, oc, k', r1⟩, r2, r3, r4⟩ := R
  obtain ⟨t1, t2, -⟩ := r3.1 n hn
  rw [hw] at t1 t2
  have r5 := r2.1
  rw [show 14 + 15 * q + 8 = 22 + 15 * q by omega] at r5
  refine ⟨_, lb, dp, ch, so, ns, op, oc, k', r5, ?_, t1, t2⟩
  rw [show 22 + 15 * q = 14 + 15 * q + 8 by omega]
  exact r1
/-- phrases as the class keeps them -/
def CPh (h : Hp) (m Q wd : Nat) (wf co : Int → Int) (r : Nat) (ps pn : Int → Int) : Prop := hg h 10 = some (cI 0 80 ps) ∧ hg h 11 = some (cI 0 80 pn) ∧ ∀ k : Nat, k < r → ps k = (phS (LT m Q wd wf) Q co k : Int) ∧ RQ h m Q wd wf (phS (LT m Q wd wf) Q co k) ∧ ∃ n : Nat, pn k = (n : Int) ∧ n < 1 + KK m wd * m ∧ wnC m (scF Q (phS (LT m Q wd wf) Q co k) wf) n = ((phX (LT m Q wd wf) Q co k).1, (phX (LT m Q wd wf) Q co k).2.1)
section P2
variable {h : Hp} {m Q wd : Nat} {wf : Int → Int} {ts : Nat} {tx : Int → Int} {wc : Nat} {co : Int → Int} {re fi : Int} {kp : Int → Int} {sl : Int → Nat × Nat × Nat × (Int → Int)} {cf cs : Int → Int} {cd cl cc : Int → Int → Int} {ss : Int → Int} {sb : Int → Int → Int}
set_option maxRecDepth 20000 in
set_option maxHeartbeats 4000000 in
theorem c_findPhrases (a : CA h m Q wd wf ts tx wc co re fi kp sl cf cs cd cl cc ss sb) (v : SOK m Q wd wf) (v3 : COK wc co) {lim : Nat × Nat} {K : QT}
    (hK : ∀ (h' : Hp) (r : Nat) (ps pn : Int → Int), PR ((1 + KK m wd * (m - 1) : Nat) : Int) co wc r → CA h' m Q wd wf ts tx wc co re fi kp sl cf cs cd cl cc ss sb → Fr h h' 10 59 → CPh h' m Q wd wf co r ps pn → K (pI r) h') : WM 176 [pR 0] h lim K := by
  obtain ⟨a1, a2, a3, a4, ⟨⟨ps0, s1⟩, ⟨pn0, s2⟩, -⟩, -⟩ := id a
  unfold PTO at a1
  have hQ := v.2.1
  have hm := v.1
  have hn := KK_nodes v.1.1 v.1.2 v.2.2.1.2
  have hm8 : m ≤ 8 := by omega
  obtain ⟨hwc, hco⟩ := v3
  have loop : ∀ (y k : Nat) (h1 : Hp) (ps pn : Int → Int) (z : PV), y + k = wc → (∀ j : Nat, j < k → co j < ((1 + KK m wd * (m - 1) : Nat) : Int)) → CA h1 m Q wd wf ts tx wc co re fi kp sl cf cs cd cl cc ss sb → Fr h h1 10 59 → CPh h1 m Q wd wf co k ps pn → WP 176 12 [pR 0, pI (phS (LT m Q wd wf) Q co k), pI ((1 + KK m wd * (m - 1) : Nat) : Int), pI k, z] [] h1 lim K := by
    intro y
    induction y with
    | zero =>
      intro k h1 ps pn z hy hc A1 f hp
      have b1 := A1.1
      unfold PTO at b1
      have ek : k = wc := by omega
      have := hK h1 k ps pn ⟨by omega, hc, Or.inl ek⟩ A1 f hp
      rw [w176_12]
      try simp (disch := omega) only [w176_0, w176_32, w176_92, e176, x_iconst, x_bipush, x_sipush, x_ldc, x_lconst, x_ldc2l, x_dconst, x_ldc2d, x_ldcf, x_iadd, x_isub, x_imul, x_idiv, x_irem, x_ishl, x_ishr, x_iand, x_ior, x_ixor, x_ladd, x_lsub, x_lmul, x_ldiv, x_lrem, x_lshl, x_lshr, x_lor, x_land, x_lcmp, x_i2l, x_l2i, x_i2b, x_i2f, x_l2f, x_l2d, x_f2d, x_d2l, x_fdiv, x_dadd, x_dsub, x_dmul, x_ddiv, x_dcmp, x_fcmp, x_dup, x_pop, x_dup2, x_objinit, x_rawF, x_rawD, gV_0, gV_1, gV_2, gV_3, gV_4, gV_S, x_iload, x_lload, x_fload, x_dload, x_aload, x_istore, x_fstore, x_astore, x_lstore, x_dstore, gX_I, x_iinc, x_getf, x_putfI, x_putfL, x_putfR, x_iald, x_bald, x_zald, x_lald, x_dald, x_aald, x_iast, x_bast, x_zast, x_last, x_dast, x_aast, x_alen, x_new, x_newa, x_anew, x_acopy, x_sld, x_slen, x_fall, x_goto, x_if, x_cmp, x_tsw, x_lsw, x_ret, x_iret, x_zret, x_lret, x_fret, x_dret, x_aret, x_callr, x_callv, x_calli, x_calls, rcv_R, isO_cO, JW_def, kO_some, sk4, cats_nil, cats_I, cats_L, cats_F, cats_D, cats_R, cats_S, Nat.reduceAdd, Nat.reduceLeDiff, inr, inq, Int.reduceEq, Int.reduceLT, Int.reduceLE, Int.reduceNeg, not_false_eq_true, not_true_eq_false, false_implies, and_self, pk_nil, pk_cons, wk_0, wk_1, wk_2, wk_3, wk_4, swt_nil, swt_cons, swl_nil, swl_cons, c3_eq, c3_lt, c3_ge, c3_le, c3_gt, c3_inr, c3_inr2, cnd_0, cnd_1, cnd_2, cnd_3, cnd_4, cnd_5, wide_I, wide_R, wide_L, wide_F, wide_D, wide_S, nw_I, nw_L, nw_F, nw_D, nw_U, nw_R, nw_S, fgo_cO, fso_cO, Option.map_some, alo_cI, ado_cD, aro_cR, ano_cI, ano_cD, lst, List.getElem?_cons_zero, List.getElem?_cons_succ, List.set_cons_zero, List.set_cons_succ, and_true, true_and, true_implies, forall_const, true_or, or_true, hg_same, hg_ne,  b1]
      rw [ek] at this ⊢
      exact ⟨by omega, fun _ => this, fun q => by omega⟩
    | succ y ih =>
      intro k h1 ps pn z hy hc A1 f hp
      obtain ⟨b1, b2, b3, b4, b5, -⟩ := id A1
      unfold PTO at b1
      obtain ⟨c1, c2, c3⟩ := id hp
      have hs := phS_lt (LT m Q wd wf) Q co (by omega) k
      generalize hst : phS (LT m Q wd wf) Q co k = st at hs
      have hcok := hco k (by omega) (by omega)
      rw [w176_12]
      try simp (disch := omega) only [w176_0, w176_32, w176_92, e176, x_iconst, x_bipush, x_sipush, x_ldc, x_lconst, x_ldc2l, x_dconst, x_ldc2d, x_ldcf, x_iadd, x_isub, x_imul, x_idiv, x_irem, x_ishl, x_ishr, x_iand, x_ior, x_ixor, x_ladd, x_lsub, x_lmul, x_ldiv, x_lrem, x_lshl, x_lshr, x_lor, x_land, x_lcmp, x_i2l, x_l2i, x_i2b, x_i2f, x_l2f, x_l2d, x_f2d, x_d2l, x_fdiv, x_dadd, x_dsub, x_dmul, x_ddiv, x_dcmp, x_fcmp, x_dup, x_pop, x_dup2, x_objinit, x_rawF, x_rawD, gV_0, gV_1, gV_2, gV_3, gV_4, gV_S, x_iload, x_lload, x_fload, x_dload, x_aload, x_istore, x_fstore, x_astore, x_lstore, x_dstore, gX_I, x_iinc, x_getf, x_putfI, x_putfL, x_putfR, x_iald, x_bald, x_zald, x_lald, x_dald, x_aald, x_iast, x_bast, x_zast, x_last, x_dast, x_aast, x_alen, x_new, x_newa, x_anew, x_acopy, x_sld, x_slen, x_fall, x_goto, x_if, x_cmp, x_tsw, x_lsw, x_ret, x_iret, x_zret, x_lret, x_fret, x_dret, x_aret, x_callr, x_callv, x_calli, x_calls, rcv_R, isO_cO, JW_def, kO_some, sk4, cats_nil, cats_I, cats_L, cats_F, cats_D, cats_R, cats_S, Nat.reduceAdd, Nat.reduceLeDiff, inr, inq, Int.reduceEq, Int.reduceLT, Int.reduceLE, Int.reduceNeg, not_false_eq_true, not_true_eq_false, false_implies, and_self, pk_nil, pk_cons, wk_0, wk_1, wk_2, wk_3, wk_4, swt_nil, swt_cons, swl_nil, swl_cons, c3_eq, c3_lt, c3_ge, c3_le, c3_gt, c3_inr, c3_inr2, cnd_0, cnd_1, cnd_2, cnd_3, cnd_4, cnd_5, wide_I, wide_R, wide_L, wide_F, wide_D, wide_S, nw_I, nw_L, nw_F, nw_D, nw_U, nw_R, nw_S, fgo_cO, fso_cO, Option.map_some, alo_cI, ado_cD, aro_cR, ano_cI, ano_cD, lst, List.getElem?_cons_zero, List.getElem?_cons_succ, List.set_cons_zero, List.set_cons_succ, and_true, true_and, true_implies, forall_const, true_or, or_true, hg_same, hg_ne,  b1, b4.2.2]
      refine ⟨by omega, fun q => by omega, fun _ => ⟨by omega, by omega, fun q => ?_, fun q => hK h1 k ps pn ⟨by omega, hc, Or.inr (by omega)⟩ A1 f hp⟩⟩
      refine c_ready A1 v hs (fun h2 kk A2 X f2 => ?_)
      obtain ⟨lb, dp, ch, so, ns, nf, lf, nu, fw, od, lo, es, lg, ls, R⟩ := TreX_rdy hm (KK_pos hm.1 v.2.2.2.1) X
      obtain ⟨d1, d2, d3, d4, d5, d6⟩ := id A2
      unfold PTO at d1
      obtain ⟨w, hw⟩ : ∃ w : Nat, co k = (w : Int) := ⟨(co k).toNat, by omega⟩
      obtain ⟨i, i1, i2, i3, i4, i5, i6⟩ := lf_at v st (w := w) (by omega)
      have hX : phX (LT m Q wd wf) Q co k = lfn (LT m Q wd wf st) w := by
        unfold phX
        rw [hst, hw, Int.toNat_natCast]
      obtain ⟨n, n1, n2, n3, n4, n5, n6, n7, n8, n9, n10, n11, n12⟩ := rdy_at R hm8 i2
      have n13 := n12 i3
      have hxc := (dfs_code hm8 (List.mem_of_getElem? i2)).2
      have i4' : rkn (TK m (scF Q st wf) (KK m wd)) i = w := i4
      rw [i4'] at n13
      have e10 := (f2.1 10 (by omega)).trans c1
      have e11 := (f2.1 11 (by omega)).trans c2
      obtain ⟨⟨op, oc, k', r1⟩, r2, r3, r4⟩ := id R
      obtain ⟨y0, y1, y2, y3, y4, y5, y6, y7⟩ := id r2
      obtain ⟨g0, g1, g2, g3, g4, g5, g6⟩ := id r1
      try simp (disch := omega) only [w176_0, w176_32, w176_92, e176, x_iconst, x_bipush, x_sipush, x_ldc, x_lconst, x_ldc2l, x_dconst, x_ldc2d, x_ldcf, x_iadd, x_isub, x_imul, x_idiv, x_irem, x_ishl, x_ishr, x_iand, x_ior, x_ixor, x_ladd, x_lsub, x_lmul, x_ldiv, x_lrem, x_lshl, x_lshr, x_lor, x_land, x_lcmp, x_i2l, x_l2i, x_i2b, x_i2f, x_l2f, x_l2d, x_f2d, x_d2l, x_fdiv, x_dadd, x_dsub, x_dmul, x_ddiv, x_dcmp, x_fcmp, x_dup, x_pop, x_dup2, x_objinit, x_rawF, x_rawD, gV_0, gV_1, gV_2, gV_3, gV_4, gV_S, x_iload, x_lload, x_fload, x_dload, x_aload, x_istore, x_fstore, x_astore, x_lstore, x_dstore, gX_I, x_iinc, x_getf, x_putfI, x_putfL, x_putfR, x_iald, x_bald, x_zald, x_lald, x_dald, x_aald, x_iast, x_bast, x_zast, x_last, x_dast, x_aast, x_alen, x_new, x_newa, x_anew, x_acopy, x_sld, x_slen, x_fall, x_goto, x_if, x_cmp, x_tsw, x_lsw, x_ret, x_iret, x_zret, x_lret, x_fret, x_dret, x_aret, x_callr, x_callv, x_calli, x_calls, rcv_R, isO_cO, JW_def, kO_some, sk4, cats_nil, cats_I, cats_L, cats_F, cats_D, cats_R, cats_S, Nat.reduceAdd, Nat.reduceLeDiff, inr, inq, Int.reduceEq, Int.reduceLT, Int.reduceLE, Int.reduceNeg, not_false_eq_true, not_true_eq_false, false_implies, and_self, pk_nil, pk_cons, wk_0, wk_1, wk_2, wk_3, wk_4, swt_nil, swt_cons, swl_nil, swl_cons, c3_eq, c3_lt, c3_ge, c3_le, c3_gt, c3_inr, c3_inr2, cnd_0, cnd_1, cnd_2, cnd_3, cnd_4, cnd_5, wide_I, wide_R, wide_L, wide_F, wide_D, wide_S, nw_I, nw_L, nw_F, nw_D, nw_U, nw_R, nw_S, fgo_cO, fso_cO, Option.map_some, alo_cI, ado_cD, aro_cR, ano_cI, ano_cD, lst, List.getElem?_cons_zero, List.getElem?_cons_succ, List.set_cons_zero, List.set_cons_succ, and_true, true_and, true_implies, forall_const, true_or, or_true, hg_same, hg_ne,  d1, d2.1, d4.2.2, e10, e11, y0, y6, g0]
      rw [hw, n13]
      refine ⟨by omega, by omega, by omega, by omega, by omega, ?_⟩
      rw [up_same]
      generalize hh3 : hu (hu h2 10 (cI 0 80 (up ps k (st : Int)))) 11 (cI 0 80 (up pn k (n : Int))) = h3
      have f3 : Fr h2 h3 10 12 := by
        rw [← hh3]
        exact Fr_tr (Fr_hu _ (by omega) (by omega)) (Fr_hu _ (by omega) (by omega))
      have A3 : CA h3 m Q wd wf ts tx wc co re fi kp sl cf cs cd cl cc ss sb := by
        obtain ⟨q1, q2, q3, q4, ⟨-, -, ⟨x3, o3⟩, ⟨x4, o4⟩⟩, q6, q7, q8, q9⟩ := A2
        refine ⟨PTO_fr q1 (Fr_Sm f3 (by omega)), SetA_fr q2 f3 (by omega) (by omega), CRf_fr q3 (Fr_Sm f3 (by omega)) (Fr_Sm f3 (by omega)), CTx_fr q4 (Fr_Sm f3 (by omega)) (Fr_Sm f3 (by omega)), ⟨⟨up ps k (st : Int), ?_⟩, ⟨up pn k (n : Int), ?_⟩, ⟨x3, (f3.1 _ (by omega)).trans o3⟩, ⟨x4, (f3.1 _ (by omega)).trans o4⟩⟩, CTr_fr q6 (Fr_Sm f3 (by omega)), CSl_fr q7 (Fr_Sm f3 (by omega)), CCr_fr q8 (Fr_Sm f3 (by omega)), CSh_fr q9 (Fr_Sm f3 (by omega))⟩
        · rw [← hh3, hg_ne _ _ _ _ (by omega)]
          exact hg_same _ _ _
        · rw [← hh3]
          exact hg_same _ _ _
      have r1' := GrA_fr r1 f3 (by omega)
      refine c_lastLetter r1' (by omega) n7 (by have := pow88 i6; omega) ?_
      have d1' := (f3.1 0 (by omega)).trans d1
      have d2' := SetA_fr d2 f3 (by omega) (by omega)
      try simp (disch := omega) only [w176_0, w176_32, w176_92, e176, x_iconst, x_bipush, x_sipush, x_ldc, x_lconst, x_ldc2l, x_dconst, x_ldc2d, x_ldcf, x_iadd, x_isub, x_imul, x_idiv, x_irem, x_ishl, x_ishr, x_iand, x_ior, x_ixor, x_ladd, x_lsub, x_lmul, x_ldiv, x_lrem, x_lshl, x_lshr, x_lor, x_land, x_lcmp, x_i2l, x_l2i, x_i2b, x_i2f, x_l2f, x_l2d, x_f2d, x_d2l, x_fdiv, x_dadd, x_dsub, x_dmul, x_ddiv, x_dcmp, x_fcmp, x_dup, x_pop, x_dup2, x_objinit, x_rawF, x_rawD, gV_0, gV_1, gV_2, gV_3, gV_4, gV_S, x_iload, x_lload, x_fload, x_dload, x_aload, x_istore, x_fstore, x_astore, x_lstore, x_dstore, gX_I, x_iinc, x_getf, x_putfI, x_putfL, x_putfR, x_iald, x_bald, x_zald, x_lald, x_dald, x_aald, x_iast, x_bast, x_zast, x_last, x_dast, x_aast, x_alen, x_new, x_newa, x_anew, x_acopy, x_sld, x_slen, x_fall, x_goto, x_if, x_cmp, x_tsw, x_lsw, x_ret, x_iret, x_zret, x_lret, x_fret, x_dret, x_aret, x_callr, x_callv, x_calli, x_calls, rcv_R, isO_cO, JW_def, kO_some, sk4, cats_nil, cats_I, cats_L, cats_F, cats_D, cats_R, cats_S, Nat.reduceAdd, Nat.reduceLeDiff, inr, inq, Int.reduceEq, Int.reduceLT, Int.reduceLE, Int.reduceNeg, not_false_eq_true, not_true_eq_false, false_implies, and_self, pk_nil, pk_cons, wk_0, wk_1, wk_2, wk_3, wk_4, swt_nil, swt_cons, swl_nil, swl_cons, c3_eq, c3_lt, c3_ge, c3_le, c3_gt, c3_inr, c3_inr2, cnd_0, cnd_1, cnd_2, cnd_3, cnd_4, cnd_5, wide_I, wide_R, wide_L, wide_F, wide_D, wide_S, nw_I, nw_L, nw_F, nw_D, nw_U, nw_R, nw_S, fgo_cO, fso_cO, Option.map_some, alo_cI, ado_cD, aro_cR, ano_cI, ano_cD, lst, List.getElem?_cons_zero, List.getElem?_cons_succ, List.set_cons_zero, List.set_cons_succ, and_true, true_and, true_implies, forall_const, true_or, or_true, hg_same, hg_ne,  d1', d2'.1]
      refine c_behind d2' (by omega) (by omega) ?_
      have CP : CPh h3 m Q wd wf co (k + 1) (up ps k (st : Int)) (up pn k (n : Int)) := by
        refine ⟨by rw [← hh3, hg_ne _ _ _ _ (by omega)]; exact hg_same _ _ _, by rw [← hh3]; exact hg_same _ _ _, fun j hj => ?_⟩
        by_cases e : j = k
        · subst e
          rw [up_same, up_same, hst, hX]
          exact ⟨rfl, RQ_sm ⟨kk, X⟩ (Fr_Sm f3 (by omega)), n, rfl, n1, n2⟩
        · rw [up_ne _ _ _ _ (by omega), up_ne _ _ _ _ (by omega)]
          obtain ⟨o1, o2, o3⟩ := c3 j (by omega)
          refine ⟨o1, ?_, o3⟩
          refine RQ_sm ?_ (Fr_Sm f3 (by omega))
          by_cases e2 : phS (LT m Q wd wf) Q co j = st
          · rw [e2]
            exact ⟨kk, X⟩
          · exact RQ_sm o2 (Fr_Sm f2 (by omega))
      have go := ih (k + 1) h3 _ _ (pR (14 + 15 * st)) (by omega) (fun j hj => by
        by_cases e : j = k
        · subst e
          omega
        · exact hc j (by omega)) A3 (Fr_tr f (Fr_tr (Fr_w f2 (by omega) (by omega)) (Fr_w f3 (by omega) (by omega)))) CP
      rw [show phS (LT m Q wd wf) Q co (k + 1) = (lfn (LT m Q wd wf st) w).2.1 % 8 % Q by
        show (phX (LT m Q wd wf) Q co k).2.1 % 8 % Q = _
        rw [hX], show ((k + 1 : Nat) : Int) = (k : Int) + 1 by omega] at go
      rw [show (((lfn (LT m Q wd wf st) w).2.1 % 8 : Nat) : Int) % (Q : Int) = (((lfn (LT m Q wd wf st) w).2.1 % 8 % Q : Nat) : Int) from (Int.natCast_emod _ _).symm]
      try simp (disch := omega) only [w176_0, w176_32, w176_92, e176, x_iconst, x_bipush, x_sipush, x_ldc, x_lconst, x_ldc2l, x_dconst, x_ldc2d, x_ldcf, x_iadd, x_isub, x_imul, x_idiv, x_irem, x_ishl, x_ishr, x_iand, x_ior, x_ixor, x_ladd, x_lsub, x_lmul, x_ldiv, x_lrem, x_lshl, x_lshr, x_lor, x_land, x_lcmp, x_i2l, x_l2i, x_i2b, x_i2f, x_l2f, x_l2d, x_f2d, x_d2l, x_fdiv, x_dadd, x_dsub, x_dmul, x_ddiv, x_dcmp, x_fcmp, x_dup, x_pop, x_dup2, x_objinit, x_rawF, x_rawD, gV_0, gV_1, gV_2, gV_3, gV_4, gV_S, x_iload, x_lload, x_fload, x_dload, x_aload, x_istore, x_fstore, x_astore, x_lstore, x_dstore, gX_I, x_iinc, x_getf, x_putfI, x_putfL, x_putfR, x_iald, x_bald, x_zald, x_lald, x_dald, x_aald, x_iast, x_bast, x_zast, x_last, x_dast, x_aast, x_alen, x_new, x_newa, x_anew, x_acopy, x_sld, x_slen, x_fall, x_goto, x_if, x_cmp, x_tsw, x_lsw, x_ret, x_iret, x_zret, x_lret, x_fret, x_dret, x_aret, x_callr, x_callv, x_calli, x_calls, rcv_R, isO_cO, JW_def, kO_some, sk4, cats_nil, cats_I, cats_L, cats_F, cats_D, cats_R, cats_S, Nat.reduceAdd, Nat.reduceLeDiff, inr, inq, Int.reduceEq, Int.reduceLT, Int.reduceLE, Int.reduceNeg, not_false_eq_true, not_true_eq_false, false_implies, and_self, pk_nil, pk_cons, wk_0, wk_1, wk_2, wk_3, wk_4, swt_nil, swt_cons, swl_nil, swl_cons, c3_eq, c3_lt, c3_ge, c3_le, c3_gt, c3_inr, c3_inr2, cnd_0, cnd_1, cnd_2, cnd_3, cnd_4, cnd_5, wide_I, wide_R, wide_L, wide_F, wide_D, wide_S, nw_I, nw_L, nw_F, nw_D, nw_U, nw_R, nw_S, fgo_cO, fso_cO, Option.map_some, alo_cI, ado_cD, aro_cR, ano_cI, ano_cD, lst, List.getElem?_cons_zero, List.getElem?_cons_succ, List.set_cons_zero, List.set_cons_succ, and_true, true_and, true_implies, forall_const, true_or, or_true, hg_same, hg_ne]
      exact go
  have go := fun z => loop wc 0 h ps0 pn0 z (by omega) (fun j hj => by omega) a (Fr_rf _ _ _) ⟨s1, s2, fun k hk => by omega⟩
  try simp (disch := omega) only [w176_0, w176_32, w176_92, e176, x_iconst, x_bipush, x_sipush, x_ldc, x_lconst, x_ldc2l, x_dconst, x_ldc2d, x_ldcf, x_iadd, x_isub, x_imul, x_idiv, x_irem, x_ishl, x_ishr, x_iand, x_ior, x_ixor, x_ladd, x_lsub, x_lmul, x_ldiv, x_lrem, x_lshl, x_lshr, x_lor, x_land, x_lcmp, x_i2l, x_l2i, x_i2b, x_i2f, x_l2f, x_l2d, x_f2d, x_d2l, x_fdiv, x_dadd, x_dsub, x_dmul, x_ddiv, x_dcmp, x_fcmp, x_dup, x_pop, x_dup2, x_objinit, x_rawF, x_rawD, gV_0, gV_1, gV_2, gV_3, gV_4, gV_S, x_iload, x_lload, x_fload, x_dload, x_aload, x_istore, x_fstore, x_astore, x_lstore, x_dstore, gX_I, x_iinc, x_getf, x_putfI, x_putfL, x_putfR, x_iald, x_bald, x_zald, x_lald, x_dald, x_aald, x_iast, x_bast, x_zast, x_last, x_dast, x_aast, x_alen, x_new, x_newa, x_anew, x_acopy, x_sld, x_slen, x_fall, x_goto, x_if, x_cmp, x_tsw, x_lsw, x_ret, x_iret, x_zret, x_lret, x_fret, x_dret, x_aret, x_callr, x_callv, x_calli, x_calls, rcv_R, isO_cO, JW_def, kO_some, sk4, cats_nil, cats_I, cats_L, cats_F, cats_D, cats_R, cats_S, Nat.reduceAdd, Nat.reduceLeDiff, inr, inq, Int.reduceEq, Int.reduceLT, Int.reduceLE, Int.reduceNeg, not_false_eq_true, not_true_eq_false, false_implies, and_self, pk_nil, pk_cons, wk_0, wk_1, wk_2, wk_3, wk_4, swt_nil, swt_cons, swl_nil, swl_cons, c3_eq, c3_lt, c3_ge, c3_le, c3_gt, c3_inr, c3_inr2, cnd_0, cnd_1, cnd_2, cnd_3, cnd_4, cnd_5, wide_I, wide_R, wide_L, wide_F, wide_D, wide_S, nw_I, nw_L, nw_F, nw_D, nw_U, nw_R, nw_S, fgo_cO, fso_cO, Option.map_some, alo_cI, ado_cD, aro_cR, ano_cI, ano_cD, lst, List.getElem?_cons_zero, List.getElem?_cons_succ, List.set_cons_zero, List.set_cons_succ, and_true, true_and, true_implies, forall_const, true_or, or_true, hg_same, hg_ne,  a1, a2.1]
  refine c_leafCount a2 hm v.2.2.1.2 ?_
  try simp (disch := omega) only [w176_0, w176_32, w176_92, e176, x_iconst, x_bipush, x_sipush, x_ldc, x_lconst, x_ldc2l, x_dconst, x_ldc2d, x_ldcf, x_iadd, x_isub, x_imul, x_idiv, x_irem, x_ishl, x_ishr, x_iand, x_ior, x_ixor, x_ladd, x_lsub, x_lmul, x_ldiv, x_lrem, x_lshl, x_lshr, x_lor, x_land, x_lcmp, x_i2l, x_l2i, x_i2b, x_i2f, x_l2f, x_l2d, x_f2d, x_d2l, x_fdiv, x_dadd, x_dsub, x_dmul, x_ddiv, x_dcmp, x_fcmp, x_dup, x_pop, x_dup2, x_objinit, x_rawF, x_rawD, gV_0, gV_1, gV_2, gV_3, gV_4, gV_S, x_iload, x_lload, x_fload, x_dload, x_aload, x_istore, x_fstore, x_astore, x_lstore, x_dstore, gX_I, x_iinc, x_getf, x_putfI, x_putfL, x_putfR, x_iald, x_bald, x_zald, x_lald, x_dald, x_aald, x_iast, x_bast, x_zast, x_last, x_dast, x_aast, x_alen, x_new, x_newa, x_anew, x_acopy, x_sld, x_slen, x_fall, x_goto, x_if, x_cmp, x_tsw, x_lsw, x_ret, x_iret, x_zret, x_lret, x_fret, x_dret, x_aret, x_callr, x_callv, x_calli, x_calls, rcv_R, isO_cO, JW_def, kO_some, sk4, cats_nil, cats_I, cats_L, cats_F, cats_D, cats_R, cats_S, Nat.reduceAdd, Nat.reduceLeDiff, inr, inq, Int.reduceEq, Int.reduceLT, Int.reduceLE, Int.reduceNeg, not_false_eq_true, not_true_eq_false, false_implies, and_self, pk_nil, pk_cons, wk_0, wk_1, wk_2, wk_3, wk_4, swt_nil, swt_cons, swl_nil, swl_cons, c3_eq, c3_lt, c3_ge, c3_le, c3_gt, c3_inr, c3_inr2, cnd_0, cnd_1, cnd_2, cnd_3, cnd_4, cnd_5, wide_I, wide_R, wide_L, wide_F, wide_D, wide_S, nw_I, nw_L, nw_F, nw_D, nw_U, nw_R, nw_S, fgo_cO, fso_cO, Option.map_some, alo_cI, ado_cD, aro_cR, ano_cI, ano_cD, lst, List.getElem?_cons_zero, List.getElem?_cons_succ, List.set_cons_zero, List.set_cons_succ, and_true, true_and, true_implies, forall_const, true_or, or_true, hg_same, hg_ne]
  exact go _
set_option maxRecDepth 20000 in
set_option maxHeartbeats 4000000 in
theorem c_phraseSize (a : CA h m Q wd wf ts tx wc co re fi kp sl cf cs cd cl cc ss sb) (v : SOK m Q wd wf) (hwc : wc ≤ 80) {r : Nat} {ps pn : Int → Int} (c : CPh h m Q wd wf co r ps pn) (hr : r ≤ wc) {k : Nat} (hk : k < r) {lim : Nat × Nat} {K : QT} (hK : K (pI ((phX (LT m Q wd wf) Q co k).1 : Int)) h) : WM 42 [pR 0, pI k] h lim K := by
  obtain ⟨a1, a2, a3, -⟩ := id a
  unfold PTO at a1
  obtain ⟨c1, c2, c3⟩ := c
  obtain ⟨o1, o2, n, o3, o4, o5⟩ := c3 k hk
  have hQ := v.2.1
  have hn := KK_nodes v.1.1 v.1.2 v.2.2.1.2
  have hs := phS_lt (LT m Q wd wf) Q co (by omega) k
  obtain ⟨⟨tf, t1, t2⟩, -⟩ := id a3
  have t3 := t2 (phS (LT m Q wd wf) Q co k) (by omega)
  obtain ⟨us, lb, dp, ch, so, ns, op, oc, k', g1, g2, g3, g4⟩ := RQ_at v o2 o4 o5
  obtain ⟨q0, q1, q2, q3, q4, q5, q6⟩ := id g2
  try simp (disch := omega) only [w42_0, e42, x_iconst, x_bipush, x_sipush, x_ldc, x_lconst, x_ldc2l, x_dconst, x_ldc2d, x_ldcf, x_iadd, x_isub, x_imul, x_idiv, x_irem, x_ishl, x_ishr, x_iand, x_ior, x_ixor, x_ladd, x_lsub, x_lmul, x_ldiv, x_lrem, x_lshl, x_lshr, x_lor, x_land, x_lcmp, x_i2l, x_l2i, x_i2b, x_i2f, x_l2f, x_l2d, x_f2d, x_d2l, x_fdiv, x_dadd, x_dsub, x_dmul, x_ddiv, x_dcmp, x_fcmp, x_dup, x_pop, x_dup2, x_objinit, x_rawF, x_rawD, gV_0, gV_1, gV_2, gV_3, gV_4, gV_S, x_iload, x_lload, x_fload, x_dload, x_aload, x_istore, x_fstore, x_astore, x_lstore, x_dstore, gX_I, x_iinc, x_getf, x_putfI, x_putfL, x_putfR, x_iald, x_bald, x_zald, x_lald, x_dald, x_aald, x_iast, x_bast, x_zast, x_last, x_dast, x_aast, x_alen, x_new, x_newa, x_anew, x_acopy, x_sld, x_slen, x_fall, x_goto, x_if, x_cmp, x_tsw, x_lsw, x_ret, x_iret, x_zret, x_lret, x_fret, x_dret, x_aret, x_callr, x_callv, x_calli, x_calls, rcv_R, isO_cO, JW_def, kO_some, sk4, cats_nil, cats_I, cats_L, cats_F, cats_D, cats_R, cats_S, Nat.reduceAdd, Nat.reduceLeDiff, inr, inq, Int.reduceEq, Int.reduceLT, Int.reduceLE, Int.reduceNeg, not_false_eq_true, not_true_eq_false, false_implies, and_self, pk_nil, pk_cons, wk_0, wk_1, wk_2, wk_3, wk_4, swt_nil, swt_cons, swl_nil, swl_cons, c3_eq, c3_lt, c3_ge, c3_le, c3_gt, c3_inr, c3_inr2, cnd_0, cnd_1, cnd_2, cnd_3, cnd_4, cnd_5, wide_I, wide_R, wide_L, wide_F, wide_D, wide_S, nw_I, nw_L, nw_F, nw_D, nw_U, nw_R, nw_S, fgo_cO, fso_cO, Option.map_some, alo_cI, ado_cD, aro_cR, ano_cI, ano_cD, lst, List.getElem?_cons_zero, List.getElem?_cons_succ, List.set_cons_zero, List.set_cons_succ, and_true, true_and, true_implies, forall_const, true_or, or_true, hg_same, hg_ne,  a1, c1, c2, o1, t1, t3, g1, q0, q2]
  rw [o3, g3]
  exact ⟨by omega, by omega, by omega, by omega, hK⟩
/-- the first fault of a code -/
noncomputable def vF (m Q wd : Nat) (wf : Int → Int) (wc : Nat) (co : Int → Int) (re : Int) : Int := if phN ((1 + KK m wd * (m - 1) : Nat) : Int) co wc < wc then (phN ((1 + KK m wd * (m - 1) : Nat) : Int) co wc : Int) else if (if wc = 0 then 0 else ((phX (LT m Q wd wf) Q co (wc - 1)).1 : Int)) < re then (wc : Int) else -1
set_option maxRecDepth 20000 in
set_option maxHeartbeats 4000000 in
theorem c_firstFault (a : CA h m Q wd wf ts tx wc co re fi kp sl cf cs cd cl cc ss sb) (v : SOK m Q wd wf) (v3 : COK wc co) (v4 : 0 ≤ re ∧ re ≤ 8) {lim : Nat × Nat} {K : QT}
    (hK : ∀ (h' : Hp) (ps pn : Int → Int), CA h' m Q wd wf ts tx wc co re fi kp sl cf cs cd cl cc ss sb → Fr h h' 10 59 → (vF m Q wd wf wc co re = -1 → CPh h' m Q wd wf co wc ps pn) → K (pI (vF m Q wd wf wc co re)) h') : WM 189 [pR 0] h lim K := by
  have a1 := a.1
  unfold PTO at a1
  have hwc := v3.1
  try simp (disch := omega) only [w189_0, w189_15, w189_26, w189_36, w189_52, w189_53, e189, x_iconst, x_bipush, x_sipush, x_ldc, x_lconst, x_ldc2l, x_dconst, x_ldc2d, x_ldcf, x_iadd, x_isub, x_imul, x_idiv, x_irem, x_ishl, x_ishr, x_iand, x_ior, x_ixor, x_ladd, x_lsub, x_lmul, x_ldiv, x_lrem, x_lshl, x_lshr, x_lor, x_land, x_lcmp, x_i2l, x_l2i, x_i2b, x_i2f, x_l2f, x_l2d, x_f2d, x_d2l, x_fdiv, x_dadd, x_dsub, x_dmul, x_ddiv, x_dcmp, x_fcmp, x_dup, x_pop, x_dup2, x_objinit, x_rawF, x_rawD, gV_0, gV_1, gV_2, gV_3, gV_4, gV_S, x_iload, x_lload, x_fload, x_dload, x_aload, x_istore, x_fstore, x_astore, x_lstore, x_dstore, gX_I, x_iinc, x_getf, x_putfI, x_putfL, x_putfR, x_iald, x_bald, x_zald, x_lald, x_dald, x_aald, x_iast, x_bast, x_zast, x_last, x_dast, x_aast, x_alen, x_new, x_newa, x_anew, x_acopy, x_sld, x_slen, x_fall, x_goto, x_if, x_cmp, x_tsw, x_lsw, x_ret, x_iret, x_zret, x_lret, x_fret, x_dret, x_aret, x_callr, x_callv, x_calli, x_calls, rcv_R, isO_cO, JW_def, kO_some, sk4, cats_nil, cats_I, cats_L, cats_F, cats_D, cats_R, cats_S, Nat.reduceAdd, Nat.reduceLeDiff, inr, inq, Int.reduceEq, Int.reduceLT, Int.reduceLE, Int.reduceNeg, not_false_eq_true, not_true_eq_false, false_implies, and_self, pk_nil, pk_cons, wk_0, wk_1, wk_2, wk_3, wk_4, swt_nil, swt_cons, swl_nil, swl_cons, c3_eq, c3_lt, c3_ge, c3_le, c3_gt, c3_inr, c3_inr2, cnd_0, cnd_1, cnd_2, cnd_3, cnd_4, cnd_5, wide_I, wide_R, wide_L, wide_F, wide_D, wide_S, nw_I, nw_L, nw_F, nw_D, nw_U, nw_R, nw_S, fgo_cO, fso_cO, Option.map_some, alo_cI, ado_cD, aro_cR, ano_cI, ano_cD, lst, List.getElem?_cons_zero, List.getElem?_cons_succ, List.set_cons_zero, List.set_cons_succ, and_true, true_and, true_implies, forall_const, true_or, or_true, hg_same, hg_ne,  a1]
  refine c_findPhrases a v v3 (fun h1 r ps pn hr A1 f1 hp => ?_)
  have hrN := PR_uniq hr (PR_phN _ _ _)
  have b1 := A1.1
  unfold PTO at b1
  have hK1 := hK h1 ps pn A1 f1
  unfold vF at hK1
  rw [← hrN] at hK1
  have hr1 := hr.1
  try simp (disch := omega) only [w189_0, w189_15, w189_26, w189_36, w189_52, w189_53, e189, x_iconst, x_bipush, x_sipush, x_ldc, x_lconst, x_ldc2l, x_dconst, x_ldc2d, x_ldcf, x_iadd, x_isub, x_imul, x_idiv, x_irem, x_ishl, x_ishr, x_iand, x_ior, x_ixor, x_ladd, x_lsub, x_lmul, x_ldiv, x_lrem, x_lshl, x_lshr, x_lor, x_land, x_lcmp, x_i2l, x_l2i, x_i2b, x_i2f, x_l2f, x_l2d, x_f2d, x_d2l, x_fdiv, x_dadd, x_dsub, x_dmul, x_ddiv, x_dcmp, x_fcmp, x_dup, x_pop, x_dup2, x_objinit, x_rawF, x_rawD, gV_0, gV_1, gV_2, gV_3, gV_4, gV_S, x_iload, x_lload, x_fload, x_dload, x_aload, x_istore, x_fstore, x_astore, x_lstore, x_dstore, gX_I, x_iinc, x_getf, x_putfI, x_putfL, x_putfR, x_iald, x_bald, x_zald, x_lald, x_dald, x_aald, x_iast, x_bast, x_zast, x_last, x_dast, x_aast, x_alen, x_new, x_newa, x_anew, x_acopy, x_sld, x_slen, x_fall, x_goto, x_if, x_cmp, x_tsw, x_lsw, x_ret, x_iret, x_zret, x_lret, x_fret, x_dret, x_aret, x_callr, x_callv, x_calli, x_calls, rcv_R, isO_cO, JW_def, kO_some, sk4, cats_nil, cats_I, cats_L, cats_F, cats_D, cats_R, cats_S, Nat.reduceAdd, Nat.reduceLeDiff, inr, inq, Int.reduceEq, Int.reduceLT, Int.reduceLE, Int.reduceNeg, not_false_eq_true, not_true_eq_false, false_implies, and_self, pk_nil, pk_cons, wk_0, wk_1, wk_2, wk_3, wk_4, swt_nil, swt_cons, swl_nil, swl_cons, c3_eq, c3_lt, c3_ge, c3_le, c3_gt, c3_inr, c3_inr2, cnd_0, cnd_1, cnd_2, cnd_3, cnd_4, cnd_5, wide_I, wide_R, wide_L, wide_F, wide_D, wide_S, nw_I, nw_L, nw_F, nw_D, nw_U, nw_R, nw_S, fgo_cO, fso_cO, Option.map_some, alo_cI, ado_cD, aro_cR, ano_cI, ano_cD, lst, List.getElem?_cons_zero, List.getElem?_cons_succ, List.set_cons_zero, List.set_cons_succ, and_true, true_and, true_implies, forall_const, true_or, or_true, hg_same, hg_ne,  b1]
  refine ⟨by omega, fun q => ?_, fun q => ?_⟩
  · have e : r = wc := by omega
    rw [if_neg (by omega)] at hK1
    have hK2 := hK1 (fun _ => by rw [← e]; exact hp)
    refine ⟨by omega, fun q2 => ?_, fun q2 => ?_⟩
    · have h8 : (phX (LT m Q wd wf) Q co (wc - 1)).1 ≤ 8 := by
        have hc := hr.2.1 (wc - 1) (by omega)
        have hc0 := v3.2 ((wc - 1 : Nat) : Int) (by omega) (by omega)
        obtain ⟨-, -, -, -, -, -, h8⟩ := lf_at v (phS (LT m Q wd wf) Q co (wc - 1)) (w := (co ((wc - 1 : Nat) : Int)).toNat) (by omega)
        exact h8
      rw [show (wc : Int) - 1 = ((wc - 1 : Nat) : Int) by omega]
      refine c_phraseSize A1 v hwc hp (by omega) (by omega) ?_
      rw [if_neg (show ¬ wc = 0 by omega)] at hK2
      try simp (disch := omega) only [w189_0, w189_15, w189_26, w189_36, w189_52, w189_53, e189, x_iconst, x_bipush, x_sipush, x_ldc, x_lconst, x_ldc2l, x_dconst, x_ldc2d, x_ldcf, x_iadd, x_isub, x_imul, x_idiv, x_irem, x_ishl, x_ishr, x_iand, x_ior, x_ixor, x_ladd, x_lsub, x_lmul, x_ldiv, x_lrem, x_lshl, x_lshr, x_lor, x_land, x_lcmp, x_i2l, x_l2i, x_i2b, x_i2f, x_l2f, x_l2d, x_f2d, x_d2l, x_fdiv, x_dadd, x_dsub, x_dmul, x_ddiv, x_dcmp, x_fcmp, x_dup, x_pop, x_dup2, x_objinit, x_rawF, x_rawD, gV_0, gV_1, gV_2, gV_3, gV_4, gV_S, x_iload, x_lload, x_fload, x_dload, x_aload, x_istore, x_fstore, x_astore, x_lstore, x_dstore, gX_I, x_iinc, x_getf, x_putfI, x_putfL, x_putfR, x_iald, x_bald, x_zald, x_lald, x_dald, x_aald, x_iast, x_bast, x_zast, x_last, x_dast, x_aast, x_alen, x_new, x_newa, x_anew, x_acopy, x_sld, x_slen, x_fall, x_goto, x_if, x_cmp, x_tsw, x_lsw, x_ret, x_iret, x_zret, x_lret, x_fret, x_dret, x_aret, x_callr, x_callv, x_calli, x_calls, rcv_R, isO_cO, JW_def, kO_some, sk4, cats_nil, cats_I, cats_L, cats_F, cats_D, cats_R, cats_S, Nat.reduceAdd, Nat.reduceLeDiff, inr, inq, Int.reduceEq, Int.reduceLT, Int.reduceLE, Int.reduceNeg, not_false_eq_true, not_true_eq_false, false_implies, and_self, pk_nil, pk_cons, wk_0, wk_1, wk_2, wk_3, wk_4, swt_nil, swt_cons, swl_nil, swl_cons, c3_eq, c3_lt, c3_ge, c3_le, c3_gt, c3_inr, c3_inr2, cnd_0, cnd_1, cnd_2, cnd_3, cnd_4, cnd_5, wide_I, wide_R, wide_L, wide_F, wide_D, wide_S, nw_I, nw_L, nw_F, nw_D, nw_U, nw_R, nw_S, fgo_cO, fso_cO, Option.map_some, alo_cI, ado_cD, aro_cR, ano_cI, ano_cD, lst, List.getElem?_cons_zero, List.getElem?_cons_succ, List.set_cons_zero, List.set_cons_succ, and_true, true_and, true_implies, forall_const, true_or, or_true, hg_same, hg_ne,  b1]
      refine ⟨by omega, fun q3 => ?_, fun q3 => ?_⟩
      · rw [if_neg (by omega)] at hK2
        exact hK2
      · rw [if_pos (by omega)] at hK2
        exact hK2
    · rw [if_pos (show wc = 0 by omega)] at hK2
      refine ⟨by omega, fun q3 => ?_, fun q3 => ?_⟩
      · rw [if_neg (by omega)] at hK2
        exact hK2
      · rw [if_pos (by omega)] at hK2
        exact hK2
  · rw [if_pos (by omega)] at hK1
    exact hK1 (fun e => by omega)
end P2
section P2b
variable {h : Hp} {fi : Int} {m Q wd ts wc : Nat} {re tm tr ph fu : Int} {le sp nu sn wo ro no lv : Int → Int}
def MPh (h : Hp) (m Q wd : Nat) (wf co : Int → Int) (r : Nat) (pz : Int → Int) : Prop := hg h 103 = some (cI 0 80 pz) ∧ ∀ k : Nat, k < r → ∃ i : Nat, i < 1 + KK m wd * m ∧ pz k = ((128 * phS (LT m Q wd wf) Q co k + i : Nat) : Int) ∧ (LT m Q wd wf (phS (LT m Q wd wf) Q co k))[i]? = some (phX (LT m Q wd wf) Q co k)
set_option maxRecDepth 20000 in
set_option maxHeartbeats 4000000 in
theorem d_faultNow (bo : MO h fi m Q wd ts wc re tm tr ph fu) (t : MTa h le sp nu sn wo ro no lv) {wf : Int → Int} (v : SOK m Q wd wf) (T : ∀ q : Nat, q < Q → MTr le sp nu sn wo ro no lv q m (scF Q q wf) (numF Q q wf) (KK m wd)) {co g pz0 : Int → Int} (e1 : hg h 101 = some (cI 0 80 g)) (hg' : ∀ i : Int, 0 ≤ i → i < wc → g i = co i) (e3 : hg h 103 = some (cI 0 80 pz0)) (v3 : COK wc co) (v4 : 0 ≤ re ∧ re ≤ 8) {lim : Nat × Nat} {K : QT}
    (hK : ∀ (h' : Hp) (r : Nat) (pz : Int → Int), FrP (fun k => k = 87 ∨ k = 103) h h' → MO h' fi m Q wd ts wc re tm tr (r : Int) fu → hg h' 103 = some (cI 0 80 pz) → (vF m Q wd wf wc co re = -1 → r = wc ∧ MPh h' m Q wd wf co wc pz) → K (pI (vF m Q wd wf wc co re)) h') : WM 137 [pR 87] h lim K := by
  have bo' := id bo
  unfold MO at bo'
  obtain ⟨hwc, hco⟩ := id v3
  have hQ := v.2.1
  /- phrases hang on the words alone -/
  have cg : ∀ k : Nat, k ≤ wc → phS (LT m Q wd wf) Q g k = phS (LT m Q wd wf) Q co k := by
    intro k
    induction k with
    | zero => intro _; rfl
    | succ k ih =>
      intro hk
      show (lfn (LT m Q wd wf (phS (LT m Q wd wf) Q g k)) (g k).toNat).2.1 % 8 % Q = (lfn (LT m Q wd wf (phS (LT m Q wd wf) Q co k)) (co k).toNat).2.1 % 8 % Q
      rw [ih (by omega), hg' k (by omega) (by omega)]
  have cgX : ∀ k : Nat, k < wc → phX (LT m Q wd wf) Q g k = phX (LT m Q wd wf) Q co k := by
    intro k hk
    unfold phX
    rw [cg k (by omega), hg' k (by omega) (by omega)]
  try simp (disch := omega) only [w137_0, w137_20, w137_31, w137_47, w137_63, w137_64, e137, x_iconst, x_bipush, x_sipush, x_ldc, x_lconst, x_ldc2l, x_dconst, x_ldc2d, x_ldcf, x_iadd, x_isub, x_imul, x_idiv, x_irem, x_ishl, x_ishr, x_iand, x_ior, x_ixor, x_ladd, x_lsub, x_lmul, x_ldiv, x_lrem, x_lshl, x_lshr, x_lor, x_land, x_lcmp, x_i2l, x_l2i, x_i2b, x_i2f, x_l2f, x_l2d, x_f2d, x_d2l, x_fdiv, x_dadd, x_dsub, x_dmul, x_ddiv, x_dcmp, x_fcmp, x_dup, x_pop, x_dup2, x_objinit, x_rawF, x_rawD, gV_0, gV_1, gV_2, gV_3, gV_4, gV_S, x_iload, x_lload, x_fload, x_dload, x_aload, x_istore, x_fstore, x_astore, x_lstore, x_dstore, gX_I, x_iinc, x_getf, x_putfI, x_putfL, x_putfR, x_iald, x_bald, x_zald, x_lald, x_dald, x_aald, x_iast, x_bast, x_zast, x_last, x_dast, x_aast, x_alen, x_new, x_newa, x_anew, x_acopy, x_sld, x_slen, x_fall, x_goto, x_if, x_cmp, x_tsw, x_lsw, x_ret, x_iret, x_zret, x_lret, x_fret, x_dret, x_aret, x_callr, x_callv, x_calli, x_calls, rcv_R, isO_cO, JW_def, kO_some, sk4, cats_nil, cats_I, cats_L, cats_F, cats_D, cats_R, cats_S, Nat.reduceAdd, Nat.reduceLeDiff, inr, inq, Int.reduceEq, Int.reduceLT, Int.reduceLE, Int.reduceNeg, not_false_eq_true, not_true_eq_false, false_implies, and_self, pk_nil, pk_cons, wk_0, wk_1, wk_2, wk_3, wk_4, swt_nil, swt_cons, swl_nil, swl_cons, c3_eq, c3_lt, c3_ge, c3_le, c3_gt, c3_inr, c3_inr2, cnd_0, cnd_1, cnd_2, cnd_3, cnd_4, cnd_5, wide_I, wide_R, wide_L, wide_F, wide_D, wide_S, nw_I, nw_L, nw_F, nw_D, nw_U, nw_R, nw_S, fgo_cO, fso_cO, Option.map_some, alo_cI, ado_cD, aro_cR, ano_cI, ano_cD, lst, List.getElem?_cons_zero, List.getElem?_cons_succ, List.set_cons_zero, List.set_cons_succ, and_true, true_and, true_implies, forall_const, true_or, or_true, hg_same, hg_ne,  bo']
  refine d_follows bo t v T e1 e3 hwc (fun i i0 i1 => by rw [hg' i i0 i1]; exact hco i i0 i1) (fun h1 r pz hr f o1 e4 hp => ?_)
  have hr2 : PR ((1 + KK m wd * (m - 1) : Nat) : Int) co wc r := by
    refine ⟨hr.1, fun k hk => ?_, ?_⟩
    · rw [← hg' k (by omega) (by have := hr.1; omega)]
      exact hr.2.1 k hk
    · by_cases e : r = wc
      · exact Or.inl e
      · rcases hr.2.2 with q | q
        · exact absurd q e
        · right
          rw [← hg' r (by omega) (by have := hr.1; omega)]
          exact q
  have hrN := PR_uniq hr2 (PR_phN _ _ _)
  have hr1 := hr.1
  have hp2 : ∀ k : Nat, k < r → ∃ i : Nat, i < 1 + KK m wd * m ∧ pz k = ((128 * phS (LT m Q wd wf) Q co k + i : Nat) : Int) ∧ (LT m Q wd wf (phS (LT m Q wd wf) Q co k))[i]? = some (phX (LT m Q wd wf) Q co k) := by
    intro k hk
    have := hp k hk
    rw [cg k (by omega), cgX k (by omega)] at this
    exact this
  have o1' := id o1
  unfold MO at o1'
  have hK1 := hK h1 r pz f o1 e4
  unfold vF at hK1
  rw [← hrN] at hK1
  have hn := KK_nodes v.1.1 v.1.2 v.2.2.1.2
  have m1 := (f.1 89 (by omega)).trans t.1
  try simp (disch := omega) only [w137_0, w137_20, w137_31, w137_47, w137_63, w137_64, e137, x_iconst, x_bipush, x_sipush, x_ldc, x_lconst, x_ldc2l, x_dconst, x_ldc2d, x_ldcf, x_iadd, x_isub, x_imul, x_idiv, x_irem, x_ishl, x_ishr, x_iand, x_ior, x_ixor, x_ladd, x_lsub, x_lmul, x_ldiv, x_lrem, x_lshl, x_lshr, x_lor, x_land, x_lcmp, x_i2l, x_l2i, x_i2b, x_i2f, x_l2f, x_l2d, x_f2d, x_d2l, x_fdiv, x_dadd, x_dsub, x_dmul, x_ddiv, x_dcmp, x_fcmp, x_dup, x_pop, x_dup2, x_objinit, x_rawF, x_rawD, gV_0, gV_1, gV_2, gV_3, gV_4, gV_S, x_iload, x_lload, x_fload, x_dload, x_aload, x_istore, x_fstore, x_astore, x_lstore, x_dstore, gX_I, x_iinc, x_getf, x_putfI, x_putfL, x_putfR, x_iald, x_bald, x_zald, x_lald, x_dald, x_aald, x_iast, x_bast, x_zast, x_last, x_dast, x_aast, x_alen, x_new, x_newa, x_anew, x_acopy, x_sld, x_slen, x_fall, x_goto, x_if, x_cmp, x_tsw, x_lsw, x_ret, x_iret, x_zret, x_lret, x_fret, x_dret, x_aret, x_callr, x_callv, x_calli, x_calls, rcv_R, isO_cO, JW_def, kO_some, sk4, cats_nil, cats_I, cats_L, cats_F, cats_D, cats_R, cats_S, Nat.reduceAdd, Nat.reduceLeDiff, inr, inq, Int.reduceEq, Int.reduceLT, Int.reduceLE, Int.reduceNeg, not_false_eq_true, not_true_eq_false, false_implies, and_self, pk_nil, pk_cons, wk_0, wk_1, wk_2, wk_3, wk_4, swt_nil, swt_cons, swl_nil, swl_cons, c3_eq, c3_lt, c3_ge, c3_le, c3_gt, c3_inr, c3_inr2, cnd_0, cnd_1, cnd_2, cnd_3, cnd_4, cnd_5, wide_I, wide_R, wide_L, wide_F, wide_D, wide_S, nw_I, nw_L, nw_F, nw_D, nw_U, nw_R, nw_S, fgo_cO, fso_cO, Option.map_some, alo_cI, ado_cD, aro_cR, ano_cI, ano_cD, lst, List.getElem?_cons_zero, List.getElem?_cons_succ, List.set_cons_zero, List.set_cons_succ, and_true, true_and, true_implies, forall_const, true_or, or_true, hg_same, hg_ne,  o1']
  refine ⟨by omega, fun q => ?_, fun q => ?_⟩
  · have e : r = wc := by omega
    rw [if_neg (by omega)] at hK1
    have hK2 := hK1 (fun _ => ⟨e, e4, fun k hk => hp2 k (by omega)⟩)
    refine ⟨by omega, fun q2 => ?_, fun q2 => ?_⟩
    · obtain ⟨i, i1, i2, i3⟩ := hp2 (wc - 1) (by omega)
      have hs := phS_lt (LT m Q wd wf) Q co (by omega) (wc - 1)
      obtain ⟨T1, T2, T3, T4⟩ := T _ hs
      obtain ⟨u1, -⟩ := T3 i _ i3
      have h8 := TK_8 (show m ≤ 8 by have := v.1.2; omega) (List.mem_of_getElem? i3)
      rw [if_neg (show ¬ wc = 0 by omega)] at hK2
      try simp (disch := omega) only [w137_0, w137_20, w137_31, w137_47, w137_63, w137_64, e137, x_iconst, x_bipush, x_sipush, x_ldc, x_lconst, x_ldc2l, x_dconst, x_ldc2d, x_ldcf, x_iadd, x_isub, x_imul, x_idiv, x_irem, x_ishl, x_ishr, x_iand, x_ior, x_ixor, x_ladd, x_lsub, x_lmul, x_ldiv, x_lrem, x_lshl, x_lshr, x_lor, x_land, x_lcmp, x_i2l, x_l2i, x_i2b, x_i2f, x_l2f, x_l2d, x_f2d, x_d2l, x_fdiv, x_dadd, x_dsub, x_dmul, x_ddiv, x_dcmp, x_fcmp, x_dup, x_pop, x_dup2, x_objinit, x_rawF, x_rawD, gV_0, gV_1, gV_2, gV_3, gV_4, gV_S, x_iload, x_lload, x_fload, x_dload, x_aload, x_istore, x_fstore, x_astore, x_lstore, x_dstore, gX_I, x_iinc, x_getf, x_putfI, x_putfL, x_putfR, x_iald, x_bald, x_zald, x_lald, x_dald, x_aald, x_iast, x_bast, x_zast, x_last, x_dast, x_aast, x_alen, x_new, x_newa, x_anew, x_acopy, x_sld, x_slen, x_fall, x_goto, x_if, x_cmp, x_tsw, x_lsw, x_ret, x_iret, x_zret, x_lret, x_fret, x_dret, x_aret, x_callr, x_callv, x_calli, x_calls, rcv_R, isO_cO, JW_def, kO_some, sk4, cats_nil, cats_I, cats_L, cats_F, cats_D, cats_R, cats_S, Nat.reduceAdd, Nat.reduceLeDiff, inr, inq, Int.reduceEq, Int.reduceLT, Int.reduceLE, Int.reduceNeg, not_false_eq_true, not_true_eq_false, false_implies, and_self, pk_nil, pk_cons, wk_0, wk_1, wk_2, wk_3, wk_4, swt_nil, swt_cons, swl_nil, swl_cons, c3_eq, c3_lt, c3_ge, c3_le, c3_gt, c3_inr, c3_inr2, cnd_0, cnd_1, cnd_2, cnd_3, cnd_4, cnd_5, wide_I, wide_R, wide_L, wide_F, wide_D, wide_S, nw_I, nw_L, nw_F, nw_D, nw_U, nw_R, nw_S, fgo_cO, fso_cO, Option.map_some, alo_cI, ado_cD, aro_cR, ano_cI, ano_cD, lst, List.getElem?_cons_zero, List.getElem?_cons_succ, List.set_cons_zero, List.set_cons_succ, and_true, true_and, true_implies, forall_const, true_or, or_true, hg_same, hg_ne,  o1', e4, m1]
      rw [show (wc : Int) - 1 = ((wc - 1 : Nat) : Int) by omega, i2, u1]
      refine ⟨by omega, by omega, by omega, fun q3 => ?_, fun q3 => ?_⟩
      · rw [if_neg (by omega)] at hK2
        exact hK2
      · rw [if_pos (by omega)] at hK2
        exact hK2
    · rw [if_pos (show wc = 0 by omega)] at hK2
      refine ⟨by omega, fun q3 => ?_, fun q3 => ?_⟩
      · rw [if_neg (by omega)] at hK2
        exact hK2
      · rw [if_pos (by omega)] at hK2
        exact hK2
  · rw [if_pos (by omega)] at hK1
    exact hK1 (fun e => by omega)
end P2b

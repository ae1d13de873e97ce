section MT4
variable {h : Hp} {fi : Int} {m Q wd ts wc : Nat} {re tm tr ph fu : Int} {le sp nu sn wo ro no lv : Int → Int}
set_option maxRecDepth 20000 in
set_option maxHeartbeats 4000000 in
theorem d_numbers (bo : MO h fi m Q wd ts wc re tm tr ph fu) (t : MTa h le sp nu sn wo ro no lv) {b : Nat} (hb : b < 6) {S : Nat → Nat → Bool} {L : List Nd} (hm : m ≤ 8) (hL : L = dfs m S 8 0 0) {ν : Nat → Nat → Int} (T : MT0 le sp nu ro b L ν) (hno : no b = (L.length : Int)) (hN : L.length ≤ 128) {lim : Nat × Nat} {K : QT}
    (hK : ∀ h' sn' wo', MTa h' le sp nu sn' wo' ro no lv → Fr h h' 89 97 → MT1 sn' wo' b m S L → SB b 128 sn sn' → SB b 128 wo wo' → K pU h') : WM 51 [pR 87, pI b] h lim K := by
  obtain ⟨m1, m2, m3, m4, m5, m6, m7, m8⟩ := id t
  have bo' := id bo
  unfold MO at bo'
  have outer : ∀ (y i : Nat) (h1 : Hp) (sn1 wo1 : Int → Int) (z5 z6 z7 : PV), y + i = L.length → Fr h h1 89 97 → MTa h1 le sp nu sn1 wo1 ro no lv → (∀ (j : Nat) (x : Nd), j < i → L[j]? = some x → sn1 ((128 * b + j : Nat) : Int) = (szN m S x.1 x.2.1 : Int) ∧ wo1 ((128 * b + j : Nat) : Int) = (match x.2.2 with
      | true => -1
      | false => (rkn L j : Int))) → SB b 128 sn sn1 → SB b 128 wo wo1 → WP 51 22 [pR 87, pI b, pI (128 * (b : Int) + (L.length : Int)), pI (rkn L i), pI ((128 * b + i : Nat) : Int), z5, z6, z7] [] h1 lim K := by
    intro y
    induction y with
    | zero =>
      intro i h1 sn1 wo1 z5 z6 z7 hy f t1 d1 s1 s2
      have e : i = L.length := by omega
      rw [w51_22]
      try simp (disch := omega) only [w51_0, w51_48, w51_49, w51_65, w51_66, w51_112, w51_113, w51_126, w51_127, w51_136, w51_151, e51, x_iconst, x_bipush, x_sipush, x_ldc, x_lconst, x_ldc2l, x_dconst, x_ldc2d, x_ldcf, x_iadd, x_isub, x_imul, x_idiv, x_irem, x_ishl, x_ishr, x_iand, x_ior, x_ixor, x_ladd, x_lsub, x_lmul, x_ldiv, x_lrem, x_lshl, x_lshr, x_lor, x_land, x_lcmp, x_i2l, x_l2i, x_i2b, x_i2f, x_l2f, x_l2d, x_f2d, x_d2l, x_fdiv, x_dadd, x_dsub, x_dmul, x_ddiv, x_dcmp, x_fcmp, x_dup, x_pop, x_dup2, x_objinit, x_rawF, x_rawD, gV_0, gV_1, gV_2, gV_3, gV_4, gV_S, x_iload, x_lload, x_fload, x_dload, x_aload, x_istore, x_fstore, x_astore, x_lstore, x_dstore, gX_I, x_iinc, x_getf, x_putfI, x_putfL, x_putfR, x_iald, x_bald, x_zald, x_lald, x_dald, x_aald, x_iast, x_bast, x_zast, x_last, x_dast, x_aast, x_alen, x_new, x_newa, x_anew, x_acopy, x_sld, x_slen, x_fall, x_goto, x_if, x_cmp, x_tsw, x_lsw, x_ret, x_iret, x_zret, x_lret, x_fret, x_dret, x_aret, x_callr, x_callv, x_calli, x_calls, rcv_R, isO_cO, JW_def, kO_some, sk4, cats_nil, cats_I, cats_L, cats_F, cats_D, cats_R, cats_S, Nat.reduceAdd, Nat.reduceLeDiff, inr, inq, Int.reduceEq, Int.reduceLT, Int.reduceLE, Int.reduceNeg, not_false_eq_true, not_true_eq_false, false_implies, and_self, pk_nil, pk_cons, wk_0, wk_1, wk_2, wk_3, wk_4, swt_nil, swt_cons, swl_nil, swl_cons, c3_eq, c3_lt, c3_ge, c3_le, c3_gt, c3_inr, c3_inr2, cnd_0, cnd_1, cnd_2, cnd_3, cnd_4, cnd_5, wide_I, wide_R, wide_L, wide_F, wide_D, wide_S, nw_I, nw_L, nw_F, nw_D, nw_U, nw_R, nw_S, fgo_cO, fso_cO, Option.map_some, alo_cI, ado_cD, aro_cR, ano_cI, ano_cD, lst, List.getElem?_cons_zero, List.getElem?_cons_succ, List.set_cons_zero, List.set_cons_succ, and_true, true_and, true_implies, forall_const, true_or, or_true, hg_same, hg_ne]
      refine ⟨by omega, fun _ => hK h1 sn1 wo1 t1 f (fun j x hx => d1 j x (by have := (List.getElem?_eq_some_iff.mp hx).1; omega) hx) s1 s2, fun q => by omega⟩
    | succ y ih =>
      intro i h1 sn1 wo1 z5 z6 z7 hy f t1 d1 s1 s2
      obtain ⟨n1, n2, n3, n4, n5, n6, n7, n8⟩ := id t1
      have p0 := (f.1 87 (by omega)).trans bo'
      obtain ⟨x, hx⟩ : ∃ x, L[i]? = some x := ⟨L[i]'(by omega), List.getElem?_eq_getElem _⟩
      obtain ⟨u1, u2, u3, u4⟩ := T i x hx
      have hB : Blk m S L i x.1 x.2.1 := by
        subst hL
        exact dfs_blk hm 8 0 0 rfl i x hx
      have hx8 : x.1 ≤ 8 := by
        subst hL
        exact (dfs_rng hm 8 0 0 rfl x (List.mem_of_getElem? hx)).2.1
      have hbl := blk_len hB
      have hsp := szN_pos m S x.1 x.2.1
      have hrk := rkn_succ hx
      have hrl := rkn_le L i
      have hl2 := lfs_le L
      generalize hsz : szN m S x.1 x.2.1 = sz at hbl hsp
      /- the span -/
      have inner : ∀ (v n2 : Int) (h2 : Hp), MTa h2 le sp nu sn1 (up wo1 ((128 * b + i : Nat) : Int) v) ro no lv → Fr h h2 89 97 → (v = match x.2.2 with
          | true => -1
          | false => (rkn L i : Int)) → n2 = (rkn L (i + 1) : Int) → ∀ (g e : Nat), g + e + 1 = sz → WP 51 80 [pR 87, pI b, pI (128 * (b : Int) + (L.length : Int)), pI n2, pI ((128 * b + i : Nat) : Int), pI (1 + (e : Int)), pI 1, pI (((128 * b + i : Nat) : Int) + 1 + (e : Int))] [] h2 lim K := by
        intro v n2 h2 t2 f2 hv hn2
        have p2 := (f2.1 87 (by omega)).trans bo'
        obtain ⟨o1, o2, o3, o4, o5, o6, o7, o8⟩ := id t2
        have next : ∀ (z6 z7 : PV) (s : Int), s = (sz : Int) → WP 51 22 [pR 87, pI b, pI (128 * (b : Int) + (L.length : Int)), pI n2, pI (((128 * b + i : Nat) : Int) + 1), pI s, z6, z7] [] (hu h2 92 (cI 0 768 (up sn1 ((128 * b + i : Nat) : Int) s))) lim K := by
          intro z6 z7 s hs
          subst hs
          have := ih (i + 1) (hu h2 92 (cI 0 768 (up sn1 ((128 * b + i : Nat) : Int) sz))) (up sn1 ((128 * b + i : Nat) : Int) sz) (up wo1 ((128 * b + i : Nat) : Int) v) (pI sz) z6 z7 (by omega) (Fr_tr f2 (Fr_hu _ (by omega) (by omega))) ⟨by rw [hg_ne _ _ _ _ (by omega)]; exact o1, by rw [hg_ne _ _ _ _ (by omega)]; exact o2, by rw [hg_ne _ _ _ _ (by omega)]; exact o3, hg_same _ _ _, by rw [hg_ne _ _ _ _ (by omega)]; exact o5, by rw [hg_ne _ _ _ _ (by omega)]; exact o6, by rw [hg_ne _ _ _ _ (by omega)]; exact o7, by rw [hg_ne _ _ _ _ (by omega)]; exact o8⟩ (fun j x' hj hx' => by
              by_cases e : j = i
              · subst e
                rw [hx] at hx'
                have hxx : x = x' := by simpa using hx'
                subst hxx
                rw [up_same, up_same, hsz]
                exact ⟨rfl, hv⟩
              · rw [up_ne _ _ _ _ (by omega), up_ne _ _ _ _ (by omega)]
                exact d1 j x' (by omega) hx') (SB_up s1 (by omega)) (SB_up s2 (by omega))
          rw [show ((128 * b + (i + 1) : Nat) : Int) = ((128 * b + i : Nat) : Int) + 1 by omega, ← hn2] at this
          exact this
        intro g
        induction g with
        | zero =>
          intro e he
          rw [w51_80]
          try simp (disch := omega) only [w51_0, w51_48, w51_49, w51_65, w51_66, w51_112, w51_113, w51_126, w51_127, w51_136, w51_151, e51, x_iconst, x_bipush, x_sipush, x_ldc, x_lconst, x_ldc2l, x_dconst, x_ldc2d, x_ldcf, x_iadd, x_isub, x_imul, x_idiv, x_irem, x_ishl, x_ishr, x_iand, x_ior, x_ixor, x_ladd, x_lsub, x_lmul, x_ldiv, x_lrem, x_lshl, x_lshr, x_lor, x_land, x_lcmp, x_i2l, x_l2i, x_i2b, x_i2f, x_l2f, x_l2d, x_f2d, x_d2l, x_fdiv, x_dadd, x_dsub, x_dmul, x_ddiv, x_dcmp, x_fcmp, x_dup, x_pop, x_dup2, x_objinit, x_rawF, x_rawD, gV_0, gV_1, gV_2, gV_3, gV_4, gV_S, x_iload, x_lload, x_fload, x_dload, x_aload, x_istore, x_fstore, x_astore, x_lstore, x_dstore, gX_I, x_iinc, x_getf, x_putfI, x_putfL, x_putfR, x_iald, x_bald, x_zald, x_lald, x_dald, x_aald, x_iast, x_bast, x_zast, x_last, x_dast, x_aast, x_alen, x_new, x_newa, x_anew, x_acopy, x_sld, x_slen, x_fall, x_goto, x_if, x_cmp, x_tsw, x_lsw, x_ret, x_iret, x_zret, x_lret, x_fret, x_dret, x_aret, x_callr, x_callv, x_calli, x_calls, rcv_R, isO_cO, JW_def, kO_some, sk4, cats_nil, cats_I, cats_L, cats_F, cats_D, cats_R, cats_S, Nat.reduceAdd, Nat.reduceLeDiff, inr, inq, Int.reduceEq, Int.reduceLT, Int.reduceLE, Int.reduceNeg, not_false_eq_true, not_true_eq_false, false_implies, and_self, pk_nil, pk_cons, wk_0, wk_1, wk_2, wk_3, wk_4, swt_nil, swt_cons, swl_nil, swl_cons, c3_eq, c3_lt, c3_ge, c3_le, c3_gt, c3_inr, c3_inr2, cnd_0, cnd_1, cnd_2, cnd_3, cnd_4, cnd_5, wide_I, wide_R, wide_L, wide_F, wide_D, wide_S, nw_I, nw_L, nw_F, nw_D, nw_U, nw_R, nw_S, fgo_cO, fso_cO, Option.map_some, alo_cI, ado_cD, aro_cR, ano_cI, ano_cD, lst, List.getElem?_cons_zero, List.getElem?_cons_succ, List.set_cons_zero, List.set_cons_succ, and_true, true_and, true_implies, forall_const, true_or, or_true, hg_same, hg_ne,  p2, o1, o4]
          refine ⟨by omega, fun _ => ⟨by omega, next _ _ _ (by omega)⟩, fun q => ?_⟩
          obtain ⟨x2, hx2⟩ : ∃ x2, L[i + szN m S x.1 x.2.1]? = some x2 := ⟨L[i + szN m S x.1 x.2.1]'(by omega), List.getElem?_eq_getElem _⟩
          have hout := blk_out hB hx2
          obtain ⟨r1, -⟩ := T _ x2 hx2
          rw [show ((128 * b + (i + szN m S x.1 x.2.1) : Nat) : Int) = ((128 * b + i : Nat) : Int) + 1 + (e : Int) by omega] at r1
          rw [r1, u1]
          refine ⟨by omega, by omega, by omega, fun _ => ?_, fun q2 => by omega⟩
          rw [w51_80]
          try simp (disch := omega) only [w51_0, w51_48, w51_49, w51_65, w51_66, w51_112, w51_113, w51_126, w51_127, w51_136, w51_151, e51, x_iconst, x_bipush, x_sipush, x_ldc, x_lconst, x_ldc2l, x_dconst, x_ldc2d, x_ldcf, x_iadd, x_isub, x_imul, x_idiv, x_irem, x_ishl, x_ishr, x_iand, x_ior, x_ixor, x_ladd, x_lsub, x_lmul, x_ldiv, x_lrem, x_lshl, x_lshr, x_lor, x_land, x_lcmp, x_i2l, x_l2i, x_i2b, x_i2f, x_l2f, x_l2d, x_f2d, x_d2l, x_fdiv, x_dadd, x_dsub, x_dmul, x_ddiv, x_dcmp, x_fcmp, x_dup, x_pop, x_dup2, x_objinit, x_rawF, x_rawD, gV_0, gV_1, gV_2, gV_3, gV_4, gV_S, x_iload, x_lload, x_fload, x_dload, x_aload, x_istore, x_fstore, x_astore, x_lstore, x_dstore, gX_I, x_iinc, x_getf, x_putfI, x_putfL, x_putfR, x_iald, x_bald, x_zald, x_lald, x_dald, x_aald, x_iast, x_bast, x_zast, x_last, x_dast, x_aast, x_alen, x_new, x_newa, x_anew, x_acopy, x_sld, x_slen, x_fall, x_goto, x_if, x_cmp, x_tsw, x_lsw, x_ret, x_iret, x_zret, x_lret, x_fret, x_dret, x_aret, x_callr, x_callv, x_calli, x_calls, rcv_R, isO_cO, JW_def, kO_some, sk4, cats_nil, cats_I, cats_L, cats_F, cats_D, cats_R, cats_S, Nat.reduceAdd, Nat.reduceLeDiff, inr, inq, Int.reduceEq, Int.reduceLT, Int.reduceLE, Int.reduceNeg, not_false_eq_true, not_true_eq_false, false_implies, and_self, pk_nil, pk_cons, wk_0, wk_1, wk_2, wk_3, wk_4, swt_nil, swt_cons, swl_nil, swl_cons, c3_eq, c3_lt, c3_ge, c3_le, c3_gt, c3_inr, c3_inr2, cnd_0, cnd_1, cnd_2, cnd_3, cnd_4, cnd_5, wide_I, wide_R, wide_L, wide_F, wide_D, wide_S, nw_I, nw_L, nw_F, nw_D, nw_U, nw_R, nw_S, fgo_cO, fso_cO, Option.map_some, alo_cI, ado_cD, aro_cR, ano_cI, ano_cD, lst, List.getElem?_cons_zero, List.getElem?_cons_succ, List.set_cons_zero, List.set_cons_succ, and_true, true_and, true_implies, forall_const, true_or, or_true, hg_same, hg_ne,  p2, o4]
          rw [Int.add_zero]
          exact ⟨by omega, fun _ => ⟨by omega, next _ _ _ (by omega)⟩, fun _ => ⟨by omega, next _ _ _ (by omega)⟩⟩
        | succ g ihg =>
          intro e he
          obtain ⟨x2, hx2⟩ : ∃ x2, L[i + 1 + e]? = some x2 := ⟨L[i + 1 + e]'(by omega), List.getElem?_eq_getElem _⟩
          have hin := blk_in hm hx8 hB (j := i + 1 + e) (by omega) (by omega) hx2
          obtain ⟨r1, -⟩ := T _ x2 hx2
          have hx28 : x2.1 ≤ 8 := by
            subst hL
            exact (dfs_rng hm 8 0 0 rfl x2 (List.mem_of_getElem? hx2)).2.1
          rw [show ((128 * b + (i + 1 + e) : Nat) : Int) = ((128 * b + i : Nat) : Int) + 1 + (e : Int) by omega] at r1
          have go := ihg (e + 1) (by omega)
          rw [show 1 + ((e + 1 : Nat) : Int) = 1 + (e : Int) + 1 by omega, show ((128 * b + i : Nat) : Int) + 1 + ((e + 1 : Nat) : Int) = ((128 * b + i : Nat) : Int) + 1 + (e : Int) + 1 by omega] at go
          rw [w51_80]
          try simp (disch := omega) only [w51_0, w51_48, w51_49, w51_65, w51_66, w51_112, w51_113, w51_126, w51_127, w51_136, w51_151, e51, x_iconst, x_bipush, x_sipush, x_ldc, x_lconst, x_ldc2l, x_dconst, x_ldc2d, x_ldcf, x_iadd, x_isub, x_imul, x_idiv, x_irem, x_ishl, x_ishr, x_iand, x_ior, x_ixor, x_ladd, x_lsub, x_lmul, x_ldiv, x_lrem, x_lshl, x_lshr, x_lor, x_land, x_lcmp, x_i2l, x_l2i, x_i2b, x_i2f, x_l2f, x_l2d, x_f2d, x_d2l, x_fdiv, x_dadd, x_dsub, x_dmul, x_ddiv, x_dcmp, x_fcmp, x_dup, x_pop, x_dup2, x_objinit, x_rawF, x_rawD, gV_0, gV_1, gV_2, gV_3, gV_4, gV_S, x_iload, x_lload, x_fload, x_dload, x_aload, x_istore, x_fstore, x_astore, x_lstore, x_dstore, gX_I, x_iinc, x_getf, x_putfI, x_putfL, x_putfR, x_iald, x_bald, x_zald, x_lald, x_dald, x_aald, x_iast, x_bast, x_zast, x_last, x_dast, x_aast, x_alen, x_new, x_newa, x_anew, x_acopy, x_sld, x_slen, x_fall, x_goto, x_if, x_cmp, x_tsw, x_lsw, x_ret, x_iret, x_zret, x_lret, x_fret, x_dret, x_aret, x_callr, x_callv, x_calli, x_calls, rcv_R, isO_cO, JW_def, kO_some, sk4, cats_nil, cats_I, cats_L, cats_F, cats_D, cats_R, cats_S, Nat.reduceAdd, Nat.reduceLeDiff, inr, inq, Int.reduceEq, Int.reduceLT, Int.reduceLE, Int.reduceNeg, not_false_eq_true, not_true_eq_false, false_implies, and_self, pk_nil, pk_cons, wk_0, wk_1, wk_2, wk_3, wk_4, swt_nil, swt_cons, swl_nil, swl_cons, c3_eq, c3_lt, c3_ge, c3_le, c3_gt, c3_inr, c3_inr2, cnd_0, cnd_1, cnd_2, cnd_3, cnd_4, cnd_5, wide_I, wide_R, wide_L, wide_F, wide_D, wide_S, nw_I, nw_L, nw_F, nw_D, nw_U, nw_R, nw_S, fgo_cO, fso_cO, Option.map_some, alo_cI, ado_cD, aro_cR, ano_cI, ano_cD, lst, List.getElem?_cons_zero, List.getElem?_cons_succ, List.set_cons_zero, List.set_cons_succ, and_true, true_and, true_implies, forall_const, true_or, or_true, hg_same, hg_ne,  p2, o1]
          rw [r1, u1]
          exact ⟨by omega, fun q => by omega, fun _ => ⟨by omega, by omega, by omega, fun q => by omega, fun _ => go⟩⟩
      have mk : ∀ v : Int, MTa (hu h1 93 (cI 0 768 (up wo1 ((128 * b + i : Nat) : Int) v))) le sp nu sn1 (up wo1 ((128 * b + i : Nat) : Int) v) ro no lv := by
        intro v
        exact ⟨by rw [hg_ne _ _ _ _ (by omega)]; exact n1, by rw [hg_ne _ _ _ _ (by omega)]; exact n2, by rw [hg_ne _ _ _ _ (by omega)]; exact n3, by rw [hg_ne _ _ _ _ (by omega)]; exact n4, hg_same _ _ _, by rw [hg_ne _ _ _ _ (by omega)]; exact n6, by rw [hg_ne _ _ _ _ (by omega)]; exact n7, by rw [hg_ne _ _ _ _ (by omega)]; exact n8⟩
      have fr : ∀ v : Int, Fr h (hu h1 93 (cI 0 768 (up wo1 ((128 * b + i : Nat) : Int) v))) 89 97 := fun v => Fr_tr f (Fr_hu _ (by omega) (by omega))
      cases ex : x.2.2 with
      | true =>
        have hs1 : sp ((128 * b + i : Nat) : Int) = 1 := by rw [u2, ex]; rfl
        rw [ex] at hrk
        have go := inner (-1) (rkn L i) _ (mk (-1)) (fr (-1)) (by rw [ex]) (by rw [hrk]; rfl) (sz - 1) 0 (by omega)
        rw [show 1 + ((0 : Nat) : Int) = 1 from rfl, show ((128 * b + i : Nat) : Int) + 1 + ((0 : Nat) : Int) = ((128 * b + i : Nat) : Int) + 1 by omega] at go
        rw [w51_22]
        try simp (disch := omega) only [w51_0, w51_48, w51_49, w51_65, w51_66, w51_112, w51_113, w51_126, w51_127, w51_136, w51_151, e51, x_iconst, x_bipush, x_sipush, x_ldc, x_lconst, x_ldc2l, x_dconst, x_ldc2d, x_ldcf, x_iadd, x_isub, x_imul, x_idiv, x_irem, x_ishl, x_ishr, x_iand, x_ior, x_ixor, x_ladd, x_lsub, x_lmul, x_ldiv, x_lrem, x_lshl, x_lshr, x_lor, x_land, x_lcmp, x_i2l, x_l2i, x_i2b, x_i2f, x_l2f, x_l2d, x_f2d, x_d2l, x_fdiv, x_dadd, x_dsub, x_dmul, x_ddiv, x_dcmp, x_fcmp, x_dup, x_pop, x_dup2, x_objinit, x_rawF, x_rawD, gV_0, gV_1, gV_2, gV_3, gV_4, gV_S, x_iload, x_lload, x_fload, x_dload, x_aload, x_istore, x_fstore, x_astore, x_lstore, x_dstore, gX_I, x_iinc, x_getf, x_putfI, x_putfL, x_putfR, x_iald, x_bald, x_zald, x_lald, x_dald, x_aald, x_iast, x_bast, x_zast, x_last, x_dast, x_aast, x_alen, x_new, x_newa, x_anew, x_acopy, x_sld, x_slen, x_fall, x_goto, x_if, x_cmp, x_tsw, x_lsw, x_ret, x_iret, x_zret, x_lret, x_fret, x_dret, x_aret, x_callr, x_callv, x_calli, x_calls, rcv_R, isO_cO, JW_def, kO_some, sk4, cats_nil, cats_I, cats_L, cats_F, cats_D, cats_R, cats_S, Nat.reduceAdd, Nat.reduceLeDiff, inr, inq, Int.reduceEq, Int.reduceLT, Int.reduceLE, Int.reduceNeg, not_false_eq_true, not_true_eq_false, false_implies, and_self, pk_nil, pk_cons, wk_0, wk_1, wk_2, wk_3, wk_4, swt_nil, swt_cons, swl_nil, swl_cons, c3_eq, c3_lt, c3_ge, c3_le, c3_gt, c3_inr, c3_inr2, cnd_0, cnd_1, cnd_2, cnd_3, cnd_4, cnd_5, wide_I, wide_R, wide_L, wide_F, wide_D, wide_S, nw_I, nw_L, nw_F, nw_D, nw_U, nw_R, nw_S, fgo_cO, fso_cO, Option.map_some, alo_cI, ado_cD, aro_cR, ano_cI, ano_cD, lst, List.getElem?_cons_zero, List.getElem?_cons_succ, List.set_cons_zero, List.set_cons_succ, and_true, true_and, true_implies, forall_const, true_or, or_true, hg_same, hg_ne,  p0, n2, n5, hs1]
        rw [Int.add_zero]
        exact ⟨by omega, fun q => by omega, fun _ => ⟨by omega, by omega, by omega, go⟩⟩
      | false =>
        have hs1 : sp ((128 * b + i : Nat) : Int) = 0 := by rw [u2, ex]; rfl
        rw [ex] at hrk
        have go := inner (rkn L i) (rkn L i + 1) _ (mk _) (fr _) (by rw [ex]) (by rw [hrk]; rfl) (sz - 1) 0 (by omega)
        rw [show 1 + ((0 : Nat) : Int) = 1 from rfl, show ((128 * b + i : Nat) : Int) + 1 + ((0 : Nat) : Int) = ((128 * b + i : Nat) : Int) + 1 by omega] at go
        rw [w51_22]
        try simp (disch := omega) only [w51_0, w51_48, w51_49, w51_65, w51_66, w51_112, w51_113, w51_126, w51_127, w51_136, w51_151, e51, x_iconst, x_bipush, x_sipush, x_ldc, x_lconst, x_ldc2l, x_dconst, x_ldc2d, x_ldcf, x_iadd, x_isub, x_imul, x_idiv, x_irem, x_ishl, x_ishr, x_iand, x_ior, x_ixor, x_ladd, x_lsub, x_lmul, x_ldiv, x_lrem, x_lshl, x_lshr, x_lor, x_land, x_lcmp, x_i2l, x_l2i, x_i2b, x_i2f, x_l2f, x_l2d, x_f2d, x_d2l, x_fdiv, x_dadd, x_dsub, x_dmul, x_ddiv, x_dcmp, x_fcmp, x_dup, x_pop, x_dup2, x_objinit, x_rawF, x_rawD, gV_0, gV_1, gV_2, gV_3, gV_4, gV_S, x_iload, x_lload, x_fload, x_dload, x_aload, x_istore, x_fstore, x_astore, x_lstore, x_dstore, gX_I, x_iinc, x_getf, x_putfI, x_putfL, x_putfR, x_iald, x_bald, x_zald, x_lald, x_dald, x_aald, x_iast, x_bast, x_zast, x_last, x_dast, x_aast, x_alen, x_new, x_newa, x_anew, x_acopy, x_sld, x_slen, x_fall, x_goto, x_if, x_cmp, x_tsw, x_lsw, x_ret, x_iret, x_zret, x_lret, x_fret, x_dret, x_aret, x_callr, x_callv, x_calli, x_calls, rcv_R, isO_cO, JW_def, kO_some, sk4, cats_nil, cats_I, cats_L, cats_F, cats_D, cats_R, cats_S, Nat.reduceAdd, Nat.reduceLeDiff, inr, inq, Int.reduceEq, Int.reduceLT, Int.reduceLE, Int.reduceNeg, not_false_eq_true, not_true_eq_false, false_implies, and_self, pk_nil, pk_cons, wk_0, wk_1, wk_2, wk_3, wk_4, swt_nil, swt_cons, swl_nil, swl_cons, c3_eq, c3_lt, c3_ge, c3_le, c3_gt, c3_inr, c3_inr2, cnd_0, cnd_1, cnd_2, cnd_3, cnd_4, cnd_5, wide_I, wide_R, wide_L, wide_F, wide_D, wide_S, nw_I, nw_L, nw_F, nw_D, nw_U, nw_R, nw_S, fgo_cO, fso_cO, Option.map_some, alo_cI, ado_cD, aro_cR, ano_cI, ano_cD, lst, List.getElem?_cons_zero, List.getElem?_cons_succ, List.set_cons_zero, List.set_cons_succ, and_true, true_and, true_implies, forall_const, true_or, or_true, hg_same, hg_ne,  p0, n2, n5, hs1]
        exact ⟨by omega, fun q => by omega, fun _ => ⟨by omega, by omega, by omega, go⟩⟩
  have go := outer L.length 0 h sn wo pU pU pU (by omega) (Fr_rf _ _ _) t (fun j x hj => by omega) (SB_rf _ _ _) (SB_rf _ _ _)
  rw [show ((rkn L 0 : Nat) : Int) = 0 from rfl, show ((128 * b + 0 : Nat) : Int) = 128 * (b : Int) by omega] at go
  try simp (disch := omega) only [w51_0, w51_48, w51_49, w51_65, w51_66, w51_112, w51_113, w51_126, w51_127, w51_136, w51_151, e51, x_iconst, x_bipush, x_sipush, x_ldc, x_lconst, x_ldc2l, x_dconst, x_ldc2d, x_ldcf, x_iadd, x_isub, x_imul, x_idiv, x_irem, x_ishl, x_ishr, x_iand, x_ior, x_ixor, x_ladd, x_lsub, x_lmul, x_ldiv, x_lrem, x_lshl, x_lshr, x_lor, x_land, x_lcmp, x_i2l, x_l2i, x_i2b, x_i2f, x_l2f, x_l2d, x_f2d, x_d2l, x_fdiv, x_dadd, x_dsub, x_dmul, x_ddiv, x_dcmp, x_fcmp, x_dup, x_pop, x_dup2, x_objinit, x_rawF, x_rawD, gV_0, gV_1, gV_2, gV_3, gV_4, gV_S, x_iload, x_lload, x_fload, x_dload, x_aload, x_istore, x_fstore, x_astore, x_lstore, x_dstore, gX_I, x_iinc, x_getf, x_putfI, x_putfL, x_putfR, x_iald, x_bald, x_zald, x_lald, x_dald, x_aald, x_iast, x_bast, x_zast, x_last, x_dast, x_aast, x_alen, x_new, x_newa, x_anew, x_acopy, x_sld, x_slen, x_fall, x_goto, x_if, x_cmp, x_tsw, x_lsw, x_ret, x_iret, x_zret, x_lret, x_fret, x_dret, x_aret, x_callr, x_callv, x_calli, x_calls, rcv_R, isO_cO, JW_def, kO_some, sk4, cats_nil, cats_I, cats_L, cats_F, cats_D, cats_R, cats_S, Nat.reduceAdd, Nat.reduceLeDiff, inr, inq, Int.reduceEq, Int.reduceLT, Int.reduceLE, Int.reduceNeg, not_false_eq_true, not_true_eq_false, false_implies, and_self, pk_nil, pk_cons, wk_0, wk_1, wk_2, wk_3, wk_4, swt_nil, swt_cons, swl_nil, swl_cons, c3_eq, c3_lt, c3_ge, c3_le, c3_gt, c3_inr, c3_inr2, cnd_0, cnd_1, cnd_2, cnd_3, cnd_4, cnd_5, wide_I, wide_R, wide_L, wide_F, wide_D, wide_S, nw_I, nw_L, nw_F, nw_D, nw_U, nw_R, nw_S, fgo_cO, fso_cO, Option.map_some, alo_cI, ado_cD, aro_cR, ano_cI, ano_cD, lst, List.getElem?_cons_zero, List.getElem?_cons_succ, List.set_cons_zero, List.set_cons_succ, and_true, true_and, true_implies, forall_const, true_or, or_true, hg_same, hg_ne,  bo', m7]
  rw [hno]
  exact ⟨by omega, go⟩
end MT4

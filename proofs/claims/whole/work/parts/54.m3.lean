section MT3
variable {h : Hp} {fi : Int} {m Q wd ts wc : Nat} {re tm tr ph fu : Int} {le sp nu sn wo ro no lv : Int → Int}
/-- where the best leaf so far stands -/
def BR (b : Nat) (L : List Nd) (o : Option Nd) (x : Int) : Prop := match o with
  | none => x = -1
  | some y => ∃ i : Nat, x = ((128 * b + i : Nat) : Int) ∧ L[i]? = some y
set_option maxRecDepth 20000 in
set_option maxHeartbeats 4000000 in
theorem d_likeliest (bo : MO h fi m Q wd ts wc re tm tr ph fu) (t : MTa h le sp nu sn wo ro no lv) {b : Nat} (hb : b < 6) {L : List Nd} {ν : Nat → Nat → Int} (T : MT0 le sp nu ro b L ν) (hno : no b = (L.length : Int)) (hN : L.length ≤ 128) (h8 : ∀ x ∈ L, x.1 ≤ 8 ∧ (0 ≤ ν x.1 x.2.1 * 16 ^ (8 - x.1) ∧ ν x.1 x.2.1 * 16 ^ (8 - x.1) ≤ 4294967296)) {lim : Nat × Nat} {K : QT}
    (hK : ∀ x : Int, BR b L (bs (fun d c => ν d c * 16 ^ (8 - d)) none L) x → K (pI x) h) : WM 130 [pR 87, pI b] h lim K := by
  obtain ⟨m1, m2, m3, m4, m5, m6, m7, m8⟩ := id t
  have bo' := id bo
  unfold MO at bo'
  have loop : ∀ (S P : List Nd) (o : Option Nd) (x : Int) (z : PV), L = P ++ S → BR b L o x → (bs (fun d c => ν d c * 16 ^ (8 - d)) o S = bs (fun d c => ν d c * 16 ^ (8 - d)) none L) → WP 130 8 [pR 87, pI b, pI x, pI ((128 * b + P.length : Nat) : Int), z] [] h lim K := by
    intro S
    induction S with
    | nil =>
      intro P o x z hL hx hbs
      rw [List.append_nil] at hL
      rw [w130_8]
      try simp (disch := omega) only [w130_0, w130_92, w130_96, w130_97, w130_108, w130_109, w130_110, w130_116, e130, x_iconst, x_bipush, x_sipush, x_ldc, x_lconst, x_ldc2l, x_dconst, x_ldc2d, x_ldcf, x_iadd, x_isub, x_imul, x_idiv, x_irem, x_ishl, x_ishr, x_iand, x_ior, x_ixor, x_ladd, x_lsub, x_lmul, x_ldiv, x_lrem, x_lshl, x_lshr, x_lor, x_land, x_lcmp, x_i2l, x_l2i, x_i2b, x_i2f, x_l2f, x_l2d, x_f2d, x_d2l, x_fdiv, x_dadd, x_dsub, x_dmul, x_ddiv, x_dcmp, x_fcmp, x_dup, x_pop, x_dup2, x_objinit, x_rawF, x_rawD, gV_0, gV_1, gV_2, gV_3, gV_4, gV_S, x_iload, x_lload, x_fload, x_dload, x_aload, x_istore, x_fstore, x_astore, x_lstore, x_dstore, gX_I, x_iinc, x_getf, x_putfI, x_putfL, x_putfR, x_iald, x_bald, x_zald, x_lald, x_dald, x_aald, x_iast, x_bast, x_zast, x_last, x_dast, x_aast, x_alen, x_new, x_newa, x_anew, x_acopy, x_sld, x_slen, x_fall, x_goto, x_if, x_cmp, x_tsw, x_lsw, x_ret, x_iret, x_zret, x_lret, x_fret, x_dret, x_aret, x_callr, x_callv, x_calli, x_calls, rcv_R, isO_cO, JW_def, kO_some, sk4, cats_nil, cats_I, cats_L, cats_F, cats_D, cats_R, cats_S, Nat.reduceAdd, Nat.reduceLeDiff, inr, inq, Int.reduceEq, Int.reduceLT, Int.reduceLE, Int.reduceNeg, not_false_eq_true, not_true_eq_false, false_implies, and_self, pk_nil, pk_cons, wk_0, wk_1, wk_2, wk_3, wk_4, swt_nil, swt_cons, swl_nil, swl_cons, c3_eq, c3_lt, c3_ge, c3_le, c3_gt, c3_inr, c3_inr2, cnd_0, cnd_1, cnd_2, cnd_3, cnd_4, cnd_5, wide_I, wide_R, wide_L, wide_F, wide_D, wide_S, nw_I, nw_L, nw_F, nw_D, nw_U, nw_R, nw_S, fgo_cO, fso_cO, Option.map_some, alo_cI, ado_cD, aro_cR, ano_cI, ano_cD, lst, List.getElem?_cons_zero, List.getElem?_cons_succ, List.set_cons_zero, List.set_cons_succ, and_true, true_and, true_implies, forall_const, true_or, or_true, hg_same, hg_ne,  bo', m7]
      rw [hno, hL]
      rw [hL] at hN
      refine ⟨by omega, by omega, fun _ => hK x ?_, fun q => by omega⟩
      rw [← hbs]
      exact hx
    | cons a S ih =>
      intro P o x z hL hx hbs
      have ha : L[P.length]? = some a := by
        rw [hL, List.getElem?_append_right (Nat.le_refl _), Nat.sub_self]
        rfl
      have hlen : L.length = P.length + (S.length + 1) := by rw [hL, List.length_append, List.length_cons]
      have hL2 : L = (P ++ [a]) ++ S := by rw [hL]; simp
      obtain ⟨u1, u2, u3, u4⟩ := T _ a ha
      obtain ⟨a8, a9⟩ := h8 a (List.mem_of_getElem? ha)
      have go : ∀ (x' : Int) (z : PV), BR b L (bpick (fun d c => ν d c * 16 ^ (8 - d)) a o) x' → WP 130 8 [pR 87, pI b, pI x', pI (((128 * b + P.length : Nat) : Int) + 1), z] [] h lim K := by
        intro x' z hx'
        have := ih (P ++ [a]) _ x' z hL2 hx' hbs
        rw [List.length_append, show ((128 * b + (P.length + [a].length) : Nat) : Int) = ((128 * b + P.length : Nat) : Int) + 1 by rw [List.length_singleton]; omega] at this
        exact this
      rw [w130_8]
      try simp (disch := omega) only [w130_0, w130_92, w130_96, w130_97, w130_108, w130_109, w130_110, w130_116, e130, x_iconst, x_bipush, x_sipush, x_ldc, x_lconst, x_ldc2l, x_dconst, x_ldc2d, x_ldcf, x_iadd, x_isub, x_imul, x_idiv, x_irem, x_ishl, x_ishr, x_iand, x_ior, x_ixor, x_ladd, x_lsub, x_lmul, x_ldiv, x_lrem, x_lshl, x_lshr, x_lor, x_land, x_lcmp, x_i2l, x_l2i, x_i2b, x_i2f, x_l2f, x_l2d, x_f2d, x_d2l, x_fdiv, x_dadd, x_dsub, x_dmul, x_ddiv, x_dcmp, x_fcmp, x_dup, x_pop, x_dup2, x_objinit, x_rawF, x_rawD, gV_0, gV_1, gV_2, gV_3, gV_4, gV_S, x_iload, x_lload, x_fload, x_dload, x_aload, x_istore, x_fstore, x_astore, x_lstore, x_dstore, gX_I, x_iinc, x_getf, x_putfI, x_putfL, x_putfR, x_iald, x_bald, x_zald, x_lald, x_dald, x_aald, x_iast, x_bast, x_zast, x_last, x_dast, x_aast, x_alen, x_new, x_newa, x_anew, x_acopy, x_sld, x_slen, x_fall, x_goto, x_if, x_cmp, x_tsw, x_lsw, x_ret, x_iret, x_zret, x_lret, x_fret, x_dret, x_aret, x_callr, x_callv, x_calli, x_calls, rcv_R, isO_cO, JW_def, kO_some, sk4, cats_nil, cats_I, cats_L, cats_F, cats_D, cats_R, cats_S, Nat.reduceAdd, Nat.reduceLeDiff, inr, inq, Int.reduceEq, Int.reduceLT, Int.reduceLE, Int.reduceNeg, not_false_eq_true, not_true_eq_false, false_implies, and_self, pk_nil, pk_cons, wk_0, wk_1, wk_2, wk_3, wk_4, swt_nil, swt_cons, swl_nil, swl_cons, c3_eq, c3_lt, c3_ge, c3_le, c3_gt, c3_inr, c3_inr2, cnd_0, cnd_1, cnd_2, cnd_3, cnd_4, cnd_5, wide_I, wide_R, wide_L, wide_F, wide_D, wide_S, nw_I, nw_L, nw_F, nw_D, nw_U, nw_R, nw_S, fgo_cO, fso_cO, Option.map_some, alo_cI, ado_cD, aro_cR, ano_cI, ano_cD, lst, List.getElem?_cons_zero, List.getElem?_cons_succ, List.set_cons_zero, List.set_cons_succ, and_true, true_and, true_implies, forall_const, true_or, or_true, hg_same, hg_ne,  bo', m7, m1, m2]
      rw [hno, u1, u2]
      refine ⟨by omega, by omega, fun q => by omega, fun _ => ⟨by omega, by have := bI_01 a.2.2; omega, fun q => ?_, fun q => ⟨by omega, by omega, fun q2 => ?_, fun q2 => ?_⟩⟩⟩
      · refine go x _ ?_
        rw [bpick_neg]
        · exact hx
        · intro r
          have := r.1.1
          rw [this] at q
          exact q rfl
      · refine go x _ ?_
        rw [bpick_neg]
        · exact hx
        · intro r
          have := r.1.2
          omega
      · have hop : opn a := by
          refine ⟨?_, by omega⟩
          cases e : a.2.2 with
          | false => rfl
          | true =>
            rw [e] at q
            exact absurd (show bI true = 0 by omega) (by decide)
        cases o with
        | none =>
          have hx1 : x = -1 := hx
          subst hx1
          refine ⟨by omega, fun _ => ?_, fun q => absurd rfl q⟩
          refine go _ _ ?_
          rw [bpick_pos (show opn a ∧ bt1 (fun d c => ν d c * 16 ^ (8 - d)) a none from ⟨hop, trivial⟩)]
          exact ⟨_, rfl, ha⟩
        | some y =>
          obtain ⟨i, hi1, hi2⟩ := id hx
          subst hi1
          have hi3 := (List.getElem?_eq_some_iff.mp hi2).1
          obtain ⟨y1, y2, y3, y4⟩ := T _ y hi2
          obtain ⟨y8, y9⟩ := h8 y (List.mem_of_getElem? hi2)
          have yes : bt1 (fun d c => ν d c * 16 ^ (8 - d)) a (some y) → ∀ z : PV, WP 130 8 [pR 87, pI b, pI ((128 * b + P.length : Nat) : Int), pI (((128 * b + P.length : Nat) : Int) + 1), z] [] h lim K := by
            intro r z
            refine go _ z ?_
            rw [bpick_pos ⟨hop, r⟩]
            exact ⟨_, rfl, ha⟩
          have nay : ¬ bt1 (fun d c => ν d c * 16 ^ (8 - d)) a (some y) → ∀ z : PV, WP 130 8 [pR 87, pI b, pI ((128 * b + i : Nat) : Int), pI (((128 * b + P.length : Nat) : Int) + 1), z] [] h lim K := by
            intro r z
            refine go _ z ?_
            rw [bpick_neg (fun s => r s.2)]
            exact hx
          unfold bt1 at yes nay
          simp only at yes nay
          refine ⟨by omega, fun q => by omega, fun _ => ?_⟩
          refine c_scaled bo t (by omega) u1 a8 ?_
          try simp (disch := omega) only [w130_0, w130_92, w130_96, w130_97, w130_108, w130_109, w130_110, w130_116, e130, x_iconst, x_bipush, x_sipush, x_ldc, x_lconst, x_ldc2l, x_dconst, x_ldc2d, x_ldcf, x_iadd, x_isub, x_imul, x_idiv, x_irem, x_ishl, x_ishr, x_iand, x_ior, x_ixor, x_ladd, x_lsub, x_lmul, x_ldiv, x_lrem, x_lshl, x_lshr, x_lor, x_land, x_lcmp, x_i2l, x_l2i, x_i2b, x_i2f, x_l2f, x_l2d, x_f2d, x_d2l, x_fdiv, x_dadd, x_dsub, x_dmul, x_ddiv, x_dcmp, x_fcmp, x_dup, x_pop, x_dup2, x_objinit, x_rawF, x_rawD, gV_0, gV_1, gV_2, gV_3, gV_4, gV_S, x_iload, x_lload, x_fload, x_dload, x_aload, x_istore, x_fstore, x_astore, x_lstore, x_dstore, gX_I, x_iinc, x_getf, x_putfI, x_putfL, x_putfR, x_iald, x_bald, x_zald, x_lald, x_dald, x_aald, x_iast, x_bast, x_zast, x_last, x_dast, x_aast, x_alen, x_new, x_newa, x_anew, x_acopy, x_sld, x_slen, x_fall, x_goto, x_if, x_cmp, x_tsw, x_lsw, x_ret, x_iret, x_zret, x_lret, x_fret, x_dret, x_aret, x_callr, x_callv, x_calli, x_calls, rcv_R, isO_cO, JW_def, kO_some, sk4, cats_nil, cats_I, cats_L, cats_F, cats_D, cats_R, cats_S, Nat.reduceAdd, Nat.reduceLeDiff, inr, inq, Int.reduceEq, Int.reduceLT, Int.reduceLE, Int.reduceNeg, not_false_eq_true, not_true_eq_false, false_implies, and_self, pk_nil, pk_cons, wk_0, wk_1, wk_2, wk_3, wk_4, swt_nil, swt_cons, swl_nil, swl_cons, c3_eq, c3_lt, c3_ge, c3_le, c3_gt, c3_inr, c3_inr2, cnd_0, cnd_1, cnd_2, cnd_3, cnd_4, cnd_5, wide_I, wide_R, wide_L, wide_F, wide_D, wide_S, nw_I, nw_L, nw_F, nw_D, nw_U, nw_R, nw_S, fgo_cO, fso_cO, Option.map_some, alo_cI, ado_cD, aro_cR, ano_cI, ano_cD, lst, List.getElem?_cons_zero, List.getElem?_cons_succ, List.set_cons_zero, List.set_cons_succ, and_true, true_and, true_implies, forall_const, true_or, or_true, hg_same, hg_ne,  bo']
          refine c_scaled bo t (by omega) y1 y8 ?_
          rw [u3, y3]
          try simp (disch := omega) only [w130_0, w130_92, w130_96, w130_97, w130_108, w130_109, w130_110, w130_116, e130, x_iconst, x_bipush, x_sipush, x_ldc, x_lconst, x_ldc2l, x_dconst, x_ldc2d, x_ldcf, x_iadd, x_isub, x_imul, x_idiv, x_irem, x_ishl, x_ishr, x_iand, x_ior, x_ixor, x_ladd, x_lsub, x_lmul, x_ldiv, x_lrem, x_lshl, x_lshr, x_lor, x_land, x_lcmp, x_i2l, x_l2i, x_i2b, x_i2f, x_l2f, x_l2d, x_f2d, x_d2l, x_fdiv, x_dadd, x_dsub, x_dmul, x_ddiv, x_dcmp, x_fcmp, x_dup, x_pop, x_dup2, x_objinit, x_rawF, x_rawD, gV_0, gV_1, gV_2, gV_3, gV_4, gV_S, x_iload, x_lload, x_fload, x_dload, x_aload, x_istore, x_fstore, x_astore, x_lstore, x_dstore, gX_I, x_iinc, x_getf, x_putfI, x_putfL, x_putfR, x_iald, x_bald, x_zald, x_lald, x_dald, x_aald, x_iast, x_bast, x_zast, x_last, x_dast, x_aast, x_alen, x_new, x_newa, x_anew, x_acopy, x_sld, x_slen, x_fall, x_goto, x_if, x_cmp, x_tsw, x_lsw, x_ret, x_iret, x_zret, x_lret, x_fret, x_dret, x_aret, x_callr, x_callv, x_calli, x_calls, rcv_R, isO_cO, JW_def, kO_some, sk4, cats_nil, cats_I, cats_L, cats_F, cats_D, cats_R, cats_S, Nat.reduceAdd, Nat.reduceLeDiff, inr, inq, Int.reduceEq, Int.reduceLT, Int.reduceLE, Int.reduceNeg, not_false_eq_true, not_true_eq_false, false_implies, and_self, pk_nil, pk_cons, wk_0, wk_1, wk_2, wk_3, wk_4, swt_nil, swt_cons, swl_nil, swl_cons, c3_eq, c3_lt, c3_ge, c3_le, c3_gt, c3_inr, c3_inr2, cnd_0, cnd_1, cnd_2, cnd_3, cnd_4, cnd_5, wide_I, wide_R, wide_L, wide_F, wide_D, wide_S, nw_I, nw_L, nw_F, nw_D, nw_U, nw_R, nw_S, fgo_cO, fso_cO, Option.map_some, alo_cI, ado_cD, aro_cR, ano_cI, ano_cD, lst, List.getElem?_cons_zero, List.getElem?_cons_succ, List.set_cons_zero, List.set_cons_succ, and_true, true_and, true_implies, forall_const, true_or, or_true, hg_same, hg_ne,  bo']
          refine ⟨Or.inr (by omega), fun q3 => yes (Or.inl q3) _, fun q3 => ?_⟩
          refine c_scaled bo t (by omega) u1 a8 ?_
          try simp (disch := omega) only [w130_0, w130_92, w130_96, w130_97, w130_108, w130_109, w130_110, w130_116, e130, x_iconst, x_bipush, x_sipush, x_ldc, x_lconst, x_ldc2l, x_dconst, x_ldc2d, x_ldcf, x_iadd, x_isub, x_imul, x_idiv, x_irem, x_ishl, x_ishr, x_iand, x_ior, x_ixor, x_ladd, x_lsub, x_lmul, x_ldiv, x_lrem, x_lshl, x_lshr, x_lor, x_land, x_lcmp, x_i2l, x_l2i, x_i2b, x_i2f, x_l2f, x_l2d, x_f2d, x_d2l, x_fdiv, x_dadd, x_dsub, x_dmul, x_ddiv, x_dcmp, x_fcmp, x_dup, x_pop, x_dup2, x_objinit, x_rawF, x_rawD, gV_0, gV_1, gV_2, gV_3, gV_4, gV_S, x_iload, x_lload, x_fload, x_dload, x_aload, x_istore, x_fstore, x_astore, x_lstore, x_dstore, gX_I, x_iinc, x_getf, x_putfI, x_putfL, x_putfR, x_iald, x_bald, x_zald, x_lald, x_dald, x_aald, x_iast, x_bast, x_zast, x_last, x_dast, x_aast, x_alen, x_new, x_newa, x_anew, x_acopy, x_sld, x_slen, x_fall, x_goto, x_if, x_cmp, x_tsw, x_lsw, x_ret, x_iret, x_zret, x_lret, x_fret, x_dret, x_aret, x_callr, x_callv, x_calli, x_calls, rcv_R, isO_cO, JW_def, kO_some, sk4, cats_nil, cats_I, cats_L, cats_F, cats_D, cats_R, cats_S, Nat.reduceAdd, Nat.reduceLeDiff, inr, inq, Int.reduceEq, Int.reduceLT, Int.reduceLE, Int.reduceNeg, not_false_eq_true, not_true_eq_false, false_implies, and_self, pk_nil, pk_cons, wk_0, wk_1, wk_2, wk_3, wk_4, swt_nil, swt_cons, swl_nil, swl_cons, c3_eq, c3_lt, c3_ge, c3_le, c3_gt, c3_inr, c3_inr2, cnd_0, cnd_1, cnd_2, cnd_3, cnd_4, cnd_5, wide_I, wide_R, wide_L, wide_F, wide_D, wide_S, nw_I, nw_L, nw_F, nw_D, nw_U, nw_R, nw_S, fgo_cO, fso_cO, Option.map_some, alo_cI, ado_cD, aro_cR, ano_cI, ano_cD, lst, List.getElem?_cons_zero, List.getElem?_cons_succ, List.set_cons_zero, List.set_cons_succ, and_true, true_and, true_implies, forall_const, true_or, or_true, hg_same, hg_ne,  bo']
          refine c_scaled bo t (by omega) y1 y8 ?_
          rw [u3, y3]
          try simp (disch := omega) only [w130_0, w130_92, w130_96, w130_97, w130_108, w130_109, w130_110, w130_116, e130, x_iconst, x_bipush, x_sipush, x_ldc, x_lconst, x_ldc2l, x_dconst, x_ldc2d, x_ldcf, x_iadd, x_isub, x_imul, x_idiv, x_irem, x_ishl, x_ishr, x_iand, x_ior, x_ixor, x_ladd, x_lsub, x_lmul, x_ldiv, x_lrem, x_lshl, x_lshr, x_lor, x_land, x_lcmp, x_i2l, x_l2i, x_i2b, x_i2f, x_l2f, x_l2d, x_f2d, x_d2l, x_fdiv, x_dadd, x_dsub, x_dmul, x_ddiv, x_dcmp, x_fcmp, x_dup, x_pop, x_dup2, x_objinit, x_rawF, x_rawD, gV_0, gV_1, gV_2, gV_3, gV_4, gV_S, x_iload, x_lload, x_fload, x_dload, x_aload, x_istore, x_fstore, x_astore, x_lstore, x_dstore, gX_I, x_iinc, x_getf, x_putfI, x_putfL, x_putfR, x_iald, x_bald, x_zald, x_lald, x_dald, x_aald, x_iast, x_bast, x_zast, x_last, x_dast, x_aast, x_alen, x_new, x_newa, x_anew, x_acopy, x_sld, x_slen, x_fall, x_goto, x_if, x_cmp, x_tsw, x_lsw, x_ret, x_iret, x_zret, x_lret, x_fret, x_dret, x_aret, x_callr, x_callv, x_calli, x_calls, rcv_R, isO_cO, JW_def, kO_some, sk4, cats_nil, cats_I, cats_L, cats_F, cats_D, cats_R, cats_S, Nat.reduceAdd, Nat.reduceLeDiff, inr, inq, Int.reduceEq, Int.reduceLT, Int.reduceLE, Int.reduceNeg, not_false_eq_true, not_true_eq_false, false_implies, and_self, pk_nil, pk_cons, wk_0, wk_1, wk_2, wk_3, wk_4, swt_nil, swt_cons, swl_nil, swl_cons, c3_eq, c3_lt, c3_ge, c3_le, c3_gt, c3_inr, c3_inr2, cnd_0, cnd_1, cnd_2, cnd_3, cnd_4, cnd_5, wide_I, wide_R, wide_L, wide_F, wide_D, wide_S, nw_I, nw_L, nw_F, nw_D, nw_U, nw_R, nw_S, fgo_cO, fso_cO, Option.map_some, alo_cI, ado_cD, aro_cR, ano_cI, ano_cD, lst, List.getElem?_cons_zero, List.getElem?_cons_succ, List.set_cons_zero, List.set_cons_succ, and_true, true_and, true_implies, forall_const, true_or, or_true, hg_same, hg_ne,  bo', m1]
          rw [u1, y1]
          refine ⟨Or.inr (by omega), fun q4 => nay (by omega) _, fun q4 => ⟨by omega, by omega, by omega, fun q5 => nay (by omega) _, fun q5 => yes (by omega) _⟩⟩
  try simp (disch := omega) only [w130_0, w130_92, w130_96, w130_97, w130_108, w130_109, w130_110, w130_116, e130, x_iconst, x_bipush, x_sipush, x_ldc, x_lconst, x_ldc2l, x_dconst, x_ldc2d, x_ldcf, x_iadd, x_isub, x_imul, x_idiv, x_irem, x_ishl, x_ishr, x_iand, x_ior, x_ixor, x_ladd, x_lsub, x_lmul, x_ldiv, x_lrem, x_lshl, x_lshr, x_lor, x_land, x_lcmp, x_i2l, x_l2i, x_i2b, x_i2f, x_l2f, x_l2d, x_f2d, x_d2l, x_fdiv, x_dadd, x_dsub, x_dmul, x_ddiv, x_dcmp, x_fcmp, x_dup, x_pop, x_dup2, x_objinit, x_rawF, x_rawD, gV_0, gV_1, gV_2, gV_3, gV_4, gV_S, x_iload, x_lload, x_fload, x_dload, x_aload, x_istore, x_fstore, x_astore, x_lstore, x_dstore, gX_I, x_iinc, x_getf, x_putfI, x_putfL, x_putfR, x_iald, x_bald, x_zald, x_lald, x_dald, x_aald, x_iast, x_bast, x_zast, x_last, x_dast, x_aast, x_alen, x_new, x_newa, x_anew, x_acopy, x_sld, x_slen, x_fall, x_goto, x_if, x_cmp, x_tsw, x_lsw, x_ret, x_iret, x_zret, x_lret, x_fret, x_dret, x_aret, x_callr, x_callv, x_calli, x_calls, rcv_R, isO_cO, JW_def, kO_some, sk4, cats_nil, cats_I, cats_L, cats_F, cats_D, cats_R, cats_S, Nat.reduceAdd, Nat.reduceLeDiff, inr, inq, Int.reduceEq, Int.reduceLT, Int.reduceLE, Int.reduceNeg, not_false_eq_true, not_true_eq_false, false_implies, and_self, pk_nil, pk_cons, wk_0, wk_1, wk_2, wk_3, wk_4, swt_nil, swt_cons, swl_nil, swl_cons, c3_eq, c3_lt, c3_ge, c3_le, c3_gt, c3_inr, c3_inr2, cnd_0, cnd_1, cnd_2, cnd_3, cnd_4, cnd_5, wide_I, wide_R, wide_L, wide_F, wide_D, wide_S, nw_I, nw_L, nw_F, nw_D, nw_U, nw_R, nw_S, fgo_cO, fso_cO, Option.map_some, alo_cI, ado_cD, aro_cR, ano_cI, ano_cD, lst, List.getElem?_cons_zero, List.getElem?_cons_succ, List.set_cons_zero, List.set_cons_succ, and_true, true_and, true_implies, forall_const, true_or, or_true, hg_same, hg_ne]
  exact loop L [] none (-1) _ (by simp) rfl rfl
end MT3

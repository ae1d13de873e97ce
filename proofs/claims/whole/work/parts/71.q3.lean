section Q3
variable {h : Hp} {fi : Int} {m Q wd ts wc : Nat} {re tm tr ph fu : Int} {le sp nu sn wo ro no lv : Int → Int}
set_option maxRecDepth 20000 in
set_option maxHeartbeats 4000000 in
theorem d_child (bo : MO h fi m Q wd ts wc re tm tr ph fu) (e4 : hg h 92 = some (cI 0 768 sn)) {b : Nat} (hb : b < 6) (hm : m ≤ 8) {S : Nat → Nat → Bool} {L : List Nd} (hN : L.length ≤ 128) (T1 : MT1 sn wo b m S L) {i d c l : Nat} (hd : d < 8) (hS : S d c = true) (hB : Blk m S L i d c) (hl : l < m) {lim : Nat × Nat} {K : QT} (hK : K (pI ((128 * b + (i + 1 + ssz m S d c l) : Nat) : Int)) h) : WM 59 [pR 87, pI ((128 * b + i : Nat) : Int), pI l] h lim K := by
  unfold MO at bo
  have loop : ∀ (y k : Nat), y + k = l → WP 59 7 [pR 87, pI ((128 * b + i : Nat) : Int), pI l, pI ((128 * b + (i + 1 + ssz m S d c k) : Nat) : Int), pI k] [] h lim K := by
    intro y
    induction y with
    | zero =>
      intro k hy
      have e : k = l := by omega
      subst e
      rw [w59_7]
      try simp (disch := omega) only [w59_0, w59_28, e59, x_iconst, x_bipush, x_sipush, x_ldc, x_lconst, x_ldc2l, x_dconst, x_ldc2d, x_ldcf, x_iadd, x_isub, x_imul, x_idiv, x_irem, x_ishl, x_ishr, x_iand, x_ior, x_ixor, x_ladd, x_lsub, x_lmul, x_ldiv, x_lrem, x_lshl, x_lshr, x_lor, x_land, x_lcmp, x_i2l, x_l2i, x_i2b, x_i2f, x_l2f, x_l2d, x_f2d, x_d2l, x_fdiv, x_dadd, x_dsub, x_dmul, x_ddiv, x_dcmp, x_fcmp, x_dup, x_pop, x_dup2, x_objinit, x_rawF, x_rawD, gV_0, gV_1, gV_2, gV_3, gV_4, gV_S, x_iload, x_lload, x_fload, x_dload, x_aload, x_istore, x_fstore, x_astore, x_lstore, x_dstore, gX_I, x_iinc, x_getf, x_putfI, x_putfL, x_putfR, x_iald, x_bald, x_zald, x_lald, x_dald, x_aald, x_iast, x_bast, x_zast, x_last, x_dast, x_aast, x_alen, x_new, x_newa, x_anew, x_acopy, x_sld, x_slen, x_fall, x_goto, x_if, x_cmp, x_tsw, x_lsw, x_ret, x_iret, x_zret, x_lret, x_fret, x_dret, x_aret, x_callr, x_callv, x_calli, x_calls, rcv_R, isO_cO, JW_def, kO_some, sk4, cats_nil, cats_I, cats_L, cats_F, cats_D, cats_R, cats_S, Nat.reduceAdd, Nat.reduceLeDiff, inr, inq, Int.reduceEq, Int.reduceLT, Int.reduceLE, Int.reduceNeg, not_false_eq_true, not_true_eq_false, false_implies, and_self, pk_nil, pk_cons, wk_0, wk_1, wk_2, wk_3, wk_4, swt_nil, swt_cons, swl_nil, swl_cons, c3_eq, c3_lt, c3_ge, c3_le, c3_gt, c3_inr, c3_inr2, cnd_0, cnd_1, cnd_2, cnd_3, cnd_4, cnd_5, wide_I, wide_R, wide_L, wide_F, wide_D, wide_S, nw_I, nw_L, nw_F, nw_D, nw_U, nw_R, nw_S, fgo_cO, fso_cO, Option.map_some, alo_cI, ado_cD, aro_cR, ano_cI, ano_cD, lst, List.getElem?_cons_zero, List.getElem?_cons_succ, List.set_cons_zero, List.set_cons_succ, and_true, true_and, true_implies, forall_const, true_or, or_true, hg_same, hg_ne]
      exact ⟨by omega, fun _ => hK, fun q => by omega⟩
    | succ y ih =>
      intro k hy
      have ih2 := ih (k + 1) (by omega)
      have hBk := blk_child hd hS (show k < m by omega) hB
      obtain ⟨s, hs⟩ := blk_at hBk
      obtain ⟨u1, -⟩ := T1 _ _ hs
      have hil := (List.getElem?_eq_some_iff.mp hs).1
      rw [show ssz m S d c (k + 1) = ssz m S d c k + szN m S (d + 1) (8 * c + k) from rfl, show ((k + 1 : Nat) : Int) = (k : Int) + 1 by omega, show ((128 * b + (i + 1 + (ssz m S d c k + szN m S (d + 1) (8 * c + k))) : Nat) : Int) = ((128 * b + (i + 1 + ssz m S d c k) : Nat) : Int) + (szN m S (d + 1) (8 * c + k) : Int) by omega] at ih2
      rw [w59_7]
      try simp (disch := omega) only [w59_0, w59_28, e59, x_iconst, x_bipush, x_sipush, x_ldc, x_lconst, x_ldc2l, x_dconst, x_ldc2d, x_ldcf, x_iadd, x_isub, x_imul, x_idiv, x_irem, x_ishl, x_ishr, x_iand, x_ior, x_ixor, x_ladd, x_lsub, x_lmul, x_ldiv, x_lrem, x_lshl, x_lshr, x_lor, x_land, x_lcmp, x_i2l, x_l2i, x_i2b, x_i2f, x_l2f, x_l2d, x_f2d, x_d2l, x_fdiv, x_dadd, x_dsub, x_dmul, x_ddiv, x_dcmp, x_fcmp, x_dup, x_pop, x_dup2, x_objinit, x_rawF, x_rawD, gV_0, gV_1, gV_2, gV_3, gV_4, gV_S, x_iload, x_lload, x_fload, x_dload, x_aload, x_istore, x_fstore, x_astore, x_lstore, x_dstore, gX_I, x_iinc, x_getf, x_putfI, x_putfL, x_putfR, x_iald, x_bald, x_zald, x_lald, x_dald, x_aald, x_iast, x_bast, x_zast, x_last, x_dast, x_aast, x_alen, x_new, x_newa, x_anew, x_acopy, x_sld, x_slen, x_fall, x_goto, x_if, x_cmp, x_tsw, x_lsw, x_ret, x_iret, x_zret, x_lret, x_fret, x_dret, x_aret, x_callr, x_callv, x_calli, x_calls, rcv_R, isO_cO, JW_def, kO_some, sk4, cats_nil, cats_I, cats_L, cats_F, cats_D, cats_R, cats_S, Nat.reduceAdd, Nat.reduceLeDiff, inr, inq, Int.reduceEq, Int.reduceLT, Int.reduceLE, Int.reduceNeg, not_false_eq_true, not_true_eq_false, false_implies, and_self, pk_nil, pk_cons, wk_0, wk_1, wk_2, wk_3, wk_4, swt_nil, swt_cons, swl_nil, swl_cons, c3_eq, c3_lt, c3_ge, c3_le, c3_gt, c3_inr, c3_inr2, cnd_0, cnd_1, cnd_2, cnd_3, cnd_4, cnd_5, wide_I, wide_R, wide_L, wide_F, wide_D, wide_S, nw_I, nw_L, nw_F, nw_D, nw_U, nw_R, nw_S, fgo_cO, fso_cO, Option.map_some, alo_cI, ado_cD, aro_cR, ano_cI, ano_cD, lst, List.getElem?_cons_zero, List.getElem?_cons_succ, List.set_cons_zero, List.set_cons_succ, and_true, true_and, true_implies, forall_const, true_or, or_true, hg_same, hg_ne,  bo, e4]
      rw [u1]
      exact ⟨by omega, fun q => by omega, fun _ => ⟨by omega, ih2⟩⟩
  have := loop l 0 (by omega)
  rw [show ((128 * b + (i + 1 + ssz m S d c 0) : Nat) : Int) = ((128 * b + i : Nat) : Int) + 1 by show ((128 * b + (i + 1 + 0) : Nat) : Int) = _; omega] at this
  try simp (disch := omega) only [w59_0, w59_28, e59, x_iconst, x_bipush, x_sipush, x_ldc, x_lconst, x_ldc2l, x_dconst, x_ldc2d, x_ldcf, x_iadd, x_isub, x_imul, x_idiv, x_irem, x_ishl, x_ishr, x_iand, x_ior, x_ixor, x_ladd, x_lsub, x_lmul, x_ldiv, x_lrem, x_lshl, x_lshr, x_lor, x_land, x_lcmp, x_i2l, x_l2i, x_i2b, x_i2f, x_l2f, x_l2d, x_f2d, x_d2l, x_fdiv, x_dadd, x_dsub, x_dmul, x_ddiv, x_dcmp, x_fcmp, x_dup, x_pop, x_dup2, x_objinit, x_rawF, x_rawD, gV_0, gV_1, gV_2, gV_3, gV_4, gV_S, x_iload, x_lload, x_fload, x_dload, x_aload, x_istore, x_fstore, x_astore, x_lstore, x_dstore, gX_I, x_iinc, x_getf, x_putfI, x_putfL, x_putfR, x_iald, x_bald, x_zald, x_lald, x_dald, x_aald, x_iast, x_bast, x_zast, x_last, x_dast, x_aast, x_alen, x_new, x_newa, x_anew, x_acopy, x_sld, x_slen, x_fall, x_goto, x_if, x_cmp, x_tsw, x_lsw, x_ret, x_iret, x_zret, x_lret, x_fret, x_dret, x_aret, x_callr, x_callv, x_calli, x_calls, rcv_R, isO_cO, JW_def, kO_some, sk4, cats_nil, cats_I, cats_L, cats_F, cats_D, cats_R, cats_S, Nat.reduceAdd, Nat.reduceLeDiff, inr, inq, Int.reduceEq, Int.reduceLT, Int.reduceLE, Int.reduceNeg, not_false_eq_true, not_true_eq_false, false_implies, and_self, pk_nil, pk_cons, wk_0, wk_1, wk_2, wk_3, wk_4, swt_nil, swt_cons, swl_nil, swl_cons, c3_eq, c3_lt, c3_ge, c3_le, c3_gt, c3_inr, c3_inr2, cnd_0, cnd_1, cnd_2, cnd_3, cnd_4, cnd_5, wide_I, wide_R, wide_L, wide_F, wide_D, wide_S, nw_I, nw_L, nw_F, nw_D, nw_U, nw_R, nw_S, fgo_cO, fso_cO, Option.map_some, alo_cI, ado_cD, aro_cR, ano_cI, ano_cD, lst, List.getElem?_cons_zero, List.getElem?_cons_succ, List.set_cons_zero, List.set_cons_succ, and_true, true_and, true_implies, forall_const, true_or, or_true, hg_same, hg_ne]
  exact this
set_option maxRecDepth 20000 in
set_option maxHeartbeats 4000000 in
theorem d_tells (bo : MO h fi m Q wd ts wc re tm tr ph fu) (t : MTa h le sp nu sn wo ro no lv) {wf : Int → Int} {F K' : Nat} (hF : F + Q ≤ 6) (hm : 2 ≤ m ∧ m ≤ 5) (hQ : 1 ≤ Q ∧ Q ≤ 3) (hK1 : 1 ≤ K' ∧ 1 + K' * m ≤ 127 ∧ 1 + K' * (m - 1) ≤ 64) (T : ∀ q : Nat, q < Q → MTr le sp nu sn wo ro no lv (F + q) m (scF Q q wf) (numF Q q wf) K') {f1 td0 tx : Int → Int} (e1 : hg h 100 = some (cI 0 80 f1)) (hf1 : ∀ i : Int, 0 ≤ i → i < ts → f1 i = tx i) (e2 : hg h 102 = some (cI 0 80 td0)) (v2 : TOK m ts tx) {lim : Nat × Nat} {K : QT}
    (hK : ∀ (h' : Hp) (td : Int → Int), FrP (fun k => k = 87 ∨ k = 102) h h' → MO h' fi m Q wd ts wc re ((encW m Q K' wf tx ts).length : Int) ((encF m Q K' wf tx ts).2.1 : Int) ph fu → hg h' 102 = some (cI 0 80 td) → AW (encW m Q K' wf tx ts) td → K pU h') : WM 109 [pR 87, pI F] h lim K := by
  have bo' := id bo
  unfold MO at bo'
  have hm8 : m ≤ 8 := by omega
  obtain ⟨hts, htx⟩ := v2
  obtain ⟨m1, m2, m3, m4, m5, m6, m7, m8⟩ := id t
  have enc := fun k (hk : k ≤ ts) => encF_ok (wf := wf) (tx := tx) hm.1 hm8 (show 0 < Q by omega) hK1.1 (show 1 + K' * (m - 1) < 256 by omega) k (fun i i0 i1 => htx i i0 (by omega))
  have outer : ∀ (y p st : Nat) (ws : List Nat) (h1 : Hp) (td : Int → Int) (z5 z6 : PV), ts - p ≤ y → p ≤ ts → encF m Q K' wf tx p = (st, 0, 0, ws) → FrP (fun k => k = 87 ∨ k = 102) h h1 → MO h1 fi m Q wd ts wc re (ws.length : Int) 0 ph fu → hg h1 102 = some (cI 0 80 td) → AW ws td → WP 109 17 [pR 87, pI F, pI p, pI st, pI ws.length, z5, z6] [] h1 lim K := by
    intro y
    induction y with
    | zero =>
      intro p st ws h1 td z5 z6 hy hp he f o1 e3 hA
      have ep : p = ts := by omega
      subst ep
      have o1' := id o1
      unfold MO at o1'
      have hW : encW m Q K' wf tx p = ws := by
        unfold encW
        rw [he]
        exact if_pos rfl
      have k := hK h1 td
      rw [hW, he] at k
      have k2 := k f o1 e3 hA
      obtain ⟨-, -, i3, -⟩ := enc p (Nat.le_refl _)
      rw [he] at i3
      simp only at i3
      rw [w109_17]
      try simp (disch := omega) only [w109_0, w109_92, w109_113, w109_114, w109_147, w109_193, e109, x_iconst, x_bipush, x_sipush, x_ldc, x_lconst, x_ldc2l, x_dconst, x_ldc2d, x_ldcf, x_iadd, x_isub, x_imul, x_idiv, x_irem, x_ishl, x_ishr, x_iand, x_ior, x_ixor, x_ladd, x_lsub, x_lmul, x_ldiv, x_lrem, x_lshl, x_lshr, x_lor, x_land, x_lcmp, x_i2l, x_l2i, x_i2b, x_i2f, x_l2f, x_l2d, x_f2d, x_d2l, x_fdiv, x_dadd, x_dsub, x_dmul, x_ddiv, x_dcmp, x_fcmp, x_dup, x_pop, x_dup2, x_objinit, x_rawF, x_rawD, gV_0, gV_1, gV_2, gV_3, gV_4, gV_S, x_iload, x_lload, x_fload, x_dload, x_aload, x_istore, x_fstore, x_astore, x_lstore, x_dstore, gX_I, x_iinc, x_getf, x_putfI, x_putfL, x_putfR, x_iald, x_bald, x_zald, x_lald, x_dald, x_aald, x_iast, x_bast, x_zast, x_last, x_dast, x_aast, x_alen, x_new, x_newa, x_anew, x_acopy, x_sld, x_slen, x_fall, x_goto, x_if, x_cmp, x_tsw, x_lsw, x_ret, x_iret, x_zret, x_lret, x_fret, x_dret, x_aret, x_callr, x_callv, x_calli, x_calls, rcv_R, isO_cO, JW_def, kO_some, sk4, cats_nil, cats_I, cats_L, cats_F, cats_D, cats_R, cats_S, Nat.reduceAdd, Nat.reduceLeDiff, inr, inq, Int.reduceEq, Int.reduceLT, Int.reduceLE, Int.reduceNeg, not_false_eq_true, not_true_eq_false, false_implies, and_self, pk_nil, pk_cons, wk_0, wk_1, wk_2, wk_3, wk_4, swt_nil, swt_cons, swl_nil, swl_cons, c3_eq, c3_lt, c3_ge, c3_le, c3_gt, c3_inr, c3_inr2, cnd_0, cnd_1, cnd_2, cnd_3, cnd_4, cnd_5, wide_I, wide_R, wide_L, wide_F, wide_D, wide_S, nw_I, nw_L, nw_F, nw_D, nw_U, nw_R, nw_S, fgo_cO, fso_cO, Option.map_some, alo_cI, ado_cD, aro_cR, ano_cI, ano_cD, lst, List.getElem?_cons_zero, List.getElem?_cons_succ, List.set_cons_zero, List.set_cons_succ, and_true, true_and, true_implies, forall_const, true_or, or_true, hg_same, hg_ne,  o1']
      exact ⟨by omega, fun _ => k2, fun _ => ⟨by omega, fun _ => k2, fun q => by omega⟩⟩
    | succ y ih =>
      intro p st ws h1 td z5 z6 hy hp he f o1 e3 hA
      by_cases ep : p = ts
      · exact ih p st ws h1 td z5 z6 (by omega) hp he f o1 e3 hA
      · have o1' := id o1
        unfold MO at o1'
        obtain ⟨i1, i2, i3, i4⟩ := enc p hp
        rw [he] at i1 i2 i3 i4
        simp only at i1 i2 i3 i4
        obtain ⟨T1, T2, T3, T4⟩ := T st i1
        have hlen := TK_len hm.1 hm8 (scF Q st wf) (k := K') (by omega)
        generalize hL : TK m (scF Q st wf) K' = L at T3 T4 hlen i2
        have ft : ∀ k, k ≠ 87 → k ≠ 102 → hg h1 k = hg h k := fun k k0 k1 => f.1 k (by omega)
        have n1 := (ft 89 (by omega) (by omega)).trans m1
        have n2 := (ft 90 (by omega) (by omega)).trans m2
        have n4 := (ft 92 (by omega) (by omega)).trans m4
        have n5 := (ft 93 (by omega) (by omega)).trans m5
        have nx := (ft 100 (by omega) (by omega)).trans e1
        /- behind the walk -/
        have tail : ∀ (d c i l : Nat) (s : Bool) (z6 : PV), 1 ≤ d → p + d ≤ ts → L[i]? = some (d, c, s) → tx ((p + d - 1 : Nat) : Int) = (l : Int) → l < m → (s = true → p + d = ts ∧ encF m Q K' wf tx (p + d) = (st, d, c, ws)) → (s = false → encF m Q K' wf tx (p + d) = (l % Q, 0, 0, ws ++ [rkD L d c])) → WP 109 92 [pR 87, pI F, pI ((p + d : Nat) : Int), pI st, pI ws.length, pI ((128 * (F + st) + i : Nat) : Int), z6] [] h1 lim K := by
          intro d c i l s z6 hd1 hpd hix hl hlm ht hf
          have hil := (List.getElem?_eq_some_iff.mp hix).1
          obtain ⟨u1, u2, u3, u4⟩ := T3 i _ hix
          have hd8 : d ≤ 8 := by
            have := TK_8 (m := m) (φ := scF Q st wf) (k := K') hm8 (x := (d, c, s)) (by rw [hL]; exact List.mem_of_getElem? hix)
            exact this
          have hrk : rkD L d c = rkn L i := by
            rw [← hL] at hix ⊢
            exact rkD_TK hm8 hix
          have hws : ws.length + 1 ≤ 80 := by omega
          /- the word is told -/
          have go : ∀ (tr2 : Int) (h2 : Hp), (tr2 = if s = true then (d : Int) else 0) → FrP (fun k => k = 87 ∨ k = 102) h h2 → MO h2 fi m Q wd ts wc re (ws.length : Int) tr2 ph fu → hg h2 102 = some (cI 0 80 td) → ∀ (x j e : Nat), x + j = L.length → rkn L j = rkn L i → j < L.length → e ≤ j → WP 109 120 [pR 87, pI F, pI ((p + d : Nat) : Int), pI st, pI ws.length, pI ((128 * (F + st) + j : Nat) : Int), pI e] [] h2 lim K := by
            intro tr2 h2 htr f2 o2 e4 x
            have o2' := id o2
            unfold MO at o2'
            have g2 := (f2.1 90 (by omega)).trans m2
            have g5 := (f2.1 93 (by omega)).trans m5
            have gx := (f2.1 100 (by omega)).trans e1
            have next : ∀ (z5 z6 : PV), WP 109 17 [pR 87, pI F, pI ((p + d : Nat) : Int), pI ((l % Q : Nat) : Int), pI ((ws.length : Int) + 1), z5, z6] [] (hu (hu h2 102 (cI 0 80 (up td ws.length (rkn L i)))) 87 (cO 6 [pI fi, pI m, pI Q, pI wd, pR 88, pR 89, pR 90, pR 91, pR 92, pR 93, pR 94, pR 95, pR 96, pR 97, pR 98, pR 99, pR 100, pI ts, pR 101, pI wc, pI re, pR 102, pI ((ws.length : Int) + 1), pI tr2, pR 103, pI ph, pR 104, pI fu, pR 105, pR 106, pR 107, pR 108, pR 109, pR 110, pR 111])) lim K := by
              intro z5 z6
              have A2 := AW_push hA (w := rkD L d c) (x := (rkn L i : Int)) (by rw [hrk])
              cases s with
              | false =>
                have he2 := hf rfl
                rw [if_neg (by decide)] at htr
                subst htr
                have := ih (p + d) (l % Q) (ws ++ [rkD L d c]) (hu (hu h2 102 (cI 0 80 (up td ws.length (rkn L i)))) 87 (cO 6 [pI fi, pI m, pI Q, pI wd, pR 88, pR 89, pR 90, pR 91, pR 92, pR 93, pR 94, pR 95, pR 96, pR 97, pR 98, pR 99, pR 100, pI ts, pR 101, pI wc, pI re, pR 102, pI ((ws.length : Int) + 1), pI 0, pR 103, pI ph, pR 104, pI fu, pR 105, pR 106, pR 107, pR 108, pR 109, pR 110, pR 111])) _ z5 z6 (by omega) (by omega) he2 (FrP_up _ (FrP_up _ f2 (Or.inr rfl)) (Or.inl rfl)) (by
                  rw [List.length_append, List.length_singleton]
                  exact hg_same _ _ _) (by rw [hg_ne _ _ _ _ (by omega)]; exact hg_same _ _ _) A2
                rw [List.length_append, List.length_singleton] at this
                exact this
              | true =>
                obtain ⟨hpt, he2⟩ := ht rfl
                rw [if_pos rfl] at htr
                subst htr
                rw [hpt] at he2
                have hW : encW m Q K' wf tx ts = ws ++ [rkD L d c] := by
                  unfold encW
                  rw [he2]
                  simp only
                  rw [if_neg (by omega), hL]
                have k := hK (hu (hu h2 102 (cI 0 80 (up td ws.length (rkn L i)))) 87 (cO 6 [pI fi, pI m, pI Q, pI wd, pR 88, pR 89, pR 90, pR 91, pR 92, pR 93, pR 94, pR 95, pR 96, pR 97, pR 98, pR 99, pR 100, pI ts, pR 101, pI wc, pI re, pR 102, pI ((ws.length : Int) + 1), pI d, pR 103, pI ph, pR 104, pI fu, pR 105, pR 106, pR 107, pR 108, pR 109, pR 110, pR 111])) (up td ws.length (rkn L i))
                rw [hW, he2, List.length_append, List.length_singleton] at k
                have k2 := k (FrP_up _ (FrP_up _ f2 (Or.inr rfl)) (Or.inl rfl)) (hg_same _ _ _) (by rw [hg_ne _ _ _ _ (by omega)]; exact hg_same _ _ _) A2
                rw [w109_17]
                try simp (disch := omega) only [w109_0, w109_92, w109_113, w109_114, w109_147, w109_193, e109, x_iconst, x_bipush, x_sipush, x_ldc, x_lconst, x_ldc2l, x_dconst, x_ldc2d, x_ldcf, x_iadd, x_isub, x_imul, x_idiv, x_irem, x_ishl, x_ishr, x_iand, x_ior, x_ixor, x_ladd, x_lsub, x_lmul, x_ldiv, x_lrem, x_lshl, x_lshr, x_lor, x_land, x_lcmp, x_i2l, x_l2i, x_i2b, x_i2f, x_l2f, x_l2d, x_f2d, x_d2l, x_fdiv, x_dadd, x_dsub, x_dmul, x_ddiv, x_dcmp, x_fcmp, x_dup, x_pop, x_dup2, x_objinit, x_rawF, x_rawD, gV_0, gV_1, gV_2, gV_3, gV_4, gV_S, x_iload, x_lload, x_fload, x_dload, x_aload, x_istore, x_fstore, x_astore, x_lstore, x_dstore, gX_I, x_iinc, x_getf, x_putfI, x_putfL, x_putfR, x_iald, x_bald, x_zald, x_lald, x_dald, x_aald, x_iast, x_bast, x_zast, x_last, x_dast, x_aast, x_alen, x_new, x_newa, x_anew, x_acopy, x_sld, x_slen, x_fall, x_goto, x_if, x_cmp, x_tsw, x_lsw, x_ret, x_iret, x_zret, x_lret, x_fret, x_dret, x_aret, x_callr, x_callv, x_calli, x_calls, rcv_R, isO_cO, JW_def, kO_some, sk4, cats_nil, cats_I, cats_L, cats_F, cats_D, cats_R, cats_S, Nat.reduceAdd, Nat.reduceLeDiff, inr, inq, Int.reduceEq, Int.reduceLT, Int.reduceLE, Int.reduceNeg, not_false_eq_true, not_true_eq_false, false_implies, and_self, pk_nil, pk_cons, wk_0, wk_1, wk_2, wk_3, wk_4, swt_nil, swt_cons, swl_nil, swl_cons, c3_eq, c3_lt, c3_ge, c3_le, c3_gt, c3_inr, c3_inr2, cnd_0, cnd_1, cnd_2, cnd_3, cnd_4, cnd_5, wide_I, wide_R, wide_L, wide_F, wide_D, wide_S, nw_I, nw_L, nw_F, nw_D, nw_U, nw_R, nw_S, fgo_cO, fso_cO, Option.map_some, alo_cI, ado_cD, aro_cR, ano_cI, ano_cD, lst, List.getElem?_cons_zero, List.getElem?_cons_succ, List.set_cons_zero, List.set_cons_succ, and_true, true_and, true_implies, forall_const, true_or, or_true, hg_same, hg_ne]
                exact ⟨by omega, fun _ => k2, fun _ => ⟨by omega, fun _ => k2, fun q => by omega⟩⟩
            induction x with
            | zero =>
              intro j e hx hr hj he
              omega
            | succ x ihx =>
              intro j e hx hr hj he
              obtain ⟨x2, hx2⟩ : ∃ x2, L[j]? = some x2 := ⟨L[j]'(by omega), List.getElem?_eq_getElem _⟩
              obtain ⟨w1, w2, -⟩ := T3 j x2 hx2
              obtain ⟨-, w5⟩ := T4 j x2 hx2
              have hrs := rkn_succ hx2
              cases ex : x2.2.2 with
              | true =>
                have hsp : sp ((128 * (F + st) + j : Nat) : Int) = 1 := by rw [w2, ex]; rfl
                rw [ex] at hrs
                /- a split node has one behind it -/
                have hj1 : j + 1 < L.length := by
                  rw [← hL] at hx2 ⊢
                  have hB : Blk m (SK m (scF Q st wf) K') (TK m (scF Q st wf) K') j x2.1 x2.2.1 := dfs_blk hm8 8 0 0 rfl j x2 hx2
                  have hfl : x2.2.2 = SK m (scF Q st wf) K' x2.1 x2.2.1 := TK_flag hm8 (d := x2.1) (c := x2.2.1) (List.mem_of_getElem? hx2)
                  rw [ex] at hfl
                  have hd := (SK_pc hm8 (scF Q st wf) K' _ _ hfl.symm).1
                  have hbl := blk_len hB
                  rw [szN_t hd hfl.symm] at hbl
                  have hs1 : 1 ≤ ssz m (SK m (scF Q st wf) K') x2.1 x2.2.1 m := by
                    obtain ⟨m', hm'⟩ : ∃ m', m = m' + 1 := ⟨m - 1, by omega⟩
                    have hpos := szN_pos m (SK m (scF Q st wf) K') (x2.1 + 1) (8 * x2.2.1 + m')
                    have e5 : ssz m (SK m (scF Q st wf) K') x2.1 x2.2.1 (m' + 1) = ssz m (SK m (scF Q st wf) K') x2.1 x2.2.1 m' + szN m (SK m (scF Q st wf) K') (x2.1 + 1) (8 * x2.2.1 + m') := rfl
                    rw [← hm'] at e5
                    omega
                  omega
                have ih3 := ihx (j + 1) (e + 1) (by omega) (by rw [hrs, ← hr]; rfl) hj1 (by omega)
                rw [show ((128 * (F + st) + (j + 1) : Nat) : Int) = ((128 * (F + st) + j : Nat) : Int) + 1 by omega, show ((e + 1 : Nat) : Int) = (e : Int) + 1 by omega] at ih3
                rw [w109_120]
                try simp (disch := omega) only [w109_0, w109_92, w109_113, w109_114, w109_193, e109, x_iconst, x_bipush, x_sipush, x_ldc, x_lconst, x_ldc2l, x_dconst, x_ldc2d, x_ldcf, x_iadd, x_isub, x_imul, x_idiv, x_irem, x_ishl, x_ishr, x_iand, x_ior, x_ixor, x_ladd, x_lsub, x_lmul, x_ldiv, x_lrem, x_lshl, x_lshr, x_lor, x_land, x_lcmp, x_i2l, x_l2i, x_i2b, x_i2f, x_l2f, x_l2d, x_f2d, x_d2l, x_fdiv, x_dadd, x_dsub, x_dmul, x_ddiv, x_dcmp, x_fcmp, x_dup, x_pop, x_dup2, x_objinit, x_rawF, x_rawD, gV_0, gV_1, gV_2, gV_3, gV_4, gV_S, x_iload, x_lload, x_fload, x_dload, x_aload, x_istore, x_fstore, x_astore, x_lstore, x_dstore, gX_I, x_iinc, x_getf, x_putfI, x_putfL, x_putfR, x_iald, x_bald, x_zald, x_lald, x_dald, x_aald, x_iast, x_bast, x_zast, x_last, x_dast, x_aast, x_alen, x_new, x_newa, x_anew, x_acopy, x_sld, x_slen, x_fall, x_goto, x_if, x_cmp, x_tsw, x_lsw, x_ret, x_iret, x_zret, x_lret, x_fret, x_dret, x_aret, x_callr, x_callv, x_calli, x_calls, rcv_R, isO_cO, JW_def, kO_some, sk4, cats_nil, cats_I, cats_L, cats_F, cats_D, cats_R, cats_S, Nat.reduceAdd, Nat.reduceLeDiff, inr, inq, Int.reduceEq, Int.reduceLT, Int.reduceLE, Int.reduceNeg, not_false_eq_true, not_true_eq_false, false_implies, and_self, pk_nil, pk_cons, wk_0, wk_1, wk_2, wk_3, wk_4, swt_nil, swt_cons, swl_nil, swl_cons, c3_eq, c3_lt, c3_ge, c3_le, c3_gt, c3_inr, c3_inr2, cnd_0, cnd_1, cnd_2, cnd_3, cnd_4, cnd_5, wide_I, wide_R, wide_L, wide_F, wide_D, wide_S, nw_I, nw_L, nw_F, nw_D, nw_U, nw_R, nw_S, fgo_cO, fso_cO, Option.map_some, alo_cI, ado_cD, aro_cR, ano_cI, ano_cD, lst, List.getElem?_cons_zero, List.getElem?_cons_succ, List.set_cons_zero, List.set_cons_succ, and_true, true_and, true_implies, forall_const, true_or, or_true, hg_same, hg_ne, o2', g2, hsp]
                exact ⟨by omega, fun q => by omega, fun _ => ⟨by omega, ih3⟩⟩
              | false =>
                have hsp : sp ((128 * (F + st) + j : Nat) : Int) = 0 := by rw [w2, ex]; rfl
                rw [ex] at w5
                have w5 : wo ((128 * (F + st) + j : Nat) : Int) = (rkn L j : Int) := w5
                rw [hr] at w5
                rw [w109_120]
                try simp (disch := omega) only [w109_0, w109_92, w109_113, w109_114, w109_147, w109_193, e109, x_iconst, x_bipush, x_sipush, x_ldc, x_lconst, x_ldc2l, x_dconst, x_ldc2d, x_ldcf, x_iadd, x_isub, x_imul, x_idiv, x_irem, x_ishl, x_ishr, x_iand, x_ior, x_ixor, x_ladd, x_lsub, x_lmul, x_ldiv, x_lrem, x_lshl, x_lshr, x_lor, x_land, x_lcmp, x_i2l, x_l2i, x_i2b, x_i2f, x_l2f, x_l2d, x_f2d, x_d2l, x_fdiv, x_dadd, x_dsub, x_dmul, x_ddiv, x_dcmp, x_fcmp, x_dup, x_pop, x_dup2, x_objinit, x_rawF, x_rawD, gV_0, gV_1, gV_2, gV_3, gV_4, gV_S, x_iload, x_lload, x_fload, x_dload, x_aload, x_istore, x_fstore, x_astore, x_lstore, x_dstore, gX_I, x_iinc, x_getf, x_putfI, x_putfL, x_putfR, x_iald, x_bald, x_zald, x_lald, x_dald, x_aald, x_iast, x_bast, x_zast, x_last, x_dast, x_aast, x_alen, x_new, x_newa, x_anew, x_acopy, x_sld, x_slen, x_fall, x_goto, x_if, x_cmp, x_tsw, x_lsw, x_ret, x_iret, x_zret, x_lret, x_fret, x_dret, x_aret, x_callr, x_callv, x_calli, x_calls, rcv_R, isO_cO, JW_def, kO_some, sk4, cats_nil, cats_I, cats_L, cats_F, cats_D, cats_R, cats_S, Nat.reduceAdd, Nat.reduceLeDiff, inr, inq, Int.reduceEq, Int.reduceLT, Int.reduceLE, Int.reduceNeg, not_false_eq_true, not_true_eq_false, false_implies, and_self, pk_nil, pk_cons, wk_0, wk_1, wk_2, wk_3, wk_4, swt_nil, swt_cons, swl_nil, swl_cons, c3_eq, c3_lt, c3_ge, c3_le, c3_gt, c3_inr, c3_inr2, cnd_0, cnd_1, cnd_2, cnd_3, cnd_4, cnd_5, wide_I, wide_R, wide_L, wide_F, wide_D, wide_S, nw_I, nw_L, nw_F, nw_D, nw_U, nw_R, nw_S, fgo_cO, fso_cO, Option.map_some, alo_cI, ado_cD, aro_cR, ano_cI, ano_cD, lst, List.getElem?_cons_zero, List.getElem?_cons_succ, List.set_cons_zero, List.set_cons_succ, and_true, true_and, true_implies, forall_const, true_or, or_true, hg_same, hg_ne,  o2', g2, hsp, g5, gx, e4]
                rw [w5, show ((p + d : Nat) : Int) - 1 = ((p + d - 1 : Nat) : Int) by omega, hf1 _ (by omega) (by omega), hl, show (l : Int) % (Q : Int) = ((l % Q : Nat) : Int) from (Int.natCast_emod _ _).symm]
                refine ⟨by omega, fun q => by omega, fun _ => ⟨by omega, by omega, by omega, by omega, by omega, next _ _⟩⟩
          cases s with
          | true =>
            have hsp : sp ((128 * (F + st) + i : Nat) : Int) = 1 := u2
            try simp (disch := omega) only [w109_0, w109_92, w109_113, w109_114, w109_147, w109_193, e109, x_iconst, x_bipush, x_sipush, x_ldc, x_lconst, x_ldc2l, x_dconst, x_ldc2d, x_ldcf, x_iadd, x_isub, x_imul, x_idiv, x_irem, x_ishl, x_ishr, x_iand, x_ior, x_ixor, x_ladd, x_lsub, x_lmul, x_ldiv, x_lrem, x_lshl, x_lshr, x_lor, x_land, x_lcmp, x_i2l, x_l2i, x_i2b, x_i2f, x_l2f, x_l2d, x_f2d, x_d2l, x_fdiv, x_dadd, x_dsub, x_dmul, x_ddiv, x_dcmp, x_fcmp, x_dup, x_pop, x_dup2, x_objinit, x_rawF, x_rawD, gV_0, gV_1, gV_2, gV_3, gV_4, gV_S, x_iload, x_lload, x_fload, x_dload, x_aload, x_istore, x_fstore, x_astore, x_lstore, x_dstore, gX_I, x_iinc, x_getf, x_putfI, x_putfL, x_putfR, x_iald, x_bald, x_zald, x_lald, x_dald, x_aald, x_iast, x_bast, x_zast, x_last, x_dast, x_aast, x_alen, x_new, x_newa, x_anew, x_acopy, x_sld, x_slen, x_fall, x_goto, x_if, x_cmp, x_tsw, x_lsw, x_ret, x_iret, x_zret, x_lret, x_fret, x_dret, x_aret, x_callr, x_callv, x_calli, x_calls, rcv_R, isO_cO, JW_def, kO_some, sk4, cats_nil, cats_I, cats_L, cats_F, cats_D, cats_R, cats_S, Nat.reduceAdd, Nat.reduceLeDiff, inr, inq, Int.reduceEq, Int.reduceLT, Int.reduceLE, Int.reduceNeg, not_false_eq_true, not_true_eq_false, false_implies, and_self, pk_nil, pk_cons, wk_0, wk_1, wk_2, wk_3, wk_4, swt_nil, swt_cons, swl_nil, swl_cons, c3_eq, c3_lt, c3_ge, c3_le, c3_gt, c3_inr, c3_inr2, cnd_0, cnd_1, cnd_2, cnd_3, cnd_4, cnd_5, wide_I, wide_R, wide_L, wide_F, wide_D, wide_S, nw_I, nw_L, nw_F, nw_D, nw_U, nw_R, nw_S, fgo_cO, fso_cO, Option.map_some, alo_cI, ado_cD, aro_cR, ano_cI, ano_cD, lst, List.getElem?_cons_zero, List.getElem?_cons_succ, List.set_cons_zero, List.set_cons_succ, and_true, true_and, true_implies, forall_const, true_or, or_true, hg_same, hg_ne,  o1', n2, n1, hsp]
            rw [u1]
            refine ⟨by omega, by omega, ?_⟩
            exact go (d : Int) _ (by rw [if_pos rfl]) (FrP_up _ f (Or.inl rfl)) (hg_same _ _ _) (by rw [hg_ne _ _ _ _ (by omega)]; exact e3) (L.length - i) i 0 (by omega) rfl hil (by omega)
          | false =>
            have hsp : sp ((128 * (F + st) + i : Nat) : Int) = 0 := u2
            try simp (disch := omega) only [w109_0, w109_92, w109_113, w109_114, w109_147, w109_193, e109, x_iconst, x_bipush, x_sipush, x_ldc, x_lconst, x_ldc2l, x_dconst, x_ldc2d, x_ldcf, x_iadd, x_isub, x_imul, x_idiv, x_irem, x_ishl, x_ishr, x_iand, x_ior, x_ixor, x_ladd, x_lsub, x_lmul, x_ldiv, x_lrem, x_lshl, x_lshr, x_lor, x_land, x_lcmp, x_i2l, x_l2i, x_i2b, x_i2f, x_l2f, x_l2d, x_f2d, x_d2l, x_fdiv, x_dadd, x_dsub, x_dmul, x_ddiv, x_dcmp, x_fcmp, x_dup, x_pop, x_dup2, x_objinit, x_rawF, x_rawD, gV_0, gV_1, gV_2, gV_3, gV_4, gV_S, x_iload, x_lload, x_fload, x_dload, x_aload, x_istore, x_fstore, x_astore, x_lstore, x_dstore, gX_I, x_iinc, x_getf, x_putfI, x_putfL, x_putfR, x_iald, x_bald, x_zald, x_lald, x_dald, x_aald, x_iast, x_bast, x_zast, x_last, x_dast, x_aast, x_alen, x_new, x_newa, x_anew, x_acopy, x_sld, x_slen, x_fall, x_goto, x_if, x_cmp, x_tsw, x_lsw, x_ret, x_iret, x_zret, x_lret, x_fret, x_dret, x_aret, x_callr, x_callv, x_calli, x_calls, rcv_R, isO_cO, JW_def, kO_some, sk4, cats_nil, cats_I, cats_L, cats_F, cats_D, cats_R, cats_S, Nat.reduceAdd, Nat.reduceLeDiff, inr, inq, Int.reduceEq, Int.reduceLT, Int.reduceLE, Int.reduceNeg, not_false_eq_true, not_true_eq_false, false_implies, and_self, pk_nil, pk_cons, wk_0, wk_1, wk_2, wk_3, wk_4, swt_nil, swt_cons, swl_nil, swl_cons, c3_eq, c3_lt, c3_ge, c3_le, c3_gt, c3_inr, c3_inr2, cnd_0, cnd_1, cnd_2, cnd_3, cnd_4, cnd_5, wide_I, wide_R, wide_L, wide_F, wide_D, wide_S, nw_I, nw_L, nw_F, nw_D, nw_U, nw_R, nw_S, fgo_cO, fso_cO, Option.map_some, alo_cI, ado_cD, aro_cR, ano_cI, ano_cD, lst, List.getElem?_cons_zero, List.getElem?_cons_succ, List.set_cons_zero, List.set_cons_succ, and_true, true_and, true_implies, forall_const, true_or, or_true, hg_same, hg_ne,  o1', n2, n1, hsp]
            refine ⟨by omega, ?_⟩
            exact go 0 _ (by rw [if_neg (by decide)]) (FrP_up _ f (Or.inl rfl)) (hg_same _ _ _) (by rw [hg_ne _ _ _ _ (by omega)]; exact e3) (L.length - i) i 0 (by omega) rfl hil (by omega)
        /- the walk -/
        have inner : ∀ (x d c i l : Nat) (s : Bool), x + d = 8 → p + d ≤ ts → L[i]? = some (d, c, s) → (1 ≤ d → tx ((p + d - 1 : Nat) : Int) = (l : Int) ∧ l < m) → (s = true → encF m Q K' wf tx (p + d) = (st, d, c, ws)) → (s = false → 1 ≤ d ∧ encF m Q K' wf tx (p + d) = (l % Q, 0, 0, ws ++ [rkD L d c])) → WP 109 44 [pR 87, pI F, pI ((p + d : Nat) : Int), pI st, pI ws.length, pI ((128 * (F + st) + i : Nat) : Int), pI d] [] h1 lim K := by
          intro x
          induction x with
          | zero =>
            intro d c i l s hx hpd hix hl ht hf
            have hs : s = false := by
              cases s with
              | false => rfl
              | true =>
                have h7 := (SK_pc hm8 (scF Q st wf) K' d c (by
                  have := TK_flag hm8 (φ := scF Q st wf) (t := K') (d := d) (c := c) (s := true) (by rw [hL]; exact List.mem_of_getElem? hix)
                  exact this.symm)).1
                omega
            subst hs
            have := tail d c i l false (pI d) (by omega) hpd hix (hl (by omega)).1 (hl (by omega)).2 (fun e => by cases e) (fun _ => (hf rfl).2)
            rw [w109_44]
            try simp (disch := omega) only [w109_0, w109_113, w109_114, w109_147, w109_193, e109, x_iconst, x_bipush, x_sipush, x_ldc, x_lconst, x_ldc2l, x_dconst, x_ldc2d, x_ldcf, x_iadd, x_isub, x_imul, x_idiv, x_irem, x_ishl, x_ishr, x_iand, x_ior, x_ixor, x_ladd, x_lsub, x_lmul, x_ldiv, x_lrem, x_lshl, x_lshr, x_lor, x_land, x_lcmp, x_i2l, x_l2i, x_i2b, x_i2f, x_l2f, x_l2d, x_f2d, x_d2l, x_fdiv, x_dadd, x_dsub, x_dmul, x_ddiv, x_dcmp, x_fcmp, x_dup, x_pop, x_dup2, x_objinit, x_rawF, x_rawD, gV_0, gV_1, gV_2, gV_3, gV_4, gV_S, x_iload, x_lload, x_fload, x_dload, x_aload, x_istore, x_fstore, x_astore, x_lstore, x_dstore, gX_I, x_iinc, x_getf, x_putfI, x_putfL, x_putfR, x_iald, x_bald, x_zald, x_lald, x_dald, x_aald, x_iast, x_bast, x_zast, x_last, x_dast, x_aast, x_alen, x_new, x_newa, x_anew, x_acopy, x_sld, x_slen, x_fall, x_goto, x_if, x_cmp, x_tsw, x_lsw, x_ret, x_iret, x_zret, x_lret, x_fret, x_dret, x_aret, x_callr, x_callv, x_calli, x_calls, rcv_R, isO_cO, JW_def, kO_some, sk4, cats_nil, cats_I, cats_L, cats_F, cats_D, cats_R, cats_S, Nat.reduceAdd, Nat.reduceLeDiff, inr, inq, Int.reduceEq, Int.reduceLT, Int.reduceLE, Int.reduceNeg, not_false_eq_true, not_true_eq_false, false_implies, and_self, pk_nil, pk_cons, wk_0, wk_1, wk_2, wk_3, wk_4, swt_nil, swt_cons, swl_nil, swl_cons, c3_eq, c3_lt, c3_ge, c3_le, c3_gt, c3_inr, c3_inr2, cnd_0, cnd_1, cnd_2, cnd_3, cnd_4, cnd_5, wide_I, wide_R, wide_L, wide_F, wide_D, wide_S, nw_I, nw_L, nw_F, nw_D, nw_U, nw_R, nw_S, fgo_cO, fso_cO, Option.map_some, alo_cI, ado_cD, aro_cR, ano_cI, ano_cD, lst, List.getElem?_cons_zero, List.getElem?_cons_succ, List.set_cons_zero, List.set_cons_succ, and_true, true_and, true_implies, forall_const, true_or, or_true, hg_same, hg_ne]
            exact ⟨by omega, fun _ => this, fun q => by omega⟩
          | succ x ihx =>
            intro d c i l s hx hpd hix hl ht hf
            have hil := (List.getElem?_eq_some_iff.mp hix).1
            obtain ⟨u1, u2, u3, u4⟩ := T3 i _ hix
            cases s with
            | false =>
              obtain ⟨hd1, hf2⟩ := hf rfl
              have hsp : sp ((128 * (F + st) + i : Nat) : Int) = 0 := u2
              have go := tail d c i l false (pI d) hd1 hpd hix (hl hd1).1 (hl hd1).2 (fun e => by cases e) (fun _ => hf2)
              rw [w109_44]
              try simp (disch := omega) only [w109_0, w109_113, w109_114, w109_147, w109_193, e109, x_iconst, x_bipush, x_sipush, x_ldc, x_lconst, x_ldc2l, x_dconst, x_ldc2d, x_ldcf, x_iadd, x_isub, x_imul, x_idiv, x_irem, x_ishl, x_ishr, x_iand, x_ior, x_ixor, x_ladd, x_lsub, x_lmul, x_ldiv, x_lrem, x_lshl, x_lshr, x_lor, x_land, x_lcmp, x_i2l, x_l2i, x_i2b, x_i2f, x_l2f, x_l2d, x_f2d, x_d2l, x_fdiv, x_dadd, x_dsub, x_dmul, x_ddiv, x_dcmp, x_fcmp, x_dup, x_pop, x_dup2, x_objinit, x_rawF, x_rawD, gV_0, gV_1, gV_2, gV_3, gV_4, gV_S, x_iload, x_lload, x_fload, x_dload, x_aload, x_istore, x_fstore, x_astore, x_lstore, x_dstore, gX_I, x_iinc, x_getf, x_putfI, x_putfL, x_putfR, x_iald, x_bald, x_zald, x_lald, x_dald, x_aald, x_iast, x_bast, x_zast, x_last, x_dast, x_aast, x_alen, x_new, x_newa, x_anew, x_acopy, x_sld, x_slen, x_fall, x_goto, x_if, x_cmp, x_tsw, x_lsw, x_ret, x_iret, x_zret, x_lret, x_fret, x_dret, x_aret, x_callr, x_callv, x_calli, x_calls, rcv_R, isO_cO, JW_def, kO_some, sk4, cats_nil, cats_I, cats_L, cats_F, cats_D, cats_R, cats_S, Nat.reduceAdd, Nat.reduceLeDiff, inr, inq, Int.reduceEq, Int.reduceLT, Int.reduceLE, Int.reduceNeg, not_false_eq_true, not_true_eq_false, false_implies, and_self, pk_nil, pk_cons, wk_0, wk_1, wk_2, wk_3, wk_4, swt_nil, swt_cons, swl_nil, swl_cons, c3_eq, c3_lt, c3_ge, c3_le, c3_gt, c3_inr, c3_inr2, cnd_0, cnd_1, cnd_2, cnd_3, cnd_4, cnd_5, wide_I, wide_R, wide_L, wide_F, wide_D, wide_S, nw_I, nw_L, nw_F, nw_D, nw_U, nw_R, nw_S, fgo_cO, fso_cO, Option.map_some, alo_cI, ado_cD, aro_cR, ano_cI, ano_cD, lst, List.getElem?_cons_zero, List.getElem?_cons_succ, List.set_cons_zero, List.set_cons_succ, and_true, true_and, true_implies, forall_const, true_or, or_true, hg_same, hg_ne, o1', n2, hsp]
              exact ⟨by omega, fun _ => go, fun _ => ⟨by omega, fun _ => go, fun _ => ⟨by omega, go⟩⟩⟩
            | true =>
              have he2 := ht rfl
              have hsp : sp ((128 * (F + st) + i : Nat) : Int) = 1 := u2
              by_cases hend : p + d = ts
              · have go := tail d c i l true (pI d) (by omega) hpd hix (hl (by omega)).1 (hl (by omega)).2 (fun _ => ⟨hend, he2⟩) (fun e => by cases e)
                rw [w109_44]
                try simp (disch := omega) only [w109_0, w109_113, w109_114, w109_147, w109_193, e109, x_iconst, x_bipush, x_sipush, x_ldc, x_lconst, x_ldc2l, x_dconst, x_ldc2d, x_ldcf, x_iadd, x_isub, x_imul, x_idiv, x_irem, x_ishl, x_ishr, x_iand, x_ior, x_ixor, x_ladd, x_lsub, x_lmul, x_ldiv, x_lrem, x_lshl, x_lshr, x_lor, x_land, x_lcmp, x_i2l, x_l2i, x_i2b, x_i2f, x_l2f, x_l2d, x_f2d, x_d2l, x_fdiv, x_dadd, x_dsub, x_dmul, x_ddiv, x_dcmp, x_fcmp, x_dup, x_pop, x_dup2, x_objinit, x_rawF, x_rawD, gV_0, gV_1, gV_2, gV_3, gV_4, gV_S, x_iload, x_lload, x_fload, x_dload, x_aload, x_istore, x_fstore, x_astore, x_lstore, x_dstore, gX_I, x_iinc, x_getf, x_putfI, x_putfL, x_putfR, x_iald, x_bald, x_zald, x_lald, x_dald, x_aald, x_iast, x_bast, x_zast, x_last, x_dast, x_aast, x_alen, x_new, x_newa, x_anew, x_acopy, x_sld, x_slen, x_fall, x_goto, x_if, x_cmp, x_tsw, x_lsw, x_ret, x_iret, x_zret, x_lret, x_fret, x_dret, x_aret, x_callr, x_callv, x_calli, x_calls, rcv_R, isO_cO, JW_def, kO_some, sk4, cats_nil, cats_I, cats_L, cats_F, cats_D, cats_R, cats_S, Nat.reduceAdd, Nat.reduceLeDiff, inr, inq, Int.reduceEq, Int.reduceLT, Int.reduceLE, Int.reduceNeg, not_false_eq_true, not_true_eq_false, false_implies, and_self, pk_nil, pk_cons, wk_0, wk_1, wk_2, wk_3, wk_4, swt_nil, swt_cons, swl_nil, swl_cons, c3_eq, c3_lt, c3_ge, c3_le, c3_gt, c3_inr, c3_inr2, cnd_0, cnd_1, cnd_2, cnd_3, cnd_4, cnd_5, wide_I, wide_R, wide_L, wide_F, wide_D, wide_S, nw_I, nw_L, nw_F, nw_D, nw_U, nw_R, nw_S, fgo_cO, fso_cO, Option.map_some, alo_cI, ado_cD, aro_cR, ano_cI, ano_cD, lst, List.getElem?_cons_zero, List.getElem?_cons_succ, List.set_cons_zero, List.set_cons_succ, and_true, true_and, true_implies, forall_const, true_or, or_true, hg_same, hg_ne, o1', n2, hsp]
                exact ⟨by omega, fun _ => go, fun _ => ⟨by omega, fun _ => go, fun q => by omega⟩⟩
              · have htk := htx ((p + d : Nat) : Int) (by omega) (by omega)
                obtain ⟨l2, hl2⟩ : ∃ l : Nat, tx ((p + d : Nat) : Int) = (l : Int) := ⟨(tx ((p + d : Nat) : Int)).toNat, by omega⟩
                have hlm : l2 < m := by omega
                have hS : SK m (scF Q st wf) K' d c = true := by
                  have := TK_flag hm8 (φ := scF Q st wf) (t := K') (d := d) (c := c) (s := true) (by rw [hL]; exact List.mem_of_getElem? hix)
                  exact this.symm
                have hd8 := (SK_pc hm8 (scF Q st wf) K' d c hS).1
                have hB : Blk m (SK m (scF Q st wf) K') L i d c := by
                  rw [← hL] at hix ⊢
                  exact dfs_blk hm8 8 0 0 rfl i _ hix
                have hBk := blk_child hd8 hS hlm hB
                obtain ⟨s2, hs2⟩ := blk_at hBk
                have hs2f : s2 = SK m (scF Q st wf) K' (d + 1) (8 * c + l2) := TK_flag hm8 (by rw [hL]; exact List.mem_of_getElem? hs2)
                have he3 : encF m Q K' wf tx (p + (d + 1)) = encN m Q K' wf l2 (st, d, c, ws) := by
                  show encN m Q K' wf (tx ((p + d : Nat) : Int)).toNat (encF m Q K' wf tx (p + d)) = _
                  rw [he2, hl2, Int.toNat_natCast]
                have go := ihx (d + 1) (8 * c + l2) (i + 1 + ssz m (SK m (scF Q st wf) K') d c l2) l2 s2 (by omega) (by omega) hs2 (fun _ => ⟨by rw [show p + (d + 1) - 1 = p + d by omega]; exact hl2, hlm⟩) (fun e => by
                  rw [e] at hs2f
                  rw [he3, encN_t hs2f.symm]) (fun e => by
                  rw [e] at hs2f
                  rw [he3, encN_f hs2f.symm, hL]
                  exact ⟨by omega, rfl⟩)
                rw [show ((p + (d + 1) : Nat) : Int) = ((p + d : Nat) : Int) + 1 by omega, show ((d + 1 : Nat) : Int) = (d : Int) + 1 by omega] at go
                rw [w109_44]
                try simp (disch := omega) only [w109_0, w109_113, w109_114, w109_147, w109_193, e109, x_iconst, x_bipush, x_sipush, x_ldc, x_lconst, x_ldc2l, x_dconst, x_ldc2d, x_ldcf, x_iadd, x_isub, x_imul, x_idiv, x_irem, x_ishl, x_ishr, x_iand, x_ior, x_ixor, x_ladd, x_lsub, x_lmul, x_ldiv, x_lrem, x_lshl, x_lshr, x_lor, x_land, x_lcmp, x_i2l, x_l2i, x_i2b, x_i2f, x_l2f, x_l2d, x_f2d, x_d2l, x_fdiv, x_dadd, x_dsub, x_dmul, x_ddiv, x_dcmp, x_fcmp, x_dup, x_pop, x_dup2, x_objinit, x_rawF, x_rawD, gV_0, gV_1, gV_2, gV_3, gV_4, gV_S, x_iload, x_lload, x_fload, x_dload, x_aload, x_istore, x_fstore, x_astore, x_lstore, x_dstore, gX_I, x_iinc, x_getf, x_putfI, x_putfL, x_putfR, x_iald, x_bald, x_zald, x_lald, x_dald, x_aald, x_iast, x_bast, x_zast, x_last, x_dast, x_aast, x_alen, x_new, x_newa, x_anew, x_acopy, x_sld, x_slen, x_fall, x_goto, x_if, x_cmp, x_tsw, x_lsw, x_ret, x_iret, x_zret, x_lret, x_fret, x_dret, x_aret, x_callr, x_callv, x_calli, x_calls, rcv_R, isO_cO, JW_def, kO_some, sk4, cats_nil, cats_I, cats_L, cats_F, cats_D, cats_R, cats_S, Nat.reduceAdd, Nat.reduceLeDiff, inr, inq, Int.reduceEq, Int.reduceLT, Int.reduceLE, Int.reduceNeg, not_false_eq_true, not_true_eq_false, false_implies, and_self, pk_nil, pk_cons, wk_0, wk_1, wk_2, wk_3, wk_4, swt_nil, swt_cons, swl_nil, swl_cons, c3_eq, c3_lt, c3_ge, c3_le, c3_gt, c3_inr, c3_inr2, cnd_0, cnd_1, cnd_2, cnd_3, cnd_4, cnd_5, wide_I, wide_R, wide_L, wide_F, wide_D, wide_S, nw_I, nw_L, nw_F, nw_D, nw_U, nw_R, nw_S, fgo_cO, fso_cO, Option.map_some, alo_cI, ado_cD, aro_cR, ano_cI, ano_cD, lst, List.getElem?_cons_zero, List.getElem?_cons_succ, List.set_cons_zero, List.set_cons_succ, and_true, true_and, true_implies, forall_const, true_or, or_true, hg_same, hg_ne, o1', n2, hsp, nx]
                rw [hf1 _ (by omega) (by omega), hl2]
                refine ⟨by omega, fun q => by omega, fun _ => ⟨by omega, fun q => by omega, fun _ => ⟨by omega, by omega, ?_⟩⟩⟩
                refine d_child o1 n4 (by omega) hm8 (by omega) T4 hd8 hS hB hlm ?_
                try simp (disch := omega) only [w109_0, w109_113, w109_114, w109_147, w109_193, e109, x_iconst, x_bipush, x_sipush, x_ldc, x_lconst, x_ldc2l, x_dconst, x_ldc2d, x_ldcf, x_iadd, x_isub, x_imul, x_idiv, x_irem, x_ishl, x_ishr, x_iand, x_ior, x_ixor, x_ladd, x_lsub, x_lmul, x_ldiv, x_lrem, x_lshl, x_lshr, x_lor, x_land, x_lcmp, x_i2l, x_l2i, x_i2b, x_i2f, x_l2f, x_l2d, x_f2d, x_d2l, x_fdiv, x_dadd, x_dsub, x_dmul, x_ddiv, x_dcmp, x_fcmp, x_dup, x_pop, x_dup2, x_objinit, x_rawF, x_rawD, gV_0, gV_1, gV_2, gV_3, gV_4, gV_S, x_iload, x_lload, x_fload, x_dload, x_aload, x_istore, x_fstore, x_astore, x_lstore, x_dstore, gX_I, x_iinc, x_getf, x_putfI, x_putfL, x_putfR, x_iald, x_bald, x_zald, x_lald, x_dald, x_aald, x_iast, x_bast, x_zast, x_last, x_dast, x_aast, x_alen, x_new, x_newa, x_anew, x_acopy, x_sld, x_slen, x_fall, x_goto, x_if, x_cmp, x_tsw, x_lsw, x_ret, x_iret, x_zret, x_lret, x_fret, x_dret, x_aret, x_callr, x_callv, x_calli, x_calls, rcv_R, isO_cO, JW_def, kO_some, sk4, cats_nil, cats_I, cats_L, cats_F, cats_D, cats_R, cats_S, Nat.reduceAdd, Nat.reduceLeDiff, inr, inq, Int.reduceEq, Int.reduceLT, Int.reduceLE, Int.reduceNeg, not_false_eq_true, not_true_eq_false, false_implies, and_self, pk_nil, pk_cons, wk_0, wk_1, wk_2, wk_3, wk_4, swt_nil, swt_cons, swl_nil, swl_cons, c3_eq, c3_lt, c3_ge, c3_le, c3_gt, c3_inr, c3_inr2, cnd_0, cnd_1, cnd_2, cnd_3, cnd_4, cnd_5, wide_I, wide_R, wide_L, wide_F, wide_D, wide_S, nw_I, nw_L, nw_F, nw_D, nw_U, nw_R, nw_S, fgo_cO, fso_cO, Option.map_some, alo_cI, ado_cD, aro_cR, ano_cI, ano_cD, lst, List.getElem?_cons_zero, List.getElem?_cons_succ, List.set_cons_zero, List.set_cons_succ, and_true, true_and, true_implies, forall_const, true_or, or_true, hg_same, hg_ne]
                exact go
        have hroot : L[0]? = some (0, 0, true) := by
          obtain ⟨s, hs⟩ := blk_at (blk_0 m (scF Q st wf) K')
          have hf := TK_flag hm8 (d := 0) (c := 0) (s := s) (List.mem_of_getElem? hs)
          rw [root_split hm.1 hm8 _ hK1.1 (by omega)] at hf
          rw [hf, hL] at hs
          exact hs
        have go := inner 8 0 0 0 0 true (by omega) hp hroot (fun q => by omega) (fun _ => he) (fun e => by cases e)
        rw [Nat.add_zero, show ((128 * (F + st) + 0 : Nat) : Int) = 128 * ((F : Int) + (st : Int)) by omega] at go
        rw [w109_17]
        try simp (disch := omega) only [w109_0, w109_92, w109_113, w109_114, w109_147, w109_193, e109, x_iconst, x_bipush, x_sipush, x_ldc, x_lconst, x_ldc2l, x_dconst, x_ldc2d, x_ldcf, x_iadd, x_isub, x_imul, x_idiv, x_irem, x_ishl, x_ishr, x_iand, x_ior, x_ixor, x_ladd, x_lsub, x_lmul, x_ldiv, x_lrem, x_lshl, x_lshr, x_lor, x_land, x_lcmp, x_i2l, x_l2i, x_i2b, x_i2f, x_l2f, x_l2d, x_f2d, x_d2l, x_fdiv, x_dadd, x_dsub, x_dmul, x_ddiv, x_dcmp, x_fcmp, x_dup, x_pop, x_dup2, x_objinit, x_rawF, x_rawD, gV_0, gV_1, gV_2, gV_3, gV_4, gV_S, x_iload, x_lload, x_fload, x_dload, x_aload, x_istore, x_fstore, x_astore, x_lstore, x_dstore, gX_I, x_iinc, x_getf, x_putfI, x_putfL, x_putfR, x_iald, x_bald, x_zald, x_lald, x_dald, x_aald, x_iast, x_bast, x_zast, x_last, x_dast, x_aast, x_alen, x_new, x_newa, x_anew, x_acopy, x_sld, x_slen, x_fall, x_goto, x_if, x_cmp, x_tsw, x_lsw, x_ret, x_iret, x_zret, x_lret, x_fret, x_dret, x_aret, x_callr, x_callv, x_calli, x_calls, rcv_R, isO_cO, JW_def, kO_some, sk4, cats_nil, cats_I, cats_L, cats_F, cats_D, cats_R, cats_S, Nat.reduceAdd, Nat.reduceLeDiff, inr, inq, Int.reduceEq, Int.reduceLT, Int.reduceLE, Int.reduceNeg, not_false_eq_true, not_true_eq_false, false_implies, and_self, pk_nil, pk_cons, wk_0, wk_1, wk_2, wk_3, wk_4, swt_nil, swt_cons, swl_nil, swl_cons, c3_eq, c3_lt, c3_ge, c3_le, c3_gt, c3_inr, c3_inr2, cnd_0, cnd_1, cnd_2, cnd_3, cnd_4, cnd_5, wide_I, wide_R, wide_L, wide_F, wide_D, wide_S, nw_I, nw_L, nw_F, nw_D, nw_U, nw_R, nw_S, fgo_cO, fso_cO, Option.map_some, alo_cI, ado_cD, aro_cR, ano_cI, ano_cD, lst, List.getElem?_cons_zero, List.getElem?_cons_succ, List.set_cons_zero, List.set_cons_succ, and_true, true_and, true_implies, forall_const, true_or, or_true, hg_same, hg_ne,  o1']
        exact ⟨by omega, fun q => by omega, fun _ => ⟨by omega, fun q => by omega, fun _ => go⟩⟩
  try simp (disch := omega) only [w109_0, w109_92, w109_113, w109_114, w109_147, w109_193, e109, x_iconst, x_bipush, x_sipush, x_ldc, x_lconst, x_ldc2l, x_dconst, x_ldc2d, x_ldcf, x_iadd, x_isub, x_imul, x_idiv, x_irem, x_ishl, x_ishr, x_iand, x_ior, x_ixor, x_ladd, x_lsub, x_lmul, x_ldiv, x_lrem, x_lshl, x_lshr, x_lor, x_land, x_lcmp, x_i2l, x_l2i, x_i2b, x_i2f, x_l2f, x_l2d, x_f2d, x_d2l, x_fdiv, x_dadd, x_dsub, x_dmul, x_ddiv, x_dcmp, x_fcmp, x_dup, x_pop, x_dup2, x_objinit, x_rawF, x_rawD, gV_0, gV_1, gV_2, gV_3, gV_4, gV_S, x_iload, x_lload, x_fload, x_dload, x_aload, x_istore, x_fstore, x_astore, x_lstore, x_dstore, gX_I, x_iinc, x_getf, x_putfI, x_putfL, x_putfR, x_iald, x_bald, x_zald, x_lald, x_dald, x_aald, x_iast, x_bast, x_zast, x_last, x_dast, x_aast, x_alen, x_new, x_newa, x_anew, x_acopy, x_sld, x_slen, x_fall, x_goto, x_if, x_cmp, x_tsw, x_lsw, x_ret, x_iret, x_zret, x_lret, x_fret, x_dret, x_aret, x_callr, x_callv, x_calli, x_calls, rcv_R, isO_cO, JW_def, kO_some, sk4, cats_nil, cats_I, cats_L, cats_F, cats_D, cats_R, cats_S, Nat.reduceAdd, Nat.reduceLeDiff, inr, inq, Int.reduceEq, Int.reduceLT, Int.reduceLE, Int.reduceNeg, not_false_eq_true, not_true_eq_false, false_implies, and_self, pk_nil, pk_cons, wk_0, wk_1, wk_2, wk_3, wk_4, swt_nil, swt_cons, swl_nil, swl_cons, c3_eq, c3_lt, c3_ge, c3_le, c3_gt, c3_inr, c3_inr2, cnd_0, cnd_1, cnd_2, cnd_3, cnd_4, cnd_5, wide_I, wide_R, wide_L, wide_F, wide_D, wide_S, nw_I, nw_L, nw_F, nw_D, nw_U, nw_R, nw_S, fgo_cO, fso_cO, Option.map_some, alo_cI, ado_cD, aro_cR, ano_cI, ano_cD, lst, List.getElem?_cons_zero, List.getElem?_cons_succ, List.set_cons_zero, List.set_cons_succ, and_true, true_and, true_implies, forall_const, true_or, or_true, hg_same, hg_ne,  bo', hu_hu]
  exact outer ts 0 0 [] _ td0 _ _ (by omega) (by omega) rfl (FrP_hu _ (Or.inl rfl)) (hg_same _ _ _) (by rw [hg_ne _ _ _ _ (by omega)]; exact e2) (fun j hj => absurd hj (Nat.not_lt_zero _))
end Q3

/-! phrases of a code -/
def lfn : List Nd → Nat → Nd
  | [], _ => nd0
  | x :: l, v => match x.2.2 with
    | true => lfn l v
    | false => match v with
      | 0 => x
      | v + 1 => lfn l v
theorem lfn_at : ∀ (L : List Nd) (i : Nat) (x : Nd), L[i]? = some x → x.2.2 = false → lfn L (rkn L i) = x
  | [], i, x, h, _ => by simp at h
  | a :: L, 0, x, h, hx => by
    have e : a = x := by simpa using h
    subst e
    unfold lfn rkn
    simp only [hx, List.take_zero, lfs]
  | a :: L, i + 1, x, h, hx => by
    have h1 : L[i]? = some x := h
    have ih := lfn_at L i x h1 hx
    unfold rkn at ih ⊢
    rw [List.take_succ_cons]
    cases ea : a.2.2 with
    | true =>
      unfold lfn
      simp only [ea, lfs, Nat.zero_add]
      exact ih
    | false =>
      unfold lfn
      simp only [ea, lfs]
      rw [Nat.add_comm]
      exact ih
section PH
variable (L : Nat → List Nd) (Q : Nat) (co : Int → Int)
def phS : Nat → Nat
  | 0 => 0
  | k + 1 => (lfn (L (phS k)) (co k).toNat).2.1 % 8 % Q
def phX (k : Nat) : Nd := lfn (L (phS L Q co k)) (co k).toNat
theorem phS_lt (hQ : 0 < Q) : ∀ k, phS L Q co k < Q
  | 0 => hQ
  | k + 1 => Nat.mod_lt _ hQ
end PH
/-- how many words of a code have phrases -/
def phN (nl : Int) (co : Int → Int) : Nat → Nat
  | 0 => 0
  | k + 1 => if phN nl co k = k ∧ co k < nl then k + 1 else phN nl co k
def PR (nl : Int) (co : Int → Int) (wc r : Nat) : Prop := r ≤ wc ∧ (∀ k : Nat, k < r → co k < nl) ∧ (r = wc ∨ nl ≤ co r)
theorem PR_uniq {nl : Int} {co : Int → Int} {wc r r' : Nat} (h : PR nl co wc r) (h' : PR nl co wc r') : r = r' := by
  obtain ⟨a1, a2, a3⟩ := h
  obtain ⟨b1, b2, b3⟩ := h'
  rcases Nat.lt_trichotomy r r' with q | q | q
  · have := b2 r q
    omega
  · exact q
  · have := a2 r' q
    omega
theorem phN_le (nl : Int) (co : Int → Int) : ∀ k, phN nl co k ≤ k
  | 0 => Nat.le_refl 0
  | k + 1 => by
    have := phN_le nl co k
    unfold phN
    by_cases e : phN nl co k = k ∧ co k < nl
    · rw [if_pos e]
      exact Nat.le_refl _
    · rw [if_neg e]
      omega
theorem PR_phN (nl : Int) (co : Int → Int) : ∀ wc, PR nl co wc (phN nl co wc)
  | 0 => ⟨Nat.le_refl 0, fun k hk => absurd hk (Nat.not_lt_zero _), Or.inl rfl⟩
  | k + 1 => by
    obtain ⟨h1, h2, h3⟩ := PR_phN nl co k
    unfold phN
    by_cases e : phN nl co k = k ∧ co k < nl
    · rw [if_pos e]
      refine ⟨Nat.le_refl _, fun j hj => ?_, Or.inl rfl⟩
      by_cases e2 : j = k
      · rw [e2]; exact e.2
      · exact h2 j (by omega)
    · rw [if_neg e]
      refine ⟨by omega, h2, Or.inr ?_⟩
      by_cases e2 : phN nl co k = k
      · rw [e2]
        have : ¬ co k < nl := fun r => e ⟨e2, r⟩
        omega
      · rcases h3 with h3 | h3
        · exact absurd h3 e2
        · exact h3
/-- the trees of a setting -/
noncomputable def LT (m Q wd : Nat) (wf : Int → Int) (q : Nat) : List Nd := TK m (scF Q q wf) (KK m wd)
/-- a word's leaf -/
theorem lf_at {m Q wd : Nat} {wf : Int → Int} (v : SOK m Q wd wf) (q : Nat) {w : Nat} (hw : w < 1 + KK m wd * (m - 1)) : ∃ i : Nat, i < 1 + KK m wd * m ∧ (LT m Q wd wf q)[i]? = some (lfn (LT m Q wd wf q) w) ∧ (lfn (LT m Q wd wf q) w).2.2 = false ∧ rkn (LT m Q wd wf q) i = w ∧ 0 < (lfn (LT m Q wd wf q) w).1 ∧ (lfn (LT m Q wd wf q) w).1 ≤ 8 := by
  have hn := KK_nodes v.1.1 v.1.2 v.2.2.1.2
  have hm8 : m ≤ 8 := by have := v.1.2; omega
  obtain ⟨-, hlf, -⟩ := TK_step v.1.1 hm8 (scF Q q wf) (KK m wd) (by omega)
  obtain ⟨i, x, h1, h2, h3⟩ := lf_ex (LT m Q wd wf q) w (by unfold LT; rw [hlf]; exact hw)
  have e := lfn_at _ i x h1 h2
  rw [h3] at e
  have hil := (List.getElem?_eq_some_iff.mp h1).1
  have hl := TT_len v q
  rw [e]
  refine ⟨i, by unfold LT at hil; omega, h1, h2, h3, ?_, TK_8 hm8 (List.mem_of_getElem? h1)⟩
  by_cases h0 : x.1 = 0
  · exfalso
    have hp := KK_pos v.1.1 v.2.2.2.1
    have hc := (dfs_code hm8 (List.mem_of_getElem? h1)).2
    rw [h0, Nat.pow_zero] at hc
    have hs : SK m (scF Q q wf) (KK m wd) 0 0 = true := by
      refine SK_mono v.1.1 hm8 _ hp (by omega) (t := 1) ?_
      obtain ⟨-, -, -, -, s5, -⟩ := TK_step v.1.1 hm8 (scF Q q wf) 0 (by omega)
      have hb : bK m (scF Q q wf) 0 = (0, 0, false) := by
        obtain ⟨-, -, -, s4, -⟩ := TK_step v.1.1 hm8 (scF Q q wf) 0 (by omega)
        have := s4.1
        rw [TK_0, List.mem_singleton] at this
        exact this
      rw [s5, hb]
      exact addS_self _ _ _
    have hf := TK_flag (s := x.2.2) hm8 (show ((x.1, x.2.1, x.2.2) : Nd) ∈ TK m (scF Q q wf) (KK m wd) from List.mem_of_getElem? h1)
    rw [h0, show x.2.1 = 0 by omega, hs, h2] at hf
    cases hf
  · omega
section P1
variable {h : Hp} {fi : Int} {m Q wd ts wc : Nat} {re tm tr ph fu : Int} {le sp nu sn wo ro no lv : Int → Int}
set_option maxRecDepth 20000 in
set_option maxHeartbeats 4000000 in
theorem d_leafOf (bo : MO h fi m Q wd ts wc re tm tr ph fu) (t : MTa h le sp nu sn wo ro no lv) {b : Nat} (hb : b < 6) {S : Nat → Nat → Bool} {L : List Nd} (T1 : MT1 sn wo b m S L) (hno : no b = (L.length : Int)) (hN : L.length ≤ 128) {v : Int} (hv : 0 ≤ v ∧ v ≤ 2147483647) {lim : Nat × Nat} {K : QT} (k1 : ∀ (i : Nat) (x : Nd), L[i]? = some x → x.2.2 = false → (rkn L i : Int) = v → K (pI ((128 * b + i : Nat) : Int)) h) (k0 : (∀ (i : Nat) (x : Nd), L[i]? = some x → x.2.2 = false → ¬ (rkn L i : Int) = v) → K (pI (-1)) h) : WM 60 [pR 87, pI b, pI v] h lim K := by
  obtain ⟨m1, m2, m3, m4, m5, m6, m7, m8⟩ := id t
  unfold MO at bo
  have loop : ∀ (y i : Nat), y + i = L.length → (∀ (j : Nat) (x : Nd), j < i → L[j]? = some x → x.2.2 = false → ¬ (rkn L j : Int) = v) → WP 60 6 [pR 87, pI b, pI v, pI ((128 * b + i : Nat) : Int)] [] h lim K := by
    intro y
    induction y with
    | zero =>
      intro i hy h1
      have k := k0 (fun j x hx hf => h1 j x (by have := (List.getElem?_eq_some_iff.mp hx).1; omega) hx hf)
      rw [w60_6]
      try simp (disch := omega) only [w60_0, w60_34, w60_40, e60, x_iconst, x_bipush, x_sipush, x_ldc, x_lconst, x_ldc2l, x_dconst, x_ldc2d, x_ldcf, x_iadd, x_isub, x_imul, x_idiv, x_irem, x_ishl, x_ishr, x_iand, x_ior, x_ixor, x_ladd, x_lsub, x_lmul, x_ldiv, x_lrem, x_lshl, x_lshr, x_lor, x_land, x_lcmp, x_i2l, x_l2i, x_i2b, x_i2f, x_l2f, x_l2d, x_f2d, x_d2l, x_fdiv, x_dadd, x_dsub, x_dmul, x_ddiv, x_dcmp, x_fcmp, x_dup, x_pop, x_dup2, x_objinit, x_rawF, x_rawD, gV_0, gV_1, gV_2, gV_3, gV_4, gV_S, x_iload, x_lload, x_fload, x_dload, x_aload, x_istore, x_fstore, x_astore, x_lstore, x_dstore, gX_I, x_iinc, x_getf, x_putfI, x_putfL, x_putfR, x_iald, x_bald, x_zald, x_lald, x_dald, x_aald, x_iast, x_bast, x_zast, x_last, x_dast, x_aast, x_alen, x_new, x_newa, x_anew, x_acopy, x_sld, x_slen, x_fall, x_goto, x_if, x_cmp, x_tsw, x_lsw, x_ret, x_iret, x_zret, x_lret, x_fret, x_dret, x_aret, x_callr, x_callv, x_calli, x_calls, rcv_R, isO_cO, JW_def, kO_some, sk4, cats_nil, cats_I, cats_L, cats_F, cats_D, cats_R, cats_S, Nat.reduceAdd, Nat.reduceLeDiff, inr, inq, Int.reduceEq, Int.reduceLT, Int.reduceLE, Int.reduceNeg, not_false_eq_true, not_true_eq_false, false_implies, and_self, pk_nil, pk_cons, wk_0, wk_1, wk_2, wk_3, wk_4, swt_nil, swt_cons, swl_nil, swl_cons, c3_eq, c3_lt, c3_ge, c3_le, c3_gt, c3_inr, c3_inr2, cnd_0, cnd_1, cnd_2, cnd_3, cnd_4, cnd_5, wide_I, wide_R, wide_L, wide_F, wide_D, wide_S, nw_I, nw_L, nw_F, nw_D, nw_U, nw_R, nw_S, fgo_cO, fso_cO, Option.map_some, alo_cI, ado_cD, aro_cR, ano_cI, ano_cD, lst, List.getElem?_cons_zero, List.getElem?_cons_succ, List.set_cons_zero, List.set_cons_succ, and_true, true_and, true_implies, forall_const, true_or, or_true, hg_same, hg_ne,  bo, m7]
      rw [hno]
      exact ⟨by omega, by omega, fun _ => k, fun q => by omega⟩
    | succ y ih =>
      intro i hy h1
      obtain ⟨x, hx⟩ : ∃ z, L[i]? = some z := ⟨L[i]'(by omega), List.getElem?_eq_getElem _⟩
      obtain ⟨-, u2⟩ := T1 i x hx
      have hrk := rkn_le L i
      have hlf := lfs_le L
      rw [w60_6]
      try simp (disch := omega) only [w60_0, w60_34, w60_40, e60, x_iconst, x_bipush, x_sipush, x_ldc, x_lconst, x_ldc2l, x_dconst, x_ldc2d, x_ldcf, x_iadd, x_isub, x_imul, x_idiv, x_irem, x_ishl, x_ishr, x_iand, x_ior, x_ixor, x_ladd, x_lsub, x_lmul, x_ldiv, x_lrem, x_lshl, x_lshr, x_lor, x_land, x_lcmp, x_i2l, x_l2i, x_i2b, x_i2f, x_l2f, x_l2d, x_f2d, x_d2l, x_fdiv, x_dadd, x_dsub, x_dmul, x_ddiv, x_dcmp, x_fcmp, x_dup, x_pop, x_dup2, x_objinit, x_rawF, x_rawD, gV_0, gV_1, gV_2, gV_3, gV_4, gV_S, x_iload, x_lload, x_fload, x_dload, x_aload, x_istore, x_fstore, x_astore, x_lstore, x_dstore, gX_I, x_iinc, x_getf, x_putfI, x_putfL, x_putfR, x_iald, x_bald, x_zald, x_lald, x_dald, x_aald, x_iast, x_bast, x_zast, x_last, x_dast, x_aast, x_alen, x_new, x_newa, x_anew, x_acopy, x_sld, x_slen, x_fall, x_goto, x_if, x_cmp, x_tsw, x_lsw, x_ret, x_iret, x_zret, x_lret, x_fret, x_dret, x_aret, x_callr, x_callv, x_calli, x_calls, rcv_R, isO_cO, JW_def, kO_some, sk4, cats_nil, cats_I, cats_L, cats_F, cats_D, cats_R, cats_S, Nat.reduceAdd, Nat.reduceLeDiff, inr, inq, Int.reduceEq, Int.reduceLT, Int.reduceLE, Int.reduceNeg, not_false_eq_true, not_true_eq_false, false_implies, and_self, pk_nil, pk_cons, wk_0, wk_1, wk_2, wk_3, wk_4, swt_nil, swt_cons, swl_nil, swl_cons, c3_eq, c3_lt, c3_ge, c3_le, c3_gt, c3_inr, c3_inr2, cnd_0, cnd_1, cnd_2, cnd_3, cnd_4, cnd_5, wide_I, wide_R, wide_L, wide_F, wide_D, wide_S, nw_I, nw_L, nw_F, nw_D, nw_U, nw_R, nw_S, fgo_cO, fso_cO, Option.map_some, alo_cI, ado_cD, aro_cR, ano_cI, ano_cD, lst, List.getElem?_cons_zero, List.getElem?_cons_succ, List.set_cons_zero, List.set_cons_succ, and_true, true_and, true_implies, forall_const, true_or, or_true, hg_same, hg_ne,  bo, m7, m5]
      rw [hno, u2]
      have next : (∀ hf : x.2.2 = false, ¬ (rkn L i : Int) = v) → WP 60 6 [pR 87, pI b, pI v, pI (((128 * b + i : Nat) : Int) + 1)] [] h lim K := by
        intro hn
        have := ih (i + 1) (by omega) (fun j x' hj hx' hf => by
          by_cases e : j = i
          · subst e
            rw [hx] at hx'
            have : x = x' := by simpa using hx'
            exact hn (by rw [this]; exact hf)
          · exact h1 j x' (by omega) hx' hf)
        rw [show ((128 * b + (i + 1) : Nat) : Int) = ((128 * b + i : Nat) : Int) + 1 by omega] at this
        exact this
      cases ex : x.2.2 with
      | true =>
        refine ⟨by omega, by omega, fun q => by omega, fun _ => ⟨by omega, by show (_ ≤ (-1 : Int) ∧ (-1 : Int) ≤ _) ∧ _; constructor <;> omega, fun q => next (fun hf => by rw [ex] at hf; cases hf), fun q => ?_⟩⟩
        exfalso
        have q2 : ¬ ¬ ((-1 : Int) = v) := q
        omega
      | false =>
        refine ⟨by omega, by omega, fun q => by omega, fun _ => ⟨by omega, by show (_ ≤ (rkn L i : Int) ∧ (rkn L i : Int) ≤ _) ∧ _; constructor <;> omega, fun q => next (fun _ => q), fun q => ?_⟩⟩
        have q2 : ¬ ¬ ((rkn L i : Int) = v) := q
        exact k1 i x hx ex (by omega)
  have := loop L.length 0 (by omega) (fun j x hj => by omega)
  rw [show ((128 * b + 0 : Nat) : Int) = 128 * (b : Int) by omega] at this
  try simp (disch := omega) only [w60_0, w60_34, w60_40, e60, x_iconst, x_bipush, x_sipush, x_ldc, x_lconst, x_ldc2l, x_dconst, x_ldc2d, x_ldcf, x_iadd, x_isub, x_imul, x_idiv, x_irem, x_ishl, x_ishr, x_iand, x_ior, x_ixor, x_ladd, x_lsub, x_lmul, x_ldiv, x_lrem, x_lshl, x_lshr, x_lor, x_land, x_lcmp, x_i2l, x_l2i, x_i2b, x_i2f, x_l2f, x_l2d, x_f2d, x_d2l, x_fdiv, x_dadd, x_dsub, x_dmul, x_ddiv, x_dcmp, x_fcmp, x_dup, x_pop, x_dup2, x_objinit, x_rawF, x_rawD, gV_0, gV_1, gV_2, gV_3, gV_4, gV_S, x_iload, x_lload, x_fload, x_dload, x_aload, x_istore, x_fstore, x_astore, x_lstore, x_dstore, gX_I, x_iinc, x_getf, x_putfI, x_putfL, x_putfR, x_iald, x_bald, x_zald, x_lald, x_dald, x_aald, x_iast, x_bast, x_zast, x_last, x_dast, x_aast, x_alen, x_new, x_newa, x_anew, x_acopy, x_sld, x_slen, x_fall, x_goto, x_if, x_cmp, x_tsw, x_lsw, x_ret, x_iret, x_zret, x_lret, x_fret, x_dret, x_aret, x_callr, x_callv, x_calli, x_calls, rcv_R, isO_cO, JW_def, kO_some, sk4, cats_nil, cats_I, cats_L, cats_F, cats_D, cats_R, cats_S, Nat.reduceAdd, Nat.reduceLeDiff, inr, inq, Int.reduceEq, Int.reduceLT, Int.reduceLE, Int.reduceNeg, not_false_eq_true, not_true_eq_false, false_implies, and_self, pk_nil, pk_cons, wk_0, wk_1, wk_2, wk_3, wk_4, swt_nil, swt_cons, swl_nil, swl_cons, c3_eq, c3_lt, c3_ge, c3_le, c3_gt, c3_inr, c3_inr2, cnd_0, cnd_1, cnd_2, cnd_3, cnd_4, cnd_5, wide_I, wide_R, wide_L, wide_F, wide_D, wide_S, nw_I, nw_L, nw_F, nw_D, nw_U, nw_R, nw_S, fgo_cO, fso_cO, Option.map_some, alo_cI, ado_cD, aro_cR, ano_cI, ano_cD, lst, List.getElem?_cons_zero, List.getElem?_cons_succ, List.set_cons_zero, List.set_cons_succ, and_true, true_and, true_implies, forall_const, true_or, or_true, hg_same, hg_ne]
  exact this
set_option maxRecDepth 20000 in
set_option maxHeartbeats 4000000 in
theorem d_follows (bo : MO h fi m Q wd ts wc re tm tr ph fu) (t : MTa h le sp nu sn wo ro no lv) {wf : Int → Int} (v : SOK m Q wd wf) (T : ∀ q : Nat, q < Q → MTr le sp nu sn wo ro no lv q m (scF Q q wf) (numF Q q wf) (KK m wd)) {co pz0 : Int → Int} (e1 : hg h 101 = some (cI 0 80 co)) (e3 : hg h 103 = some (cI 0 80 pz0)) (hwc : wc ≤ 80) (hco : ∀ i : Int, 0 ≤ i → i < wc → 0 ≤ co i ∧ co i < 64) {lim : Nat × Nat} {K : QT}
    (hK : ∀ (h' : Hp) (r : Nat) (pz : Int → Int), PR ((1 + KK m wd * (m - 1) : Nat) : Int) co wc r → FrP (fun k => k = 87 ∨ k = 103) h h' → MO h' fi m Q wd ts wc re tm tr (r : Int) fu → hg h' 103 = some (cI 0 80 pz) → (∀ k : Nat, k < r → ∃ i : Nat, i < 1 + KK m wd * m ∧ pz k = ((128 * phS (LT m Q wd wf) Q co k + i : Nat) : Int) ∧ (LT m Q wd wf (phS (LT m Q wd wf) Q co k))[i]? = some (phX (LT m Q wd wf) Q co k)) → K pU h') : WM 110 [pR 87] h lim K := by
  have bo' := id bo
  unfold MO at bo'
  have hQ := v.2.1
  have hn := KK_nodes v.1.1 v.1.2 v.2.2.1.2
  have hm8 : m ≤ 8 := by have := v.1.2; omega
  have loop : ∀ (y k : Nat) (h1 : Hp) (pz : Int → Int) (z : PV), y + k = wc → (∀ j : Nat, j < k → co j < ((1 + KK m wd * (m - 1) : Nat) : Int)) → FrP (fun k => k = 87 ∨ k = 103) h h1 → MO h1 fi m Q wd ts wc re tm tr (k : Int) fu → hg h1 103 = some (cI 0 80 pz) → (∀ j : Nat, j < k → ∃ i : Nat, i < 1 + KK m wd * m ∧ pz j = ((128 * phS (LT m Q wd wf) Q co j + i : Nat) : Int) ∧ (LT m Q wd wf (phS (LT m Q wd wf) Q co j))[i]? = some (phX (LT m Q wd wf) Q co j)) → WP 110 11 [pR 87, pI (phS (LT m Q wd wf) Q co k), pI 1, pI k, z] [] h1 lim K := by
    intro y
    induction y with
    | zero =>
      intro k h1 pz z hy hc f o1 e4 hp
      have o1' := id o1
      unfold MO at o1'
      have ek : k = wc := by omega
      rw [w110_11]
      try simp (disch := omega) only [w110_0, w110_46, w110_47, w110_81, w110_87, e110, x_iconst, x_bipush, x_sipush, x_ldc, x_lconst, x_ldc2l, x_dconst, x_ldc2d, x_ldcf, x_iadd, x_isub, x_imul, x_idiv, x_irem, x_ishl, x_ishr, x_iand, x_ior, x_ixor, x_ladd, x_lsub, x_lmul, x_ldiv, x_lrem, x_lshl, x_lshr, x_lor, x_land, x_lcmp, x_i2l, x_l2i, x_i2b, x_i2f, x_l2f, x_l2d, x_f2d, x_d2l, x_fdiv, x_dadd, x_dsub, x_dmul, x_ddiv, x_dcmp, x_fcmp, x_dup, x_pop, x_dup2, x_objinit, x_rawF, x_rawD, gV_0, gV_1, gV_2, gV_3, gV_4, gV_S, x_iload, x_lload, x_fload, x_dload, x_aload, x_istore, x_fstore, x_astore, x_lstore, x_dstore, gX_I, x_iinc, x_getf, x_putfI, x_putfL, x_putfR, x_iald, x_bald, x_zald, x_lald, x_dald, x_aald, x_iast, x_bast, x_zast, x_last, x_dast, x_aast, x_alen, x_new, x_newa, x_anew, x_acopy, x_sld, x_slen, x_fall, x_goto, x_if, x_cmp, x_tsw, x_lsw, x_ret, x_iret, x_zret, x_lret, x_fret, x_dret, x_aret, x_callr, x_callv, x_calli, x_calls, rcv_R, isO_cO, JW_def, kO_some, sk4, cats_nil, cats_I, cats_L, cats_F, cats_D, cats_R, cats_S, Nat.reduceAdd, Nat.reduceLeDiff, inr, inq, Int.reduceEq, Int.reduceLT, Int.reduceLE, Int.reduceNeg, not_false_eq_true, not_true_eq_false, false_implies, and_self, pk_nil, pk_cons, wk_0, wk_1, wk_2, wk_3, wk_4, swt_nil, swt_cons, swl_nil, swl_cons, c3_eq, c3_lt, c3_ge, c3_le, c3_gt, c3_inr, c3_inr2, cnd_0, cnd_1, cnd_2, cnd_3, cnd_4, cnd_5, wide_I, wide_R, wide_L, wide_F, wide_D, wide_S, nw_I, nw_L, nw_F, nw_D, nw_U, nw_R, nw_S, fgo_cO, fso_cO, Option.map_some, alo_cI, ado_cD, aro_cR, ano_cI, ano_cD, lst, List.getElem?_cons_zero, List.getElem?_cons_succ, List.set_cons_zero, List.set_cons_succ, and_true, true_and, true_implies, forall_const, true_or, or_true, hg_same, hg_ne,  o1']
      exact ⟨by omega, fun _ => hK h1 k pz ⟨by omega, hc, Or.inl ek⟩ f o1 e4 hp, fun q => by omega⟩
    | succ y ih =>
      intro k h1 pz z hy hc f o1 e4 hp
      have o1' := id o1
      unfold MO at o1'
      have hs := phS_lt (LT m Q wd wf) Q co (by omega) k
      generalize hst : phS (LT m Q wd wf) Q co k = st at hs
      have t1 := MTa_fr t (FrP_Sm f (fun k k0 k1 q => by omega))
      obtain ⟨T1, T2, T3, T4⟩ := T st hs
      have hl := TT_len v st
      have p1 := (f.1 101 (by omega)).trans e1
      have hcok := hco k (by omega) (by omega)
      rw [w110_11]
      try simp (disch := omega) only [w110_0, w110_46, w110_47, w110_81, w110_87, e110, x_iconst, x_bipush, x_sipush, x_ldc, x_lconst, x_ldc2l, x_dconst, x_ldc2d, x_ldcf, x_iadd, x_isub, x_imul, x_idiv, x_irem, x_ishl, x_ishr, x_iand, x_ior, x_ixor, x_ladd, x_lsub, x_lmul, x_ldiv, x_lrem, x_lshl, x_lshr, x_lor, x_land, x_lcmp, x_i2l, x_l2i, x_i2b, x_i2f, x_l2f, x_l2d, x_f2d, x_d2l, x_fdiv, x_dadd, x_dsub, x_dmul, x_ddiv, x_dcmp, x_fcmp, x_dup, x_pop, x_dup2, x_objinit, x_rawF, x_rawD, gV_0, gV_1, gV_2, gV_3, gV_4, gV_S, x_iload, x_lload, x_fload, x_dload, x_aload, x_istore, x_fstore, x_astore, x_lstore, x_dstore, gX_I, x_iinc, x_getf, x_putfI, x_putfL, x_putfR, x_iald, x_bald, x_zald, x_lald, x_dald, x_aald, x_iast, x_bast, x_zast, x_last, x_dast, x_aast, x_alen, x_new, x_newa, x_anew, x_acopy, x_sld, x_slen, x_fall, x_goto, x_if, x_cmp, x_tsw, x_lsw, x_ret, x_iret, x_zret, x_lret, x_fret, x_dret, x_aret, x_callr, x_callv, x_calli, x_calls, rcv_R, isO_cO, JW_def, kO_some, sk4, cats_nil, cats_I, cats_L, cats_F, cats_D, cats_R, cats_S, Nat.reduceAdd, Nat.reduceLeDiff, inr, inq, Int.reduceEq, Int.reduceLT, Int.reduceLE, Int.reduceNeg, not_false_eq_true, not_true_eq_false, false_implies, and_self, pk_nil, pk_cons, wk_0, wk_1, wk_2, wk_3, wk_4, swt_nil, swt_cons, swl_nil, swl_cons, c3_eq, c3_lt, c3_ge, c3_le, c3_gt, c3_inr, c3_inr2, cnd_0, cnd_1, cnd_2, cnd_3, cnd_4, cnd_5, wide_I, wide_R, wide_L, wide_F, wide_D, wide_S, nw_I, nw_L, nw_F, nw_D, nw_U, nw_R, nw_S, fgo_cO, fso_cO, Option.map_some, alo_cI, ado_cD, aro_cR, ano_cI, ano_cD, lst, List.getElem?_cons_zero, List.getElem?_cons_succ, List.set_cons_zero, List.set_cons_succ, and_true, true_and, true_implies, forall_const, true_or, or_true, hg_same, hg_ne,  o1', p1]
      refine ⟨by omega, fun q => by omega, fun _ => ⟨by omega, ?_⟩⟩
      refine d_leafOf o1 t1 (by omega) T4 (by rw [T1, hl]) (by omega) (by omega) (fun i x hx hf hr => ?_) (fun hno => ?_)
      · have hil := (List.getElem?_eq_some_iff.mp hx).1
        have hrl : rkn (TK m (scF Q st wf) (KK m wd)) i < 1 + KK m wd * (m - 1) := by
          obtain ⟨-, hlf, -⟩ := TK_step v.1.1 hm8 (scF Q st wf) (KK m wd) (by omega)
          rw [← hlf]
          have h1' := rkn_lt hx hf (show i < i + 1 by omega)
          have h2' := rkn_le (TK m (scF Q st wf) (KK m wd)) (i + 1)
          omega
        have hX : phX (LT m Q wd wf) Q co k = x := by
          unfold phX
          rw [hst, ← hr, Int.toNat_natCast]
          exact lfn_at _ i x hx hf
        obtain ⟨i2, -, -, -, -, hx0, hx8⟩ := lf_at v st hrl
        rw [show lfn (LT m Q wd wf st) (rkn (TK m (scF Q st wf) (KK m wd)) i) = x from lfn_at _ i x hx hf] at hx0 hx8
        obtain ⟨u1, u2, u3, u4⟩ := T3 i x hx
        try simp (disch := omega) only [w110_0, w110_46, w110_47, w110_81, w110_87, e110, x_iconst, x_bipush, x_sipush, x_ldc, x_lconst, x_ldc2l, x_dconst, x_ldc2d, x_ldcf, x_iadd, x_isub, x_imul, x_idiv, x_irem, x_ishl, x_ishr, x_iand, x_ior, x_ixor, x_ladd, x_lsub, x_lmul, x_ldiv, x_lrem, x_lshl, x_lshr, x_lor, x_land, x_lcmp, x_i2l, x_l2i, x_i2b, x_i2f, x_l2f, x_l2d, x_f2d, x_d2l, x_fdiv, x_dadd, x_dsub, x_dmul, x_ddiv, x_dcmp, x_fcmp, x_dup, x_pop, x_dup2, x_objinit, x_rawF, x_rawD, gV_0, gV_1, gV_2, gV_3, gV_4, gV_S, x_iload, x_lload, x_fload, x_dload, x_aload, x_istore, x_fstore, x_astore, x_lstore, x_dstore, gX_I, x_iinc, x_getf, x_putfI, x_putfL, x_putfR, x_iald, x_bald, x_zald, x_lald, x_dald, x_aald, x_iast, x_bast, x_zast, x_last, x_dast, x_aast, x_alen, x_new, x_newa, x_anew, x_acopy, x_sld, x_slen, x_fall, x_goto, x_if, x_cmp, x_tsw, x_lsw, x_ret, x_iret, x_zret, x_lret, x_fret, x_dret, x_aret, x_callr, x_callv, x_calli, x_calls, rcv_R, isO_cO, JW_def, kO_some, sk4, cats_nil, cats_I, cats_L, cats_F, cats_D, cats_R, cats_S, Nat.reduceAdd, Nat.reduceLeDiff, inr, inq, Int.reduceEq, Int.reduceLT, Int.reduceLE, Int.reduceNeg, not_false_eq_true, not_true_eq_false, false_implies, and_self, pk_nil, pk_cons, wk_0, wk_1, wk_2, wk_3, wk_4, swt_nil, swt_cons, swl_nil, swl_cons, c3_eq, c3_lt, c3_ge, c3_le, c3_gt, c3_inr, c3_inr2, cnd_0, cnd_1, cnd_2, cnd_3, cnd_4, cnd_5, wide_I, wide_R, wide_L, wide_F, wide_D, wide_S, nw_I, nw_L, nw_F, nw_D, nw_U, nw_R, nw_S, fgo_cO, fso_cO, Option.map_some, alo_cI, ado_cD, aro_cR, ano_cI, ano_cD, lst, List.getElem?_cons_zero, List.getElem?_cons_succ, List.set_cons_zero, List.set_cons_succ, and_true, true_and, true_implies, forall_const, true_or, or_true, hg_same, hg_ne,  o1', e4]
        refine ⟨by omega, fun q => by omega, fun _ => ⟨by omega, ?_⟩⟩
        generalize hh2 : hu (hu h1 103 (cI 0 80 (up pz k ((128 * st + i : Nat) : Int)))) 87 _ = h2
        have o2 : MO h2 fi m Q wd ts wc re tm tr ((k + 1 : Nat) : Int) fu := by
          rw [← hh2]
          exact hg_same _ _ _
        have f2 : FrP (fun k => k = 87 ∨ k = 103) h h2 := by
          rw [← hh2]
          exact FrP_up _ (FrP_up _ f (Or.inr rfl)) (Or.inl rfl)
        have e5 : hg h2 103 = some (cI 0 80 (up pz k ((128 * st + i : Nat) : Int))) := by
          rw [← hh2, hg_ne _ _ _ _ (by omega)]
          exact hg_same _ _ _
        refine c_stateBehind (d := x.1) (c := x.2.1) o2 (MTa_fr t (FrP_Sm f2 (fun k k0 k1 q => by omega))) (by omega) hQ u1 hx8 u4 ?_
        unfold stF
        rw [if_neg (by omega)]
        have go := ih (k + 1) h2 _ (pI ((128 * st + i : Nat) : Int)) (by omega) (fun j hj => by
          by_cases e : j = k
          · subst e
            rw [← hr]
            omega
          · exact hc j (by omega)) f2 o2 e5 (fun j hj => by
          by_cases e : j = k
          · subst e
            rw [up_same, hst, hX]
            exact ⟨i, by omega, rfl, hx⟩
          · rw [up_ne _ _ _ _ (by omega)]
            exact hp j (by omega))
        rw [show phS (LT m Q wd wf) Q co (k + 1) = x.2.1 % 8 % Q by
          show (phX (LT m Q wd wf) Q co k).2.1 % 8 % Q = _
          rw [hX], show ((k + 1 : Nat) : Int) = (k : Int) + 1 by omega] at go
        try simp (disch := omega) only [w110_0, w110_46, w110_47, w110_81, w110_87, e110, x_iconst, x_bipush, x_sipush, x_ldc, x_lconst, x_ldc2l, x_dconst, x_ldc2d, x_ldcf, x_iadd, x_isub, x_imul, x_idiv, x_irem, x_ishl, x_ishr, x_iand, x_ior, x_ixor, x_ladd, x_lsub, x_lmul, x_ldiv, x_lrem, x_lshl, x_lshr, x_lor, x_land, x_lcmp, x_i2l, x_l2i, x_i2b, x_i2f, x_l2f, x_l2d, x_f2d, x_d2l, x_fdiv, x_dadd, x_dsub, x_dmul, x_ddiv, x_dcmp, x_fcmp, x_dup, x_pop, x_dup2, x_objinit, x_rawF, x_rawD, gV_0, gV_1, gV_2, gV_3, gV_4, gV_S, x_iload, x_lload, x_fload, x_dload, x_aload, x_istore, x_fstore, x_astore, x_lstore, x_dstore, gX_I, x_iinc, x_getf, x_putfI, x_putfL, x_putfR, x_iald, x_bald, x_zald, x_lald, x_dald, x_aald, x_iast, x_bast, x_zast, x_last, x_dast, x_aast, x_alen, x_new, x_newa, x_anew, x_acopy, x_sld, x_slen, x_fall, x_goto, x_if, x_cmp, x_tsw, x_lsw, x_ret, x_iret, x_zret, x_lret, x_fret, x_dret, x_aret, x_callr, x_callv, x_calli, x_calls, rcv_R, isO_cO, JW_def, kO_some, sk4, cats_nil, cats_I, cats_L, cats_F, cats_D, cats_R, cats_S, Nat.reduceAdd, Nat.reduceLeDiff, inr, inq, Int.reduceEq, Int.reduceLT, Int.reduceLE, Int.reduceNeg, not_false_eq_true, not_true_eq_false, false_implies, and_self, pk_nil, pk_cons, wk_0, wk_1, wk_2, wk_3, wk_4, swt_nil, swt_cons, swl_nil, swl_cons, c3_eq, c3_lt, c3_ge, c3_le, c3_gt, c3_inr, c3_inr2, cnd_0, cnd_1, cnd_2, cnd_3, cnd_4, cnd_5, wide_I, wide_R, wide_L, wide_F, wide_D, wide_S, nw_I, nw_L, nw_F, nw_D, nw_U, nw_R, nw_S, fgo_cO, fso_cO, Option.map_some, alo_cI, ado_cD, aro_cR, ano_cI, ano_cD, lst, List.getElem?_cons_zero, List.getElem?_cons_succ, List.set_cons_zero, List.set_cons_succ, and_true, true_and, true_implies, forall_const, true_or, or_true, hg_same, hg_ne]
        exact go
      · have hge : ((1 + KK m wd * (m - 1) : Nat) : Int) ≤ co k := by
          by_cases hh : ((1 + KK m wd * (m - 1) : Nat) : Int) ≤ co k
          · exact hh
          · obtain ⟨i, -, i2, i3, i4, -, -⟩ := lf_at v st (w := (co k).toNat) (by omega)
            exact absurd (show (rkn (TK m (scF Q st wf) (KK m wd)) i : Int) = co k by
              have : rkn (TK m (scF Q st wf) (KK m wd)) i = (co k).toNat := i4
              omega) (hno i _ i2 i3)
        have done := hK h1 k pz ⟨by omega, hc, Or.inr hge⟩ f o1 e4 hp
        try simp (disch := omega) only [w110_0, w110_46, w110_47, w110_81, w110_87, e110, x_iconst, x_bipush, x_sipush, x_ldc, x_lconst, x_ldc2l, x_dconst, x_ldc2d, x_ldcf, x_iadd, x_isub, x_imul, x_idiv, x_irem, x_ishl, x_ishr, x_iand, x_ior, x_ixor, x_ladd, x_lsub, x_lmul, x_ldiv, x_lrem, x_lshl, x_lshr, x_lor, x_land, x_lcmp, x_i2l, x_l2i, x_i2b, x_i2f, x_l2f, x_l2d, x_f2d, x_d2l, x_fdiv, x_dadd, x_dsub, x_dmul, x_ddiv, x_dcmp, x_fcmp, x_dup, x_pop, x_dup2, x_objinit, x_rawF, x_rawD, gV_0, gV_1, gV_2, gV_3, gV_4, gV_S, x_iload, x_lload, x_fload, x_dload, x_aload, x_istore, x_fstore, x_astore, x_lstore, x_dstore, gX_I, x_iinc, x_getf, x_putfI, x_putfL, x_putfR, x_iald, x_bald, x_zald, x_lald, x_dald, x_aald, x_iast, x_bast, x_zast, x_last, x_dast, x_aast, x_alen, x_new, x_newa, x_anew, x_acopy, x_sld, x_slen, x_fall, x_goto, x_if, x_cmp, x_tsw, x_lsw, x_ret, x_iret, x_zret, x_lret, x_fret, x_dret, x_aret, x_callr, x_callv, x_calli, x_calls, rcv_R, isO_cO, JW_def, kO_some, sk4, cats_nil, cats_I, cats_L, cats_F, cats_D, cats_R, cats_S, Nat.reduceAdd, Nat.reduceLeDiff, inr, inq, Int.reduceEq, Int.reduceLT, Int.reduceLE, Int.reduceNeg, not_false_eq_true, not_true_eq_false, false_implies, and_self, pk_nil, pk_cons, wk_0, wk_1, wk_2, wk_3, wk_4, swt_nil, swt_cons, swl_nil, swl_cons, c3_eq, c3_lt, c3_ge, c3_le, c3_gt, c3_inr, c3_inr2, cnd_0, cnd_1, cnd_2, cnd_3, cnd_4, cnd_5, wide_I, wide_R, wide_L, wide_F, wide_D, wide_S, nw_I, nw_L, nw_F, nw_D, nw_U, nw_R, nw_S, fgo_cO, fso_cO, Option.map_some, alo_cI, ado_cD, aro_cR, ano_cI, ano_cD, lst, List.getElem?_cons_zero, List.getElem?_cons_succ, List.set_cons_zero, List.set_cons_succ, and_true, true_and, true_implies, forall_const, true_or, or_true, hg_same, hg_ne]
        rw [w110_11]
        try simp (disch := omega) only [w110_0, w110_46, w110_47, w110_81, w110_87, e110, x_iconst, x_bipush, x_sipush, x_ldc, x_lconst, x_ldc2l, x_dconst, x_ldc2d, x_ldcf, x_iadd, x_isub, x_imul, x_idiv, x_irem, x_ishl, x_ishr, x_iand, x_ior, x_ixor, x_ladd, x_lsub, x_lmul, x_ldiv, x_lrem, x_lshl, x_lshr, x_lor, x_land, x_lcmp, x_i2l, x_l2i, x_i2b, x_i2f, x_l2f, x_l2d, x_f2d, x_d2l, x_fdiv, x_dadd, x_dsub, x_dmul, x_ddiv, x_dcmp, x_fcmp, x_dup, x_pop, x_dup2, x_objinit, x_rawF, x_rawD, gV_0, gV_1, gV_2, gV_3, gV_4, gV_S, x_iload, x_lload, x_fload, x_dload, x_aload, x_istore, x_fstore, x_astore, x_lstore, x_dstore, gX_I, x_iinc, x_getf, x_putfI, x_putfL, x_putfR, x_iald, x_bald, x_zald, x_lald, x_dald, x_aald, x_iast, x_bast, x_zast, x_last, x_dast, x_aast, x_alen, x_new, x_newa, x_anew, x_acopy, x_sld, x_slen, x_fall, x_goto, x_if, x_cmp, x_tsw, x_lsw, x_ret, x_iret, x_zret, x_lret, x_fret, x_dret, x_aret, x_callr, x_callv, x_calli, x_calls, rcv_R, isO_cO, JW_def, kO_some, sk4, cats_nil, cats_I, cats_L, cats_F, cats_D, cats_R, cats_S, Nat.reduceAdd, Nat.reduceLeDiff, inr, inq, Int.reduceEq, Int.reduceLT, Int.reduceLE, Int.reduceNeg, not_false_eq_true, not_true_eq_false, false_implies, and_self, pk_nil, pk_cons, wk_0, wk_1, wk_2, wk_3, wk_4, swt_nil, swt_cons, swl_nil, swl_cons, c3_eq, c3_lt, c3_ge, c3_le, c3_gt, c3_inr, c3_inr2, cnd_0, cnd_1, cnd_2, cnd_3, cnd_4, cnd_5, wide_I, wide_R, wide_L, wide_F, wide_D, wide_S, nw_I, nw_L, nw_F, nw_D, nw_U, nw_R, nw_S, fgo_cO, fso_cO, Option.map_some, alo_cI, ado_cD, aro_cR, ano_cI, ano_cD, lst, List.getElem?_cons_zero, List.getElem?_cons_succ, List.set_cons_zero, List.set_cons_succ, and_true, true_and, true_implies, forall_const, true_or, or_true, hg_same, hg_ne,  o1']
        exact ⟨by omega, fun _ => done, fun _ => done⟩
  have go := loop wc 0 (hu h 87 (cO 6 [pI fi, pI m, pI Q, pI wd, pR 88, pR 89, pR 90, pR 91, pR 92, pR 93, pR 94, pR 95, pR 96, pR 97, pR 98, pR 99, pR 100, pI ts, pR 101, pI wc, pI re, pR 102, pI tm, pI tr, pR 103, pI 0, pR 104, pI fu, pR 105, pR 106, pR 107, pR 108, pR 109, pR 110, pR 111])) pz0 pU (by omega) (fun j hj => by omega) (FrP_hu _ (Or.inl rfl)) (hg_same _ _ _) (by rw [hg_ne _ _ _ _ (by omega)]; exact e3) (fun j hj => by omega)
  try simp (disch := omega) only [w110_0, w110_46, w110_47, w110_81, w110_87, e110, x_iconst, x_bipush, x_sipush, x_ldc, x_lconst, x_ldc2l, x_dconst, x_ldc2d, x_ldcf, x_iadd, x_isub, x_imul, x_idiv, x_irem, x_ishl, x_ishr, x_iand, x_ior, x_ixor, x_ladd, x_lsub, x_lmul, x_ldiv, x_lrem, x_lshl, x_lshr, x_lor, x_land, x_lcmp, x_i2l, x_l2i, x_i2b, x_i2f, x_l2f, x_l2d, x_f2d, x_d2l, x_fdiv, x_dadd, x_dsub, x_dmul, x_ddiv, x_dcmp, x_fcmp, x_dup, x_pop, x_dup2, x_objinit, x_rawF, x_rawD, gV_0, gV_1, gV_2, gV_3, gV_4, gV_S, x_iload, x_lload, x_fload, x_dload, x_aload, x_istore, x_fstore, x_astore, x_lstore, x_dstore, gX_I, x_iinc, x_getf, x_putfI, x_putfL, x_putfR, x_iald, x_bald, x_zald, x_lald, x_dald, x_aald, x_iast, x_bast, x_zast, x_last, x_dast, x_aast, x_alen, x_new, x_newa, x_anew, x_acopy, x_sld, x_slen, x_fall, x_goto, x_if, x_cmp, x_tsw, x_lsw, x_ret, x_iret, x_zret, x_lret, x_fret, x_dret, x_aret, x_callr, x_callv, x_calli, x_calls, rcv_R, isO_cO, JW_def, kO_some, sk4, cats_nil, cats_I, cats_L, cats_F, cats_D, cats_R, cats_S, Nat.reduceAdd, Nat.reduceLeDiff, inr, inq, Int.reduceEq, Int.reduceLT, Int.reduceLE, Int.reduceNeg, not_false_eq_true, not_true_eq_false, false_implies, and_self, pk_nil, pk_cons, wk_0, wk_1, wk_2, wk_3, wk_4, swt_nil, swt_cons, swl_nil, swl_cons, c3_eq, c3_lt, c3_ge, c3_le, c3_gt, c3_inr, c3_inr2, cnd_0, cnd_1, cnd_2, cnd_3, cnd_4, cnd_5, wide_I, wide_R, wide_L, wide_F, wide_D, wide_S, nw_I, nw_L, nw_F, nw_D, nw_U, nw_R, nw_S, fgo_cO, fso_cO, Option.map_some, alo_cI, ado_cD, aro_cR, ano_cI, ano_cD, lst, List.getElem?_cons_zero, List.getElem?_cons_succ, List.set_cons_zero, List.set_cons_succ, and_true, true_and, true_implies, forall_const, true_or, or_true, hg_same, hg_ne,  bo']
  exact go
end P1

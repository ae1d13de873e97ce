section P3
variable {h h1 : Hp} {m Q wd : Nat} {wf : Int → Int} {ts : Nat} {tx : Int → Int} {wc : Nat} {co : Int → Int} {re fi : Int} {kp : Int → Int} {sl : Int → Nat × Nat × Nat × (Int → Int)} {cf cs : Int → Int} {cd cl cc : Int → Int → Int} {ss : Int → Int} {sb : Int → Int → Int}
/-- the model's scratch -/
theorem MA_scr (b : MA h m Q wd wf ts tx wc co re fi kp sl cf cs cd cl cc ss sb) {tm tr ph : Int} (o : MO h1 fi m Q wd ts wc re tm tr ph (fuK kp)) (t : MTs h1 m Q wd wf) (s : MSc h1) (f1 : Sm h h1 88 89) (f2 : Sm h h1 100 102) (f3 : Sm h h1 105 109) (f4 : Sm h h1 110 112) : MA h1 m Q wd wf ts tx wc co re fi kp sl cf cs cd cl cc ss sb := by
  obtain ⟨-, a2, -, -, a5, a6, a7, a8⟩ := b
  exact ⟨⟨tm, tr, ph, o⟩, MWt_fr a2 (Sm_w f1 (by omega) (by omega)), t, s, MTx_fr a5 (Sm_w f2 (by omega) (by omega)), MSl_fr a6 (Sm_w f3 (by omega) (by omega)), MCr_fr a7 (Sm_w f3 (by omega) (by omega)), MSh_fr a8 (Sm_w f4 (by omega) (by omega))⟩
theorem MA_ph (b : MA h m Q wd wf ts tx wc co re fi kp sl cf cs cd cl cc ss sb) {tm tr ph : Int} {pz : Int → Int} (f : FrP (fun k => k = 87 ∨ k = 103) h h1) (o : MO h1 fi m Q wd ts wc re tm tr ph (fuK kp)) (e : hg h1 103 = some (cI 0 80 pz)) : MA h1 m Q wd wf ts tx wc co re fi kp sl cf cs cd cl cc ss sb := by
  obtain ⟨-, -, a3, ⟨⟨p1, o1⟩, ⟨p2, o2⟩, ⟨p3, o3⟩, ⟨p4, o4⟩, -, ⟨p6, o6⟩, ⟨p7, o7⟩⟩, -⟩ := id b
  exact MA_scr b o (MTs_fr a3 (FrP_Sm f (fun k k0 k1 q => by omega))) ⟨⟨p1, (f.1 _ (by omega)).trans o1⟩, ⟨p2, (f.1 _ (by omega)).trans o2⟩, ⟨p3, (f.1 _ (by omega)).trans o3⟩, ⟨p4, (f.1 _ (by omega)).trans o4⟩, ⟨pz, e⟩, ⟨p6, (f.1 _ (by omega)).trans o6⟩, ⟨p7, (f.1 _ (by omega)).trans o7⟩⟩ (FrP_Sm f (fun k k0 k1 q => by omega)) (FrP_Sm f (fun k k0 k1 q => by omega)) (FrP_Sm f (fun k k0 k1 q => by omega)) (FrP_Sm f (fun k k0 k1 q => by omega))
set_option maxRecDepth 20000 in
set_option maxHeartbeats 4000000 in
theorem d_fault (b : MA h m Q wd wf ts tx wc co re fi kp sl cf cs cd cl cc ss sb) (v : SOK m Q wd wf) (v3 : COK wc co) (v4 : 0 ≤ re ∧ re ≤ 8) {lim : Nat × Nat} {K : QT}
    (hK : ∀ (h' : Hp) (r : Nat) (pz : Int → Int) (tm tr : Int), FrP (fun k => k = 87 ∨ k = 103) h h' → MA h' m Q wd wf ts tx wc co re fi kp sl cf cs cd cl cc ss sb → MO h' fi m Q wd ts wc re tm tr (r : Int) (fuK kp) → (vF m Q wd wf wc co re = -1 → r = wc ∧ MPh h' m Q wd wf co wc pz) → K (pI (vF m Q wd wf wc co re)) h') : WM 137 [pR 87] h lim K := by
  obtain ⟨⟨tm, tr, ph, b2⟩, b3, ⟨le, sp, nu, sn, wo, ro, no, lv, z3, T⟩, ⟨-, -, -, -, ⟨pz0, o5⟩, -⟩, ⟨-, ⟨g, x2, y2⟩⟩, b7, b8, b9⟩ := id b
  exact d_faultNow b2 z3 v T x2 y2 o5 v3 v4 (fun h' r pz f o e k => hK h' r pz tm tr f (MA_ph b f o e) o k)
end P3
theorem vF_rng (m Q wd : Nat) (wf : Int → Int) (wc : Nat) (co : Int → Int) (re : Int) (hwc : wc ≤ 80) : -1 ≤ vF m Q wd wf wc co re ∧ vF m Q wd wf wc co re ≤ 80 := by
  have := phN_le ((1 + KK m wd * (m - 1) : Nat) : Int) co wc
  unfold vF
  by_cases e : phN ((1 + KK m wd * (m - 1) : Nat) : Int) co wc < wc
  · rw [if_pos e]
    omega
  · rw [if_neg e]
    by_cases e2 : (if wc = 0 then 0 else ((phX (LT m Q wd wf) Q co (wc - 1)).1 : Int)) < re
    · rw [if_pos e2]
      omega
    · rw [if_neg e2]
      omega
set_option maxRecDepth 20000 in
set_option maxHeartbeats 4000000 in
theorem k_fault : Pair 193 163 [] := by
  intro h L xs I lim K1 hK
  obtain ⟨I1, I2, m, Q, wd, wf, ts, tx, wc, co, re, fi, kp, sl, cf, cs, cd, cl, cc, ss, sb, a, b, v⟩ := I
  obtain ⟨a1, a2, a3, a4, a5, a6, a7, a8, a9⟩ := id a
  obtain ⟨v1, v2, v3, v4, v5, v6, v7⟩ := id v
  have a1' := id a1
  unfold PTO at a1'
  obtain ⟨hts, htx⟩ := id v2
  obtain ⟨hwc, hco⟩ := id v3
  obtain ⟨hm, hQ, hwd, hmw, hW, hWs⟩ := id v1
  have hr := vF_rng m Q wd wf wc co re hwc
  try simp (disch := omega) only [w193_0, e193, x_iconst, x_bipush, x_sipush, x_ldc, x_lconst, x_ldc2l, x_dconst, x_ldc2d, x_ldcf, x_iadd, x_isub, x_imul, x_idiv, x_irem, x_ishl, x_ishr, x_iand, x_ior, x_ixor, x_ladd, x_lsub, x_lmul, x_ldiv, x_lrem, x_lshl, x_lshr, x_lor, x_land, x_lcmp, x_i2l, x_l2i, x_i2b, x_i2f, x_l2f, x_l2d, x_f2d, x_d2l, x_fdiv, x_dadd, x_dsub, x_dmul, x_ddiv, x_dcmp, x_fcmp, x_dup, x_pop, x_dup2, x_objinit, x_rawF, x_rawD, gV_0, gV_1, gV_2, gV_3, gV_4, gV_S, x_iload, x_lload, x_fload, x_dload, x_aload, x_istore, x_fstore, x_astore, x_lstore, x_dstore, gX_I, x_iinc, x_getf, x_putfI, x_putfL, x_putfR, x_iald, x_bald, x_zald, x_lald, x_dald, x_aald, x_iast, x_bast, x_zast, x_last, x_dast, x_aast, x_alen, x_new, x_newa, x_anew, x_acopy, x_sld, x_slen, x_fall, x_goto, x_if, x_cmp, x_tsw, x_lsw, x_ret, x_iret, x_zret, x_lret, x_fret, x_dret, x_aret, x_callr, x_callv, x_calli, x_calls, rcv_R, isO_cO, JW_def, kO_some, sk4, cats_nil, cats_I, cats_L, cats_F, cats_D, cats_R, cats_S, Nat.reduceAdd, Nat.reduceLeDiff, inr, inq, Int.reduceEq, Int.reduceLT, Int.reduceLE, Int.reduceNeg, not_false_eq_true, not_true_eq_false, false_implies, and_self, pk_nil, pk_cons, wk_0, wk_1, wk_2, wk_3, wk_4, swt_nil, swt_cons, swl_nil, swl_cons, c3_eq, c3_lt, c3_ge, c3_le, c3_gt, c3_inr, c3_inr2, cnd_0, cnd_1, cnd_2, cnd_3, cnd_4, cnd_5, wide_I, wide_R, wide_L, wide_F, wide_D, wide_S, nw_I, nw_L, nw_F, nw_D, nw_U, nw_R, nw_S, fgo_cO, fso_cO, Option.map_some, alo_cI, ado_cD, aro_cR, ano_cI, ano_cD, lst, List.getElem?_cons_zero, List.getElem?_cons_succ, List.set_cons_zero, List.set_cons_succ, and_true, true_and, true_implies, forall_const, true_or, or_true, hg_same, hg_ne,  a1']
  refine c_firstFault a v1 v3 v4.1 (fun h1 ps pn A1 f1 hp => ?_)
  try simp (disch := omega) only [w193_0, e193, x_iconst, x_bipush, x_sipush, x_ldc, x_lconst, x_ldc2l, x_dconst, x_ldc2d, x_ldcf, x_iadd, x_isub, x_imul, x_idiv, x_irem, x_ishl, x_ishr, x_iand, x_ior, x_ixor, x_ladd, x_lsub, x_lmul, x_ldiv, x_lrem, x_lshl, x_lshr, x_lor, x_land, x_lcmp, x_i2l, x_l2i, x_i2b, x_i2f, x_l2f, x_l2d, x_f2d, x_d2l, x_fdiv, x_dadd, x_dsub, x_dmul, x_ddiv, x_dcmp, x_fcmp, x_dup, x_pop, x_dup2, x_objinit, x_rawF, x_rawD, gV_0, gV_1, gV_2, gV_3, gV_4, gV_S, x_iload, x_lload, x_fload, x_dload, x_aload, x_istore, x_fstore, x_astore, x_lstore, x_dstore, gX_I, x_iinc, x_getf, x_putfI, x_putfL, x_putfR, x_iald, x_bald, x_zald, x_lald, x_dald, x_aald, x_iast, x_bast, x_zast, x_last, x_dast, x_aast, x_alen, x_new, x_newa, x_anew, x_acopy, x_sld, x_slen, x_fall, x_goto, x_if, x_cmp, x_tsw, x_lsw, x_ret, x_iret, x_zret, x_lret, x_fret, x_dret, x_aret, x_callr, x_callv, x_calli, x_calls, rcv_R, isO_cO, JW_def, kO_some, sk4, cats_nil, cats_I, cats_L, cats_F, cats_D, cats_R, cats_S, Nat.reduceAdd, Nat.reduceLeDiff, inr, inq, Int.reduceEq, Int.reduceLT, Int.reduceLE, Int.reduceNeg, not_false_eq_true, not_true_eq_false, false_implies, and_self, pk_nil, pk_cons, wk_0, wk_1, wk_2, wk_3, wk_4, swt_nil, swt_cons, swl_nil, swl_cons, c3_eq, c3_lt, c3_ge, c3_le, c3_gt, c3_inr, c3_inr2, cnd_0, cnd_1, cnd_2, cnd_3, cnd_4, cnd_5, wide_I, wide_R, wide_L, wide_F, wide_D, wide_S, nw_I, nw_L, nw_F, nw_D, nw_U, nw_R, nw_S, fgo_cO, fso_cO, Option.map_some, alo_cI, ado_cD, aro_cR, ano_cI, ano_cD, lst, List.getElem?_cons_zero, List.getElem?_cons_succ, List.set_cons_zero, List.set_cons_succ, and_true, true_and, true_implies, forall_const, true_or, or_true, hg_same, hg_ne]
  have fr : Fr h h1 0 87 := Fr_w f1 (by omega) (by omega)
  refine hK (vF m Q wd wf wc co re) _ (by unfold inr; omega) (Post_of I1 I2 b (fr) (fun b1 lim K2 hK2 => ?_))
  obtain ⟨⟨tm, tr, ph, b2⟩, b3, b4, b5, b6, b7, b8, b9⟩ := id b1
  obtain ⟨⟨f1, x1, y1⟩, ⟨f2, x2, y2⟩⟩ := id b6
  have b2' := id b2
  unfold MO at b2'
  try simp (disch := omega) only [w163_0, e163, x_iconst, x_bipush, x_sipush, x_ldc, x_lconst, x_ldc2l, x_dconst, x_ldc2d, x_ldcf, x_iadd, x_isub, x_imul, x_idiv, x_irem, x_ishl, x_ishr, x_iand, x_ior, x_ixor, x_ladd, x_lsub, x_lmul, x_ldiv, x_lrem, x_lshl, x_lshr, x_lor, x_land, x_lcmp, x_i2l, x_l2i, x_i2b, x_i2f, x_l2f, x_l2d, x_f2d, x_d2l, x_fdiv, x_dadd, x_dsub, x_dmul, x_ddiv, x_dcmp, x_fcmp, x_dup, x_pop, x_dup2, x_objinit, x_rawF, x_rawD, gV_0, gV_1, gV_2, gV_3, gV_4, gV_S, x_iload, x_lload, x_fload, x_dload, x_aload, x_istore, x_fstore, x_astore, x_lstore, x_dstore, gX_I, x_iinc, x_getf, x_putfI, x_putfL, x_putfR, x_iald, x_bald, x_zald, x_lald, x_dald, x_aald, x_iast, x_bast, x_zast, x_last, x_dast, x_aast, x_alen, x_new, x_newa, x_anew, x_acopy, x_sld, x_slen, x_fall, x_goto, x_if, x_cmp, x_tsw, x_lsw, x_ret, x_iret, x_zret, x_lret, x_fret, x_dret, x_aret, x_callr, x_callv, x_calli, x_calls, rcv_R, isO_cO, JW_def, kO_some, sk4, cats_nil, cats_I, cats_L, cats_F, cats_D, cats_R, cats_S, Nat.reduceAdd, Nat.reduceLeDiff, inr, inq, Int.reduceEq, Int.reduceLT, Int.reduceLE, Int.reduceNeg, not_false_eq_true, not_true_eq_false, false_implies, and_self, pk_nil, pk_cons, wk_0, wk_1, wk_2, wk_3, wk_4, swt_nil, swt_cons, swl_nil, swl_cons, c3_eq, c3_lt, c3_ge, c3_le, c3_gt, c3_inr, c3_inr2, cnd_0, cnd_1, cnd_2, cnd_3, cnd_4, cnd_5, wide_I, wide_R, wide_L, wide_F, wide_D, wide_S, nw_I, nw_L, nw_F, nw_D, nw_U, nw_R, nw_S, fgo_cO, fso_cO, Option.map_some, alo_cI, ado_cD, aro_cR, ano_cI, ano_cD, lst, List.getElem?_cons_zero, List.getElem?_cons_succ, List.set_cons_zero, List.set_cons_succ, and_true, true_and, true_implies, forall_const, true_or, or_true, hg_same, hg_ne,  b2']
  refine d_fault b1 v1 v3 v4.1 (fun h2 r pz tm tr f2 B2 o2 hp2 => ?_)
  try simp (disch := omega) only [w163_0, e163, x_iconst, x_bipush, x_sipush, x_ldc, x_lconst, x_ldc2l, x_dconst, x_ldc2d, x_ldcf, x_iadd, x_isub, x_imul, x_idiv, x_irem, x_ishl, x_ishr, x_iand, x_ior, x_ixor, x_ladd, x_lsub, x_lmul, x_ldiv, x_lrem, x_lshl, x_lshr, x_lor, x_land, x_lcmp, x_i2l, x_l2i, x_i2b, x_i2f, x_l2f, x_l2d, x_f2d, x_d2l, x_fdiv, x_dadd, x_dsub, x_dmul, x_ddiv, x_dcmp, x_fcmp, x_dup, x_pop, x_dup2, x_objinit, x_rawF, x_rawD, gV_0, gV_1, gV_2, gV_3, gV_4, gV_S, x_iload, x_lload, x_fload, x_dload, x_aload, x_istore, x_fstore, x_astore, x_lstore, x_dstore, gX_I, x_iinc, x_getf, x_putfI, x_putfL, x_putfR, x_iald, x_bald, x_zald, x_lald, x_dald, x_aald, x_iast, x_bast, x_zast, x_last, x_dast, x_aast, x_alen, x_new, x_newa, x_anew, x_acopy, x_sld, x_slen, x_fall, x_goto, x_if, x_cmp, x_tsw, x_lsw, x_ret, x_iret, x_zret, x_lret, x_fret, x_dret, x_aret, x_callr, x_callv, x_calli, x_calls, rcv_R, isO_cO, JW_def, kO_some, sk4, cats_nil, cats_I, cats_L, cats_F, cats_D, cats_R, cats_S, Nat.reduceAdd, Nat.reduceLeDiff, inr, inq, Int.reduceEq, Int.reduceLT, Int.reduceLE, Int.reduceNeg, not_false_eq_true, not_true_eq_false, false_implies, and_self, pk_nil, pk_cons, wk_0, wk_1, wk_2, wk_3, wk_4, swt_nil, swt_cons, swl_nil, swl_cons, c3_eq, c3_lt, c3_ge, c3_le, c3_gt, c3_inr, c3_inr2, cnd_0, cnd_1, cnd_2, cnd_3, cnd_4, cnd_5, wide_I, wide_R, wide_L, wide_F, wide_D, wide_S, nw_I, nw_L, nw_F, nw_D, nw_U, nw_R, nw_S, fgo_cO, fso_cO, Option.map_some, alo_cI, ado_cD, aro_cR, ano_cI, ano_cD, lst, List.getElem?_cons_zero, List.getElem?_cons_succ, List.set_cons_zero, List.set_cons_succ, and_true, true_and, true_implies, forall_const, true_or, or_true, hg_same, hg_ne]
  exact hK2 _ (Inv_of I1 I2 fr A1 (FrP_Fr f2 (fun k q => by omega)) B2 v)
/-! told back -/
def sN (f : Nat → Nat) : Nat → Nat
  | 0 => 0
  | n + 1 => sN f n + f n
theorem sN_at (f : Nat → Nat) : ∀ (n i : Nat), i < sN f n → ∃ k j, k < n ∧ j < f k ∧ i = sN f k + j
  | 0, i, h => absurd h (Nat.not_lt_zero _)
  | n + 1, i, h => by
    by_cases e : i < sN f n
    · obtain ⟨k, j, h1, h2, h3⟩ := sN_at f n i e
      exact ⟨k, j, by omega, h2, h3⟩
    · refine ⟨n, i - sN f n, by omega, ?_, by omega⟩
      have : sN f (n + 1) = sN f n + f n := rfl
      omega
theorem sN_mono (f : Nat → Nat) : ∀ {a b : Nat}, a ≤ b → sN f a ≤ sN f b
  | a, 0, h => by
    have : a = 0 := by omega
    subst this
    exact Nat.le_refl _
  | a, b + 1, h => by
    by_cases e : a = b + 1
    · subst e
      exact Nat.le_refl _
    · have := sN_mono f (show a ≤ b by omega)
      show sN f a ≤ sN f b + f b
      omega
theorem dg_lt {m : Nat} {S : Nat → Nat → Bool} (hm : m ≤ 8) : ∀ (d : Nat) (x : Nd), x ∈ dfs m S 8 0 0 → x.1 = d → ∀ j, j < d → dg x.1 x.2.1 j < m
  | 0, x, hx, e, j, hj => absurd hj (Nat.not_lt_zero _)
  | d + 1, x, hx, e, j, hj => by
    obtain ⟨-, p2, p3⟩ := dfs_par hm 8 0 0 rfl x hx (by omega)
    by_cases e2 : j = d
    · subst e2
      unfold dg
      rw [e, show j + 1 - 1 - j = 0 by omega, Nat.pow_zero, Nat.div_one]
      exact p2
    · have ih := dg_lt hm d _ p3 (by show x.1 - 1 = d; omega) j (by omega)
      have hc := (dg_child (d := d) (c := x.2.1 / 8) (l := x.2.1 % 8) (Nat.mod_lt _ (by decide))).1 j (by omega)
      rw [Nat.div_add_mod, ← e] at hc
      rw [hc]
      have ih2 : dg (x.1 - 1) (x.2.1 / 8) j < m := ih
      rw [show x.1 - 1 = d by omega] at ih2
      exact ih2
section P3b
variable (m Q wd : Nat) (wf : Int → Int) (wc : Nat) (co : Int → Int) (re : Int)
noncomputable def tbk (k : Nat) : Nat := if 0 < re ∧ k + 1 = wc then re.toNat else (phX (LT m Q wd wf) Q co k).1
/-- letters of the phrases, from the first on -/
def TXP (k i : Nat) (g : Int → Int) : Prop := (∀ k' : Nat, k' < k → ∀ j : Nat, j < tbk m Q wd wf wc co re k' → g ((sN (tbk m Q wd wf wc co re) k' + j : Nat) : Int) = (dg (phX (LT m Q wd wf) Q co k').1 (phX (LT m Q wd wf) Q co k').2.1 j : Int)) ∧ ∀ j : Nat, j < i → g ((sN (tbk m Q wd wf wc co re) k + j : Nat) : Int) = (dg (phX (LT m Q wd wf) Q co k).1 (phX (LT m Q wd wf) Q co k).2.1 j : Int)
end P3b
section P3c
variable {m Q wd : Nat} {wf : Int → Int} {wc : Nat} {co : Int → Int} {re : Int}
theorem TXP_up {k i : Nat} {g : Int → Int} (h : TXP m Q wd wf wc co re k i g) {x : Int} (hx : x = (dg (phX (LT m Q wd wf) Q co k).1 (phX (LT m Q wd wf) Q co k).2.1 i : Int)) : TXP m Q wd wf wc co re k (i + 1) (up g ((sN (tbk m Q wd wf wc co re) k + i : Nat) : Int) x) := by
  refine ⟨fun k' hk' j hj => ?_, fun j hj => ?_⟩
  · have h1 := sN_mono (tbk m Q wd wf wc co re) (show k' + 1 ≤ k by omega)
    have h2 : sN (tbk m Q wd wf wc co re) (k' + 1) = sN (tbk m Q wd wf wc co re) k' + tbk m Q wd wf wc co re k' := rfl
    rw [up_ne _ _ _ _ (by omega)]
    exact h.1 k' hk' j hj
  · by_cases e : j = i
    · subst e
      rw [up_same, hx]
    · rw [up_ne _ _ _ _ (by omega)]
      exact h.2 j (by omega)
theorem TXP_next {k i : Nat} {g : Int → Int} (h : TXP m Q wd wf wc co re k i g) (hi : i = tbk m Q wd wf wc co re k) : TXP m Q wd wf wc co re (k + 1) 0 g := by
  refine ⟨fun k' hk' j hj => ?_, fun j hj => absurd hj (Nat.not_lt_zero _)⟩
  by_cases e : k' = k
  · subst e
    exact h.2 j (by omega)
  · exact h.1 k' (by omega) j hj
theorem TXP_eq {g g' : Int → Int} (h : TXP m Q wd wf wc co re wc 0 g) (h' : TXP m Q wd wf wc co re wc 0 g') : ∀ i : Int, 0 ≤ i → i < (sN (tbk m Q wd wf wc co re) wc : Nat) → g' i = g i := by
  intro i i0 i1
  obtain ⟨k, j, h1, h2, h3⟩ := sN_at (tbk m Q wd wf wc co re) wc i.toNat (by omega)
  rw [show i = ((sN (tbk m Q wd wf wc co re) k + j : Nat) : Int) by omega, h.1 k h1 j h2, h'.1 k h1 j h2]
/-- what no fault says -/
theorem vF_ok (v : SOK m Q wd wf) (v3 : COK wc co) (v4 : 0 ≤ re ∧ re ≤ 8) (e : vF m Q wd wf wc co re = -1) : (∀ k : Nat, k < wc → 0 < (phX (LT m Q wd wf) Q co k).1 ∧ (phX (LT m Q wd wf) Q co k).1 ≤ 8 ∧ (phX (LT m Q wd wf) Q co k).2.1 < 8 ^ (phX (LT m Q wd wf) Q co k).1 ∧ phX (LT m Q wd wf) Q co k ∈ TK m (scF Q (phS (LT m Q wd wf) Q co k) wf) (KK m wd) ∧ tbk m Q wd wf wc co re k ≤ (phX (LT m Q wd wf) Q co k).1) ∧ (wc = 0 → re = 0) := by
  obtain ⟨h1, h2, h3⟩ := PR_phN ((1 + KK m wd * (m - 1) : Nat) : Int) co wc
  unfold vF at e
  by_cases e1 : phN ((1 + KK m wd * (m - 1) : Nat) : Int) co wc < wc
  · rw [if_pos e1] at e
    omega
  · rw [if_neg e1] at e
    have hr : phN ((1 + KK m wd * (m - 1) : Nat) : Int) co wc = wc := by omega
    rw [hr] at h2
    by_cases e2 : (if wc = 0 then 0 else ((phX (LT m Q wd wf) Q co (wc - 1)).1 : Int)) < re
    · rw [if_pos e2] at e
      omega
    · refine ⟨fun k hk => ?_, fun e3 => ?_⟩
      · have c1 := h2 k hk
        have c2 := v3.2 k (by omega) (by omega)
        obtain ⟨i, i1, i2, i3, i4, i5, i6⟩ := lf_at v (phS (LT m Q wd wf) Q co k) (w := (co k).toNat) (by omega)
        have hx : phX (LT m Q wd wf) Q co k = lfn (LT m Q wd wf (phS (LT m Q wd wf) Q co k)) (co k).toNat := rfl
        rw [← hx] at i2 i3 i5 i6
        have hmem := List.mem_of_getElem? i2
        refine ⟨i5, i6, (dfs_code (show m ≤ 8 by have := v.1.2; omega) hmem).2, hmem, ?_⟩
        unfold tbk
        by_cases e3 : 0 < re ∧ k + 1 = wc
        · rw [if_pos e3]
          rw [if_neg (by omega), show wc - 1 = k by omega] at e2
          omega
        · rw [if_neg e3]
          exact Nat.le_refl _
      · rw [if_pos e3] at e2
        omega
end P3c
section P3d
variable {h : Hp} {m Q wd : Nat} {wf : Int → Int} {ts : Nat} {tx : Int → Int} {wc : Nat} {co : Int → Int} {re fi : Int} {kp : Int → Int} {sl : Int → Nat × Nat × Nat × (Int → Int)} {cf cs : Int → Int} {cd cl cc : Int → Int → Int} {ss : Int → Int} {sb : Int → Int → Int}
set_option maxRecDepth 20000 in
set_option maxHeartbeats 4000000 in
theorem c_toldBack (a : CA h m Q wd wf ts tx wc co re fi kp sl cf cs cd cl cc ss sb) (v : SOK m Q wd wf) (v4 : 0 ≤ re ∧ re ≤ 8) (hwc : wc ≤ 80) {ps pn : Int → Int} (c : CPh h m Q wd wf co wc ps pn) {k : Nat} (hk : k < wc) {lim : Nat × Nat} {K : QT} (hK : K (pI (tbk m Q wd wf wc co re k : Int)) h) : WM 101 [pR 0, pI k] h lim K := by
  have a1 := a.1
  unfold PTO at a1
  unfold tbk at hK
  try simp (disch := omega) only [w101_0, w101_24, w101_29, e101, x_iconst, x_bipush, x_sipush, x_ldc, x_lconst, x_ldc2l, x_dconst, x_ldc2d, x_ldcf, x_iadd, x_isub, x_imul, x_idiv, x_irem, x_ishl, x_ishr, x_iand, x_ior, x_ixor, x_ladd, x_lsub, x_lmul, x_ldiv, x_lrem, x_lshl, x_lshr, x_lor, x_land, x_lcmp, x_i2l, x_l2i, x_i2b, x_i2f, x_l2f, x_l2d, x_f2d, x_d2l, x_fdiv, x_dadd, x_dsub, x_dmul, x_ddiv, x_dcmp, x_fcmp, x_dup, x_pop, x_dup2, x_objinit, x_rawF, x_rawD, gV_0, gV_1, gV_2, gV_3, gV_4, gV_S, x_iload, x_lload, x_fload, x_dload, x_aload, x_istore, x_fstore, x_astore, x_lstore, x_dstore, gX_I, x_iinc, x_getf, x_putfI, x_putfL, x_putfR, x_iald, x_bald, x_zald, x_lald, x_dald, x_aald, x_iast, x_bast, x_zast, x_last, x_dast, x_aast, x_alen, x_new, x_newa, x_anew, x_acopy, x_sld, x_slen, x_fall, x_goto, x_if, x_cmp, x_tsw, x_lsw, x_ret, x_iret, x_zret, x_lret, x_fret, x_dret, x_aret, x_callr, x_callv, x_calli, x_calls, rcv_R, isO_cO, JW_def, kO_some, sk4, cats_nil, cats_I, cats_L, cats_F, cats_D, cats_R, cats_S, Nat.reduceAdd, Nat.reduceLeDiff, inr, inq, Int.reduceEq, Int.reduceLT, Int.reduceLE, Int.reduceNeg, not_false_eq_true, not_true_eq_false, false_implies, and_self, pk_nil, pk_cons, wk_0, wk_1, wk_2, wk_3, wk_4, swt_nil, swt_cons, swl_nil, swl_cons, c3_eq, c3_lt, c3_ge, c3_le, c3_gt, c3_inr, c3_inr2, cnd_0, cnd_1, cnd_2, cnd_3, cnd_4, cnd_5, wide_I, wide_R, wide_L, wide_F, wide_D, wide_S, nw_I, nw_L, nw_F, nw_D, nw_U, nw_R, nw_S, fgo_cO, fso_cO, Option.map_some, alo_cI, ado_cD, aro_cR, ano_cI, ano_cD, lst, List.getElem?_cons_zero, List.getElem?_cons_succ, List.set_cons_zero, List.set_cons_succ, and_true, true_and, true_implies, forall_const, true_or, or_true, hg_same, hg_ne,  a1]
  refine ⟨by omega, fun e => ?_, fun e => ⟨by omega, fun e2 => ?_, fun e2 => ?_⟩⟩
  · rw [if_neg (by omega)] at hK
    refine c_phraseSize a v hwc c (Nat.le_refl _) hk ?_
    try simp (disch := omega) only [w101_0, w101_24, w101_29, e101, x_iconst, x_bipush, x_sipush, x_ldc, x_lconst, x_ldc2l, x_dconst, x_ldc2d, x_ldcf, x_iadd, x_isub, x_imul, x_idiv, x_irem, x_ishl, x_ishr, x_iand, x_ior, x_ixor, x_ladd, x_lsub, x_lmul, x_ldiv, x_lrem, x_lshl, x_lshr, x_lor, x_land, x_lcmp, x_i2l, x_l2i, x_i2b, x_i2f, x_l2f, x_l2d, x_f2d, x_d2l, x_fdiv, x_dadd, x_dsub, x_dmul, x_ddiv, x_dcmp, x_fcmp, x_dup, x_pop, x_dup2, x_objinit, x_rawF, x_rawD, gV_0, gV_1, gV_2, gV_3, gV_4, gV_S, x_iload, x_lload, x_fload, x_dload, x_aload, x_istore, x_fstore, x_astore, x_lstore, x_dstore, gX_I, x_iinc, x_getf, x_putfI, x_putfL, x_putfR, x_iald, x_bald, x_zald, x_lald, x_dald, x_aald, x_iast, x_bast, x_zast, x_last, x_dast, x_aast, x_alen, x_new, x_newa, x_anew, x_acopy, x_sld, x_slen, x_fall, x_goto, x_if, x_cmp, x_tsw, x_lsw, x_ret, x_iret, x_zret, x_lret, x_fret, x_dret, x_aret, x_callr, x_callv, x_calli, x_calls, rcv_R, isO_cO, JW_def, kO_some, sk4, cats_nil, cats_I, cats_L, cats_F, cats_D, cats_R, cats_S, Nat.reduceAdd, Nat.reduceLeDiff, inr, inq, Int.reduceEq, Int.reduceLT, Int.reduceLE, Int.reduceNeg, not_false_eq_true, not_true_eq_false, false_implies, and_self, pk_nil, pk_cons, wk_0, wk_1, wk_2, wk_3, wk_4, swt_nil, swt_cons, swl_nil, swl_cons, c3_eq, c3_lt, c3_ge, c3_le, c3_gt, c3_inr, c3_inr2, cnd_0, cnd_1, cnd_2, cnd_3, cnd_4, cnd_5, wide_I, wide_R, wide_L, wide_F, wide_D, wide_S, nw_I, nw_L, nw_F, nw_D, nw_U, nw_R, nw_S, fgo_cO, fso_cO, Option.map_some, alo_cI, ado_cD, aro_cR, ano_cI, ano_cD, lst, List.getElem?_cons_zero, List.getElem?_cons_succ, List.set_cons_zero, List.set_cons_succ, and_true, true_and, true_implies, forall_const, true_or, or_true, hg_same, hg_ne]
    exact hK
  · rw [if_neg (by omega)] at hK
    refine c_phraseSize a v hwc c (Nat.le_refl _) hk ?_
    try simp (disch := omega) only [w101_0, w101_24, w101_29, e101, x_iconst, x_bipush, x_sipush, x_ldc, x_lconst, x_ldc2l, x_dconst, x_ldc2d, x_ldcf, x_iadd, x_isub, x_imul, x_idiv, x_irem, x_ishl, x_ishr, x_iand, x_ior, x_ixor, x_ladd, x_lsub, x_lmul, x_ldiv, x_lrem, x_lshl, x_lshr, x_lor, x_land, x_lcmp, x_i2l, x_l2i, x_i2b, x_i2f, x_l2f, x_l2d, x_f2d, x_d2l, x_fdiv, x_dadd, x_dsub, x_dmul, x_ddiv, x_dcmp, x_fcmp, x_dup, x_pop, x_dup2, x_objinit, x_rawF, x_rawD, gV_0, gV_1, gV_2, gV_3, gV_4, gV_S, x_iload, x_lload, x_fload, x_dload, x_aload, x_istore, x_fstore, x_astore, x_lstore, x_dstore, gX_I, x_iinc, x_getf, x_putfI, x_putfL, x_putfR, x_iald, x_bald, x_zald, x_lald, x_dald, x_aald, x_iast, x_bast, x_zast, x_last, x_dast, x_aast, x_alen, x_new, x_newa, x_anew, x_acopy, x_sld, x_slen, x_fall, x_goto, x_if, x_cmp, x_tsw, x_lsw, x_ret, x_iret, x_zret, x_lret, x_fret, x_dret, x_aret, x_callr, x_callv, x_calli, x_calls, rcv_R, isO_cO, JW_def, kO_some, sk4, cats_nil, cats_I, cats_L, cats_F, cats_D, cats_R, cats_S, Nat.reduceAdd, Nat.reduceLeDiff, inr, inq, Int.reduceEq, Int.reduceLT, Int.reduceLE, Int.reduceNeg, not_false_eq_true, not_true_eq_false, false_implies, and_self, pk_nil, pk_cons, wk_0, wk_1, wk_2, wk_3, wk_4, swt_nil, swt_cons, swl_nil, swl_cons, c3_eq, c3_lt, c3_ge, c3_le, c3_gt, c3_inr, c3_inr2, cnd_0, cnd_1, cnd_2, cnd_3, cnd_4, cnd_5, wide_I, wide_R, wide_L, wide_F, wide_D, wide_S, nw_I, nw_L, nw_F, nw_D, nw_U, nw_R, nw_S, fgo_cO, fso_cO, Option.map_some, alo_cI, ado_cD, aro_cR, ano_cI, ano_cD, lst, List.getElem?_cons_zero, List.getElem?_cons_succ, List.set_cons_zero, List.set_cons_succ, and_true, true_and, true_implies, forall_const, true_or, or_true, hg_same, hg_ne]
    exact hK
  · rw [if_pos (by omega), show ((re.toNat : Nat) : Int) = re by omega] at hK
    exact hK
set_option maxRecDepth 20000 in
set_option maxHeartbeats 4000000 in
theorem c_lettersToldBack (a : CA h m Q wd wf ts tx wc co re fi kp sl cf cs cd cl cc ss sb) (v : SOK m Q wd wf) (v4 : 0 ≤ re ∧ re ≤ 8) (hwc : wc ≤ 80) {ps pn : Int → Int} (c : CPh h m Q wd wf co wc ps pn) {lim : Nat × Nat} {K : QT} (hK : K (pI (sN (tbk m Q wd wf wc co re) wc : Int)) h) : WM 129 [pR 0] h lim K := by
  have a1 := a.1
  unfold PTO at a1
  have loop : ∀ (y k : Nat), y + k = wc → WP 129 4 [pR 0, pI (sN (tbk m Q wd wf wc co re) k : Int), pI k] [] h lim K := by
    intro y
    induction y with
    | zero =>
      intro k hy
      have e : k = wc := by omega
      subst e
      rw [w129_4]
      try simp (disch := omega) only [w129_0, w129_26, e129, x_iconst, x_bipush, x_sipush, x_ldc, x_lconst, x_ldc2l, x_dconst, x_ldc2d, x_ldcf, x_iadd, x_isub, x_imul, x_idiv, x_irem, x_ishl, x_ishr, x_iand, x_ior, x_ixor, x_ladd, x_lsub, x_lmul, x_ldiv, x_lrem, x_lshl, x_lshr, x_lor, x_land, x_lcmp, x_i2l, x_l2i, x_i2b, x_i2f, x_l2f, x_l2d, x_f2d, x_d2l, x_fdiv, x_dadd, x_dsub, x_dmul, x_ddiv, x_dcmp, x_fcmp, x_dup, x_pop, x_dup2, x_objinit, x_rawF, x_rawD, gV_0, gV_1, gV_2, gV_3, gV_4, gV_S, x_iload, x_lload, x_fload, x_dload, x_aload, x_istore, x_fstore, x_astore, x_lstore, x_dstore, gX_I, x_iinc, x_getf, x_putfI, x_putfL, x_putfR, x_iald, x_bald, x_zald, x_lald, x_dald, x_aald, x_iast, x_bast, x_zast, x_last, x_dast, x_aast, x_alen, x_new, x_newa, x_anew, x_acopy, x_sld, x_slen, x_fall, x_goto, x_if, x_cmp, x_tsw, x_lsw, x_ret, x_iret, x_zret, x_lret, x_fret, x_dret, x_aret, x_callr, x_callv, x_calli, x_calls, rcv_R, isO_cO, JW_def, kO_some, sk4, cats_nil, cats_I, cats_L, cats_F, cats_D, cats_R, cats_S, Nat.reduceAdd, Nat.reduceLeDiff, inr, inq, Int.reduceEq, Int.reduceLT, Int.reduceLE, Int.reduceNeg, not_false_eq_true, not_true_eq_false, false_implies, and_self, pk_nil, pk_cons, wk_0, wk_1, wk_2, wk_3, wk_4, swt_nil, swt_cons, swl_nil, swl_cons, c3_eq, c3_lt, c3_ge, c3_le, c3_gt, c3_inr, c3_inr2, cnd_0, cnd_1, cnd_2, cnd_3, cnd_4, cnd_5, wide_I, wide_R, wide_L, wide_F, wide_D, wide_S, nw_I, nw_L, nw_F, nw_D, nw_U, nw_R, nw_S, fgo_cO, fso_cO, Option.map_some, alo_cI, ado_cD, aro_cR, ano_cI, ano_cD, lst, List.getElem?_cons_zero, List.getElem?_cons_succ, List.set_cons_zero, List.set_cons_succ, and_true, true_and, true_implies, forall_const, true_or, or_true, hg_same, hg_ne,  a1]
      exact ⟨by omega, fun _ => hK, fun q => by omega⟩
    | succ y ih =>
      intro k hy
      have ih2 := ih (k + 1) (by omega)
      rw [show sN (tbk m Q wd wf wc co re) (k + 1) = sN (tbk m Q wd wf wc co re) k + tbk m Q wd wf wc co re k from rfl, Int.natCast_add, show ((k + 1 : Nat) : Int) = (k : Int) + 1 by omega] at ih2
      rw [w129_4]
      try simp (disch := omega) only [w129_0, w129_26, e129, x_iconst, x_bipush, x_sipush, x_ldc, x_lconst, x_ldc2l, x_dconst, x_ldc2d, x_ldcf, x_iadd, x_isub, x_imul, x_idiv, x_irem, x_ishl, x_ishr, x_iand, x_ior, x_ixor, x_ladd, x_lsub, x_lmul, x_ldiv, x_lrem, x_lshl, x_lshr, x_lor, x_land, x_lcmp, x_i2l, x_l2i, x_i2b, x_i2f, x_l2f, x_l2d, x_f2d, x_d2l, x_fdiv, x_dadd, x_dsub, x_dmul, x_ddiv, x_dcmp, x_fcmp, x_dup, x_pop, x_dup2, x_objinit, x_rawF, x_rawD, gV_0, gV_1, gV_2, gV_3, gV_4, gV_S, x_iload, x_lload, x_fload, x_dload, x_aload, x_istore, x_fstore, x_astore, x_lstore, x_dstore, gX_I, x_iinc, x_getf, x_putfI, x_putfL, x_putfR, x_iald, x_bald, x_zald, x_lald, x_dald, x_aald, x_iast, x_bast, x_zast, x_last, x_dast, x_aast, x_alen, x_new, x_newa, x_anew, x_acopy, x_sld, x_slen, x_fall, x_goto, x_if, x_cmp, x_tsw, x_lsw, x_ret, x_iret, x_zret, x_lret, x_fret, x_dret, x_aret, x_callr, x_callv, x_calli, x_calls, rcv_R, isO_cO, JW_def, kO_some, sk4, cats_nil, cats_I, cats_L, cats_F, cats_D, cats_R, cats_S, Nat.reduceAdd, Nat.reduceLeDiff, inr, inq, Int.reduceEq, Int.reduceLT, Int.reduceLE, Int.reduceNeg, not_false_eq_true, not_true_eq_false, false_implies, and_self, pk_nil, pk_cons, wk_0, wk_1, wk_2, wk_3, wk_4, swt_nil, swt_cons, swl_nil, swl_cons, c3_eq, c3_lt, c3_ge, c3_le, c3_gt, c3_inr, c3_inr2, cnd_0, cnd_1, cnd_2, cnd_3, cnd_4, cnd_5, wide_I, wide_R, wide_L, wide_F, wide_D, wide_S, nw_I, nw_L, nw_F, nw_D, nw_U, nw_R, nw_S, fgo_cO, fso_cO, Option.map_some, alo_cI, ado_cD, aro_cR, ano_cI, ano_cD, lst, List.getElem?_cons_zero, List.getElem?_cons_succ, List.set_cons_zero, List.set_cons_succ, and_true, true_and, true_implies, forall_const, true_or, or_true, hg_same, hg_ne,  a1]
      refine ⟨by omega, fun q => by omega, fun _ => c_toldBack a v v4 hwc c (by omega) ?_⟩
      try simp (disch := omega) only [w129_0, w129_26, e129, x_iconst, x_bipush, x_sipush, x_ldc, x_lconst, x_ldc2l, x_dconst, x_ldc2d, x_ldcf, x_iadd, x_isub, x_imul, x_idiv, x_irem, x_ishl, x_ishr, x_iand, x_ior, x_ixor, x_ladd, x_lsub, x_lmul, x_ldiv, x_lrem, x_lshl, x_lshr, x_lor, x_land, x_lcmp, x_i2l, x_l2i, x_i2b, x_i2f, x_l2f, x_l2d, x_f2d, x_d2l, x_fdiv, x_dadd, x_dsub, x_dmul, x_ddiv, x_dcmp, x_fcmp, x_dup, x_pop, x_dup2, x_objinit, x_rawF, x_rawD, gV_0, gV_1, gV_2, gV_3, gV_4, gV_S, x_iload, x_lload, x_fload, x_dload, x_aload, x_istore, x_fstore, x_astore, x_lstore, x_dstore, gX_I, x_iinc, x_getf, x_putfI, x_putfL, x_putfR, x_iald, x_bald, x_zald, x_lald, x_dald, x_aald, x_iast, x_bast, x_zast, x_last, x_dast, x_aast, x_alen, x_new, x_newa, x_anew, x_acopy, x_sld, x_slen, x_fall, x_goto, x_if, x_cmp, x_tsw, x_lsw, x_ret, x_iret, x_zret, x_lret, x_fret, x_dret, x_aret, x_callr, x_callv, x_calli, x_calls, rcv_R, isO_cO, JW_def, kO_some, sk4, cats_nil, cats_I, cats_L, cats_F, cats_D, cats_R, cats_S, Nat.reduceAdd, Nat.reduceLeDiff, inr, inq, Int.reduceEq, Int.reduceLT, Int.reduceLE, Int.reduceNeg, not_false_eq_true, not_true_eq_false, false_implies, and_self, pk_nil, pk_cons, wk_0, wk_1, wk_2, wk_3, wk_4, swt_nil, swt_cons, swl_nil, swl_cons, c3_eq, c3_lt, c3_ge, c3_le, c3_gt, c3_inr, c3_inr2, cnd_0, cnd_1, cnd_2, cnd_3, cnd_4, cnd_5, wide_I, wide_R, wide_L, wide_F, wide_D, wide_S, nw_I, nw_L, nw_F, nw_D, nw_U, nw_R, nw_S, fgo_cO, fso_cO, Option.map_some, alo_cI, ado_cD, aro_cR, ano_cI, ano_cD, lst, List.getElem?_cons_zero, List.getElem?_cons_succ, List.set_cons_zero, List.set_cons_succ, and_true, true_and, true_implies, forall_const, true_or, or_true, hg_same, hg_ne]
      exact ih2
  try simp (disch := omega) only [w129_0, w129_26, e129, x_iconst, x_bipush, x_sipush, x_ldc, x_lconst, x_ldc2l, x_dconst, x_ldc2d, x_ldcf, x_iadd, x_isub, x_imul, x_idiv, x_irem, x_ishl, x_ishr, x_iand, x_ior, x_ixor, x_ladd, x_lsub, x_lmul, x_ldiv, x_lrem, x_lshl, x_lshr, x_lor, x_land, x_lcmp, x_i2l, x_l2i, x_i2b, x_i2f, x_l2f, x_l2d, x_f2d, x_d2l, x_fdiv, x_dadd, x_dsub, x_dmul, x_ddiv, x_dcmp, x_fcmp, x_dup, x_pop, x_dup2, x_objinit, x_rawF, x_rawD, gV_0, gV_1, gV_2, gV_3, gV_4, gV_S, x_iload, x_lload, x_fload, x_dload, x_aload, x_istore, x_fstore, x_astore, x_lstore, x_dstore, gX_I, x_iinc, x_getf, x_putfI, x_putfL, x_putfR, x_iald, x_bald, x_zald, x_lald, x_dald, x_aald, x_iast, x_bast, x_zast, x_last, x_dast, x_aast, x_alen, x_new, x_newa, x_anew, x_acopy, x_sld, x_slen, x_fall, x_goto, x_if, x_cmp, x_tsw, x_lsw, x_ret, x_iret, x_zret, x_lret, x_fret, x_dret, x_aret, x_callr, x_callv, x_calli, x_calls, rcv_R, isO_cO, JW_def, kO_some, sk4, cats_nil, cats_I, cats_L, cats_F, cats_D, cats_R, cats_S, Nat.reduceAdd, Nat.reduceLeDiff, inr, inq, Int.reduceEq, Int.reduceLT, Int.reduceLE, Int.reduceNeg, not_false_eq_true, not_true_eq_false, false_implies, and_self, pk_nil, pk_cons, wk_0, wk_1, wk_2, wk_3, wk_4, swt_nil, swt_cons, swl_nil, swl_cons, c3_eq, c3_lt, c3_ge, c3_le, c3_gt, c3_inr, c3_inr2, cnd_0, cnd_1, cnd_2, cnd_3, cnd_4, cnd_5, wide_I, wide_R, wide_L, wide_F, wide_D, wide_S, nw_I, nw_L, nw_F, nw_D, nw_U, nw_R, nw_S, fgo_cO, fso_cO, Option.map_some, alo_cI, ado_cD, aro_cR, ano_cI, ano_cD, lst, List.getElem?_cons_zero, List.getElem?_cons_succ, List.set_cons_zero, List.set_cons_succ, and_true, true_and, true_implies, forall_const, true_or, or_true, hg_same, hg_ne]
  exact loop wc 0 (by omega)
end P3d

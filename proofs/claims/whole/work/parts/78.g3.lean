theorem rs_pick (x : Int) (k : Nat) : ∀ n : Nat, rs (fun z => if (k : Int) = (z : Int) then x else 0) n = if k < n then x else 0
  | 0 => rfl
  | n + 1 => by
    show rs (fun z => if (k : Int) = (z : Int) then x else 0) n + (if (k : Int) = (n : Int) then x else 0) = _
    rw [rs_pick x k n]
    by_cases e : k = n
    · rw [if_neg (by omega), if_pos (by omega), if_pos (by omega)]
      omega
    · rw [if_neg (show ¬ (k : Int) = (n : Int) by omega)]
      by_cases g : k < n
      · rw [if_pos g, if_pos (by omega)]
        omega
      · rw [if_neg g, if_neg (by omega)]
        omega
theorem went_rng {m Q wd : Nat} {wf : Int → Int} (v : SOK m Q wd wf) {q : Nat} (hq : q < Q) (z : Int) : 0 ≤ lsum (went (scF Q q wf) Q z) (TK m (scF Q q wf) (KK m wd)) ∧ lsum (went (scF Q q wf) Q z) (TK m (scF Q q wf) (KK m wd)) ≤ 4294967296 := by
  have hm8 : m ≤ 8 := by have := v.1.2; omega
  have ht := sc_tot v hq (scF Q q wf) (KK m wd)
  have hz : ∀ L : List Nd, lsum (fun _ _ => (0 : Int)) L = 0 := by
    intro L
    induction L with
    | nil => rfl
    | cons x L ih =>
      obtain ⟨d, c, s⟩ := x
      cases s with
      | true => show 0 + lsum (fun _ _ => (0 : Int)) L = 0; omega
      | false => show 0 + lsum (fun _ _ => (0 : Int)) L = 0; omega
  constructor
  · have h1 : lsum (fun _ _ => (0 : Int)) (TK m (scF Q q wf) (KK m wd)) ≤ lsum (went (scF Q q wf) Q z) (TK m (scF Q q wf) (KK m wd)) := lsum_le _ (fun x hx hl => by
      have hs := sc_rng (q := q) (Q := Q) (wf := wf) hm8 v.2.1 hq v.2.2.2.2.1 hx
      unfold went
      by_cases e : ((x.2.1 % 8 % Q : Nat) : Int) = z
      · rw [if_pos e]; omega
      · rw [if_neg e]; exact Int.le_refl 0)
    rw [hz] at h1
    exact h1
  · have h1 : lsum (went (scF Q q wf) Q z) (TK m (scF Q q wf) (KK m wd)) ≤ lsum (scF Q q wf) (TK m (scF Q q wf) (KK m wd)) := lsum_le _ (fun x hx hl => by
      have hs := sc_rng (q := q) (Q := Q) (wf := wf) hm8 v.2.1 hq v.2.2.2.2.1 hx
      unfold went
      by_cases e : ((x.2.1 % 8 % Q : Nat) : Int) = z
      · rw [if_pos e]; exact Int.le_refl _
      · rw [if_neg e]; omega)
    omega
theorem went_big {m Q wd : Nat} {wf : Int → Int} (v : SOK m Q wd wf) {q : Nat} (hq : q < Q) : ∃ z : Nat, z < Q ∧ 1073741824 ≤ lsum (went (scF Q q wf) Q (z : Int)) (TK m (scF Q q wf) (KK m wd)) := by
  have hQ := v.2.1
  have ht := sc_tot v hq (scF Q q wf) (KK m wd)
  have hs : rs (fun z => lsum (went (scF Q q wf) Q (z : Int)) (TK m (scF Q q wf) (KK m wd))) Q = 4294967296 := by
    rw [← lsum_rs (fun z d c => went (scF Q q wf) Q (z : Int) d c), ← ht]
    congr 1
    funext d c
    show rs (fun z => if ((c % 8 % Q : Nat) : Int) = (z : Int) then scF Q q wf d c else 0) Q = _
    rw [rs_pick, if_pos (Nat.mod_lt _ (by omega))]
  by_cases e : ∃ z : Nat, z < Q ∧ 1073741824 ≤ lsum (went (scF Q q wf) Q (z : Int)) (TK m (scF Q q wf) (KK m wd))
  · exact e
  · exfalso
    have hall : ∀ n : Nat, n ≤ Q → rs (fun z => lsum (went (scF Q q wf) Q (z : Int)) (TK m (scF Q q wf) (KK m wd))) n ≤ 1073741824 * n := by
      intro n
      induction n with
      | zero => intro _; exact Int.le_refl 0
      | succ n ih =>
        intro hn
        have h1 := ih (by omega)
        have h2 : lsum (went (scF Q q wf) Q (n : Int)) (TK m (scF Q q wf) (KK m wd)) < 1073741824 := by
          by_cases g : lsum (went (scF Q q wf) Q (n : Int)) (TK m (scF Q q wf) (KK m wd)) < 1073741824
          · exact g
          · exact absurd ⟨n, by omega, by omega⟩ e
        show rs (fun z => lsum (went (scF Q q wf) Q (z : Int)) (TK m (scF Q q wf) (KK m wd))) n + lsum (went (scF Q q wf) Q (n : Int)) (TK m (scF Q q wf) (KK m wd)) ≤ _
        omega
    have := hall Q (Nat.le_refl _)
    omega
section LR
variable (m Q wd : Nat) (wf : Int → Int)
noncomputable def Pf (a b : Nat) : UInt64 := prD (lsum (went (scF Q a wf) Q (b : Int)) (TK m (scF Q a wf) (KK m wd)))
noncomputable def Mf (q : Nat) : UInt64 := prD (lsum (wlen (scF Q q wf)) (TK m (scF Q q wf) (KK m wd)))
noncomputable def lrV : UInt64 := dacc (shT Q (Pf m Q wd wf) 64) (Mf m Q wd wf) Q
end LR
section LR2
variable {m Q wd : Nat} {wf : Int → Int}
theorem Pf_hi (v : SOK m Q wd wf) {a : Nat} (ha : a < Q) (b : Nat) : (Pf m Q wd wf a b).toNat < 1024 * 4503599627370496 ∧ FP.Core.val64 (Pf m Q wd wf a b) ≠ .nan := by
  have h1 := went_rng v ha (b : Int)
  exact pr_hi h1.1 (k := 33) (by have : (2 : Int) ^ 33 = 8589934592 := rfl; omega) (by omega)
theorem Pf_lo (v : SOK m Q wd wf) {a : Nat} (ha : a < Q) : ∃ b, b < Q ∧ 1021 * 4503599627370496 ≤ (Pf m Q wd wf a b).toNat := by
  obtain ⟨z, hz, h1⟩ := went_big v ha
  have h2 := went_rng v ha (z : Int)
  exact ⟨z, hz, pr_lo (k := 30) (by have : (2 : Int) ^ 30 = 1073741824 := rfl; omega) (by omega)⟩
theorem Mf_ok (v : SOK m Q wd wf) {q : Nat} (hq : q < Q) : (Mf m Q wd wf q).toNat < 1027 * 4503599627370496 ∧ FP.Core.val64 (Mf m Q wd wf q) ≠ .nan ∧ 1023 * 4503599627370496 ≤ (Mf m Q wd wf q).toNat := by
  have h1 := len_rng v hq
  have h2 := pr_hi (A := lsum (wlen (scF Q q wf)) (TK m (scF Q q wf) (KK m wd))) (by omega) (k := 36) (by have : (2 : Int) ^ 36 = 68719476736 := rfl; omega) (by omega)
  exact ⟨h2.1, h2.2, pr_lo (k := 32) (by have : (2 : Int) ^ 32 = 4294967296 := rfl; omega) (by omega)⟩
theorem sh_ok (v : SOK m Q wd wf) {n : Nat} (hn : n ≤ 64) : (∀ q, q < Q → (shT Q (Pf m Q wd wf) n q).toNat < (1024 + 8 * n) * 4503599627370496) ∧ ∃ q, q < Q ∧ (1023 - 2 * n) * 4503599627370496 ≤ (shT Q (Pf m Q wd wf) n q).toNat := shT_ok (P := Pf m Q wd wf) v.2.1 (fun a b ha _ => (Pf_hi v ha b).1) (fun a ha => Pf_lo v ha) n hn
/-- a turn's sums are numbers -/
theorem turn_ok (v : SOK m Q wd wf) {n : Nat} (hn : n < 64) (to : Nat) {k : Nat} (hk : k < Q) : FP.Core.val64 (FP.dmul (shT Q (Pf m Q wd wf) n k) (Pf m Q wd wf k to)) ≠ .nan ∧ FP.Core.val64 (FP.dadd (dacc (shT Q (Pf m Q wd wf) n) (fun fr => Pf m Q wd wf fr to) k) (FP.dmul (shT Q (Pf m Q wd wf) n k) (Pf m Q wd wf k to))) ≠ .nan := by
  have h1 := (sh_ok v (n := n) (by omega)).1
  have h2 := (dacc_ok (s := shT Q (Pf m Q wd wf) n) (p := fun fr => Pf m Q wd wf fr to) (K := 1024 + 8 * n) (Kp := 1024) v.2.1.2 ⟨by omega, by omega, by omega⟩ h1 (fun k hk => (Pf_hi v hk to).1) k (by omega)).2 hk
  exact ⟨h2.1, h2.2.2⟩
theorem last_ok (v : SOK m Q wd wf) {k : Nat} (hk : k < Q) : FP.Core.val64 (FP.dmul (shT Q (Pf m Q wd wf) 64 k) (Mf m Q wd wf k)) ≠ .nan ∧ FP.Core.val64 (FP.dadd (dacc (shT Q (Pf m Q wd wf) 64) (Mf m Q wd wf) k) (FP.dmul (shT Q (Pf m Q wd wf) 64 k) (Mf m Q wd wf k))) ≠ .nan := by
  have h1 := (sh_ok v (n := 64) (by omega)).1
  have h2 := (dacc_ok (s := shT Q (Pf m Q wd wf) 64) (p := Mf m Q wd wf) (K := 1536) (Kp := 1027) v.2.1.2 ⟨by omega, by omega, by omega⟩ h1 (fun k hk => (Mf_ok v hk).1) k (by omega)).2 hk
  exact ⟨h2.1, h2.2.2⟩
theorem lr_norm (v : SOK m Q wd wf) : ∃ E T : Nat, (1 ≤ E ∧ E ≤ 2046) ∧ T < 4503599627370496 ∧ lrV m Q wd wf = dB E T ∧ (lrV m Q wd wf).toNat = E * 4503599627370496 + T := by
  obtain ⟨h1, q, hq, h2⟩ := sh_ok v (n := 64) (by omega)
  have u := (dacc_ok (s := shT Q (Pf m Q wd wf) 64) (p := Mf m Q wd wf) (K := 1536) (Kp := 1027) v.2.1.2 ⟨by omega, by omega, by omega⟩ h1 (fun k hk => (Mf_ok v hk).1) Q (Nat.le_refl _)).1
  have l := dacc_lb (s := shT Q (Pf m Q wd wf) 64) (p := Mf m Q wd wf) (K := 1536) (Kp := 1027) (Ka := 895) (Kb := 1023) (Z := 895) v.2.1.2 ⟨by omega, by omega, by omega⟩ h1 (fun k hk => (Mf_ok v hk).1) hq h2 (Mf_ok v hq).2.2 (by omega) (by omega) (by omega) (by omega)
  refine dB_of (K := 1536 + 1027 - 1025 + 3 + 2 * Q) ?_ u (by have := v.2.1; omega)
  exact Nat.le_trans (by decide) l
end LR2
section G3
variable {h h1 : Hp} {m Q wd : Nat} {wf : Int → Int} {ts : Nat} {tx : Int → Int} {wc : Nat} {co : Int → Int} {re fi : Int} {kp : Int → Int} {sl : Int → Nat × Nat × Nat × (Int → Int)} {cf cs : Int → Int} {cd cl cc : Int → Int → Int} {ss : Int → Int} {sb : Int → Int → Int}
theorem CA_sc (a : CA h m Q wd wf ts tx wc co re fi kp sl cf cs cd cl cc ss sb) (f1 : Sm h h1 0 10) (f2 : Sm h h1 14 87) (s : CSc h1) : CA h1 m Q wd wf ts tx wc co re fi kp sl cf cs cd cl cc ss sb := by
  obtain ⟨b1, b2, b3, b4, b5, b6, b7, b8, b9⟩ := a
  exact ⟨PTO_fr b1 (Sm_w f1 (by omega) (by omega)), SetA_sm b2 (f1 _ (by omega) (by omega)) (f1 _ (by omega) (by omega)), CRf_fr b3 (Sm_w f1 (by omega) (by omega)) (Sm_w f1 (by omega) (by omega)), CTx_fr b4 (Sm_w f1 (by omega) (by omega)) (Sm_w f1 (by omega) (by omega)), s, CTr_fr b6 (Sm_w f2 (by omega) (by omega)), CSl_fr b7 (Sm_w f2 (by omega) (by omega)), CCr_fr b8 (Sm_w f2 (by omega) (by omega)), CSh_fr b9 (Sm_w f2 (by omega) (by omega))⟩
theorem CA_12 (a : CA h m Q wd wf ts tx wc co re fi kp sl cf cs cd cl cc ss sb) (f : Int → UInt64) : CA (hu h 12 (cD 3 f)) m Q wd wf ts tx wc co re fi kp sl cf cs cd cl cc ss sb := by
  obtain ⟨⟨s1, r1⟩, ⟨s2, r2⟩, ⟨s3, r3⟩, ⟨s4, r4⟩⟩ := id a.2.2.2.2.1
  exact CA_sc a (fun k k0 k1 => hg_ne _ _ _ _ (by omega)) (fun k k0 k1 => hg_ne _ _ _ _ (by omega)) ⟨⟨s1, (hg_ne _ _ _ _ (by omega)).trans r1⟩, ⟨s2, (hg_ne _ _ _ _ (by omega)).trans r2⟩, ⟨f, hg_same _ _ _⟩, ⟨s4, (hg_ne _ _ _ _ (by omega)).trans r4⟩⟩
theorem CA_13 (a : CA h m Q wd wf ts tx wc co re fi kp sl cf cs cd cl cc ss sb) (f : Int → UInt64) : CA (hu h 13 (cD 3 f)) m Q wd wf ts tx wc co re fi kp sl cf cs cd cl cc ss sb := by
  obtain ⟨⟨s1, r1⟩, ⟨s2, r2⟩, ⟨s3, r3⟩, ⟨s4, r4⟩⟩ := id a.2.2.2.2.1
  exact CA_sc a (fun k k0 k1 => hg_ne _ _ _ _ (by omega)) (fun k k0 k1 => hg_ne _ _ _ _ (by omega)) ⟨⟨s1, (hg_ne _ _ _ _ (by omega)).trans r1⟩, ⟨s2, (hg_ne _ _ _ _ (by omega)).trans r2⟩, ⟨s3, (hg_ne _ _ _ _ (by omega)).trans r3⟩, ⟨f, hg_same _ _ _⟩⟩
set_option maxRecDepth 20000 in
set_option maxHeartbeats 4000000 in
theorem c_turn (a : CA h m Q wd wf ts tx wc co re fi kp sl cf cs cd cl cc ss sb) (v : SOK m Q wd wf) {n : Nat} (hn : n < 64) {f0 : Int → UInt64} (e0 : hg h 12 = some (cD 3 f0)) (hf0 : ∀ q : Nat, q < Q → f0 q = shT Q (Pf m Q wd wf) n q) {lim : Nat × Nat} {K : QT}
    (hK : ∀ h' f1, CA h' m Q wd wf ts tx wc co re fi kp sl cf cs cd cl cc ss sb → Fr h h' 10 59 → hg h' 12 = some (cD 3 f1) → (∀ q : Nat, q < Q → f1 q = shT Q (Pf m Q wd wf) (n + 1) q) → K pU h') : WM 172 [pR 0] h lim K := by
  have hQ := v.2.1
  have cp : ∀ (y q : Nat) (h1 : Hp) (f1 g1 : Int → UInt64) (z2 z3 z4 : PV), y + q = Q → CA h1 m Q wd wf ts tx wc co re fi kp sl cf cs cd cl cc ss sb → Fr h h1 10 59 → hg h1 12 = some (cD 3 f1) → hg h1 13 = some (cD 3 g1) → (∀ t : Nat, t < Q → g1 t = shT Q (Pf m Q wd wf) (n + 1) t) → (∀ t : Nat, t < q → f1 t = shT Q (Pf m Q wd wf) (n + 1) t) → WP 172 78 [pR 0, pI q, z2, z3, z4] [] h1 lim K := by
    intro y
    induction y with
    | zero =>
      intro q h1 f1 g1 z2 z3 z4 hy A1 fr e1 e2 hg1 hf1
      obtain ⟨b1, b2, -⟩ := id A1
      unfold PTO at b1
      rw [w172_78]
      try simp (disch := omega) only [w172_0, w172_63, w172_76, w172_107, e172, x_iconst, x_bipush, x_sipush, x_ldc, x_lconst, x_ldc2l, x_dconst, x_ldc2d, x_ldcf, x_iadd, x_isub, x_imul, x_idiv, x_irem, x_ishl, x_ishr, x_iand, x_ior, x_ixor, x_ladd, x_lsub, x_lmul, x_ldiv, x_lrem, x_lshl, x_lshr, x_lor, x_land, x_lcmp, x_i2l, x_l2i, x_i2b, x_i2f, x_l2f, x_l2d, x_f2d, x_d2l, x_fdiv, x_dadd, x_dsub, x_dmul, x_ddiv, x_dcmp, x_fcmp, x_dup, x_pop, x_dup2, x_objinit, x_rawF, x_rawD, gV_0, gV_1, gV_2, gV_3, gV_4, gV_S, x_iload, x_lload, x_fload, x_dload, x_aload, x_istore, x_fstore, x_astore, x_lstore, x_dstore, gX_I, x_iinc, x_getf, x_putfI, x_putfL, x_putfR, x_iald, x_bald, x_zald, x_lald, x_dald, x_aald, x_iast, x_bast, x_zast, x_last, x_dast, x_aast, x_alen, x_new, x_newa, x_anew, x_acopy, x_sld, x_slen, x_fall, x_goto, x_if, x_cmp, x_tsw, x_lsw, x_ret, x_iret, x_zret, x_lret, x_fret, x_dret, x_aret, x_callr, x_callv, x_calli, x_calls, rcv_R, isO_cO, JW_def, kO_some, sk4, cats_nil, cats_I, cats_L, cats_F, cats_D, cats_R, cats_S, Nat.reduceAdd, Nat.reduceLeDiff, inr, inq, Int.reduceEq, Int.reduceLT, Int.reduceLE, Int.reduceNeg, not_false_eq_true, not_true_eq_false, false_implies, and_self, pk_nil, pk_cons, wk_0, wk_1, wk_2, wk_3, wk_4, swt_nil, swt_cons, swl_nil, swl_cons, c3_eq, c3_lt, c3_ge, c3_le, c3_gt, c3_inr, c3_inr2, cnd_0, cnd_1, cnd_2, cnd_3, cnd_4, cnd_5, wide_I, wide_R, wide_L, wide_F, wide_D, wide_S, nw_I, nw_L, nw_F, nw_D, nw_U, nw_R, nw_S, fgo_cO, fso_cO, Option.map_some, alo_cI, ado_cD, aro_cR, ano_cI, ano_cD, lst, List.getElem?_cons_zero, List.getElem?_cons_succ, List.set_cons_zero, List.set_cons_succ, and_true, true_and, true_implies, forall_const, true_or, or_true, hg_same, hg_ne,  b1, b2.1]
      exact ⟨by omega, fun _ => hK h1 f1 A1 fr e1 (fun t ht => hf1 t (by omega)), fun q => by omega⟩
    | succ y ih =>
      intro q h1 f1 g1 z2 z3 z4 hy A1 fr e1 e2 hg1 hf1
      obtain ⟨b1, b2, -⟩ := id A1
      unfold PTO at b1
      have go := ih (q + 1) (hu h1 12 (cD 3 (up f1 q (g1 q)))) _ g1 z2 z3 z4 (by omega) (CA_12 A1 _) (Fr_tr fr (Fr_hu _ (by omega) (by omega))) (hg_same _ _ _) (by rw [hg_ne _ _ _ _ (by omega)]; exact e2) hg1 (fun t ht => by
        by_cases e : t = q
        · subst e
          rw [up_same]
          exact hg1 t (by omega)
        · rw [up_ne _ _ _ _ (by omega)]
          exact hf1 t (by omega))
      rw [show ((q + 1 : Nat) : Int) = (q : Int) + 1 by omega] at go
      rw [w172_78]
      try simp (disch := omega) only [w172_0, w172_63, w172_76, w172_107, e172, x_iconst, x_bipush, x_sipush, x_ldc, x_lconst, x_ldc2l, x_dconst, x_ldc2d, x_ldcf, x_iadd, x_isub, x_imul, x_idiv, x_irem, x_ishl, x_ishr, x_iand, x_ior, x_ixor, x_ladd, x_lsub, x_lmul, x_ldiv, x_lrem, x_lshl, x_lshr, x_lor, x_land, x_lcmp, x_i2l, x_l2i, x_i2b, x_i2f, x_l2f, x_l2d, x_f2d, x_d2l, x_fdiv, x_dadd, x_dsub, x_dmul, x_ddiv, x_dcmp, x_fcmp, x_dup, x_pop, x_dup2, x_objinit, x_rawF, x_rawD, gV_0, gV_1, gV_2, gV_3, gV_4, gV_S, x_iload, x_lload, x_fload, x_dload, x_aload, x_istore, x_fstore, x_astore, x_lstore, x_dstore, gX_I, x_iinc, x_getf, x_putfI, x_putfL, x_putfR, x_iald, x_bald, x_zald, x_lald, x_dald, x_aald, x_iast, x_bast, x_zast, x_last, x_dast, x_aast, x_alen, x_new, x_newa, x_anew, x_acopy, x_sld, x_slen, x_fall, x_goto, x_if, x_cmp, x_tsw, x_lsw, x_ret, x_iret, x_zret, x_lret, x_fret, x_dret, x_aret, x_callr, x_callv, x_calli, x_calls, rcv_R, isO_cO, JW_def, kO_some, sk4, cats_nil, cats_I, cats_L, cats_F, cats_D, cats_R, cats_S, Nat.reduceAdd, Nat.reduceLeDiff, inr, inq, Int.reduceEq, Int.reduceLT, Int.reduceLE, Int.reduceNeg, not_false_eq_true, not_true_eq_false, false_implies, and_self, pk_nil, pk_cons, wk_0, wk_1, wk_2, wk_3, wk_4, swt_nil, swt_cons, swl_nil, swl_cons, c3_eq, c3_lt, c3_ge, c3_le, c3_gt, c3_inr, c3_inr2, cnd_0, cnd_1, cnd_2, cnd_3, cnd_4, cnd_5, wide_I, wide_R, wide_L, wide_F, wide_D, wide_S, nw_I, nw_L, nw_F, nw_D, nw_U, nw_R, nw_S, fgo_cO, fso_cO, Option.map_some, alo_cI, ado_cD, aro_cR, ano_cI, ano_cD, lst, List.getElem?_cons_zero, List.getElem?_cons_succ, List.set_cons_zero, List.set_cons_succ, and_true, true_and, true_implies, forall_const, true_or, or_true, hg_same, hg_ne,  b1, b2.1, e1, e2]
      exact ⟨by omega, fun q => by omega, fun _ => ⟨by omega, by omega, go⟩⟩
  have outer : ∀ (y to : Nat) (h1 : Hp) (g1 : Int → UInt64) (z2 z3 z4 : PV), y + to = Q → CA h1 m Q wd wf ts tx wc co re fi kp sl cf cs cd cl cc ss sb → Fr h h1 10 59 → hg h1 12 = some (cD 3 f0) → hg h1 13 = some (cD 3 g1) → (∀ t : Nat, t < to → g1 t = shT Q (Pf m Q wd wf) (n + 1) t) → WP 172 2 [pR 0, pI to, z2, z3, z4] [] h1 lim K := by
    intro y
    induction y with
    | zero =>
      intro to h1 g1 z2 z3 z4 hy A1 fr e1 e2 hg1
      obtain ⟨b1, b2, -⟩ := id A1
      unfold PTO at b1
      rw [w172_2]
      try simp (disch := omega) only [w172_0, w172_63, w172_76, w172_107, e172, x_iconst, x_bipush, x_sipush, x_ldc, x_lconst, x_ldc2l, x_dconst, x_ldc2d, x_ldcf, x_iadd, x_isub, x_imul, x_idiv, x_irem, x_ishl, x_ishr, x_iand, x_ior, x_ixor, x_ladd, x_lsub, x_lmul, x_ldiv, x_lrem, x_lshl, x_lshr, x_lor, x_land, x_lcmp, x_i2l, x_l2i, x_i2b, x_i2f, x_l2f, x_l2d, x_f2d, x_d2l, x_fdiv, x_dadd, x_dsub, x_dmul, x_ddiv, x_dcmp, x_fcmp, x_dup, x_pop, x_dup2, x_objinit, x_rawF, x_rawD, gV_0, gV_1, gV_2, gV_3, gV_4, gV_S, x_iload, x_lload, x_fload, x_dload, x_aload, x_istore, x_fstore, x_astore, x_lstore, x_dstore, gX_I, x_iinc, x_getf, x_putfI, x_putfL, x_putfR, x_iald, x_bald, x_zald, x_lald, x_dald, x_aald, x_iast, x_bast, x_zast, x_last, x_dast, x_aast, x_alen, x_new, x_newa, x_anew, x_acopy, x_sld, x_slen, x_fall, x_goto, x_if, x_cmp, x_tsw, x_lsw, x_ret, x_iret, x_zret, x_lret, x_fret, x_dret, x_aret, x_callr, x_callv, x_calli, x_calls, rcv_R, isO_cO, JW_def, kO_some, sk4, cats_nil, cats_I, cats_L, cats_F, cats_D, cats_R, cats_S, Nat.reduceAdd, Nat.reduceLeDiff, inr, inq, Int.reduceEq, Int.reduceLT, Int.reduceLE, Int.reduceNeg, not_false_eq_true, not_true_eq_false, false_implies, and_self, pk_nil, pk_cons, wk_0, wk_1, wk_2, wk_3, wk_4, swt_nil, swt_cons, swl_nil, swl_cons, c3_eq, c3_lt, c3_ge, c3_le, c3_gt, c3_inr, c3_inr2, cnd_0, cnd_1, cnd_2, cnd_3, cnd_4, cnd_5, wide_I, wide_R, wide_L, wide_F, wide_D, wide_S, nw_I, nw_L, nw_F, nw_D, nw_U, nw_R, nw_S, fgo_cO, fso_cO, Option.map_some, alo_cI, ado_cD, aro_cR, ano_cI, ano_cD, lst, List.getElem?_cons_zero, List.getElem?_cons_succ, List.set_cons_zero, List.set_cons_succ, and_true, true_and, true_implies, forall_const, true_or, or_true, hg_same, hg_ne,  b1, b2.1]
      refine ⟨by omega, fun _ => ?_, fun q => by omega⟩
      exact cp Q 0 h1 f0 g1 _ _ _ (by omega) A1 fr e1 e2 (fun t ht => hg1 t (by omega)) (fun t ht => by omega)
    | succ y ih =>
      intro to h1 g1 z2 z3 z4 hy A1 fr e1 e2 hg1
      have inner : ∀ (x k : Nat) (h2 : Hp), x + k = Q → CA h2 m Q wd wf ts tx wc co re fi kp sl cf cs cd cl cc ss sb → Fr h h2 10 59 → hg h2 12 = some (cD 3 f0) → hg h2 13 = some (cD 3 g1) → WP 172 18 [pR 0, pI to, pD (dacc (shT Q (Pf m Q wd wf) n) (fun fr => Pf m Q wd wf fr to) k), pU, pI k] [] h2 lim K := by
        intro x
        induction x with
        | zero =>
          intro k h2 hx A2 fr2 e3 e4
          have ek : k = Q := by omega
          subst ek
          obtain ⟨b1, b2, -⟩ := id A2
          unfold PTO at b1
          have go := fun z4 => ih (to + 1) (hu h2 13 (cD 3 (up g1 to (dacc (shT k (Pf m k wd wf) n) (fun fr => Pf m k wd wf fr to) k)))) _ (pD (dacc (shT k (Pf m k wd wf) n) (fun fr => Pf m k wd wf fr to) k)) pU z4 (by omega) (CA_13 A2 _) (Fr_tr fr2 (Fr_hu _ (by omega) (by omega))) (by rw [hg_ne _ _ _ _ (by omega)]; exact e3) (hg_same _ _ _) (fun t ht => by
            by_cases e : t = to
            · subst e
              rw [up_same]
              rfl
            · rw [up_ne _ _ _ _ (by omega)]
              exact hg1 t (by omega))
          rw [show ((to + 1 : Nat) : Int) = (to : Int) + 1 by omega] at go
          rw [w172_18]
          try simp (disch := omega) only [w172_0, w172_63, w172_76, w172_107, e172, x_iconst, x_bipush, x_sipush, x_ldc, x_lconst, x_ldc2l, x_dconst, x_ldc2d, x_ldcf, x_iadd, x_isub, x_imul, x_idiv, x_irem, x_ishl, x_ishr, x_iand, x_ior, x_ixor, x_ladd, x_lsub, x_lmul, x_ldiv, x_lrem, x_lshl, x_lshr, x_lor, x_land, x_lcmp, x_i2l, x_l2i, x_i2b, x_i2f, x_l2f, x_l2d, x_f2d, x_d2l, x_fdiv, x_dadd, x_dsub, x_dmul, x_ddiv, x_dcmp, x_fcmp, x_dup, x_pop, x_dup2, x_objinit, x_rawF, x_rawD, gV_0, gV_1, gV_2, gV_3, gV_4, gV_S, x_iload, x_lload, x_fload, x_dload, x_aload, x_istore, x_fstore, x_astore, x_lstore, x_dstore, gX_I, x_iinc, x_getf, x_putfI, x_putfL, x_putfR, x_iald, x_bald, x_zald, x_lald, x_dald, x_aald, x_iast, x_bast, x_zast, x_last, x_dast, x_aast, x_alen, x_new, x_newa, x_anew, x_acopy, x_sld, x_slen, x_fall, x_goto, x_if, x_cmp, x_tsw, x_lsw, x_ret, x_iret, x_zret, x_lret, x_fret, x_dret, x_aret, x_callr, x_callv, x_calli, x_calls, rcv_R, isO_cO, JW_def, kO_some, sk4, cats_nil, cats_I, cats_L, cats_F, cats_D, cats_R, cats_S, Nat.reduceAdd, Nat.reduceLeDiff, inr, inq, Int.reduceEq, Int.reduceLT, Int.reduceLE, Int.reduceNeg, not_false_eq_true, not_true_eq_false, false_implies, and_self, pk_nil, pk_cons, wk_0, wk_1, wk_2, wk_3, wk_4, swt_nil, swt_cons, swl_nil, swl_cons, c3_eq, c3_lt, c3_ge, c3_le, c3_gt, c3_inr, c3_inr2, cnd_0, cnd_1, cnd_2, cnd_3, cnd_4, cnd_5, wide_I, wide_R, wide_L, wide_F, wide_D, wide_S, nw_I, nw_L, nw_F, nw_D, nw_U, nw_R, nw_S, fgo_cO, fso_cO, Option.map_some, alo_cI, ado_cD, aro_cR, ano_cI, ano_cD, lst, List.getElem?_cons_zero, List.getElem?_cons_succ, List.set_cons_zero, List.set_cons_succ, and_true, true_and, true_implies, forall_const, true_or, or_true, hg_same, hg_ne,  b1, b2.1, e4]
          exact ⟨by omega, fun _ => ⟨by omega, go _⟩, fun q => by omega⟩
        | succ x ihx =>
          intro k h2 hx A2 fr2 e3 e4
          obtain ⟨b1, b2, -⟩ := id A2
          unfold PTO at b1
          have hkQ : k < Q := by omega
          rw [w172_18]
          try simp (disch := omega) only [w172_0, w172_63, w172_76, w172_107, e172, x_iconst, x_bipush, x_sipush, x_ldc, x_lconst, x_ldc2l, x_dconst, x_ldc2d, x_ldcf, x_iadd, x_isub, x_imul, x_idiv, x_irem, x_ishl, x_ishr, x_iand, x_ior, x_ixor, x_ladd, x_lsub, x_lmul, x_ldiv, x_lrem, x_lshl, x_lshr, x_lor, x_land, x_lcmp, x_i2l, x_l2i, x_i2b, x_i2f, x_l2f, x_l2d, x_f2d, x_d2l, x_fdiv, x_dadd, x_dsub, x_dmul, x_ddiv, x_dcmp, x_fcmp, x_dup, x_pop, x_dup2, x_objinit, x_rawF, x_rawD, gV_0, gV_1, gV_2, gV_3, gV_4, gV_S, x_iload, x_lload, x_fload, x_dload, x_aload, x_istore, x_fstore, x_astore, x_lstore, x_dstore, gX_I, x_iinc, x_getf, x_putfI, x_putfL, x_putfR, x_iald, x_bald, x_zald, x_lald, x_dald, x_aald, x_iast, x_bast, x_zast, x_last, x_dast, x_aast, x_alen, x_new, x_newa, x_anew, x_acopy, x_sld, x_slen, x_fall, x_goto, x_if, x_cmp, x_tsw, x_lsw, x_ret, x_iret, x_zret, x_lret, x_fret, x_dret, x_aret, x_callr, x_callv, x_calli, x_calls, rcv_R, isO_cO, JW_def, kO_some, sk4, cats_nil, cats_I, cats_L, cats_F, cats_D, cats_R, cats_S, Nat.reduceAdd, Nat.reduceLeDiff, inr, inq, Int.reduceEq, Int.reduceLT, Int.reduceLE, Int.reduceNeg, not_false_eq_true, not_true_eq_false, false_implies, and_self, pk_nil, pk_cons, wk_0, wk_1, wk_2, wk_3, wk_4, swt_nil, swt_cons, swl_nil, swl_cons, c3_eq, c3_lt, c3_ge, c3_le, c3_gt, c3_inr, c3_inr2, cnd_0, cnd_1, cnd_2, cnd_3, cnd_4, cnd_5, wide_I, wide_R, wide_L, wide_F, wide_D, wide_S, nw_I, nw_L, nw_F, nw_D, nw_U, nw_R, nw_S, fgo_cO, fso_cO, Option.map_some, alo_cI, ado_cD, aro_cR, ano_cI, ano_cD, lst, List.getElem?_cons_zero, List.getElem?_cons_succ, List.set_cons_zero, List.set_cons_succ, and_true, true_and, true_implies, forall_const, true_or, or_true, hg_same, hg_ne,  b1, b2.1, e3]
          refine ⟨by omega, fun q => by omega, fun _ => ⟨by omega, ?_⟩⟩
          refine c_rdy A2 v hkQ (fun h3 lb dp ch so ns nf lf nu fw od lo es lg ls A3 R f3 => ?_)
          obtain ⟨r1, r2, r3, r4⟩ := R
          obtain ⟨y0, y1, y2, y3, y4, y5, y6, y7⟩ := id r2
          have hes := r4.2.2.2.2.2.2 (to : Int) (by omega) (by omega)
          have t1 := turn_ok v hn to hkQ
          have p1 := Pf_hi v hkQ to
          have go := ihx (k + 1) h3 (by omega) A3 (Fr_tr fr2 (Fr_w f3 (by omega) (by omega))) ((f3.1 _ (by omega)).trans e3) ((f3.1 _ (by omega)).trans e4)
          rw [show ((k + 1 : Nat) : Int) = (k : Int) + 1 by omega] at go
          try simp (disch := omega) only [w172_0, w172_63, w172_76, w172_107, e172, x_iconst, x_bipush, x_sipush, x_ldc, x_lconst, x_ldc2l, x_dconst, x_ldc2d, x_ldcf, x_iadd, x_isub, x_imul, x_idiv, x_irem, x_ishl, x_ishr, x_iand, x_ior, x_ixor, x_ladd, x_lsub, x_lmul, x_ldiv, x_lrem, x_lshl, x_lshr, x_lor, x_land, x_lcmp, x_i2l, x_l2i, x_i2b, x_i2f, x_l2f, x_l2d, x_f2d, x_d2l, x_fdiv, x_dadd, x_dsub, x_dmul, x_ddiv, x_dcmp, x_fcmp, x_dup, x_pop, x_dup2, x_objinit, x_rawF, x_rawD, gV_0, gV_1, gV_2, gV_3, gV_4, gV_S, x_iload, x_lload, x_fload, x_dload, x_aload, x_istore, x_fstore, x_astore, x_lstore, x_dstore, gX_I, x_iinc, x_getf, x_putfI, x_putfL, x_putfR, x_iald, x_bald, x_zald, x_lald, x_dald, x_aald, x_iast, x_bast, x_zast, x_last, x_dast, x_aast, x_alen, x_new, x_newa, x_anew, x_acopy, x_sld, x_slen, x_fall, x_goto, x_if, x_cmp, x_tsw, x_lsw, x_ret, x_iret, x_zret, x_lret, x_fret, x_dret, x_aret, x_callr, x_callv, x_calli, x_calls, rcv_R, isO_cO, JW_def, kO_some, sk4, cats_nil, cats_I, cats_L, cats_F, cats_D, cats_R, cats_S, Nat.reduceAdd, Nat.reduceLeDiff, inr, inq, Int.reduceEq, Int.reduceLT, Int.reduceLE, Int.reduceNeg, not_false_eq_true, not_true_eq_false, false_implies, and_self, pk_nil, pk_cons, wk_0, wk_1, wk_2, wk_3, wk_4, swt_nil, swt_cons, swl_nil, swl_cons, c3_eq, c3_lt, c3_ge, c3_le, c3_gt, c3_inr, c3_inr2, cnd_0, cnd_1, cnd_2, cnd_3, cnd_4, cnd_5, wide_I, wide_R, wide_L, wide_F, wide_D, wide_S, nw_I, nw_L, nw_F, nw_D, nw_U, nw_R, nw_S, fgo_cO, fso_cO, Option.map_some, alo_cI, ado_cD, aro_cR, ano_cI, ano_cD, lst, List.getElem?_cons_zero, List.getElem?_cons_succ, List.set_cons_zero, List.set_cons_succ, and_true, true_and, true_implies, forall_const, true_or, or_true, hg_same, hg_ne,  y0, y7, t_32]
          rw [hes, hf0 k hkQ]
          exact ⟨by omega, fp_n64 p1.2, fp_n64 t1.1, fp_n64 t1.2, go⟩
      obtain ⟨b1, b2, -⟩ := id A1
      unfold PTO at b1
      have go := inner Q 0 h1 (by omega) A1 fr e1 e2
      rw [w172_2]
      try simp (disch := omega) only [w172_0, w172_63, w172_76, w172_107, e172, x_iconst, x_bipush, x_sipush, x_ldc, x_lconst, x_ldc2l, x_dconst, x_ldc2d, x_ldcf, x_iadd, x_isub, x_imul, x_idiv, x_irem, x_ishl, x_ishr, x_iand, x_ior, x_ixor, x_ladd, x_lsub, x_lmul, x_ldiv, x_lrem, x_lshl, x_lshr, x_lor, x_land, x_lcmp, x_i2l, x_l2i, x_i2b, x_i2f, x_l2f, x_l2d, x_f2d, x_d2l, x_fdiv, x_dadd, x_dsub, x_dmul, x_ddiv, x_dcmp, x_fcmp, x_dup, x_pop, x_dup2, x_objinit, x_rawF, x_rawD, gV_0, gV_1, gV_2, gV_3, gV_4, gV_S, x_iload, x_lload, x_fload, x_dload, x_aload, x_istore, x_fstore, x_astore, x_lstore, x_dstore, gX_I, x_iinc, x_getf, x_putfI, x_putfL, x_putfR, x_iald, x_bald, x_zald, x_lald, x_dald, x_aald, x_iast, x_bast, x_zast, x_last, x_dast, x_aast, x_alen, x_new, x_newa, x_anew, x_acopy, x_sld, x_slen, x_fall, x_goto, x_if, x_cmp, x_tsw, x_lsw, x_ret, x_iret, x_zret, x_lret, x_fret, x_dret, x_aret, x_callr, x_callv, x_calli, x_calls, rcv_R, isO_cO, JW_def, kO_some, sk4, cats_nil, cats_I, cats_L, cats_F, cats_D, cats_R, cats_S, Nat.reduceAdd, Nat.reduceLeDiff, inr, inq, Int.reduceEq, Int.reduceLT, Int.reduceLE, Int.reduceNeg, not_false_eq_true, not_true_eq_false, false_implies, and_self, pk_nil, pk_cons, wk_0, wk_1, wk_2, wk_3, wk_4, swt_nil, swt_cons, swl_nil, swl_cons, c3_eq, c3_lt, c3_ge, c3_le, c3_gt, c3_inr, c3_inr2, cnd_0, cnd_1, cnd_2, cnd_3, cnd_4, cnd_5, wide_I, wide_R, wide_L, wide_F, wide_D, wide_S, nw_I, nw_L, nw_F, nw_D, nw_U, nw_R, nw_S, fgo_cO, fso_cO, Option.map_some, alo_cI, ado_cD, aro_cR, ano_cI, ano_cD, lst, List.getElem?_cons_zero, List.getElem?_cons_succ, List.set_cons_zero, List.set_cons_succ, and_true, true_and, true_implies, forall_const, true_or, or_true, hg_same, hg_ne,  b1, b2.1, reduceIte]
      exact ⟨by omega, fun q => by omega, fun _ => go⟩
  obtain ⟨-, -, -, ⟨g0, r4⟩⟩ := id a.2.2.2.2.1
  have go := fun z2 z3 z4 => outer Q 0 h g0 z2 z3 z4 (by omega) a (Fr_rf _ _ _) e0 r4 (fun t ht => by omega)
  try simp (disch := omega) only [w172_0, w172_63, w172_76, w172_107, e172, x_iconst, x_bipush, x_sipush, x_ldc, x_lconst, x_ldc2l, x_dconst, x_ldc2d, x_ldcf, x_iadd, x_isub, x_imul, x_idiv, x_irem, x_ishl, x_ishr, x_iand, x_ior, x_ixor, x_ladd, x_lsub, x_lmul, x_ldiv, x_lrem, x_lshl, x_lshr, x_lor, x_land, x_lcmp, x_i2l, x_l2i, x_i2b, x_i2f, x_l2f, x_l2d, x_f2d, x_d2l, x_fdiv, x_dadd, x_dsub, x_dmul, x_ddiv, x_dcmp, x_fcmp, x_dup, x_pop, x_dup2, x_objinit, x_rawF, x_rawD, gV_0, gV_1, gV_2, gV_3, gV_4, gV_S, x_iload, x_lload, x_fload, x_dload, x_aload, x_istore, x_fstore, x_astore, x_lstore, x_dstore, gX_I, x_iinc, x_getf, x_putfI, x_putfL, x_putfR, x_iald, x_bald, x_zald, x_lald, x_dald, x_aald, x_iast, x_bast, x_zast, x_last, x_dast, x_aast, x_alen, x_new, x_newa, x_anew, x_acopy, x_sld, x_slen, x_fall, x_goto, x_if, x_cmp, x_tsw, x_lsw, x_ret, x_iret, x_zret, x_lret, x_fret, x_dret, x_aret, x_callr, x_callv, x_calli, x_calls, rcv_R, isO_cO, JW_def, kO_some, sk4, cats_nil, cats_I, cats_L, cats_F, cats_D, cats_R, cats_S, Nat.reduceAdd, Nat.reduceLeDiff, inr, inq, Int.reduceEq, Int.reduceLT, Int.reduceLE, Int.reduceNeg, not_false_eq_true, not_true_eq_false, false_implies, and_self, pk_nil, pk_cons, wk_0, wk_1, wk_2, wk_3, wk_4, swt_nil, swt_cons, swl_nil, swl_cons, c3_eq, c3_lt, c3_ge, c3_le, c3_gt, c3_inr, c3_inr2, cnd_0, cnd_1, cnd_2, cnd_3, cnd_4, cnd_5, wide_I, wide_R, wide_L, wide_F, wide_D, wide_S, nw_I, nw_L, nw_F, nw_D, nw_U, nw_R, nw_S, fgo_cO, fso_cO, Option.map_some, alo_cI, ado_cD, aro_cR, ano_cI, ano_cD, lst, List.getElem?_cons_zero, List.getElem?_cons_succ, List.set_cons_zero, List.set_cons_succ, and_true, true_and, true_implies, forall_const, true_or, or_true, hg_same, hg_ne]
  exact go _ _ _
set_option maxRecDepth 20000 in
set_option maxHeartbeats 4000000 in
theorem c_longRun (a : CA h m Q wd wf ts tx wc co re fi kp sl cf cs cd cl cc ss sb) (v : SOK m Q wd wf) {lim : Nat × Nat} {K : QT} (hK : ∀ h', CA h' m Q wd wf ts tx wc co re fi kp sl cf cs cd cl cc ss sb → Fr h h' 10 59 → K (pL ((lrV m Q wd wf).toNat : Int)) h') : WM 187 [pR 0] h lim K := by
  have hQ := v.2.1
  have last : ∀ (y k : Nat) (h1 : Hp) (f1 : Int → UInt64), y + k = Q → CA h1 m Q wd wf ts tx wc co re fi kp sl cf cs cd cl cc ss sb → Fr h h1 10 59 → hg h1 12 = some (cD 3 f1) → (∀ t : Nat, t < Q → f1 t = shT Q (Pf m Q wd wf) 64 t) → WP 187 56 [pR 0, pD (dacc (shT Q (Pf m Q wd wf) 64) (Mf m Q wd wf) k), pU, pI k] [] h1 lim K := by
    intro y
    induction y with
    | zero =>
      intro k h1 f1 hy A1 fr e1 hf1
      have ek : k = Q := by omega
      subst ek
      obtain ⟨b1, b2, -⟩ := id A1
      unfold PTO at b1
      obtain ⟨E, T, e2, e3, e4, e5⟩ := lr_norm v
      have k1 := hK h1 A1 fr
      rw [e5] at k1
      unfold lrV at e4
      rw [w187_56]
      try simp (disch := omega) only [w187_0, w187_26, w187_27, w187_34, w187_52, w187_96, e187, x_iconst, x_bipush, x_sipush, x_ldc, x_lconst, x_ldc2l, x_dconst, x_ldc2d, x_ldcf, x_iadd, x_isub, x_imul, x_idiv, x_irem, x_ishl, x_ishr, x_iand, x_ior, x_ixor, x_ladd, x_lsub, x_lmul, x_ldiv, x_lrem, x_lshl, x_lshr, x_lor, x_land, x_lcmp, x_i2l, x_l2i, x_i2b, x_i2f, x_l2f, x_l2d, x_f2d, x_d2l, x_fdiv, x_dadd, x_dsub, x_dmul, x_ddiv, x_dcmp, x_fcmp, x_dup, x_pop, x_dup2, x_objinit, x_rawF, x_rawD, gV_0, gV_1, gV_2, gV_3, gV_4, gV_S, x_iload, x_lload, x_fload, x_dload, x_aload, x_istore, x_fstore, x_astore, x_lstore, x_dstore, gX_I, x_iinc, x_getf, x_putfI, x_putfL, x_putfR, x_iald, x_bald, x_zald, x_lald, x_dald, x_aald, x_iast, x_bast, x_zast, x_last, x_dast, x_aast, x_alen, x_new, x_newa, x_anew, x_acopy, x_sld, x_slen, x_fall, x_goto, x_if, x_cmp, x_tsw, x_lsw, x_ret, x_iret, x_zret, x_lret, x_fret, x_dret, x_aret, x_callr, x_callv, x_calli, x_calls, rcv_R, isO_cO, JW_def, kO_some, sk4, cats_nil, cats_I, cats_L, cats_F, cats_D, cats_R, cats_S, Nat.reduceAdd, Nat.reduceLeDiff, inr, inq, Int.reduceEq, Int.reduceLT, Int.reduceLE, Int.reduceNeg, not_false_eq_true, not_true_eq_false, false_implies, and_self, pk_nil, pk_cons, wk_0, wk_1, wk_2, wk_3, wk_4, swt_nil, swt_cons, swl_nil, swl_cons, c3_eq, c3_lt, c3_ge, c3_le, c3_gt, c3_inr, c3_inr2, cnd_0, cnd_1, cnd_2, cnd_3, cnd_4, cnd_5, wide_I, wide_R, wide_L, wide_F, wide_D, wide_S, nw_I, nw_L, nw_F, nw_D, nw_U, nw_R, nw_S, fgo_cO, fso_cO, Option.map_some, alo_cI, ado_cD, aro_cR, ano_cI, ano_cD, lst, List.getElem?_cons_zero, List.getElem?_cons_succ, List.set_cons_zero, List.set_cons_succ, and_true, true_and, true_implies, forall_const, true_or, or_true, hg_same, hg_ne,  b1, b2.1]
      rw [e4]
      refine ⟨by omega, fun _ => c_ofDouble e2 e3 ?_, fun q => by omega⟩
      try simp (disch := omega) only [w187_0, w187_26, w187_27, w187_34, w187_52, w187_96, e187, x_iconst, x_bipush, x_sipush, x_ldc, x_lconst, x_ldc2l, x_dconst, x_ldc2d, x_ldcf, x_iadd, x_isub, x_imul, x_idiv, x_irem, x_ishl, x_ishr, x_iand, x_ior, x_ixor, x_ladd, x_lsub, x_lmul, x_ldiv, x_lrem, x_lshl, x_lshr, x_lor, x_land, x_lcmp, x_i2l, x_l2i, x_i2b, x_i2f, x_l2f, x_l2d, x_f2d, x_d2l, x_fdiv, x_dadd, x_dsub, x_dmul, x_ddiv, x_dcmp, x_fcmp, x_dup, x_pop, x_dup2, x_objinit, x_rawF, x_rawD, gV_0, gV_1, gV_2, gV_3, gV_4, gV_S, x_iload, x_lload, x_fload, x_dload, x_aload, x_istore, x_fstore, x_astore, x_lstore, x_dstore, gX_I, x_iinc, x_getf, x_putfI, x_putfL, x_putfR, x_iald, x_bald, x_zald, x_lald, x_dald, x_aald, x_iast, x_bast, x_zast, x_last, x_dast, x_aast, x_alen, x_new, x_newa, x_anew, x_acopy, x_sld, x_slen, x_fall, x_goto, x_if, x_cmp, x_tsw, x_lsw, x_ret, x_iret, x_zret, x_lret, x_fret, x_dret, x_aret, x_callr, x_callv, x_calli, x_calls, rcv_R, isO_cO, JW_def, kO_some, sk4, cats_nil, cats_I, cats_L, cats_F, cats_D, cats_R, cats_S, Nat.reduceAdd, Nat.reduceLeDiff, inr, inq, Int.reduceEq, Int.reduceLT, Int.reduceLE, Int.reduceNeg, not_false_eq_true, not_true_eq_false, false_implies, and_self, pk_nil, pk_cons, wk_0, wk_1, wk_2, wk_3, wk_4, swt_nil, swt_cons, swl_nil, swl_cons, c3_eq, c3_lt, c3_ge, c3_le, c3_gt, c3_inr, c3_inr2, cnd_0, cnd_1, cnd_2, cnd_3, cnd_4, cnd_5, wide_I, wide_R, wide_L, wide_F, wide_D, wide_S, nw_I, nw_L, nw_F, nw_D, nw_U, nw_R, nw_S, fgo_cO, fso_cO, Option.map_some, alo_cI, ado_cD, aro_cR, ano_cI, ano_cD, lst, List.getElem?_cons_zero, List.getElem?_cons_succ, List.set_cons_zero, List.set_cons_succ, and_true, true_and, true_implies, forall_const, true_or, or_true, hg_same, hg_ne]
      exact k1
    | succ y ih =>
      intro k h1 f1 hy A1 fr e1 hf1
      obtain ⟨b1, b2, -⟩ := id A1
      unfold PTO at b1
      have hkQ : k < Q := by omega
      rw [w187_56]
      try simp (disch := omega) only [w187_0, w187_26, w187_27, w187_34, w187_52, w187_96, e187, x_iconst, x_bipush, x_sipush, x_ldc, x_lconst, x_ldc2l, x_dconst, x_ldc2d, x_ldcf, x_iadd, x_isub, x_imul, x_idiv, x_irem, x_ishl, x_ishr, x_iand, x_ior, x_ixor, x_ladd, x_lsub, x_lmul, x_ldiv, x_lrem, x_lshl, x_lshr, x_lor, x_land, x_lcmp, x_i2l, x_l2i, x_i2b, x_i2f, x_l2f, x_l2d, x_f2d, x_d2l, x_fdiv, x_dadd, x_dsub, x_dmul, x_ddiv, x_dcmp, x_fcmp, x_dup, x_pop, x_dup2, x_objinit, x_rawF, x_rawD, gV_0, gV_1, gV_2, gV_3, gV_4, gV_S, x_iload, x_lload, x_fload, x_dload, x_aload, x_istore, x_fstore, x_astore, x_lstore, x_dstore, gX_I, x_iinc, x_getf, x_putfI, x_putfL, x_putfR, x_iald, x_bald, x_zald, x_lald, x_dald, x_aald, x_iast, x_bast, x_zast, x_last, x_dast, x_aast, x_alen, x_new, x_newa, x_anew, x_acopy, x_sld, x_slen, x_fall, x_goto, x_if, x_cmp, x_tsw, x_lsw, x_ret, x_iret, x_zret, x_lret, x_fret, x_dret, x_aret, x_callr, x_callv, x_calli, x_calls, rcv_R, isO_cO, JW_def, kO_some, sk4, cats_nil, cats_I, cats_L, cats_F, cats_D, cats_R, cats_S, Nat.reduceAdd, Nat.reduceLeDiff, inr, inq, Int.reduceEq, Int.reduceLT, Int.reduceLE, Int.reduceNeg, not_false_eq_true, not_true_eq_false, false_implies, and_self, pk_nil, pk_cons, wk_0, wk_1, wk_2, wk_3, wk_4, swt_nil, swt_cons, swl_nil, swl_cons, c3_eq, c3_lt, c3_ge, c3_le, c3_gt, c3_inr, c3_inr2, cnd_0, cnd_1, cnd_2, cnd_3, cnd_4, cnd_5, wide_I, wide_R, wide_L, wide_F, wide_D, wide_S, nw_I, nw_L, nw_F, nw_D, nw_U, nw_R, nw_S, fgo_cO, fso_cO, Option.map_some, alo_cI, ado_cD, aro_cR, ano_cI, ano_cD, lst, List.getElem?_cons_zero, List.getElem?_cons_succ, List.set_cons_zero, List.set_cons_succ, and_true, true_and, true_implies, forall_const, true_or, or_true, hg_same, hg_ne,  b1, b2.1, e1]
      refine ⟨by omega, fun q => by omega, fun _ => ⟨by omega, ?_⟩⟩
      refine c_rdy A1 v hkQ (fun h3 lb dp ch so ns nf lf nu fw od lo es lg ls A3 R f3 => ?_)
      obtain ⟨r1, r2, r3, r4⟩ := R
      obtain ⟨y0, -⟩ := id r2
      have hls := r4.2.2.2.2.2.1
      have t1 := last_ok v hkQ
      have p1 := Mf_ok v hkQ
      have go := ih (k + 1) h3 f1 (by omega) A3 (Fr_tr fr (Fr_w f3 (by omega) (by omega))) ((f3.1 _ (by omega)).trans e1) hf1
      rw [show ((k + 1 : Nat) : Int) = (k : Int) + 1 by omega] at go
      try simp (disch := omega) only [w187_0, w187_26, w187_27, w187_34, w187_52, w187_96, e187, x_iconst, x_bipush, x_sipush, x_ldc, x_lconst, x_ldc2l, x_dconst, x_ldc2d, x_ldcf, x_iadd, x_isub, x_imul, x_idiv, x_irem, x_ishl, x_ishr, x_iand, x_ior, x_ixor, x_ladd, x_lsub, x_lmul, x_ldiv, x_lrem, x_lshl, x_lshr, x_lor, x_land, x_lcmp, x_i2l, x_l2i, x_i2b, x_i2f, x_l2f, x_l2d, x_f2d, x_d2l, x_fdiv, x_dadd, x_dsub, x_dmul, x_ddiv, x_dcmp, x_fcmp, x_dup, x_pop, x_dup2, x_objinit, x_rawF, x_rawD, gV_0, gV_1, gV_2, gV_3, gV_4, gV_S, x_iload, x_lload, x_fload, x_dload, x_aload, x_istore, x_fstore, x_astore, x_lstore, x_dstore, gX_I, x_iinc, x_getf, x_putfI, x_putfL, x_putfR, x_iald, x_bald, x_zald, x_lald, x_dald, x_aald, x_iast, x_bast, x_zast, x_last, x_dast, x_aast, x_alen, x_new, x_newa, x_anew, x_acopy, x_sld, x_slen, x_fall, x_goto, x_if, x_cmp, x_tsw, x_lsw, x_ret, x_iret, x_zret, x_lret, x_fret, x_dret, x_aret, x_callr, x_callv, x_calli, x_calls, rcv_R, isO_cO, JW_def, kO_some, sk4, cats_nil, cats_I, cats_L, cats_F, cats_D, cats_R, cats_S, Nat.reduceAdd, Nat.reduceLeDiff, inr, inq, Int.reduceEq, Int.reduceLT, Int.reduceLE, Int.reduceNeg, not_false_eq_true, not_true_eq_false, false_implies, and_self, pk_nil, pk_cons, wk_0, wk_1, wk_2, wk_3, wk_4, swt_nil, swt_cons, swl_nil, swl_cons, c3_eq, c3_lt, c3_ge, c3_le, c3_gt, c3_inr, c3_inr2, cnd_0, cnd_1, cnd_2, cnd_3, cnd_4, cnd_5, wide_I, wide_R, wide_L, wide_F, wide_D, wide_S, nw_I, nw_L, nw_F, nw_D, nw_U, nw_R, nw_S, fgo_cO, fso_cO, Option.map_some, alo_cI, ado_cD, aro_cR, ano_cI, ano_cD, lst, List.getElem?_cons_zero, List.getElem?_cons_succ, List.set_cons_zero, List.set_cons_succ, and_true, true_and, true_implies, forall_const, true_or, or_true, hg_same, hg_ne,  y0, t_32]
      rw [hls, hf1 k hkQ]
      exact ⟨fp_n64 p1.2.1, fp_n64 t1.1, fp_n64 t1.2, go⟩
  have turns : ∀ (y n : Nat) (h1 : Hp) (f1 : Int → UInt64) (z2 z3 : PV), y + n = 64 → CA h1 m Q wd wf ts tx wc co re fi kp sl cf cs cd cl cc ss sb → Fr h h1 10 59 → hg h1 12 = some (cD 3 f1) → (∀ t : Nat, t < Q → f1 t = shT Q (Pf m Q wd wf) n t) → WP 187 36 [pR 0, pI n, z2, z3] [] h1 lim K := by
    intro y
    induction y with
    | zero =>
      intro n h1 f1 z2 z3 hy A1 fr e1 hf1
      have en : n = 64 := by omega
      subst en
      have go := last Q 0 h1 f1 (by omega) A1 fr e1 hf1
      rw [w187_36]
      try simp (disch := omega) only [w187_0, w187_26, w187_27, w187_34, w187_52, w187_96, e187, x_iconst, x_bipush, x_sipush, x_ldc, x_lconst, x_ldc2l, x_dconst, x_ldc2d, x_ldcf, x_iadd, x_isub, x_imul, x_idiv, x_irem, x_ishl, x_ishr, x_iand, x_ior, x_ixor, x_ladd, x_lsub, x_lmul, x_ldiv, x_lrem, x_lshl, x_lshr, x_lor, x_land, x_lcmp, x_i2l, x_l2i, x_i2b, x_i2f, x_l2f, x_l2d, x_f2d, x_d2l, x_fdiv, x_dadd, x_dsub, x_dmul, x_ddiv, x_dcmp, x_fcmp, x_dup, x_pop, x_dup2, x_objinit, x_rawF, x_rawD, gV_0, gV_1, gV_2, gV_3, gV_4, gV_S, x_iload, x_lload, x_fload, x_dload, x_aload, x_istore, x_fstore, x_astore, x_lstore, x_dstore, gX_I, x_iinc, x_getf, x_putfI, x_putfL, x_putfR, x_iald, x_bald, x_zald, x_lald, x_dald, x_aald, x_iast, x_bast, x_zast, x_last, x_dast, x_aast, x_alen, x_new, x_newa, x_anew, x_acopy, x_sld, x_slen, x_fall, x_goto, x_if, x_cmp, x_tsw, x_lsw, x_ret, x_iret, x_zret, x_lret, x_fret, x_dret, x_aret, x_callr, x_callv, x_calli, x_calls, rcv_R, isO_cO, JW_def, kO_some, sk4, cats_nil, cats_I, cats_L, cats_F, cats_D, cats_R, cats_S, Nat.reduceAdd, Nat.reduceLeDiff, inr, inq, Int.reduceEq, Int.reduceLT, Int.reduceLE, Int.reduceNeg, not_false_eq_true, not_true_eq_false, false_implies, and_self, pk_nil, pk_cons, wk_0, wk_1, wk_2, wk_3, wk_4, swt_nil, swt_cons, swl_nil, swl_cons, c3_eq, c3_lt, c3_ge, c3_le, c3_gt, c3_inr, c3_inr2, cnd_0, cnd_1, cnd_2, cnd_3, cnd_4, cnd_5, wide_I, wide_R, wide_L, wide_F, wide_D, wide_S, nw_I, nw_L, nw_F, nw_D, nw_U, nw_R, nw_S, fgo_cO, fso_cO, Option.map_some, alo_cI, ado_cD, aro_cR, ano_cI, ano_cD, lst, List.getElem?_cons_zero, List.getElem?_cons_succ, List.set_cons_zero, List.set_cons_succ, and_true, true_and, true_implies, forall_const, true_or, or_true, hg_same, hg_ne,  reduceIte]
      exact ⟨by omega, fun _ => go, fun q => by omega⟩
    | succ y ih =>
      intro n h1 f1 z2 z3 hy A1 fr e1 hf1
      have b1 := A1.1
      unfold PTO at b1
      rw [w187_36]
      try simp (disch := omega) only [w187_0, w187_26, w187_27, w187_34, w187_52, w187_96, e187, x_iconst, x_bipush, x_sipush, x_ldc, x_lconst, x_ldc2l, x_dconst, x_ldc2d, x_ldcf, x_iadd, x_isub, x_imul, x_idiv, x_irem, x_ishl, x_ishr, x_iand, x_ior, x_ixor, x_ladd, x_lsub, x_lmul, x_ldiv, x_lrem, x_lshl, x_lshr, x_lor, x_land, x_lcmp, x_i2l, x_l2i, x_i2b, x_i2f, x_l2f, x_l2d, x_f2d, x_d2l, x_fdiv, x_dadd, x_dsub, x_dmul, x_ddiv, x_dcmp, x_fcmp, x_dup, x_pop, x_dup2, x_objinit, x_rawF, x_rawD, gV_0, gV_1, gV_2, gV_3, gV_4, gV_S, x_iload, x_lload, x_fload, x_dload, x_aload, x_istore, x_fstore, x_astore, x_lstore, x_dstore, gX_I, x_iinc, x_getf, x_putfI, x_putfL, x_putfR, x_iald, x_bald, x_zald, x_lald, x_dald, x_aald, x_iast, x_bast, x_zast, x_last, x_dast, x_aast, x_alen, x_new, x_newa, x_anew, x_acopy, x_sld, x_slen, x_fall, x_goto, x_if, x_cmp, x_tsw, x_lsw, x_ret, x_iret, x_zret, x_lret, x_fret, x_dret, x_aret, x_callr, x_callv, x_calli, x_calls, rcv_R, isO_cO, JW_def, kO_some, sk4, cats_nil, cats_I, cats_L, cats_F, cats_D, cats_R, cats_S, Nat.reduceAdd, Nat.reduceLeDiff, inr, inq, Int.reduceEq, Int.reduceLT, Int.reduceLE, Int.reduceNeg, not_false_eq_true, not_true_eq_false, false_implies, and_self, pk_nil, pk_cons, wk_0, wk_1, wk_2, wk_3, wk_4, swt_nil, swt_cons, swl_nil, swl_cons, c3_eq, c3_lt, c3_ge, c3_le, c3_gt, c3_inr, c3_inr2, cnd_0, cnd_1, cnd_2, cnd_3, cnd_4, cnd_5, wide_I, wide_R, wide_L, wide_F, wide_D, wide_S, nw_I, nw_L, nw_F, nw_D, nw_U, nw_R, nw_S, fgo_cO, fso_cO, Option.map_some, alo_cI, ado_cD, aro_cR, ano_cI, ano_cD, lst, List.getElem?_cons_zero, List.getElem?_cons_succ, List.set_cons_zero, List.set_cons_succ, and_true, true_and, true_implies, forall_const, true_or, or_true, hg_same, hg_ne,  b1]
      refine ⟨by omega, fun q => by omega, fun _ => ?_⟩
      refine c_turn A1 v (n := n) (by omega) e1 hf1 (fun h2 f2 A2 fr2 e2 hf2 => ?_)
      have go := ih (n + 1) h2 f2 z2 z3 (by omega) A2 (Fr_tr fr fr2) e2 hf2
      rw [show ((n + 1 : Nat) : Int) = (n : Int) + 1 by omega] at go
      try simp (disch := omega) only [w187_0, w187_26, w187_27, w187_34, w187_52, w187_96, e187, x_iconst, x_bipush, x_sipush, x_ldc, x_lconst, x_ldc2l, x_dconst, x_ldc2d, x_ldcf, x_iadd, x_isub, x_imul, x_idiv, x_irem, x_ishl, x_ishr, x_iand, x_ior, x_ixor, x_ladd, x_lsub, x_lmul, x_ldiv, x_lrem, x_lshl, x_lshr, x_lor, x_land, x_lcmp, x_i2l, x_l2i, x_i2b, x_i2f, x_l2f, x_l2d, x_f2d, x_d2l, x_fdiv, x_dadd, x_dsub, x_dmul, x_ddiv, x_dcmp, x_fcmp, x_dup, x_pop, x_dup2, x_objinit, x_rawF, x_rawD, gV_0, gV_1, gV_2, gV_3, gV_4, gV_S, x_iload, x_lload, x_fload, x_dload, x_aload, x_istore, x_fstore, x_astore, x_lstore, x_dstore, gX_I, x_iinc, x_getf, x_putfI, x_putfL, x_putfR, x_iald, x_bald, x_zald, x_lald, x_dald, x_aald, x_iast, x_bast, x_zast, x_last, x_dast, x_aast, x_alen, x_new, x_newa, x_anew, x_acopy, x_sld, x_slen, x_fall, x_goto, x_if, x_cmp, x_tsw, x_lsw, x_ret, x_iret, x_zret, x_lret, x_fret, x_dret, x_aret, x_callr, x_callv, x_calli, x_calls, rcv_R, isO_cO, JW_def, kO_some, sk4, cats_nil, cats_I, cats_L, cats_F, cats_D, cats_R, cats_S, Nat.reduceAdd, Nat.reduceLeDiff, inr, inq, Int.reduceEq, Int.reduceLT, Int.reduceLE, Int.reduceNeg, not_false_eq_true, not_true_eq_false, false_implies, and_self, pk_nil, pk_cons, wk_0, wk_1, wk_2, wk_3, wk_4, swt_nil, swt_cons, swl_nil, swl_cons, c3_eq, c3_lt, c3_ge, c3_le, c3_gt, c3_inr, c3_inr2, cnd_0, cnd_1, cnd_2, cnd_3, cnd_4, cnd_5, wide_I, wide_R, wide_L, wide_F, wide_D, wide_S, nw_I, nw_L, nw_F, nw_D, nw_U, nw_R, nw_S, fgo_cO, fso_cO, Option.map_some, alo_cI, ado_cD, aro_cR, ano_cI, ano_cD, lst, List.getElem?_cons_zero, List.getElem?_cons_succ, List.set_cons_zero, List.set_cons_succ, and_true, true_and, true_implies, forall_const, true_or, or_true, hg_same, hg_ne]
      exact go
  have init : ∀ (y q : Nat) (h1 : Hp) (f1 : Int → UInt64) (z2 z3 : PV), y + q = Q → CA h1 m Q wd wf ts tx wc co re fi kp sl cf cs cd cl cc ss sb → Fr h h1 10 59 → hg h1 12 = some (cD 3 f1) → (∀ t : Nat, t < q → f1 t = shT Q (Pf m Q wd wf) 0 t) → WP 187 2 [pR 0, pI q, z2, z3] [] h1 lim K := by
    intro y
    induction y with
    | zero =>
      intro q h1 f1 z2 z3 hy A1 fr e1 hf1
      obtain ⟨b1, b2, -⟩ := id A1
      unfold PTO at b1
      have go := turns 64 0 h1 f1 z2 z3 (by omega) A1 fr e1 (fun t ht => hf1 t (by omega))
      rw [w187_2]
      try simp (disch := omega) only [w187_0, w187_26, w187_27, w187_34, w187_52, w187_96, e187, x_iconst, x_bipush, x_sipush, x_ldc, x_lconst, x_ldc2l, x_dconst, x_ldc2d, x_ldcf, x_iadd, x_isub, x_imul, x_idiv, x_irem, x_ishl, x_ishr, x_iand, x_ior, x_ixor, x_ladd, x_lsub, x_lmul, x_ldiv, x_lrem, x_lshl, x_lshr, x_lor, x_land, x_lcmp, x_i2l, x_l2i, x_i2b, x_i2f, x_l2f, x_l2d, x_f2d, x_d2l, x_fdiv, x_dadd, x_dsub, x_dmul, x_ddiv, x_dcmp, x_fcmp, x_dup, x_pop, x_dup2, x_objinit, x_rawF, x_rawD, gV_0, gV_1, gV_2, gV_3, gV_4, gV_S, x_iload, x_lload, x_fload, x_dload, x_aload, x_istore, x_fstore, x_astore, x_lstore, x_dstore, gX_I, x_iinc, x_getf, x_putfI, x_putfL, x_putfR, x_iald, x_bald, x_zald, x_lald, x_dald, x_aald, x_iast, x_bast, x_zast, x_last, x_dast, x_aast, x_alen, x_new, x_newa, x_anew, x_acopy, x_sld, x_slen, x_fall, x_goto, x_if, x_cmp, x_tsw, x_lsw, x_ret, x_iret, x_zret, x_lret, x_fret, x_dret, x_aret, x_callr, x_callv, x_calli, x_calls, rcv_R, isO_cO, JW_def, kO_some, sk4, cats_nil, cats_I, cats_L, cats_F, cats_D, cats_R, cats_S, Nat.reduceAdd, Nat.reduceLeDiff, inr, inq, Int.reduceEq, Int.reduceLT, Int.reduceLE, Int.reduceNeg, not_false_eq_true, not_true_eq_false, false_implies, and_self, pk_nil, pk_cons, wk_0, wk_1, wk_2, wk_3, wk_4, swt_nil, swt_cons, swl_nil, swl_cons, c3_eq, c3_lt, c3_ge, c3_le, c3_gt, c3_inr, c3_inr2, cnd_0, cnd_1, cnd_2, cnd_3, cnd_4, cnd_5, wide_I, wide_R, wide_L, wide_F, wide_D, wide_S, nw_I, nw_L, nw_F, nw_D, nw_U, nw_R, nw_S, fgo_cO, fso_cO, Option.map_some, alo_cI, ado_cD, aro_cR, ano_cI, ano_cD, lst, List.getElem?_cons_zero, List.getElem?_cons_succ, List.set_cons_zero, List.set_cons_succ, and_true, true_and, true_implies, forall_const, true_or, or_true, hg_same, hg_ne,  b1, b2.1]
      exact ⟨by omega, fun _ => go, fun q => by omega⟩
    | succ y ih =>
      intro q h1 f1 z2 z3 hy A1 fr e1 hf1
      obtain ⟨b1, b2, -⟩ := id A1
      unfold PTO at b1
      have go : ∀ x : UInt64, x = shT Q (Pf m Q wd wf) 0 q → WP 187 2 [pR 0, pI ((q : Int) + 1), z2, z3] [] (hu h1 12 (cD 3 (up f1 q x))) lim K := by
        intro x hx
        have := ih (q + 1) (hu h1 12 (cD 3 (up f1 q x))) _ z2 z3 (by omega) (CA_12 A1 _) (Fr_tr fr (Fr_hu _ (by omega) (by omega))) (hg_same _ _ _) (fun t ht => by
          by_cases e : t = q
          · subst e
            rw [up_same]
            exact hx
          · rw [up_ne _ _ _ _ (by omega)]
            exact hf1 t (by omega))
        rw [show ((q + 1 : Nat) : Int) = (q : Int) + 1 by omega] at this
        exact this
      rw [w187_2]
      try simp (disch := omega) only [w187_0, w187_26, w187_27, w187_34, w187_52, w187_96, e187, x_iconst, x_bipush, x_sipush, x_ldc, x_lconst, x_ldc2l, x_dconst, x_ldc2d, x_ldcf, x_iadd, x_isub, x_imul, x_idiv, x_irem, x_ishl, x_ishr, x_iand, x_ior, x_ixor, x_ladd, x_lsub, x_lmul, x_ldiv, x_lrem, x_lshl, x_lshr, x_lor, x_land, x_lcmp, x_i2l, x_l2i, x_i2b, x_i2f, x_l2f, x_l2d, x_f2d, x_d2l, x_fdiv, x_dadd, x_dsub, x_dmul, x_ddiv, x_dcmp, x_fcmp, x_dup, x_pop, x_dup2, x_objinit, x_rawF, x_rawD, gV_0, gV_1, gV_2, gV_3, gV_4, gV_S, x_iload, x_lload, x_fload, x_dload, x_aload, x_istore, x_fstore, x_astore, x_lstore, x_dstore, gX_I, x_iinc, x_getf, x_putfI, x_putfL, x_putfR, x_iald, x_bald, x_zald, x_lald, x_dald, x_aald, x_iast, x_bast, x_zast, x_last, x_dast, x_aast, x_alen, x_new, x_newa, x_anew, x_acopy, x_sld, x_slen, x_fall, x_goto, x_if, x_cmp, x_tsw, x_lsw, x_ret, x_iret, x_zret, x_lret, x_fret, x_dret, x_aret, x_callr, x_callv, x_calli, x_calls, rcv_R, isO_cO, JW_def, kO_some, sk4, cats_nil, cats_I, cats_L, cats_F, cats_D, cats_R, cats_S, Nat.reduceAdd, Nat.reduceLeDiff, inr, inq, Int.reduceEq, Int.reduceLT, Int.reduceLE, Int.reduceNeg, not_false_eq_true, not_true_eq_false, false_implies, and_self, pk_nil, pk_cons, wk_0, wk_1, wk_2, wk_3, wk_4, swt_nil, swt_cons, swl_nil, swl_cons, c3_eq, c3_lt, c3_ge, c3_le, c3_gt, c3_inr, c3_inr2, cnd_0, cnd_1, cnd_2, cnd_3, cnd_4, cnd_5, wide_I, wide_R, wide_L, wide_F, wide_D, wide_S, nw_I, nw_L, nw_F, nw_D, nw_U, nw_R, nw_S, fgo_cO, fso_cO, Option.map_some, alo_cI, ado_cD, aro_cR, ano_cI, ano_cD, lst, List.getElem?_cons_zero, List.getElem?_cons_succ, List.set_cons_zero, List.set_cons_succ, and_true, true_and, true_implies, forall_const, true_or, or_true, hg_same, hg_ne,  b1, b2.1, e1, reduceIte]
      refine ⟨by omega, fun q => by omega, fun _ => ⟨by omega, fun e => ⟨by omega, go _ ?_⟩, fun e => ⟨by omega, go _ ?_⟩⟩⟩
      · show _ = if q = 0 then FP.dconst1 else FP.dconst0
        rw [if_neg (by omega)]
      · show _ = if q = 0 then FP.dconst1 else FP.dconst0
        rw [if_pos (by omega)]
  obtain ⟨-, -, ⟨f0, r3⟩, -⟩ := id a.2.2.2.2.1
  have go := fun z2 z3 => init Q 0 h f0 z2 z3 (by omega) a (Fr_rf _ _ _) r3 (fun t ht => by omega)
  try simp (disch := omega) only [w187_0, w187_26, w187_27, w187_34, w187_52, w187_96, e187, x_iconst, x_bipush, x_sipush, x_ldc, x_lconst, x_ldc2l, x_dconst, x_ldc2d, x_ldcf, x_iadd, x_isub, x_imul, x_idiv, x_irem, x_ishl, x_ishr, x_iand, x_ior, x_ixor, x_ladd, x_lsub, x_lmul, x_ldiv, x_lrem, x_lshl, x_lshr, x_lor, x_land, x_lcmp, x_i2l, x_l2i, x_i2b, x_i2f, x_l2f, x_l2d, x_f2d, x_d2l, x_fdiv, x_dadd, x_dsub, x_dmul, x_ddiv, x_dcmp, x_fcmp, x_dup, x_pop, x_dup2, x_objinit, x_rawF, x_rawD, gV_0, gV_1, gV_2, gV_3, gV_4, gV_S, x_iload, x_lload, x_fload, x_dload, x_aload, x_istore, x_fstore, x_astore, x_lstore, x_dstore, gX_I, x_iinc, x_getf, x_putfI, x_putfL, x_putfR, x_iald, x_bald, x_zald, x_lald, x_dald, x_aald, x_iast, x_bast, x_zast, x_last, x_dast, x_aast, x_alen, x_new, x_newa, x_anew, x_acopy, x_sld, x_slen, x_fall, x_goto, x_if, x_cmp, x_tsw, x_lsw, x_ret, x_iret, x_zret, x_lret, x_fret, x_dret, x_aret, x_callr, x_callv, x_calli, x_calls, rcv_R, isO_cO, JW_def, kO_some, sk4, cats_nil, cats_I, cats_L, cats_F, cats_D, cats_R, cats_S, Nat.reduceAdd, Nat.reduceLeDiff, inr, inq, Int.reduceEq, Int.reduceLT, Int.reduceLE, Int.reduceNeg, not_false_eq_true, not_true_eq_false, false_implies, and_self, pk_nil, pk_cons, wk_0, wk_1, wk_2, wk_3, wk_4, swt_nil, swt_cons, swl_nil, swl_cons, c3_eq, c3_lt, c3_ge, c3_le, c3_gt, c3_inr, c3_inr2, cnd_0, cnd_1, cnd_2, cnd_3, cnd_4, cnd_5, wide_I, wide_R, wide_L, wide_F, wide_D, wide_S, nw_I, nw_L, nw_F, nw_D, nw_U, nw_R, nw_S, fgo_cO, fso_cO, Option.map_some, alo_cI, ado_cD, aro_cR, ano_cI, ano_cD, lst, List.getElem?_cons_zero, List.getElem?_cons_succ, List.set_cons_zero, List.set_cons_succ, and_true, true_and, true_implies, forall_const, true_or, or_true, hg_same, hg_ne]
  exact go _ _
end G3

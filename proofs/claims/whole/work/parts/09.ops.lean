theorem up_upd (f : Int → Int) {i : Int} (hi : 0 ≤ i) (x : Int) : (fun j : Nat => Int32.ofInt (up f i x j)) = upd (fun j : Nat => Int32.ofInt (f j)) i.toNat (Int32.ofInt x) := by
  funext j
  unfold up upd
  by_cases h : (j : Int) = i
  · rw [if_pos h, if_pos (by omega)]
  · rw [if_neg h, if_neg (by omega)]
theorem up_updL (f : Int → Int) {i : Int} (hi : 0 ≤ i) (x : Int) : (fun j : Nat => Int64.ofInt (up f i x j)) = vp_updL (fun j : Nat => Int64.ofInt (f j)) i.toNat (Int64.ofInt x) := by
  funext j
  unfold up vp_updL
  by_cases h : (j : Int) = i
  · rw [if_pos h, if_pos (by omega)]
  · rw [if_neg h, if_neg (by omega)]
theorem up_updD (f : Int → UInt64) {i : Int} (hi : 0 ≤ i) (x : UInt64) : (fun j : Nat => up f i x j) = vf_upd (fun j : Nat => f j) i.toNat x := by
  funext j
  unfold up vf_upd
  by_cases h : (j : Int) = i
  · rw [if_pos h, if_pos (by omega)]
  · rw [if_neg h, if_neg (by omega)]
theorem up_updQ (base : Nat) (f : Int → Option Nat) {i : Int} (hi : 0 ≤ i) (x : Nat) : (fun j : Nat => (up f i (some x) j).map (fun q => base + q)) = va_up (fun j : Nat => (f j).map (fun q => base + q)) i.toNat (some (base + x)) := by
  funext j
  unfold up va_up
  by_cases h : (j : Int) = i
  · rw [if_pos h, if_pos (by omega)]
    rfl
  · rw [if_neg h, if_neg (by omega)]
theorem nar_b (x : Int) : vp_nar .byte (Int32.ofInt x) = Int32.ofInt (tB x) := by
  unfold tB
  rw [I_back]
  rfl
theorem nar_z {x : Int} (h : x = 0 ∨ x = 1) : vp_nar .boolean (Int32.ofInt x) = Int32.ofInt x := by
  rcases h with rfl | rfl <;> decide
theorem ha_I {k : Nat} {n : Int} {f : Int → Int} {h : Hp} {p1 : Nat} (hk : hok h) (hp : h.1.1 p1 = some (cI k n f)) (g : Int → Int) : ∀ k' n' a, cI k n g = Sum.inr (k', n', a) → 0 ≤ n' ∧ n' ≤ 100000 ∧ k' ≤ 8 := by
  intro k' n' a e
  cases e
  exact hk.2 p1 _ _ _ hp
def k_iald : Ck := fun mid pc i d len => decide (d = .iaload ∧ len = 1)
theorem so_iald : SOp s_iald k_iald := by
  intro b base D ct scr p l e R s m args below meth c Z mid n0 s0 lim fx pc i d len H locs cells slots lsA ls st h cd ls' st' h' hd hk hs hc cx kk
  obtain ⟨hx, hb, hml, hown, hts, hK, fx⟩ := fx
  unfold k_iald at hk
  obtain ⟨rfl, rfl⟩ := of_decide_eq_true hk
  unfold s_iald at hs
  split at hs
  · rename_i i1 p1 st
    split at hs
    · rename_i k f hv
      cases hs
      have hf1 := alo_some hv
      obtain ⟨hL, hP, hS, hok1, cx'⟩ := id cx
      have hn := hok1.2 p1 _ _ _ hf1
      show W p l e R s m args below meth c H locs cells slots Z (F0 m pc lsA (.int (Int32.ofInt i1) :: .ref (base + p1) :: st.map (rv b base)))
      refine va_iald (D := D) hx hb hK hP p1 0 (wl_get hok1 hf1) (tys_at ct (Nat.le_of_ble_eq_true rfl)) (I_in hc hn.2.1) hd ?_
      rw [I_clamp hc.1 (by omega), I_idx hc.1]
      exact kk H locs cells slots lsA cx
    · cases hs
  · cases hs
def k_bald : Ck := fun mid pc i d len => decide (d = .baload ∧ len = 1)
theorem so_bald : SOp s_bald k_bald := by
  intro b base D ct scr p l e R s m args below meth c Z mid n0 s0 lim fx pc i d len H locs cells slots lsA ls st h cd ls' st' h' hd hk hs hc cx kk
  obtain ⟨hx, hb, hml, hown, hts, hK, fx⟩ := fx
  unfold k_bald at hk
  obtain ⟨rfl, rfl⟩ := of_decide_eq_true hk
  unfold s_bald at hs
  split at hs
  · rename_i i1 p1 st
    split at hs
    · rename_i k f hv
      cases hs
      have hf1 := alo_some hv
      obtain ⟨hL, hP, hS, hok1, cx'⟩ := id cx
      have hn := hok1.2 p1 _ _ _ hf1
      show W p l e R s m args below meth c H locs cells slots Z (F0 m pc lsA (.int (Int32.ofInt i1) :: .ref (base + p1) :: st.map (rv b base)))
      refine va_bald (D := D) hx hb hK hP p1 1 (wl_get hok1 hf1) (tys_at ct (Nat.le_of_ble_eq_true rfl)) (I_in hc hn.2.1) hd ?_
      rw [I_clamp hc.1 (by omega), I_idx hc.1]
      exact kk H locs cells slots lsA cx
    · cases hs
  · cases hs
def k_zald : Ck := fun mid pc i d len => decide (d = .baload ∧ len = 1)
theorem so_zald : SOp s_zald k_zald := by
  intro b base D ct scr p l e R s m args below meth c Z mid n0 s0 lim fx pc i d len H locs cells slots lsA ls st h cd ls' st' h' hd hk hs hc cx kk
  obtain ⟨hx, hb, hml, hown, hts, hK, fx⟩ := fx
  unfold k_zald at hk
  obtain ⟨rfl, rfl⟩ := of_decide_eq_true hk
  unfold s_zald at hs
  split at hs
  · rename_i i1 p1 st
    split at hs
    · rename_i k f hv
      cases hs
      have hf1 := alo_some hv
      obtain ⟨hL, hP, hS, hok1, cx'⟩ := id cx
      have hn := hok1.2 p1 _ _ _ hf1
      show W p l e R s m args below meth c H locs cells slots Z (F0 m pc lsA (.int (Int32.ofInt i1) :: .ref (base + p1) :: st.map (rv b base)))
      refine va_zald (D := D) hx hb hK hP p1 2 (wl_get hok1 hf1) (tys_at ct (Nat.le_of_ble_eq_true rfl)) (I_in hc hn.2.1) hd ?_
      rw [I_clamp hc.1 (by omega), I_idx hc.1]
      exact kk H locs cells slots lsA cx
    · cases hs
  · cases hs
def k_lald : Ck := fun mid pc i d len => decide (d = .laload ∧ len = 1)
theorem so_lald : SOp s_lald k_lald := by
  intro b base D ct scr p l e R s m args below meth c Z mid n0 s0 lim fx pc i d len H locs cells slots lsA ls st h cd ls' st' h' hd hk hs hc cx kk
  obtain ⟨hx, hb, hml, hown, hts, hK, fx⟩ := fx
  unfold k_lald at hk
  obtain ⟨rfl, rfl⟩ := of_decide_eq_true hk
  unfold s_lald at hs
  split at hs
  · rename_i i1 p1 st
    split at hs
    · rename_i k f hv
      cases hs
      have hf1 := alo_some hv
      obtain ⟨hL, hP, hS, hok1, cx'⟩ := id cx
      have hn := hok1.2 p1 _ _ _ hf1
      show W p l e R s m args below meth c H locs cells slots Z (F0 m pc lsA (.int (Int32.ofInt i1) :: .ref (base + p1) :: st.map (rv b base)))
      refine va_lald (D := D) hx hb hK hP p1 3 (wl_get hok1 hf1) (tys_at ct (Nat.le_of_ble_eq_true rfl)) (I_in hc hn.2.1) hd ?_
      rw [I_clamp hc.1 (by omega), I_idx hc.1]
      exact kk H locs cells slots lsA cx
    · cases hs
  · cases hs
def k_dald : Ck := fun mid pc i d len => decide (d = .daload ∧ len = 1)
theorem so_dald : SOp s_dald k_dald := by
  intro b base D ct scr p l e R s m args below meth c Z mid n0 s0 lim fx pc i d len H locs cells slots lsA ls st h cd ls' st' h' hd hk hs hc cx kk
  obtain ⟨hx, hb, hml, hown, hts, hK, fx⟩ := fx
  unfold k_dald at hk
  obtain ⟨rfl, rfl⟩ := of_decide_eq_true hk
  unfold s_dald at hs
  split at hs
  · rename_i i1 p1 st
    split at hs
    · rename_i k f hv
      cases hs
      have hf1 := ado_some hv
      obtain ⟨hL, hP, hS, hok1, cx'⟩ := id cx
      have hn := hok1.2 p1 _ _ _ hf1
      show W p l e R s m args below meth c H locs cells slots Z (F0 m pc lsA (.int (Int32.ofInt i1) :: .ref (base + p1) :: st.map (rv b base)))
      refine va_dald (D := D) hx hb hK hP p1 4 (wl_get hok1 hf1) (tys_at ct (Nat.le_of_ble_eq_true rfl)) (I_in hc hn.2.1) hd ?_
      rw [I_clamp hc.1 (by omega), I_idx hc.1]
      exact kk H locs cells slots lsA cx
    · cases hs
  · cases hs
theorem kty_ref {k : Nat} (h : 5 ≤ k ∧ k ≤ 8) : kty k = .object (clR (rk k)) := by
  obtain ⟨h1, h2⟩ := h
  match k, h1, h2 with
  | 5, _, _ => rfl
  | 6, _, _ => rfl
  | 7, _, _ => rfl
  | 8, _, _ => rfl
theorem rk_lt {k : Nat} (h : 5 ≤ k ∧ k ≤ 8) : rk k < 7 := by
  obtain ⟨h1, h2⟩ := h
  match k, h1, h2 with
  | 5, _, _ => decide
  | 6, _, _ => decide
  | 7, _, _ => decide
  | 8, _, _ => decide
theorem isO_some {c : Option Cl} {ci : Nat} (h : isO c ci = true) : ∃ fs, c = some (Sum.inl (ci, fs)) := by
  unfold isO at h
  split at h
  · rename_i cj fs
    have e := eq_of_beq h
    subst e
    exact ⟨fs, rfl⟩
  · cases h
def k_aald : Ck := fun mid pc i d len => decide (d = .aaload ∧ len = 1)
theorem so_aald : SOp s_aald k_aald := by
  intro b base D ct scr p l e R s m args below meth c Z mid n0 s0 lim fx pc i d len H locs cells slots lsA ls st h cd ls' st' h' hd hk hs hc cx kk
  obtain ⟨hx, hb, hml, hown, hts, hK, fx⟩ := fx
  unfold k_aald at hk
  obtain ⟨rfl, rfl⟩ := of_decide_eq_true hk
  unfold s_aald at hs
  split at hs
  · rename_i i1 p1 st
    split at hs
    · rename_i kj k f hv
      split at hs
      · rename_i r hr
        cases hs
        have hf1 := aro_some hv
        obtain ⟨hL, hP, hS, hok1, cx'⟩ := id cx
        have hn := hok1.2 p1 _ _ _ hf1
        obtain ⟨hc1, hkj⟩ := hc
        show W p l e R s m args below meth c H locs cells slots Z (F0 m pc lsA (.int (Int32.ofInt i1) :: .ref (base + p1) :: st.map (rv b base)))
        refine va_aldq (D := D) (C := clR (rk kj)) hx hb hK hP p1 kj (wl_get hok1 hf1) (by rw [tys_at ct hkj.2, kty_ref hkj]) (I_in hc1 hn.2.1) hd ?_
        rw [I_clamp hc1.1 (by omega), I_idx hc1.1, hr]
        exact kk H locs cells slots lsA cx
      · cases hs
    · cases hs
  · cases hs
def k_iast : Ck := fun mid pc i d len => decide (d = .iastore ∧ len = 1)
theorem so_iast : SOp s_iast k_iast := by
  intro b base D ct scr p l e R s m args below meth c Z mid n0 s0 lim fx pc i d len H locs cells slots lsA ls st h cd ls' st' h' hd hk hs hc cx kk
  obtain ⟨hx, hb, hml, hown, hts, hK, fx⟩ := fx
  unfold k_iast at hk
  obtain ⟨rfl, rfl⟩ := of_decide_eq_true hk
  unfold s_iast at hs
  split at hs
  · rename_i x i1 p1 st
    split at hs
    · rename_i k f hv
      cases hs
      have hf1 := alo_some hv
      obtain ⟨hL, hP, hS, hok1, cx'⟩ := id cx
      have hn := hok1.2 p1 _ _ _ hf1
      have hcb := hc
      show W p l e R s m args below meth c H locs cells slots Z (F0 m pc lsA (.int (Int32.ofInt x) :: .int (Int32.ofInt i1) :: .ref (base + p1) :: st'.map (rv b base)))
      refine va_iast (D := D) (A := fun q => base ≤ q) hx hb hK hP (wl_D b base ct h) hS p1 0 (wl_get hok1 hf1) (tys_at ct (Nat.le_of_ble_eq_true rfl)) (I_in hcb hn.2.1) hd (fun H1 locs1 hP1 hD1 hS1 => ?_)
      rw [I_clamp hcb.1 (by omega), ← up_upd f hcb.1 (x)] at hP1
      exact kk H1 locs1 cells slots lsA (cx_put cx hf1 (ha_I hok1 hf1 _) hP1 hS1)
    · cases hs
  · cases hs
def k_bast : Ck := fun mid pc i d len => decide (d = .bastore ∧ len = 1)
theorem so_bast : SOp s_bast k_bast := by
  intro b base D ct scr p l e R s m args below meth c Z mid n0 s0 lim fx pc i d len H locs cells slots lsA ls st h cd ls' st' h' hd hk hs hc cx kk
  obtain ⟨hx, hb, hml, hown, hts, hK, fx⟩ := fx
  unfold k_bast at hk
  obtain ⟨rfl, rfl⟩ := of_decide_eq_true hk
  unfold s_bast at hs
  split at hs
  · rename_i x i1 p1 st
    split at hs
    · rename_i k f hv
      cases hs
      have hf1 := alo_some hv
      obtain ⟨hL, hP, hS, hok1, cx'⟩ := id cx
      have hn := hok1.2 p1 _ _ _ hf1
      have hcb := hc
      show W p l e R s m args below meth c H locs cells slots Z (F0 m pc lsA (.int (Int32.ofInt x) :: .int (Int32.ofInt i1) :: .ref (base + p1) :: st'.map (rv b base)))
      refine va_bast (D := D) (A := fun q => base ≤ q) hx hb hK hP (wl_D b base ct h) hS p1 1 (wl_get hok1 hf1) (tys_at ct (Nat.le_of_ble_eq_true rfl)) (I_in hcb hn.2.1) hd (fun H1 locs1 hP1 hD1 hS1 => ?_)
      rw [nar_b x, I_clamp hcb.1 (by omega), ← up_upd f hcb.1 (tB x)] at hP1
      exact kk H1 locs1 cells slots lsA (cx_put cx hf1 (ha_I hok1 hf1 _) hP1 hS1)
    · cases hs
  · cases hs
def k_zast : Ck := fun mid pc i d len => decide (d = .bastore ∧ len = 1)
theorem so_zast : SOp s_zast k_zast := by
  intro b base D ct scr p l e R s m args below meth c Z mid n0 s0 lim fx pc i d len H locs cells slots lsA ls st h cd ls' st' h' hd hk hs hc cx kk
  obtain ⟨hx, hb, hml, hown, hts, hK, fx⟩ := fx
  unfold k_zast at hk
  obtain ⟨rfl, rfl⟩ := of_decide_eq_true hk
  unfold s_zast at hs
  split at hs
  · rename_i x i1 p1 st
    split at hs
    · rename_i k f hv
      cases hs
      have hf1 := alo_some hv
      obtain ⟨hL, hP, hS, hok1, cx'⟩ := id cx
      have hn := hok1.2 p1 _ _ _ hf1
      have hcb := hc.1
      show W p l e R s m args below meth c H locs cells slots Z (F0 m pc lsA (.int (Int32.ofInt x) :: .int (Int32.ofInt i1) :: .ref (base + p1) :: st'.map (rv b base)))
      refine va_zast (D := D) (A := fun q => base ≤ q) hx hb hK hP (wl_D b base ct h) hS p1 2 (wl_get hok1 hf1) (tys_at ct (Nat.le_of_ble_eq_true rfl)) (I_in hcb hn.2.1) hd (fun H1 locs1 hP1 hD1 hS1 => ?_)
      rw [nar_z hc.2, I_clamp hcb.1 (by omega), ← up_upd f hcb.1 (x)] at hP1
      exact kk H1 locs1 cells slots lsA (cx_put cx hf1 (ha_I hok1 hf1 _) hP1 hS1)
    · cases hs
  · cases hs
def k_last : Ck := fun mid pc i d len => decide (d = .lastore ∧ len = 1)
theorem so_last : SOp s_last k_last := by
  intro b base D ct scr p l e R s m args below meth c Z mid n0 s0 lim fx pc i d len H locs cells slots lsA ls st h cd ls' st' h' hd hk hs hc cx kk
  obtain ⟨hx, hb, hml, hown, hts, hK, fx⟩ := fx
  unfold k_last at hk
  obtain ⟨rfl, rfl⟩ := of_decide_eq_true hk
  unfold s_last at hs
  split at hs
  · rename_i x i1 p1 st
    split at hs
    · rename_i k f hv
      cases hs
      have hf1 := alo_some hv
      obtain ⟨hL, hP, hS, hok1, cx'⟩ := id cx
      have hn := hok1.2 p1 _ _ _ hf1
      have hcb := hc
      show W p l e R s m args below meth c H locs cells slots Z (F0 m pc lsA (.long (Int64.ofInt x) :: .int (Int32.ofInt i1) :: .ref (base + p1) :: st'.map (rv b base)))
      refine va_last (D := D) (A := fun q => base ≤ q) hx hb hK hP (wl_D b base ct h) hS p1 3 (wl_get hok1 hf1) (tys_at ct (Nat.le_of_ble_eq_true rfl)) (I_in hcb hn.2.1) hd (fun H1 locs1 hP1 hD1 hS1 => ?_)
      rw [I_clamp hcb.1 (by omega), ← up_updL f hcb.1 (x)] at hP1
      exact kk H1 locs1 cells slots lsA (cx_put cx hf1 (ha_I hok1 hf1 _) hP1 hS1)
    · cases hs
  · cases hs
def k_dast : Ck := fun mid pc i d len => decide (d = .dastore ∧ len = 1)
theorem so_dast : SOp s_dast k_dast := by
  intro b base D ct scr p l e R s m args below meth c Z mid n0 s0 lim fx pc i d len H locs cells slots lsA ls st h cd ls' st' h' hd hk hs hc cx kk
  obtain ⟨hx, hb, hml, hown, hts, hK, fx⟩ := fx
  unfold k_dast at hk
  obtain ⟨rfl, rfl⟩ := of_decide_eq_true hk
  unfold s_dast at hs
  split at hs
  · rename_i x i1 p1 st
    split at hs
    · rename_i k f hv
      cases hs
      have hf1 := ado_some hv
      obtain ⟨hL, hP, hS, hok1, cx'⟩ := id cx
      have hn := hok1.2 p1 _ _ _ hf1
      show W p l e R s m args below meth c H locs cells slots Z (F0 m pc lsA (.double x :: .int (Int32.ofInt i1) :: .ref (base + p1) :: st'.map (rv b base)))
      refine va_dast (D := D) (A := fun q => base ≤ q) hx hb hK hP (wl_D b base ct h) hS p1 4 (wl_get hok1 hf1) (tys_at ct (Nat.le_of_ble_eq_true rfl)) (I_in hc hn.2.1) hd (fun H1 locs1 hP1 hD1 hS1 => ?_)
      rw [I_clamp hc.1 (by omega), ← up_updD f hc.1 x] at hP1
      exact kk H1 locs1 cells slots lsA (cx_put (c1 := cD k (up f i1 x)) cx hf1 (fun k' n' a e => by cases e; exact hok1.2 p1 _ _ _ hf1) hP1 hS1)
    · cases hs
  · cases hs
def k_aast : Ck := fun mid pc i d len => decide (d = .aastore ∧ len = 1)
theorem so_aast : SOp s_aast k_aast := by
  intro b base D ct scr p l e R s m args below meth c Z mid n0 s0 lim fx pc i d len H locs cells slots lsA ls st h cd ls' st' h' hd hk hs hc cx kk
  obtain ⟨hx, hb, hml, hown, hts, hK, fx⟩ := fx
  unfold k_aast at hk
  obtain ⟨rfl, rfl⟩ := of_decide_eq_true hk
  unfold s_aast at hs
  split at hs
  · rename_i r i1 p1 st
    split at hs
    · rename_i kj k f hv
      cases hs
      have hf1 := aro_some hv
      obtain ⟨hc1, hc2, hkj⟩ := hc
      obtain ⟨fs, hf2⟩ := isO_some hc2
      obtain ⟨hL, hP, hS, hok1, cx'⟩ := id cx
      have hn := hok1.2 p1 _ _ _ hf1
      show W p l e R s m args below meth c H locs cells slots Z (F0 m pc lsA (.ref (base + r) :: .int (Int32.ofInt i1) :: .ref (base + p1) :: st'.map (rv b base)))
      refine va_astq (D := D) (A := fun q => base ≤ q) hx hb hK hP (wl_D b base ct h) hS p1 kj r (rk kj) (wl_get hok1 hf1) (by rw [tys_at ct hkj.2, kty_ref hkj]) (wl_get hok1 hf2) (CL_at (rk_lt hkj)) (I_in hc1 hn.2.1) hd (fun H1 locs1 hP1 hD1 hS1 => ?_)
      rw [I_clamp hc1.1 (by omega), ← up_updQ base f hc1.1 r] at hP1
      exact kk H1 locs1 cells slots lsA (cx_put (c1 := cR kj k (up f i1 (some r))) cx hf1 (fun k' n' a e => by cases e; exact hok1.2 p1 _ _ _ hf1) hP1 hS1)
    · cases hs
  · cases hs
def k_alen : Ck := fun mid pc i d len => decide (d = .arraylength ∧ len = 1)
theorem so_alen : SOp s_alen k_alen := by
  intro b base D ct scr p l e R s m args below meth c Z mid n0 s0 lim fx pc i d len H locs cells slots lsA ls st h cd ls' st' h' hd hk hs hc cx kk
  obtain ⟨hx, hb, hml, hown, hts, hK, fx⟩ := fx
  unfold k_alen at hk
  obtain ⟨rfl, rfl⟩ := of_decide_eq_true hk
  unfold s_alen at hs
  split at hs
  · rename_i p1 st
    split at hs
    · rename_i k hv
      cases hs
      obtain ⟨hL, hP, hS, hok1, cx'⟩ := id cx
      show W p l e R s m args below meth c H locs cells slots Z (F0 m pc lsA (.ref (base + p1) :: st.map (rv b base)))
      unfold ano at hv
      split at hv
      · rename_i kj n a he
        cases hv
        have hn := hok1.2 p1 _ _ _ he
        have hw := wl_get (b := b) (base := base) (ct := ct) hok1 he
        have hl : Int32.ofNat k.toNat = Int32.ofInt k := (I_nat hn.1).symm
        rcases a with f | f | f
        · unfold re at hw
          dsimp only at hw
          split at hw
          · exact va_alen (D := D) hx hb hK hP p1 kj hw (tys_at ct hn.2.2) hl hd (kk H locs cells slots lsA cx)
          · exact va_alen (D := D) hx hb hK hP p1 kj hw (tys_at ct hn.2.2) hl hd (kk H locs cells slots lsA cx)
        · exact va_alen (D := D) hx hb hK hP p1 kj hw (tys_at ct hn.2.2) hl hd (kk H locs cells slots lsA cx)
        · exact va_alen (D := D) hx hb hK hP p1 kj hw (tys_at ct hn.2.2) hl hd (kk H locs cells slots lsA cx)
      · cases hv
    · cases hs
  · cases hs
def k_sld : Ck := fun mid pc i d len => decide (d = .iaload ∧ len = 1 ∧ mid = LAWM)
theorem so_sld : SOp s_sld k_sld := by
  intro b base D ct scr p l e R s m args below meth c Z mid n0 s0 lim fx pc i d len H locs cells slots lsA ls st h cd ls' st' h' hd hk hs hc cx kk
  obtain ⟨hx, hb, hml, hown, hts, hK, fx⟩ := fx
  unfold k_sld at hk
  obtain ⟨rfl, rfl, hlw⟩ := of_decide_eq_true hk
  obtain ⟨hbb, L, xs, hX, hL1, hL2, hxs⟩ := fx.2.2.2.2 hlw
  have hsz := fx.2.1
  unfold s_sld at hs
  split at hs
  · rename_i i1 st
    cases hs
    obtain ⟨hL, hP, hS, hok1, hcn, hlm, hsc⟩ := id cx
    rw [hsc] at hc kk
    have hc : 0 ≤ i1 ∧ i1 < (L : Int) := by rw [← hL1]; exact hc
    show W p l e R s m args below meth c H locs cells slots Z (F0 m pc lsA (.int (Int32.ofInt i1) :: .ref b :: st.map (rv b base)))
    refine va_sld (A := fun q => base ≤ q) hx hb hX (by omega) (by show ¬ base ≤ b; omega) hS (I_in (n := (L : Int)) hc (by omega)) hd ?_
    rw [I_clamp hc.1 (by omega), hxs _ (by omega), I_idx hc.1]
    exact kk H locs cells slots lsA cx
  · cases hs
def k_slen : Ck := fun mid pc i d len => decide (d = .arraylength ∧ len = 1 ∧ mid = LAWM)
theorem so_slen : SOp s_slen k_slen := by
  intro b base D ct scr p l e R s m args below meth c Z mid n0 s0 lim fx pc i d len H locs cells slots lsA ls st h cd ls' st' h' hd hk hs hc cx kk
  obtain ⟨hx, hb, hml, hown, hts, hK, fx⟩ := fx
  unfold k_slen at hk
  obtain ⟨rfl, rfl, hlw⟩ := of_decide_eq_true hk
  obtain ⟨hbb, L, xs, hX, hL1, hL2, hxs⟩ := fx.2.2.2.2 hlw
  have hsz := fx.2.1
  unfold s_slen at hs
  split at hs
  · rename_i st
    cases hs
    obtain ⟨hL, hP, hS, hok1, hcn, hlm, hsc⟩ := id cx
    rw [hsc, hL1] at kk
    show W p l e R s m args below meth c H locs cells slots Z (F0 m pc lsA (.ref b :: st.map (rv b base)))
    refine va_slen (A := fun q => base ≤ q) hx hb hX (by omega) (by show ¬ base ≤ b; omega) hS hd ?_
    have kz := kk H locs cells slots lsA cx
    rw [show Int32.ofNat L = Int32.ofInt (L : Int) from Int32.ofInt_eq_ofNat.symm]
    exact kz
  · cases hs
theorem cx_push {b base : Nat} {D : va_G} {ct : Nat → ClassId} {scr : Int × (Int → Int)} {s : State} {mid n0 s0 : Nat} {lim : Nat × Nat} {H H1 : Heap} {locs : List Loc} {cells slots : Nat} {lsA : Array Slot} {ls : List PV} {h : Hp} {c1 : Cl} {k q : Nat}
    (cx : Cx b base D ct scr s mid n0 s0 lim H locs cells slots lsA ls h) (hsz : s.heap.size = base + n0) (ha : ∀ k n a, c1 = Sum.inr (k, n, a) → 0 ≤ n ∧ n ≤ 100000 ∧ k ≤ 8) (hlim : h.2.1 + 1 ≤ lim.1 ∧ h.2.2 + k ≤ lim.2)
    (hP : va_P D CL (wl b base ct h ++ [(q, re b base ct c1)]) H1) (hD : va_D (fun q => base ≤ q) (wl b base ct h ++ [(q, re b base ct c1)])) (hS : va_S (fun q => base ≤ q) s.heap H1 locs) (hu : H1.size ≤ s.heap.size + (cells + 1)) :
    q = base + h.2.1 ∧ Cx b base D ct scr s mid n0 s0 lim H1 locs (cells + 1) (slots + k) lsA ls (hn h c1 k) := by
  obtain ⟨hL, -, -, hk, hc, hl, hsc⟩ := cx
  have hlen : (wl b base ct h).length = h.2.1 := wl_len b base ct h
  have hlast : (wl b base ct h ++ [(q, re b base ct c1)])[h.2.1]? = some (q, re b base ct c1) := by
    rw [List.getElem?_append_right (by omega), hlen, Nat.sub_self]
    rfl
  have h1 : q < H1.size := (hP _ _ hlast).lt
  have h2 : base ≤ q := hD.2 _ _ hlast
  have hq : q = base + h.2.1 := by
    by_cases e : q < base + h.2.1
    · exfalso
      have hpl : q - base < h.2.1 := by omega
      have h3 : (wl b base ct h ++ [(q, re b base ct c1)])[q - base]? = some (base + (q - base), ro b base ct (h.1.1 (q - base))) := by
        rw [List.getElem?_append_left (by omega)]
        exact wl_at _ hpl
      have := hD.1 _ _ _ _ h3 hlast (by show base + (q - base) = q; omega)
      omega
    · omega
  refine ⟨hq, hL, ?_, hS, hok_hn k hk ha, ⟨?_, ?_⟩, hlim, hsc⟩
  · rw [wl_push, ← hq]
    exact hP
  · show cells + 1 + n0 = h.2.1 + 1
    omega
  · show slots + k + s0 = h.2.2 + k
    omega
theorem fld0_ok {ci : Nat} (h : ci < 7) (b base : Nat) : ∀ j, j < clN ci → defaultValue (cty ci j) = vp_V ((fld0 ci).map (rv b base)) j := by
  match ci, h with
  | 0, _ =>
    intro j hj
    match j, hj with
    | 0, _ => rfl
    | 1, _ => rfl
    | 2, _ => rfl
    | 3, _ => rfl
    | 4, _ => rfl
    | j + 5, hj => exact absurd (show j + 5 < 5 from hj) (by omega)
  | 1, _ =>
    intro j hj
    match j, hj with
    | 0, _ => rfl
    | 1, _ => rfl
    | 2, _ => rfl
    | 3, _ => rfl
    | 4, _ => rfl
    | 5, _ => rfl
    | 6, _ => rfl
    | 7, _ => rfl
    | 8, _ => rfl
    | 9, _ => rfl
    | j + 10, hj => exact absurd (show j + 10 < 10 from hj) (by omega)
  | 2, _ =>
    intro j hj
    match j, hj with
    | 0, _ => rfl
    | 1, _ => rfl
    | 2, _ => rfl
    | 3, _ => rfl
    | j + 4, hj => exact absurd (show j + 4 < 4 from hj) (by omega)
  | 3, _ =>
    intro j hj
    match j, hj with
    | 0, _ => rfl
    | 1, _ => rfl
    | j + 2, hj => exact absurd (show j + 2 < 2 from hj) (by omega)
  | 4, _ =>
    intro j hj
    match j, hj with
    | 0, _ => rfl
    | 1, _ => rfl
    | 2, _ => rfl
    | 3, _ => rfl
    | 4, _ => rfl
    | 5, _ => rfl
    | 6, _ => rfl
    | 7, _ => rfl
    | 8, _ => rfl
    | 9, _ => rfl
    | 10, _ => rfl
    | j + 11, hj => exact absurd (show j + 11 < 11 from hj) (by omega)
  | 5, _ =>
    intro j hj
    match j, hj with
    | 0, _ => rfl
    | 1, _ => rfl
    | 2, _ => rfl
    | 3, _ => rfl
    | 4, _ => rfl
    | 5, _ => rfl
    | 6, _ => rfl
    | 7, _ => rfl
    | 8, _ => rfl
    | 9, _ => rfl
    | 10, _ => rfl
    | 11, _ => rfl
    | 12, _ => rfl
    | 13, _ => rfl
    | 14, _ => rfl
    | 15, _ => rfl
    | j + 16, hj => exact absurd (show j + 16 < 16 from hj) (by omega)
  | 6, _ =>
    intro j hj
    match j, hj with
    | 0, _ => rfl
    | 1, _ => rfl
    | 2, _ => rfl
    | 3, _ => rfl
    | 4, _ => rfl
    | 5, _ => rfl
    | 6, _ => rfl
    | 7, _ => rfl
    | 8, _ => rfl
    | 9, _ => rfl
    | 10, _ => rfl
    | 11, _ => rfl
    | 12, _ => rfl
    | 13, _ => rfl
    | 14, _ => rfl
    | 15, _ => rfl
    | 16, _ => rfl
    | 17, _ => rfl
    | 18, _ => rfl
    | 19, _ => rfl
    | 20, _ => rfl
    | 21, _ => rfl
    | 22, _ => rfl
    | 23, _ => rfl
    | 24, _ => rfl
    | 25, _ => rfl
    | 26, _ => rfl
    | 27, _ => rfl
    | 28, _ => rfl
    | 29, _ => rfl
    | 30, _ => rfl
    | 31, _ => rfl
    | 32, _ => rfl
    | 33, _ => rfl
    | 34, _ => rfl
    | j + 35, hj => exact absurd (show j + 35 < 35 from hj) (by omega)
def k_new : Ck := fun mid pc i d len => LCT.any (fun q => decide (q.2.1 = mo mid ∧ d = .new q.2.2.1 ∧ i.2.2.2 = [q.2.2.2, clN q.2.2.2] ∧ q.2.2.2 < 7)) && decide (len = 3)
theorem so_new : SOp s_new k_new := by
  intro b base D ct scr p l e R s m args below meth c Z mid n0 s0 lim fx pc i d len H locs cells slots lsA ls st h cd ls' st' h' hd hk hs hc cx kk
  obtain ⟨hx, hb, hml, hown, hts, hK, fx⟩ := fx
  unfold k_new at hk
  rw [Bool.and_eq_true] at hk
  have hl3 := of_decide_eq_true hk.2
  subst hl3
  obtain ⟨q, hq, he⟩ := List.any_eq_true.mp hk.1
  obtain ⟨he1, rfl, he2, hci⟩ := of_decide_eq_true he
  have hw := LCT_in q hq
  unfold lcond at hw
  rw [he1] at hw
  have hj : jcond q.2.2.2 ∈ GW := by
    have hall : ((List.range 7).all (fun ci => JCT.any (fun q => decide (q.2 = ci)))) = true := by decide +kernel
    obtain ⟨q2, hq2, he⟩ := List.any_eq_true.mp (List.all_eq_true.mp hall _ (List.mem_range.mpr hci))
    have := JCT_in q2 hq2
    rwa [of_decide_eq_true he] at this
  have hh : hcond q.2.2.2 ∈ GW := by
    have hall : ((List.range 7).all (fun ci => HCT.any (fun q => decide (q.2 = ci)))) = true := by decide +kernel
    obtain ⟨q2, hq2, he⟩ := List.any_eq_true.mp (List.all_eq_true.mp hall _ (List.mem_range.mpr hci))
    have := HCT_in q2 hq2
    rwa [of_decide_eq_true he] at this
  rw [he2] at hs
  unfold s_new at hs
  cases hs
  obtain ⟨hL, hP, hS, hok1, hcn, hlm, hsc⟩ := id cx
  have hsz := fx.2.1
  have hrm := fx.1
  refine va_new (D := D) (A := fun q => base ≤ q) (ci := q.2.2.2) (fs := (fld0 q.2.2.2).map (rv b base)) hx hb hts (CL_in hci) (cty q.2.2.2) (CL_ty hci) hown (hts _ hw) (hts _ hj) (hts _ hh) hK hP (wl_D b base ct h) hS (fun q hq => by show base ≤ q; omega) (CL_at hci) (fld0_ok hci b base) (by omega) (by omega) hd (fun q1 H1 hP1 hD1 hS1 => ?_)
  refine W_sz (fun hu => ?_)
  obtain ⟨e1, cx1⟩ := cx_push (c1 := cO q.2.2.2 (fld0 q.2.2.2)) (k := clN q.2.2.2) cx hsz (fun k n a e => by cases e) hc hP1 hD1 hS1 hu
  subst e1
  exact kk H1 locs _ _ lsA cx1
theorem ct_prim {D : va_G} {ct : Nat → ClassId} {s : State} {k : Nat} (hk : k ≤ 4) (hK : va_K D CL (tys ct) s) {cA : ClassId} {l : List (ClassId × FieldType)} (h : va_K D CL (l ++ [(cA, kty k)]) s) : cA = ct k := by
  have h1 := (hK.2 k _ (tys_at ct (by omega))).2
  have h2 := (h.2 l.length (cA, kty k) (by rw [List.getElem?_append_right (Nat.le_refl _), Nat.sub_self]; rfl)).2
  match k, hk with
  | 0, _ => exact Option.some.inj (h2.symm.trans h1)
  | 1, _ => exact Option.some.inj (h2.symm.trans h1)
  | 2, _ => exact Option.some.inj (h2.symm.trans h1)
  | 3, _ => exact Option.some.inj (h2.symm.trans h1)
  | 4, _ => exact Option.some.inj (h2.symm.trans h1)
theorem ct_ref {D : va_G} {ct : Nat → ClassId} {s : State} {k : Nat} (hk : 5 ≤ k ∧ k ≤ 8) (hK : va_K D CL (tys ct) s) {cA : ClassId} {l : List (ClassId × FieldType)} (h : va_K D CL (l ++ [(cA, .object (clR (rk k)))]) s) : cA = ct k := by
  have h1 := (hK.2 k _ (tys_at ct hk.2)).2
  rw [kty_ref hk] at h1
  have h2 := (h.2 l.length (cA, .object (clR (rk k))) (by rw [List.getElem?_append_right (Nat.le_refl _), Nat.sub_self]; rfl)).2
  obtain ⟨_, _, _, _, _, e1⟩ := h1
  obtain ⟨_, _, _, _, _, e2⟩ := h2
  exact Option.some.inj (e2.symm.trans e1)
def katy (k : Nat) : ArrayType := match k with
  | 0 => .int
  | 1 => .byte
  | 2 => .boolean
  | 3 => .long
  | _ => .double
theorem AC_in {k : Nat} (hk : k ≤ 4) : Cond.arrayClass (kty k) ∈ GW := by
  match k, hk with
  | 0, _ => exact ACT_in (_, .int) (List.mem_of_getElem? (i := 0) rfl)
  | 1, _ => exact ACT_in (_, .byte) (List.mem_of_getElem? (i := 1) rfl)
  | 2, _ => exact ACT_in (_, .boolean) (List.mem_of_getElem? (i := 2) rfl)
  | 3, _ => exact ACT_in (_, .long) (List.mem_of_getElem? (i := 3) rfl)
  | 4, _ => exact ACT_in (_, .double) (List.mem_of_getElem? (i := 4) rfl)
theorem katy_ty {k : Nat} (hk : k ≤ 4) : newarray.typeOf (katy k) = kty k := by
  match k, hk with
  | 0, _ => rfl
  | 1, _ => rfl
  | 2, _ => rfl
  | 3, _ => rfl
  | 4, _ => rfl
theorem kty_bytes {k : Nat} (hk : k ≤ 4) : componentBytes (kty k) ≤ 8 := by
  match k, hk with
  | 0, _ => decide
  | 1, _ => decide
  | 2, _ => decide
  | 3, _ => decide
  | 4, _ => decide
def na0 (k : Nat) (n : Nat) : vp_A := match k with
  | 3 => (n, .inr (.inl (fun _ => 0)))
  | 4 => (n, .inr (.inr (.inr (.inl (fun _ => 0)))))
  | _ => (n, .inl (fun _ => 0))
theorem na0_cell {k : Nat} (hk : k ≤ 4) (n : Nat) : ∀ cA : ClassId, vp_cell cA (na0 k n) = arrV cA n (fun _ => defaultValue (kty k)) := by
  intro cA
  match k, hk with
  | 0, _ => rfl
  | 1, _ => rfl
  | 2, _ => rfl
  | 3, _ => rfl
  | 4, _ => rfl
theorem na0_re {k : Nat} (hk : k ≤ 4) (b base : Nat) (ct : Nat → ClassId) (i : Int) : (Sum.inl (ct k, na0 k i.toNat) : va_E) = re b base ct (if k = 4 then cD i (fun _ => 0) else cI k i (fun _ => 0)) := by
  match k, hk with
  | 0, _ => rfl
  | 1, _ => rfl
  | 2, _ => rfl
  | 3, _ => rfl
  | 4, _ => rfl
def k_newa : Ck := fun mid pc i d len => decide (d = .newarray (katy i.2.1) ∧ len = 2 ∧ i.2.1 ≤ 4)
theorem so_newa : SOp s_newa k_newa := by
  intro b base D ct scr p l e R s m args below meth c Z mid n0 s0 lim fx pc i d len H locs cells slots lsA ls st h cd ls' st' h' hd hk hs hc cx kk
  obtain ⟨hx, hb, hml, hown, hts, hK, fx⟩ := fx
  unfold k_newa at hk
  obtain ⟨rfl, rfl, hk4⟩ := of_decide_eq_true hk
  unfold s_newa at hs
  split at hs
  · rename_i i1 st
    cases hs
    obtain ⟨hL, hP, hS, hok1, hcn, hlm, hsc⟩ := id cx
    have hsz := fx.2.1
    have hrm := fx.1
    have hby := kty_bytes hk4
    have hmul : i1.toNat * componentBytes (kty i.2.1) ≤ 100000 * 8 := Nat.mul_le_mul (by omega) hby
    show W p l e R s m args below meth c H locs cells slots Z (F0 m pc lsA (.int (Int32.ofInt i1) :: st.map (rv b base)))
    refine va_newa (D := D) (A := fun q => base ≤ q) (atype := katy i.2.1) (ty := kty i.2.1) (a0 := na0 i.2.1 i1.toNat) hx hb (by rw [katy_ty hk4]; exact hts _ (AC_in hk4)) (katy_ty hk4) hK hP (wl_D b base ct h) hS (fun q hq => by show base ≤ q; omega) (na0_cell hk4 _) (by rw [Int32.lt_iff_toInt_lt, I_toInt (by omega) (by omega)]; show ¬ i1 < 0; omega) (I_clamp hc.1.1 hc.1.2) (by omega) (by omega) (by omega) hd (fun q1 cA H1 hK1 hP1 hD1 hS1 => ?_)
    have e0 := ct_prim hk4 hK hK1
    subst e0
    rw [na0_re hk4 b base ct i1] at hP1 hD1
    refine W_sz (fun hu => ?_)
    obtain ⟨e1, cx1⟩ := cx_push (k := i1.toNat) cx hsz (fun k n a e => by
      by_cases h4 : i.2.1 = 4
      · rw [if_pos h4] at e; cases e; exact ⟨hc.1.1, hc.1.2, by omega⟩
      · rw [if_neg h4] at e; cases e; exact ⟨hc.1.1, hc.1.2, by omega⟩) hc.2 hP1 hD1 hS1 hu
    subst e1
    exact kk H1 locs _ _ lsA cx1
  · cases hs
def k_anew : Ck := fun mid pc i d len => match i.2.2.2 with | [k] => LCT.any (fun q => decide (q.2.1 = mo mid ∧ d = .anewarray q.2.2.1 ∧ q.2.2.2 = rk k)) && decide (len = 3 ∧ 5 ≤ k ∧ k ≤ 8 ∧ mid = PTIM) | _ => false
theorem so_anew : SOp s_anew k_anew := by
  intro b base D ct scr p l e R s m args below meth c Z mid n0 s0 lim fx pc i d len H locs cells slots lsA ls st h cd ls' st' h' hd hk hs hc cx kk
  obtain ⟨hx, hb, hml, hown, hts, hK, fx⟩ := fx
  unfold k_anew at hk
  split at hk
  · rename_i k hks
    rw [Bool.and_eq_true] at hk
    obtain ⟨rfl, hk1, hk2, hpt⟩ := of_decide_eq_true hk.2
    obtain ⟨q, hq, he⟩ := List.any_eq_true.mp hk.1
    obtain ⟨he1, rfl, he2⟩ := of_decide_eq_true he
    have hw := LCT_in q hq
    unfold lcond at hw
    rw [he1, he2] at hw
    have hX := (fx.2.2.2.1 (Or.inl hpt)).1
    have hao : va_AO (clR (rk k)) s := by
      match k, hk1, hk2 with
      | 5, _, _ => exact hX.1
      | 6, _, _ => exact hX.2.1
      | 7, _, _ => exact hX.2.2.1
      | 8, _, _ => exact hX.2.2.2
    rw [hks] at hs
    unfold s_anew at hs
    split at hs
    · rename_i i1 st k' hk'
      have e9 := (List.cons.inj hk').1
      subst e9
      cases hs
      obtain ⟨hL, hP, hS, hok1, hcn, hlm, hsc⟩ := id cx
      have hsz := fx.2.1
      have hrm := fx.1
      show W p l e R s m args below meth c H locs cells slots Z (F0 m pc lsA (.int (Int32.ofInt i1) :: st.map (rv b base)))
      refine va_newq (D := D) (A := fun q => base ≤ q) (C := clR (rk k)) (N' := i1.toNat) hx hb hown (hts _ hw) hao hK hP (wl_D b base ct h) hS (fun q hq => by show base ≤ q; omega) (by rw [Int32.lt_iff_toInt_lt, I_toInt (by omega) (by omega)]; show ¬ i1 < 0; omega) (I_clamp hc.1.1 hc.1.2) (by omega) (by omega) (by omega) hd (fun q1 cA H1 hK1 hP1 hD1 hS1 => ?_)
      have e0 := ct_ref ⟨hk1, hk2⟩ hK hK1
      subst e0
      refine W_sz (fun hu => ?_)
      obtain ⟨e1, cx1⟩ := cx_push (c1 := cR k i1 (fun _ => none)) (k := i1.toNat) cx hsz (fun k n a e => by cases e; exact ⟨hc.1.1, hc.1.2, by omega⟩) hc.2 hP1 hD1 hS1 hu
      subst e1
      exact kk H1 locs _ _ lsA cx1
    · cases hs
  · cases hk
theorem cpy_cpy (f g : Int → Int) {sp dp k : Int} (h1 : 0 ≤ sp) (h2 : 0 ≤ dp) (h3 : 0 ≤ k) : (fun j : Nat => Int32.ofInt (cpy f g sp dp k j)) = va_cpy (fun j : Nat => Int32.ofInt (f j)) (fun j : Nat => Int32.ofInt (g j)) sp.toNat dp.toNat k.toNat := by
  funext j
  by_cases h : dp ≤ (j : Int) ∧ (j : Int) < dp + k
  · rw [pk_cpy_in (by omega) (by omega)]
    unfold cpy
    rw [if_pos h]
    congr 2
    omega
  · rw [pk_cpy_out (by omega)]
    unfold cpy
    rw [if_neg h]
def k_acopy : Ck := fun mid pc i d len => NAT.any (fun q => decide (d = .invokestatic q.2.2 ∧ q.2.1 = mo mid)) && decide (len = 3 ∧ 1 ≤ mf mid ∧ 60 ≤ ml mid)
theorem so_acopy : SOp s_acopy k_acopy := by
  intro b base D ct scr p l e R s m args below meth c Z mid n0 s0 lim fx pc i d len H locs cells slots lsA ls st h cd ls' st' h' hd hk hs hc cx kk
  obtain ⟨hx, hb, hml, hown, hts, hK, fx⟩ := fx
  unfold k_acopy at hk
  rw [Bool.and_eq_true] at hk
  obtain ⟨rfl, hf1, hl1⟩ := of_decide_eq_true hk.2
  obtain ⟨q, hq, he⟩ := List.any_eq_true.mp hk.1
  have hw := NAT_in q hq
  obtain ⟨rfl, he2⟩ := of_decide_eq_true he
  unfold NAcond at hw
  rw [he2] at hw
  unfold s_acopy at hs
  split at hs
  · rename_i k dp r sp p1 st
    split at hs
    · rename_i k1 f k2 g hv1 hv2
      cases hs
      have ha1 := alo_some hv1
      have ha2 := alo_some hv2
      obtain ⟨⟨⟨c1, c2⟩, c3, c4⟩, c5, c6⟩ := hc
      subst c6
      obtain ⟨hL, hP, hS, hok1, hcn, hlm, hsc⟩ := id cx
      have hn1 := hok1.2 p1 _ _ _ ha1
      have hn2 := hok1.2 r _ _ _ ha2
      have hfr : mf mid ≤ R.frames := fx.1.2.2.1
      have hlo : ml mid ≤ R.locals := fx.1.2.2.2
      have hnw : nativeFrameWords "java/lang/System" "arraycopy" 5 + 11 ≤ 40 := by decide
      show W p l e R s m args below meth c H locs cells slots Z (F0 m pc lsA (.int (Int32.ofInt k) :: .int (Int32.ofInt dp) :: .ref (base + r) :: .int (Int32.ofInt sp) :: .ref (base + p1) :: []))
      refine va_copyi (D := D) (A := fun q => base ≤ q) (ty := .int) hx hb (hml.trans (LH_size cx.1).symm) hown (hts _ hw) (hts _ NA_n) (hts _ NA_s) (hts _ NA_i) hK hP (wl_D b base ct h) hS p1 r 0 0 (wl_get hok1 ha1) (wl_get hok1 ha2) (tys_at ct (Nat.zero_le 8)) (tys_at ct (Nat.zero_le 8)) rfl (by rw [Int32.lt_iff_toInt_lt, I_toInt (by omega) (by omega)]; show ¬ sp < 0; omega) (by rw [Int32.lt_iff_toInt_lt, I_toInt (by omega) (by omega)]; show ¬ dp < 0; omega) (by rw [Int32.lt_iff_toInt_lt, I_toInt (by omega) (by omega)]; show ¬ k < 0; omega) (by rw [I_clamp c1 (by omega), I_clamp c3 (by omega)]; omega) (by rw [I_clamp c2 (by omega), I_clamp c3 (by omega)]; omega) (fun _ _ => rfl) (by omega) (by show 0 + _ ≤ _; omega) hd (fun H1 locs1 hP1 hD1 hS1 => ?_)
      rw [I_clamp c1 (by omega), I_clamp c2 (by omega), I_clamp c3 (by omega), ← cpy_cpy f g c1 c2 c3] at hP1
      exact kk H1 locs1 cells slots lsA (cx_put cx ha2 (ha_I hok1 ha2 _) hP1 hS1)
    · cases hs
  · cases hs

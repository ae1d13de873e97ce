theorem I_add (x y : Int) : Int32.ofInt (x + y) = Int32.ofInt x + Int32.ofInt y := Int32.ofInt_add x y
theorem I_sub (x y : Int) : Int32.ofInt (x - y) = Int32.ofInt x - Int32.ofInt y := Int32.ofInt_sub x y
theorem I_mul (x y : Int) : Int32.ofInt (x * y) = Int32.ofInt x * Int32.ofInt y := Int32.ofInt_mul x y
theorem L_add (x y : Int) : Int64.ofInt (x + y) = Int64.ofInt x + Int64.ofInt y := Int64.ofInt_add x y
theorem L_sub (x y : Int) : Int64.ofInt (x - y) = Int64.ofInt x - Int64.ofInt y := Int64.ofInt_sub x y
theorem L_mul (x y : Int) : Int64.ofInt (x * y) = Int64.ofInt x * Int64.ofInt y := Int64.ofInt_mul x y
theorem I_toInt {x : Int} (h1 : -2147483648 ≤ x) (h2 : x ≤ 2147483647) : (Int32.ofInt x).toInt = x := Int32.toInt_ofInt_of_le (by omega) (by omega)
theorem L_toInt {x : Int} (h1 : -9223372036854775808 ≤ x) (h2 : x ≤ 9223372036854775807) : (Int64.ofInt x).toInt = x := Int64.toInt_ofInt_of_le (by omega) (by omega)
theorem I_nat {x : Int} (h : 0 ≤ x) : Int32.ofInt x = nI x.toNat := by
  obtain ⟨n, rfl⟩ := Int.eq_ofNat_of_zero_le h
  exact Int32.ofInt_eq_ofNat
theorem L_nat {x : Int} (h : 0 ≤ x) : Int64.ofInt x = lN x.toNat := by
  obtain ⟨n, rfl⟩ := Int.eq_ofNat_of_zero_le h
  exact Int64.ofInt_eq_ofNat
theorem I_div {x y : Int} (hx : 0 ≤ x ∧ x ≤ 2147483647) (hy : 0 < y ∧ y ≤ 2147483647) : Int32.ofInt x / Int32.ofInt y = Int32.ofInt (x / y) := by
  obtain ⟨n, rfl⟩ := Int.eq_ofNat_of_zero_le hx.1
  obtain ⟨k, rfl⟩ := Int.eq_ofNat_of_zero_le (Int.le_of_lt hy.1)
  have h3 := pk_div (a := n) (d := k) (by omega) (by omega) (by omega)
  rw [I_nat (x := (n : Int)) (by omega), I_nat (x := (k : Int)) (by omega), show (n : Int) / (k : Int) = ((n / k : Nat) : Int) by simp, I_nat (x := ((n / k : Nat) : Int)) (Int.natCast_nonneg _)]
  exact h3
theorem I_rem {x y : Int} (hx : 0 ≤ x ∧ x ≤ 2147483647) (hy : 0 < y ∧ y ≤ 2147483647) : Int32.ofInt x - Int32.ofInt x / Int32.ofInt y * Int32.ofInt y = Int32.ofInt (x % y) := by
  obtain ⟨n, rfl⟩ := Int.eq_ofNat_of_zero_le hx.1
  obtain ⟨k, rfl⟩ := Int.eq_ofNat_of_zero_le (Int.le_of_lt hy.1)
  have h3 := pk_rem (a := n) (d := k) (by omega) (by omega) (by omega)
  rw [I_nat (x := (n : Int)) (by omega), I_nat (x := (k : Int)) (by omega), show (n : Int) % (k : Int) = ((n % k : Nat) : Int) by simp, I_nat (x := ((n % k : Nat) : Int)) (by omega)]
  exact h3
theorem L_div {x y : Int} (hx : 0 ≤ x ∧ x ≤ 9223372036854775807) (hy : 0 < y ∧ y ≤ 9223372036854775807) : Int64.ofInt x / Int64.ofInt y = Int64.ofInt (x / y) := by
  obtain ⟨n, rfl⟩ := Int.eq_ofNat_of_zero_le hx.1
  obtain ⟨k, rfl⟩ := Int.eq_ofNat_of_zero_le (Int.le_of_lt hy.1)
  have h3 := pk_lDiv (a := n) (b := k) (by omega) (by omega) (by omega)
  rw [L_nat (x := (n : Int)) (by omega), L_nat (x := (k : Int)) (by omega), show (n : Int) / (k : Int) = ((n / k : Nat) : Int) by simp, L_nat (x := ((n / k : Nat) : Int)) (Int.natCast_nonneg _)]
  exact h3
theorem L_rem {x y : Int} (hx : 0 ≤ x ∧ x ≤ 9223372036854775807) (hy : 0 < y ∧ y ≤ 9223372036854775807) : Int64.ofInt x - Int64.ofInt x / Int64.ofInt y * Int64.ofInt y = Int64.ofInt (x % y) := by
  obtain ⟨n, rfl⟩ := Int.eq_ofNat_of_zero_le hx.1
  obtain ⟨k, rfl⟩ := Int.eq_ofNat_of_zero_le (Int.le_of_lt hy.1)
  have h3 := pk_lRem (a := n) (b := k) (by omega) (by omega) (by omega)
  rw [L_nat (x := (n : Int)) (by omega), L_nat (x := (k : Int)) (by omega), show (n : Int) % (k : Int) = ((n % k : Nat) : Int) by simp, L_nat (x := ((n % k : Nat) : Int)) (by omega)]
  exact h3
theorem I_ne0 {y : Int} (hy : 0 < y ∧ y ≤ 2147483647) : ¬ Int32.ofInt y = 0 := by
  intro h
  have h2 := congrArg Int32.toInt h
  rw [I_toInt (by omega) (by omega)] at h2
  have : y = 0 := h2
  omega
theorem L_ne0 {y : Int} (hy : 0 < y ∧ y ≤ 9223372036854775807) : ¬ Int64.ofInt y = 0 := by
  intro h
  have h2 := congrArg Int64.toInt h
  rw [L_toInt (by omega) (by omega)] at h2
  have : y = 0 := h2
  omega
theorem I_back (x : Int32) : Int32.ofInt x.toInt = x := Int32.ofInt_toInt x
theorem L_back (x : Int64) : Int64.ofInt x.toInt = x := Int64.ofInt_toInt x
theorem I_2l {x : Int} (h : inr x) : (Int32.ofInt x).toInt64 = Int64.ofInt x := by
  apply Int64.toInt_inj.mp
  rw [Int32.toInt_toInt64, I_toInt h.1 h.2, L_toInt (by have := h.1; omega) (by have := h.2; omega)]
theorem L_cmp {x y : Int} (h : x = y ∨ (inq x ∧ inq y)) : lg_cmp (Int64.ofInt x) (Int64.ofInt y) = Int32.ofInt (c3 x y) := by
  unfold lg_cmp c3
  rcases h with h | ⟨hx, hy⟩
  · subst h
    rw [if_neg (by simp [Int64.lt_iff_toInt_lt]), if_pos rfl, if_neg (by omega), if_pos rfl]
    rfl
  · have ex := L_toInt hx.1 hx.2
    have ey := L_toInt hy.1 hy.2
    have e1 : (Int64.ofInt x > Int64.ofInt y) ↔ y < x := by
      show Int64.ofInt y < Int64.ofInt x ↔ _
      rw [Int64.lt_iff_toInt_lt, ex, ey]
    have e2 : (Int64.ofInt x = Int64.ofInt y) ↔ x = y := by
      rw [← Int64.toInt_inj, ex, ey]
    by_cases h1 : x < y
    · rw [if_neg (by rw [e1]; omega), if_neg (by rw [e2]; omega), if_pos h1]
      rfl
    · by_cases h2 : x = y
      · rw [if_neg (by rw [e1]; omega), if_pos (by rw [e2]; exact h2), if_neg h1, if_pos h2]
        rfl
      · rw [if_pos (by rw [e1]; omega), if_neg h1, if_neg h2]
        rfl
def k_iconst : Ck := fun mid pc i d len => match d with | .iconst q => decide (q = i.2.2.1 ∧ len = 1) | _ => false
theorem so_iconst : SOp s_iconst k_iconst := by
  intro b base D ct scr p l e R s m args below meth c Z mid n0 s0 lim fx pc i d len H locs cells slots lsA ls st h cd ls' st' h' hd hk hs hc cx kk
  obtain ⟨hx, hb, hml, hown, hts, hK, fx⟩ := fx
  unfold k_iconst at hk
  split at hk
  · have hk := of_decide_eq_true hk
    obtain ⟨hk1, rfl⟩ := id hk
    unfold s_iconst at hs
    cases hs
    subst hk1
    show W p l e R s m args below meth c H locs cells slots Z (F0 m pc lsA (st.map (rv b base)))
    refine lv_iconst hx hb hd rfl ?_
    exact kk H locs cells slots lsA cx
  · cases hk
def k_bipush : Ck := fun mid pc i d len => match d with | .bipush q => decide ((Int8.ofInt q).toInt32 = Int32.ofInt i.2.2.1 ∧ len = 2) | _ => false
theorem so_bipush : SOp s_bipush k_bipush := by
  intro b base D ct scr p l e R s m args below meth c Z mid n0 s0 lim fx pc i d len H locs cells slots lsA ls st h cd ls' st' h' hd hk hs hc cx kk
  obtain ⟨hx, hb, hml, hown, hts, hK, fx⟩ := fx
  unfold k_bipush at hk
  split at hk
  · have hk := of_decide_eq_true hk
    obtain ⟨hk1, rfl⟩ := id hk
    unfold s_bipush at hs
    cases hs
    show W p l e R s m args below meth c H locs cells slots Z (F0 m pc lsA (st.map (rv b base)))
    refine lv_bipush hx hb hd hk.1 ?_
    exact kk H locs cells slots lsA cx
  · cases hk
def k_sipush : Ck := fun mid pc i d len => match d with | .sipush q => decide ((Int16.ofInt q).toInt32 = Int32.ofInt i.2.2.1 ∧ len = 3) | _ => false
theorem so_sipush : SOp s_sipush k_sipush := by
  intro b base D ct scr p l e R s m args below meth c Z mid n0 s0 lim fx pc i d len H locs cells slots lsA ls st h cd ls' st' h' hd hk hs hc cx kk
  obtain ⟨hx, hb, hml, hown, hts, hK, fx⟩ := fx
  unfold k_sipush at hk
  split at hk
  · have hk := of_decide_eq_true hk
    obtain ⟨hk1, rfl⟩ := id hk
    unfold s_sipush at hs
    cases hs
    show W p l e R s m args below meth c H locs cells slots Z (F0 m pc lsA (st.map (rv b base)))
    refine lv_sipush hx hb hd hk.1 ?_
    exact kk H locs cells slots lsA cx
  · cases hk
def k_lconst : Ck := fun mid pc i d len => match d with | .lconst q => decide (Int64.ofNat (q : Nat) = Int64.ofInt i.2.2.1 ∧ len = 1) | _ => false
theorem so_lconst : SOp s_lconst k_lconst := by
  intro b base D ct scr p l e R s m args below meth c Z mid n0 s0 lim fx pc i d len H locs cells slots lsA ls st h cd ls' st' h' hd hk hs hc cx kk
  obtain ⟨hx, hb, hml, hown, hts, hK, fx⟩ := fx
  unfold k_lconst at hk
  split at hk
  · have hk := of_decide_eq_true hk
    obtain ⟨hk1, rfl⟩ := id hk
    unfold s_lconst at hs
    cases hs
    show W p l e R s m args below meth c H locs cells slots Z (F0 m pc lsA (st.map (rv b base)))
    refine lv_lconst hx hb hd hk.1 ?_
    exact kk H locs cells slots lsA cx
  · cases hk
def k_iadd : Ck := fun mid pc i d len => decide (d = .iadd ∧ len = 1)
theorem so_iadd : SOp s_iadd k_iadd := by
  intro b base D ct scr p l e R s m args below meth c Z mid n0 s0 lim fx pc i d len H locs cells slots lsA ls st h cd ls' st' h' hd hk hs hc cx kk
  obtain ⟨hx, hb, hml, hown, hts, hK, fx⟩ := fx
  unfold k_iadd at hk
  have hk := of_decide_eq_true hk
  obtain ⟨rfl, rfl⟩ := hk
  unfold s_iadd at hs
  split at hs
  · rename_i y x st
    cases hs
    show W p l e R s m args below meth c H locs cells slots Z (F0 m pc lsA (.int (Int32.ofInt y) :: .int (Int32.ofInt x) :: st.map (rv b base)))
    refine lv_iadd hx hb hd ?_
    rw [← I_add]
    exact kk H locs cells slots lsA cx
  · cases hs
def k_isub : Ck := fun mid pc i d len => decide (d = .isub ∧ len = 1)
theorem so_isub : SOp s_isub k_isub := by
  intro b base D ct scr p l e R s m args below meth c Z mid n0 s0 lim fx pc i d len H locs cells slots lsA ls st h cd ls' st' h' hd hk hs hc cx kk
  obtain ⟨hx, hb, hml, hown, hts, hK, fx⟩ := fx
  unfold k_isub at hk
  have hk := of_decide_eq_true hk
  obtain ⟨rfl, rfl⟩ := hk
  unfold s_isub at hs
  split at hs
  · rename_i y x st
    cases hs
    show W p l e R s m args below meth c H locs cells slots Z (F0 m pc lsA (.int (Int32.ofInt y) :: .int (Int32.ofInt x) :: st.map (rv b base)))
    refine lv_isub hx hb hd ?_
    rw [← I_sub]
    exact kk H locs cells slots lsA cx
  · cases hs
def k_imul : Ck := fun mid pc i d len => decide (d = .imul ∧ len = 1)
theorem so_imul : SOp s_imul k_imul := by
  intro b base D ct scr p l e R s m args below meth c Z mid n0 s0 lim fx pc i d len H locs cells slots lsA ls st h cd ls' st' h' hd hk hs hc cx kk
  obtain ⟨hx, hb, hml, hown, hts, hK, fx⟩ := fx
  unfold k_imul at hk
  have hk := of_decide_eq_true hk
  obtain ⟨rfl, rfl⟩ := hk
  unfold s_imul at hs
  split at hs
  · rename_i y x st
    cases hs
    show W p l e R s m args below meth c H locs cells slots Z (F0 m pc lsA (.int (Int32.ofInt y) :: .int (Int32.ofInt x) :: st.map (rv b base)))
    refine lv_imul hx hb hd ?_
    rw [← I_mul]
    exact kk H locs cells slots lsA cx
  · cases hs
def k_ladd : Ck := fun mid pc i d len => decide (d = .ladd ∧ len = 1)
theorem so_ladd : SOp s_ladd k_ladd := by
  intro b base D ct scr p l e R s m args below meth c Z mid n0 s0 lim fx pc i d len H locs cells slots lsA ls st h cd ls' st' h' hd hk hs hc cx kk
  obtain ⟨hx, hb, hml, hown, hts, hK, fx⟩ := fx
  unfold k_ladd at hk
  have hk := of_decide_eq_true hk
  obtain ⟨rfl, rfl⟩ := hk
  unfold s_ladd at hs
  split at hs
  · rename_i y x st
    cases hs
    show W p l e R s m args below meth c H locs cells slots Z (F0 m pc lsA (.long (Int64.ofInt y) :: .long (Int64.ofInt x) :: st.map (rv b base)))
    refine lv_ladd hx hb hd ?_
    rw [← L_add]
    exact kk H locs cells slots lsA cx
  · cases hs
def k_lsub : Ck := fun mid pc i d len => decide (d = .lsub ∧ len = 1)
theorem so_lsub : SOp s_lsub k_lsub := by
  intro b base D ct scr p l e R s m args below meth c Z mid n0 s0 lim fx pc i d len H locs cells slots lsA ls st h cd ls' st' h' hd hk hs hc cx kk
  obtain ⟨hx, hb, hml, hown, hts, hK, fx⟩ := fx
  unfold k_lsub at hk
  have hk := of_decide_eq_true hk
  obtain ⟨rfl, rfl⟩ := hk
  unfold s_lsub at hs
  split at hs
  · rename_i y x st
    cases hs
    show W p l e R s m args below meth c H locs cells slots Z (F0 m pc lsA (.long (Int64.ofInt y) :: .long (Int64.ofInt x) :: st.map (rv b base)))
    refine lv_lsub hx hb hd ?_
    rw [← L_sub]
    exact kk H locs cells slots lsA cx
  · cases hs
def k_lmul : Ck := fun mid pc i d len => decide (d = .lmul ∧ len = 1)
theorem so_lmul : SOp s_lmul k_lmul := by
  intro b base D ct scr p l e R s m args below meth c Z mid n0 s0 lim fx pc i d len H locs cells slots lsA ls st h cd ls' st' h' hd hk hs hc cx kk
  obtain ⟨hx, hb, hml, hown, hts, hK, fx⟩ := fx
  unfold k_lmul at hk
  have hk := of_decide_eq_true hk
  obtain ⟨rfl, rfl⟩ := hk
  unfold s_lmul at hs
  split at hs
  · rename_i y x st
    cases hs
    show W p l e R s m args below meth c H locs cells slots Z (F0 m pc lsA (.long (Int64.ofInt y) :: .long (Int64.ofInt x) :: st.map (rv b base)))
    refine lv_lmul hx hb hd ?_
    rw [← L_mul]
    exact kk H locs cells slots lsA cx
  · cases hs
def k_idiv : Ck := fun mid pc i d len => decide (d = .idiv ∧ len = 1)
theorem so_idiv : SOp s_idiv k_idiv := by
  intro b base D ct scr p l e R s m args below meth c Z mid n0 s0 lim fx pc i d len H locs cells slots lsA ls st h cd ls' st' h' hd hk hs hc cx kk
  obtain ⟨hx, hb, hml, hown, hts, hK, fx⟩ := fx
  unfold k_idiv at hk
  have hk := of_decide_eq_true hk
  obtain ⟨rfl, rfl⟩ := hk
  unfold s_idiv at hs
  split at hs
  · rename_i y x st
    cases hs
    show W p l e R s m args below meth c H locs cells slots Z (F0 m pc lsA (.int (Int32.ofInt y) :: .int (Int32.ofInt x) :: st.map (rv b base)))
    refine lv_idiv hx hb hd (I_ne0 hc.2) ?_
    rw [I_div hc.1 hc.2]
    exact kk H locs cells slots lsA cx
  · cases hs
def k_irem : Ck := fun mid pc i d len => decide (d = .irem ∧ len = 1)
theorem so_irem : SOp s_irem k_irem := by
  intro b base D ct scr p l e R s m args below meth c Z mid n0 s0 lim fx pc i d len H locs cells slots lsA ls st h cd ls' st' h' hd hk hs hc cx kk
  obtain ⟨hx, hb, hml, hown, hts, hK, fx⟩ := fx
  unfold k_irem at hk
  have hk := of_decide_eq_true hk
  obtain ⟨rfl, rfl⟩ := hk
  unfold s_irem at hs
  split at hs
  · rename_i y x st
    cases hs
    show W p l e R s m args below meth c H locs cells slots Z (F0 m pc lsA (.int (Int32.ofInt y) :: .int (Int32.ofInt x) :: st.map (rv b base)))
    refine lv_irem hx hb hd (I_ne0 hc.2) ?_
    rw [I_rem hc.1 hc.2]
    exact kk H locs cells slots lsA cx
  · cases hs
def k_ldiv : Ck := fun mid pc i d len => decide (d = .ldiv ∧ len = 1)
theorem so_ldiv : SOp s_ldiv k_ldiv := by
  intro b base D ct scr p l e R s m args below meth c Z mid n0 s0 lim fx pc i d len H locs cells slots lsA ls st h cd ls' st' h' hd hk hs hc cx kk
  obtain ⟨hx, hb, hml, hown, hts, hK, fx⟩ := fx
  unfold k_ldiv at hk
  have hk := of_decide_eq_true hk
  obtain ⟨rfl, rfl⟩ := hk
  unfold s_ldiv at hs
  split at hs
  · rename_i y x st
    cases hs
    show W p l e R s m args below meth c H locs cells slots Z (F0 m pc lsA (.long (Int64.ofInt y) :: .long (Int64.ofInt x) :: st.map (rv b base)))
    refine lv_ldiv hx hb hd (L_ne0 hc.2) ?_
    rw [L_div hc.1 hc.2]
    exact kk H locs cells slots lsA cx
  · cases hs
def k_lrem : Ck := fun mid pc i d len => decide (d = .lrem ∧ len = 1)
theorem so_lrem : SOp s_lrem k_lrem := by
  intro b base D ct scr p l e R s m args below meth c Z mid n0 s0 lim fx pc i d len H locs cells slots lsA ls st h cd ls' st' h' hd hk hs hc cx kk
  obtain ⟨hx, hb, hml, hown, hts, hK, fx⟩ := fx
  unfold k_lrem at hk
  have hk := of_decide_eq_true hk
  obtain ⟨rfl, rfl⟩ := hk
  unfold s_lrem at hs
  split at hs
  · rename_i y x st
    cases hs
    show W p l e R s m args below meth c H locs cells slots Z (F0 m pc lsA (.long (Int64.ofInt y) :: .long (Int64.ofInt x) :: st.map (rv b base)))
    refine lv_lrem hx hb hd (L_ne0 hc.2) ?_
    rw [L_rem hc.1 hc.2]
    exact kk H locs cells slots lsA cx
  · cases hs
def k_ishl : Ck := fun mid pc i d len => decide (d = .ishl ∧ len = 1)
theorem so_ishl : SOp s_ishl k_ishl := by
  intro b base D ct scr p l e R s m args below meth c Z mid n0 s0 lim fx pc i d len H locs cells slots lsA ls st h cd ls' st' h' hd hk hs hc cx kk
  obtain ⟨hx, hb, hml, hown, hts, hK, fx⟩ := fx
  unfold k_ishl at hk
  have hk := of_decide_eq_true hk
  obtain ⟨rfl, rfl⟩ := hk
  unfold s_ishl at hs
  split at hs
  · rename_i y x st
    cases hs
    show W p l e R s m args below meth c H locs cells slots Z (F0 m pc lsA (.int (Int32.ofInt y) :: .int (Int32.ofInt x) :: st.map (rv b base)))
    refine lv_ishl hx hb hd ?_
    have kz := kk H locs cells slots lsA cx
    have kz : W p l e R s m args below meth c H locs cells slots Z (F0 m (pc + 1) lsA (.int (Int32.ofInt ((iShl x y))) :: st.map (rv b base))) := kz
    unfold iShl at kz
    rw [I_back] at kz
    exact kz
  · cases hs
def k_ishr : Ck := fun mid pc i d len => decide (d = .ishr ∧ len = 1)
theorem so_ishr : SOp s_ishr k_ishr := by
  intro b base D ct scr p l e R s m args below meth c Z mid n0 s0 lim fx pc i d len H locs cells slots lsA ls st h cd ls' st' h' hd hk hs hc cx kk
  obtain ⟨hx, hb, hml, hown, hts, hK, fx⟩ := fx
  unfold k_ishr at hk
  have hk := of_decide_eq_true hk
  obtain ⟨rfl, rfl⟩ := hk
  unfold s_ishr at hs
  split at hs
  · rename_i y x st
    cases hs
    show W p l e R s m args below meth c H locs cells slots Z (F0 m pc lsA (.int (Int32.ofInt y) :: .int (Int32.ofInt x) :: st.map (rv b base)))
    refine lv_ishr hx hb hd ?_
    have kz := kk H locs cells slots lsA cx
    have kz : W p l e R s m args below meth c H locs cells slots Z (F0 m (pc + 1) lsA (.int (Int32.ofInt ((iShr x y))) :: st.map (rv b base))) := kz
    unfold iShr at kz
    rw [I_back] at kz
    exact kz
  · cases hs
def k_iand : Ck := fun mid pc i d len => decide (d = .iand ∧ len = 1)
theorem so_iand : SOp s_iand k_iand := by
  intro b base D ct scr p l e R s m args below meth c Z mid n0 s0 lim fx pc i d len H locs cells slots lsA ls st h cd ls' st' h' hd hk hs hc cx kk
  obtain ⟨hx, hb, hml, hown, hts, hK, fx⟩ := fx
  unfold k_iand at hk
  have hk := of_decide_eq_true hk
  obtain ⟨rfl, rfl⟩ := hk
  unfold s_iand at hs
  split at hs
  · rename_i y x st
    cases hs
    show W p l e R s m args below meth c H locs cells slots Z (F0 m pc lsA (.int (Int32.ofInt y) :: .int (Int32.ofInt x) :: st.map (rv b base)))
    refine lv_iand hx hb hd ?_
    have kz := kk H locs cells slots lsA cx
    have kz : W p l e R s m args below meth c H locs cells slots Z (F0 m (pc + 1) lsA (.int (Int32.ofInt ((iAnd x y))) :: st.map (rv b base))) := kz
    unfold iAnd at kz
    rw [I_back] at kz
    exact kz
  · cases hs
def k_ior : Ck := fun mid pc i d len => decide (d = .ior ∧ len = 1)
theorem so_ior : SOp s_ior k_ior := by
  intro b base D ct scr p l e R s m args below meth c Z mid n0 s0 lim fx pc i d len H locs cells slots lsA ls st h cd ls' st' h' hd hk hs hc cx kk
  obtain ⟨hx, hb, hml, hown, hts, hK, fx⟩ := fx
  unfold k_ior at hk
  have hk := of_decide_eq_true hk
  obtain ⟨rfl, rfl⟩ := hk
  unfold s_ior at hs
  split at hs
  · rename_i y x st
    cases hs
    show W p l e R s m args below meth c H locs cells slots Z (F0 m pc lsA (.int (Int32.ofInt y) :: .int (Int32.ofInt x) :: st.map (rv b base)))
    refine lv_ior hx hb hd ?_
    have kz := kk H locs cells slots lsA cx
    have kz : W p l e R s m args below meth c H locs cells slots Z (F0 m (pc + 1) lsA (.int (Int32.ofInt ((iOr x y))) :: st.map (rv b base))) := kz
    unfold iOr at kz
    rw [I_back] at kz
    exact kz
  · cases hs
def k_ixor : Ck := fun mid pc i d len => decide (d = .ixor ∧ len = 1)
theorem so_ixor : SOp s_ixor k_ixor := by
  intro b base D ct scr p l e R s m args below meth c Z mid n0 s0 lim fx pc i d len H locs cells slots lsA ls st h cd ls' st' h' hd hk hs hc cx kk
  obtain ⟨hx, hb, hml, hown, hts, hK, fx⟩ := fx
  unfold k_ixor at hk
  have hk := of_decide_eq_true hk
  obtain ⟨rfl, rfl⟩ := hk
  unfold s_ixor at hs
  split at hs
  · rename_i y x st
    cases hs
    show W p l e R s m args below meth c H locs cells slots Z (F0 m pc lsA (.int (Int32.ofInt y) :: .int (Int32.ofInt x) :: st.map (rv b base)))
    refine lv_ixor hx hb hd ?_
    have kz := kk H locs cells slots lsA cx
    have kz : W p l e R s m args below meth c H locs cells slots Z (F0 m (pc + 1) lsA (.int (Int32.ofInt ((iXor x y))) :: st.map (rv b base))) := kz
    unfold iXor at kz
    rw [I_back] at kz
    exact kz
  · cases hs
def k_lor : Ck := fun mid pc i d len => decide (d = .lor ∧ len = 1)
theorem so_lor : SOp s_lor k_lor := by
  intro b base D ct scr p l e R s m args below meth c Z mid n0 s0 lim fx pc i d len H locs cells slots lsA ls st h cd ls' st' h' hd hk hs hc cx kk
  obtain ⟨hx, hb, hml, hown, hts, hK, fx⟩ := fx
  unfold k_lor at hk
  have hk := of_decide_eq_true hk
  obtain ⟨rfl, rfl⟩ := hk
  unfold s_lor at hs
  split at hs
  · rename_i y x st
    cases hs
    show W p l e R s m args below meth c H locs cells slots Z (F0 m pc lsA (.long (Int64.ofInt y) :: .long (Int64.ofInt x) :: st.map (rv b base)))
    refine lv_lor hx hb hd ?_
    have kz := kk H locs cells slots lsA cx
    have kz : W p l e R s m args below meth c H locs cells slots Z (F0 m (pc + 1) lsA (.long (Int64.ofInt ((lOr x y))) :: st.map (rv b base))) := kz
    unfold lOr at kz
    rw [L_back] at kz
    exact kz
  · cases hs
def k_land : Ck := fun mid pc i d len => decide (d = .land ∧ len = 1)
theorem so_land : SOp s_land k_land := by
  intro b base D ct scr p l e R s m args below meth c Z mid n0 s0 lim fx pc i d len H locs cells slots lsA ls st h cd ls' st' h' hd hk hs hc cx kk
  obtain ⟨hx, hb, hml, hown, hts, hK, fx⟩ := fx
  unfold k_land at hk
  have hk := of_decide_eq_true hk
  obtain ⟨rfl, rfl⟩ := hk
  unfold s_land at hs
  split at hs
  · rename_i y x st
    cases hs
    show W p l e R s m args below meth c H locs cells slots Z (F0 m pc lsA (.long (Int64.ofInt y) :: .long (Int64.ofInt x) :: st.map (rv b base)))
    refine lv_land hx hb hd ?_
    have kz := kk H locs cells slots lsA cx
    have kz : W p l e R s m args below meth c H locs cells slots Z (F0 m (pc + 1) lsA (.long (Int64.ofInt ((lAnd x y))) :: st.map (rv b base))) := kz
    unfold lAnd at kz
    rw [L_back] at kz
    exact kz
  · cases hs
def k_lshl : Ck := fun mid pc i d len => decide (d = .lshl ∧ len = 1)
theorem so_lshl : SOp s_lshl k_lshl := by
  intro b base D ct scr p l e R s m args below meth c Z mid n0 s0 lim fx pc i d len H locs cells slots lsA ls st h cd ls' st' h' hd hk hs hc cx kk
  obtain ⟨hx, hb, hml, hown, hts, hK, fx⟩ := fx
  unfold k_lshl at hk
  have hk := of_decide_eq_true hk
  obtain ⟨rfl, rfl⟩ := hk
  unfold s_lshl at hs
  split at hs
  · rename_i y x st
    cases hs
    show W p l e R s m args below meth c H locs cells slots Z (F0 m pc lsA (.int (Int32.ofInt y) :: .long (Int64.ofInt x) :: st.map (rv b base)))
    refine lv_lshl hx hb hd (L_back _).symm ?_
    exact kk H locs cells slots lsA cx
  · cases hs
def k_lshr : Ck := fun mid pc i d len => decide (d = .lshr ∧ len = 1)
theorem so_lshr : SOp s_lshr k_lshr := by
  intro b base D ct scr p l e R s m args below meth c Z mid n0 s0 lim fx pc i d len H locs cells slots lsA ls st h cd ls' st' h' hd hk hs hc cx kk
  obtain ⟨hx, hb, hml, hown, hts, hK, fx⟩ := fx
  unfold k_lshr at hk
  have hk := of_decide_eq_true hk
  obtain ⟨rfl, rfl⟩ := hk
  unfold s_lshr at hs
  split at hs
  · rename_i y x st
    cases hs
    show W p l e R s m args below meth c H locs cells slots Z (F0 m pc lsA (.int (Int32.ofInt y) :: .long (Int64.ofInt x) :: st.map (rv b base)))
    refine lv_lshr hx hb hd (L_back _).symm ?_
    exact kk H locs cells slots lsA cx
  · cases hs
def k_lcmp : Ck := fun mid pc i d len => decide (d = .lcmp ∧ len = 1)
theorem so_lcmp : SOp s_lcmp k_lcmp := by
  intro b base D ct scr p l e R s m args below meth c Z mid n0 s0 lim fx pc i d len H locs cells slots lsA ls st h cd ls' st' h' hd hk hs hc cx kk
  obtain ⟨hx, hb, hml, hown, hts, hK, fx⟩ := fx
  unfold k_lcmp at hk
  have hk := of_decide_eq_true hk
  obtain ⟨rfl, rfl⟩ := hk
  unfold s_lcmp at hs
  split at hs
  · rename_i y x st
    cases hs
    show W p l e R s m args below meth c H locs cells slots Z (F0 m pc lsA (.long (Int64.ofInt y) :: .long (Int64.ofInt x) :: st.map (rv b base)))
    refine W.lcmp hx hb hd ?_
    rw [L_cmp hc]
    exact kk H locs cells slots lsA cx
  · cases hs
def k_i2l : Ck := fun mid pc i d len => decide (d = .i2l ∧ len = 1)
theorem so_i2l : SOp s_i2l k_i2l := by
  intro b base D ct scr p l e R s m args below meth c Z mid n0 s0 lim fx pc i d len H locs cells slots lsA ls st h cd ls' st' h' hd hk hs hc cx kk
  obtain ⟨hx, hb, hml, hown, hts, hK, fx⟩ := fx
  unfold k_i2l at hk
  have hk := of_decide_eq_true hk
  obtain ⟨rfl, rfl⟩ := hk
  unfold s_i2l at hs
  split at hs
  · rename_i x st
    cases hs
    show W p l e R s m args below meth c H locs cells slots Z (F0 m pc lsA (.int (Int32.ofInt x) :: st.map (rv b base)))
    refine lv_i2l hx hb hd (I_2l hc) ?_
    exact kk H locs cells slots lsA cx
  · cases hs
def k_l2i : Ck := fun mid pc i d len => decide (d = .l2i ∧ len = 1)
theorem so_l2i : SOp s_l2i k_l2i := by
  intro b base D ct scr p l e R s m args below meth c Z mid n0 s0 lim fx pc i d len H locs cells slots lsA ls st h cd ls' st' h' hd hk hs hc cx kk
  obtain ⟨hx, hb, hml, hown, hts, hK, fx⟩ := fx
  unfold k_l2i at hk
  have hk := of_decide_eq_true hk
  obtain ⟨rfl, rfl⟩ := hk
  unfold s_l2i at hs
  split at hs
  · rename_i x st
    cases hs
    show W p l e R s m args below meth c H locs cells slots Z (F0 m pc lsA (.long (Int64.ofInt x) :: st.map (rv b base)))
    refine lv_l2i hx hb hd (I_back _).symm ?_
    exact kk H locs cells slots lsA cx
  · cases hs
def k_i2b : Ck := fun mid pc i d len => decide (d = .i2b ∧ len = 1)
theorem so_i2b : SOp s_i2b k_i2b := by
  intro b base D ct scr p l e R s m args below meth c Z mid n0 s0 lim fx pc i d len H locs cells slots lsA ls st h cd ls' st' h' hd hk hs hc cx kk
  obtain ⟨hx, hb, hml, hown, hts, hK, fx⟩ := fx
  unfold k_i2b at hk
  have hk := of_decide_eq_true hk
  obtain ⟨rfl, rfl⟩ := hk
  unfold s_i2b at hs
  split at hs
  · rename_i x st
    cases hs
    show W p l e R s m args below meth c H locs cells slots Z (F0 m pc lsA (.int (Int32.ofInt x) :: st.map (rv b base)))
    refine lv_i2b hx hb hd (I_back _).symm ?_
    exact kk H locs cells slots lsA cx
  · cases hs
def k_i2f : Ck := fun mid pc i d len => decide (d = .i2f ∧ len = 1)
theorem so_i2f : SOp s_i2f k_i2f := by
  intro b base D ct scr p l e R s m args below meth c Z mid n0 s0 lim fx pc i d len H locs cells slots lsA ls st h cd ls' st' h' hd hk hs hc cx kk
  obtain ⟨hx, hb, hml, hown, hts, hK, fx⟩ := fx
  unfold k_i2f at hk
  have hk := of_decide_eq_true hk
  obtain ⟨rfl, rfl⟩ := hk
  unfold s_i2f at hs
  split at hs
  · rename_i x st
    cases hs
    show W p l e R s m args below meth c H locs cells slots Z (F0 m pc lsA (.int (Int32.ofInt x) :: st.map (rv b base)))
    refine lv_i2f hx hb hd ?_
    exact kk H locs cells slots lsA cx
  · cases hs
def k_l2f : Ck := fun mid pc i d len => decide (d = .l2f ∧ len = 1)
theorem so_l2f : SOp s_l2f k_l2f := by
  intro b base D ct scr p l e R s m args below meth c Z mid n0 s0 lim fx pc i d len H locs cells slots lsA ls st h cd ls' st' h' hd hk hs hc cx kk
  obtain ⟨hx, hb, hml, hown, hts, hK, fx⟩ := fx
  unfold k_l2f at hk
  have hk := of_decide_eq_true hk
  obtain ⟨rfl, rfl⟩ := hk
  unfold s_l2f at hs
  split at hs
  · rename_i x st
    cases hs
    show W p l e R s m args below meth c H locs cells slots Z (F0 m pc lsA (.long (Int64.ofInt x) :: st.map (rv b base)))
    refine lv_l2f hx hb hd ?_
    exact kk H locs cells slots lsA cx
  · cases hs
def k_l2d : Ck := fun mid pc i d len => decide (d = .l2d ∧ len = 1)
theorem so_l2d : SOp s_l2d k_l2d := by
  intro b base D ct scr p l e R s m args below meth c Z mid n0 s0 lim fx pc i d len H locs cells slots lsA ls st h cd ls' st' h' hd hk hs hc cx kk
  obtain ⟨hx, hb, hml, hown, hts, hK, fx⟩ := fx
  unfold k_l2d at hk
  have hk := of_decide_eq_true hk
  obtain ⟨rfl, rfl⟩ := hk
  unfold s_l2d at hs
  split at hs
  · rename_i x st
    cases hs
    show W p l e R s m args below meth c H locs cells slots Z (F0 m pc lsA (.long (Int64.ofInt x) :: st.map (rv b base)))
    refine lv_l2d hx hb hd ?_
    exact kk H locs cells slots lsA cx
  · cases hs
def k_f2d : Ck := fun mid pc i d len => decide (d = .f2d ∧ len = 1)
theorem so_f2d : SOp s_f2d k_f2d := by
  intro b base D ct scr p l e R s m args below meth c Z mid n0 s0 lim fx pc i d len H locs cells slots lsA ls st h cd ls' st' h' hd hk hs hc cx kk
  obtain ⟨hx, hb, hml, hown, hts, hK, fx⟩ := fx
  unfold k_f2d at hk
  have hk := of_decide_eq_true hk
  obtain ⟨rfl, rfl⟩ := hk
  unfold s_f2d at hs
  split at hs
  · rename_i x st
    cases hs
    show W p l e R s m args below meth c H locs cells slots Z (F0 m pc lsA (.float x :: st.map (rv b base)))
    refine lv_f2d hx hb hd hc ?_
    exact kk H locs cells slots lsA cx
  · cases hs
def k_d2l : Ck := fun mid pc i d len => decide (d = .d2l ∧ len = 1)
theorem so_d2l : SOp s_d2l k_d2l := by
  intro b base D ct scr p l e R s m args below meth c Z mid n0 s0 lim fx pc i d len H locs cells slots lsA ls st h cd ls' st' h' hd hk hs hc cx kk
  obtain ⟨hx, hb, hml, hown, hts, hK, fx⟩ := fx
  unfold k_d2l at hk
  have hk := of_decide_eq_true hk
  obtain ⟨rfl, rfl⟩ := hk
  unfold s_d2l at hs
  split at hs
  · rename_i x st
    cases hs
    show W p l e R s m args below meth c H locs cells slots Z (F0 m pc lsA (.double x :: st.map (rv b base)))
    refine lv_d2l hx hb hd ?_
    have kz := kk H locs cells slots lsA cx
    have kz : W p l e R s m args below meth c H locs cells slots Z (F0 m (pc + 1) lsA (.long (Int64.ofInt ((FP.d2l x).toInt)) :: st.map (rv b base))) := kz
    rw [L_back] at kz
    exact kz
  · cases hs
def k_fdiv : Ck := fun mid pc i d len => decide (d = .fdiv ∧ len = 1)
theorem so_fdiv : SOp s_fdiv k_fdiv := by
  intro b base D ct scr p l e R s m args below meth c Z mid n0 s0 lim fx pc i d len H locs cells slots lsA ls st h cd ls' st' h' hd hk hs hc cx kk
  obtain ⟨hx, hb, hml, hown, hts, hK, fx⟩ := fx
  unfold k_fdiv at hk
  have hk := of_decide_eq_true hk
  obtain ⟨rfl, rfl⟩ := hk
  unfold s_fdiv at hs
  split at hs
  · rename_i y x st
    cases hs
    show W p l e R s m args below meth c H locs cells slots Z (F0 m pc lsA (.float y :: .float x :: st.map (rv b base)))
    refine lv_fdiv hx hb hd hc ?_
    exact kk H locs cells slots lsA cx
  · cases hs
def k_dadd : Ck := fun mid pc i d len => decide (d = .dadd ∧ len = 1)
theorem so_dadd : SOp s_dadd k_dadd := by
  intro b base D ct scr p l e R s m args below meth c Z mid n0 s0 lim fx pc i d len H locs cells slots lsA ls st h cd ls' st' h' hd hk hs hc cx kk
  obtain ⟨hx, hb, hml, hown, hts, hK, fx⟩ := fx
  unfold k_dadd at hk
  have hk := of_decide_eq_true hk
  obtain ⟨rfl, rfl⟩ := hk
  unfold s_dadd at hs
  split at hs
  · rename_i y x st
    cases hs
    show W p l e R s m args below meth c H locs cells slots Z (F0 m pc lsA (.double y :: .double x :: st.map (rv b base)))
    refine lv_dadd hx hb hd hc ?_
    exact kk H locs cells slots lsA cx
  · cases hs
def k_dsub : Ck := fun mid pc i d len => decide (d = .dsub ∧ len = 1)
theorem so_dsub : SOp s_dsub k_dsub := by
  intro b base D ct scr p l e R s m args below meth c Z mid n0 s0 lim fx pc i d len H locs cells slots lsA ls st h cd ls' st' h' hd hk hs hc cx kk
  obtain ⟨hx, hb, hml, hown, hts, hK, fx⟩ := fx
  unfold k_dsub at hk
  have hk := of_decide_eq_true hk
  obtain ⟨rfl, rfl⟩ := hk
  unfold s_dsub at hs
  split at hs
  · rename_i y x st
    cases hs
    show W p l e R s m args below meth c H locs cells slots Z (F0 m pc lsA (.double y :: .double x :: st.map (rv b base)))
    refine lv_dsub hx hb hd hc ?_
    exact kk H locs cells slots lsA cx
  · cases hs
def k_dmul : Ck := fun mid pc i d len => decide (d = .dmul ∧ len = 1)
theorem so_dmul : SOp s_dmul k_dmul := by
  intro b base D ct scr p l e R s m args below meth c Z mid n0 s0 lim fx pc i d len H locs cells slots lsA ls st h cd ls' st' h' hd hk hs hc cx kk
  obtain ⟨hx, hb, hml, hown, hts, hK, fx⟩ := fx
  unfold k_dmul at hk
  have hk := of_decide_eq_true hk
  obtain ⟨rfl, rfl⟩ := hk
  unfold s_dmul at hs
  split at hs
  · rename_i y x st
    cases hs
    show W p l e R s m args below meth c H locs cells slots Z (F0 m pc lsA (.double y :: .double x :: st.map (rv b base)))
    refine lv_dmul hx hb hd hc ?_
    exact kk H locs cells slots lsA cx
  · cases hs
def k_ddiv : Ck := fun mid pc i d len => decide (d = .ddiv ∧ len = 1)
theorem so_ddiv : SOp s_ddiv k_ddiv := by
  intro b base D ct scr p l e R s m args below meth c Z mid n0 s0 lim fx pc i d len H locs cells slots lsA ls st h cd ls' st' h' hd hk hs hc cx kk
  obtain ⟨hx, hb, hml, hown, hts, hK, fx⟩ := fx
  unfold k_ddiv at hk
  have hk := of_decide_eq_true hk
  obtain ⟨rfl, rfl⟩ := hk
  unfold s_ddiv at hs
  split at hs
  · rename_i y x st
    cases hs
    show W p l e R s m args below meth c H locs cells slots Z (F0 m pc lsA (.double y :: .double x :: st.map (rv b base)))
    refine lv_ddiv hx hb hd hc ?_
    exact kk H locs cells slots lsA cx
  · cases hs
def k_dcmp : Ck := fun mid pc i d len => match d with | .dcmp q => decide (q = cop i.2.1 ∧ len = 1) | _ => false
theorem so_dcmp : SOp s_dcmp k_dcmp := by
  intro b base D ct scr p l e R s m args below meth c Z mid n0 s0 lim fx pc i d len H locs cells slots lsA ls st h cd ls' st' h' hd hk hs hc cx kk
  obtain ⟨hx, hb, hml, hown, hts, hK, fx⟩ := fx
  unfold k_dcmp at hk
  split at hk
  · have hk := of_decide_eq_true hk
    obtain ⟨hk1, rfl⟩ := id hk
    unfold s_dcmp at hs
    split at hs
    · rename_i y x st
      cases hs
      subst hk1
      show W p l e R s m args below meth c H locs cells slots Z (F0 m pc lsA (.double y :: .double x :: st.map (rv b base)))
      refine lv_dcmp hx hb hd ?_
      have kz := kk H locs cells slots lsA cx
      have kz : W p l e R s m args below meth c H locs cells slots Z (F0 m (pc + 1) lsA (.int (Int32.ofInt ((Op.cmpValue (FP.dcmp x y) (cop i.2.1)).toInt)) :: st.map (rv b base))) := kz
      rw [I_back] at kz
      exact kz
    · cases hs
  · cases hk
def k_fcmp : Ck := fun mid pc i d len => match d with | .fcmp q => decide (q = cop i.2.1 ∧ len = 1) | _ => false
theorem so_fcmp : SOp s_fcmp k_fcmp := by
  intro b base D ct scr p l e R s m args below meth c Z mid n0 s0 lim fx pc i d len H locs cells slots lsA ls st h cd ls' st' h' hd hk hs hc cx kk
  obtain ⟨hx, hb, hml, hown, hts, hK, fx⟩ := fx
  unfold k_fcmp at hk
  split at hk
  · have hk := of_decide_eq_true hk
    obtain ⟨hk1, rfl⟩ := id hk
    unfold s_fcmp at hs
    split at hs
    · rename_i y x st
      cases hs
      subst hk1
      show W p l e R s m args below meth c H locs cells slots Z (F0 m pc lsA (.float y :: .float x :: st.map (rv b base)))
      refine lv_fcmp hx hb hd ?_
      have kz := kk H locs cells slots lsA cx
      have kz : W p l e R s m args below meth c H locs cells slots Z (F0 m (pc + 1) lsA (.int (Int32.ofInt ((Op.cmpValue (FP.fcmp x y) (cop i.2.1)).toInt)) :: st.map (rv b base))) := kz
      rw [I_back] at kz
      exact kz
    · cases hs
  · cases hk
def k_dup : Ck := fun mid pc i d len => decide (d = .dup ∧ len = 1)
theorem so_dup : SOp s_dup k_dup := by
  intro b base D ct scr p l e R s m args below meth c Z mid n0 s0 lim fx pc i d len H locs cells slots lsA ls st h cd ls' st' h' hd hk hs hc cx kk
  obtain ⟨hx, hb, hml, hown, hts, hK, fx⟩ := fx
  unfold k_dup at hk
  have hk := of_decide_eq_true hk
  obtain ⟨rfl, rfl⟩ := hk
  unfold s_dup at hs
  split at hs
  · rename_i v st
    cases hs
    show W p l e R s m args below meth c H locs cells slots Z (F0 m pc lsA (rv b base v :: st.map (rv b base)))
    refine lv_dup hx hb hd (rv_cat1 hc) ?_
    exact kk H locs cells slots lsA cx
  · cases hs
def k_pop : Ck := fun mid pc i d len => decide (d = .pop ∧ len = 1)
theorem so_pop : SOp s_pop k_pop := by
  intro b base D ct scr p l e R s m args below meth c Z mid n0 s0 lim fx pc i d len H locs cells slots lsA ls st h cd ls' st' h' hd hk hs hc cx kk
  obtain ⟨hx, hb, hml, hown, hts, hK, fx⟩ := fx
  unfold k_pop at hk
  have hk := of_decide_eq_true hk
  obtain ⟨rfl, rfl⟩ := hk
  unfold s_pop at hs
  split at hs
  · rename_i v st
    cases hs
    show W p l e R s m args below meth c H locs cells slots Z (F0 m pc lsA (rv b base v :: st'.map (rv b base)))
    refine lv_pop hx hb hd (rv_cat1 hc) ?_
    exact kk H locs cells slots lsA cx
  · cases hs
def k_dup2 : Ck := fun mid pc i d len => decide (d = .dup2 ∧ len = 1)
theorem so_dup2 : SOp s_dup2 k_dup2 := by
  intro b base D ct scr p l e R s m args below meth c Z mid n0 s0 lim fx pc i d len H locs cells slots lsA ls st h cd ls' st' h' hd hk hs hc cx kk
  obtain ⟨hx, hb, hml, hown, hts, hK, fx⟩ := fx
  unfold k_dup2 at hk
  have hk := of_decide_eq_true hk
  obtain ⟨rfl, rfl⟩ := hk
  unfold s_dup2 at hs
  split at hs
  · rename_i v u st
    cases hs
    show W p l e R s m args below meth c H locs cells slots Z (F0 m pc lsA (rv b base v :: rv b base u :: st.map (rv b base)))
    refine lv_dup2_11 hx hb hd (rv_cat1 hc.1) (rv_cat1 hc.2) ?_
    exact kk H locs cells slots lsA cx
  · cases hs
def k_ldc : Ck := fun mid pc i d len => KCT.any (fun q => decide (q.2 = (mo mid, i.2.1, 4, i.2.2.1))) && decide (d = .ldc i.2.1 ∧ len = 2)
theorem so_ldc : SOp s_ldc k_ldc := by
  intro b base D ct scr p l e R s m args below meth c Z mid n0 s0 lim fx pc i d len H locs cells slots lsA ls st h cd ls' st' h' hd hk hs hc cx kk
  obtain ⟨hx, hb, hml, hown, hts, hK, fx⟩ := fx
  unfold k_ldc at hk
  rw [Bool.and_eq_true] at hk
  obtain ⟨rfl, rfl⟩ := of_decide_eq_true hk.2
  obtain ⟨q, hq, he⟩ := List.any_eq_true.mp hk.1
  have hw := KCT_in q hq
  rw [of_decide_eq_true he] at hw
  unfold s_ldc at hs
  cases hs
  exact lv_ldc hx hb hown (hts _ hw) hd (kk H locs cells slots lsA cx)
def k_ldcf : Ck := fun mid pc i d len => KCT.any (fun q => decide (q.2 = (mo mid, i.2.1, 9, i.2.2.1))) && decide (d = .ldc i.2.1 ∧ len = 2)
theorem so_ldcf : SOp s_ldcf k_ldcf := by
  intro b base D ct scr p l e R s m args below meth c Z mid n0 s0 lim fx pc i d len H locs cells slots lsA ls st h cd ls' st' h' hd hk hs hc cx kk
  obtain ⟨hx, hb, hml, hown, hts, hK, fx⟩ := fx
  unfold k_ldcf at hk
  rw [Bool.and_eq_true] at hk
  obtain ⟨rfl, rfl⟩ := of_decide_eq_true hk.2
  obtain ⟨q, hq, he⟩ := List.any_eq_true.mp hk.1
  have hw := KCT_in q hq
  rw [of_decide_eq_true he] at hw
  unfold s_ldcf at hs
  cases hs
  exact lv_ldcf hx hb hown (hts _ hw) hd (kk H locs cells slots lsA cx)
def k_ldc2l : Ck := fun mid pc i d len => KCT.any (fun q => decide (q.2 = (mo mid, i.2.1, 6, i.2.2.1))) && decide (d = .ldc2_w i.2.1 ∧ len = 3)
theorem so_ldc2l : SOp s_ldc2l k_ldc2l := by
  intro b base D ct scr p l e R s m args below meth c Z mid n0 s0 lim fx pc i d len H locs cells slots lsA ls st h cd ls' st' h' hd hk hs hc cx kk
  obtain ⟨hx, hb, hml, hown, hts, hK, fx⟩ := fx
  unfold k_ldc2l at hk
  rw [Bool.and_eq_true] at hk
  obtain ⟨rfl, rfl⟩ := of_decide_eq_true hk.2
  obtain ⟨q, hq, he⟩ := List.any_eq_true.mp hk.1
  have hw := KCT_in q hq
  rw [of_decide_eq_true he] at hw
  unfold s_ldc2l at hs
  cases hs
  exact lv_ldc2 hx hb hown (hts _ hw) hd (kk H locs cells slots lsA cx)
def k_ldc2d : Ck := fun mid pc i d len => KCT.any (fun q => decide (q.2 = (mo mid, i.2.1, 8, i.2.2.1))) && decide (d = .ldc2_w i.2.1 ∧ len = 3)
theorem so_ldc2d : SOp s_ldc2d k_ldc2d := by
  intro b base D ct scr p l e R s m args below meth c Z mid n0 s0 lim fx pc i d len H locs cells slots lsA ls st h cd ls' st' h' hd hk hs hc cx kk
  obtain ⟨hx, hb, hml, hown, hts, hK, fx⟩ := fx
  unfold k_ldc2d at hk
  rw [Bool.and_eq_true] at hk
  obtain ⟨rfl, rfl⟩ := of_decide_eq_true hk.2
  obtain ⟨q, hq, he⟩ := List.any_eq_true.mp hk.1
  have hw := KCT_in q hq
  rw [of_decide_eq_true he] at hw
  unfold s_ldc2d at hs
  cases hs
  exact lv_ldc2d hx hb hown (hts _ hw) hd (kk H locs cells slots lsA cx)
def k_dconst : Ck := fun mid pc i d len => decide (d = .dconst (if i.2.2.1 = 0 then 0 else 1) ∧ len = 1)
theorem so_dconst : SOp s_dconst k_dconst := by
  intro b base D ct scr p l e R s m args below meth c Z mid n0 s0 lim fx pc i d len H locs cells slots lsA ls st h cd ls' st' h' hd hk hs hc cx kk
  obtain ⟨hx, hb, hml, hown, hts, hK, fx⟩ := fx
  unfold k_dconst at hk
  obtain ⟨rfl, rfl⟩ := of_decide_eq_true hk
  unfold s_dconst at hs
  cases hs
  by_cases hz : i.2.2.1 = 0
  · rw [if_pos hz] at hd
    have kz := kk H locs cells slots lsA cx
    rw [if_pos hz] at kz
    exact lv_dconst0 hx hb hd kz
  · rw [if_neg hz] at hd
    have kz := kk H locs cells slots lsA cx
    rw [if_neg hz] at kz
    exact lv_dconst1 hx hb hd kz
def k_objinit : Ck := fun mid pc i d len => OIT.any (fun q => decide (d = .invokespecial q.2.2 ∧ q.2.1 = mo mid)) && decide (len = 3 ∧ 1 ≤ mf mid ∧ 60 ≤ ml mid)
theorem so_objinit : SOp s_objinit k_objinit := by
  intro b base D ct scr p l e R s m args below meth c Z mid n0 s0 lim fx pc i d len H locs cells slots lsA ls st h cd ls' st' h' hd hk hs hc cx kk
  obtain ⟨hx, hb, hml, hown, hts, hK, fx⟩ := fx
  unfold k_objinit at hk
  rw [Bool.and_eq_true] at hk
  obtain ⟨rfl, hf1, hl1⟩ := of_decide_eq_true hk.2
  obtain ⟨q, hq, he⟩ := List.any_eq_true.mp hk.1
  have hw := OIT_in q hq
  obtain ⟨rfl, he2⟩ := of_decide_eq_true he
  have hw : Cond.methodLink (ow (mo mid)) q.2.2 objectInit ∈ GW := by rw [← he2]; exact hw
  unfold s_objinit at hs
  split at hs
  · rename_i p1 st
    cases hs
    have hsum := sk4_sum (b := b) (base := base) (st := st') hc
    have hfr : mf mid ≤ R.frames := fx.1.2.2.1
    have hlo : ml mid ≤ R.locals := fx.1.2.2.2
    show W p l e R s m args below meth c H locs cells slots Z (F0 m pc lsA (.ref (base + p1) :: st'.map (rv b base)))
    refine W.objInit hx hb hown (hts _ hw) (hts _ OI_i) (hts _ OI_c) rfl ((LH_size cx.1).trans hml.symm) rfl hd (by omega) (by show 2 * 0 + _ + 12 ≤ _; omega) ?_
    exact kk H locs cells slots lsA cx
  · cases hs
def k_rawF : Ck := fun mid pc i d len => NFT.any (fun q => decide (d = .invokestatic q.2.2 ∧ q.2.1 = mo mid)) && decide (len = 3 ∧ 1 ≤ mf mid ∧ 60 ≤ ml mid)
theorem so_rawF : SOp s_rawF k_rawF := by
  intro b base D ct scr p l e R s m args below meth c Z mid n0 s0 lim fx pc i d len H locs cells slots lsA ls st h cd ls' st' h' hd hk hs hc cx kk
  obtain ⟨hx, hb, hml, hown, hts, hK, fx⟩ := fx
  unfold k_rawF at hk
  rw [Bool.and_eq_true] at hk
  obtain ⟨rfl, hf1, hl1⟩ := of_decide_eq_true hk.2
  obtain ⟨q, hq, he⟩ := List.any_eq_true.mp hk.1
  have hw := NFT_in q hq
  obtain ⟨rfl, he2⟩ := of_decide_eq_true he
  unfold NFcond at hw
  rw [he2] at hw
  unfold s_rawF at hs
  split at hs
  · rename_i x st
    cases hs
    have hsum := sk4_sum (b := b) (base := base) (st := st) hc
    have hfr : mf mid ≤ R.frames := fx.1.2.2.1
    have hlo : ml mid ≤ R.locals := fx.1.2.2.2
    show W p l e R s m args below meth c H locs cells slots Z (F0 m pc lsA (.float x :: st.map (rv b base)))
    refine vn_f2i hx hb (hml.trans (LH_size cx.1).symm) hown (hts _ hw) (hts _ NF_n) (hts _ NF_s) (hts _ NF_i) (by omega) (by omega) hd ?_
    have kz := kk H locs cells slots lsA cx
    have kz : W p l e R s m args below meth c H locs cells slots Z (F0 m (pc + 3) lsA (.int (Int32.ofInt x.toInt32.toInt) :: st.map (rv b base))) := kz
    rw [I_back] at kz
    exact kz
  · cases hs
def k_rawD : Ck := fun mid pc i d len => NDT.any (fun q => decide (d = .invokestatic q.2.2 ∧ q.2.1 = mo mid)) && decide (len = 3 ∧ 1 ≤ mf mid ∧ 60 ≤ ml mid)
theorem so_rawD : SOp s_rawD k_rawD := by
  intro b base D ct scr p l e R s m args below meth c Z mid n0 s0 lim fx pc i d len H locs cells slots lsA ls st h cd ls' st' h' hd hk hs hc cx kk
  obtain ⟨hx, hb, hml, hown, hts, hK, fx⟩ := fx
  unfold k_rawD at hk
  rw [Bool.and_eq_true] at hk
  obtain ⟨rfl, hf1, hl1⟩ := of_decide_eq_true hk.2
  obtain ⟨q, hq, he⟩ := List.any_eq_true.mp hk.1
  have hw := NDT_in q hq
  obtain ⟨rfl, he2⟩ := of_decide_eq_true he
  unfold NDcond at hw
  rw [he2] at hw
  unfold s_rawD at hs
  split at hs
  · rename_i x st
    cases hs
    have hsum := sk4_sum (b := b) (base := base) (st := st) hc
    have hfr : mf mid ≤ R.frames := fx.1.2.2.1
    have hlo : ml mid ≤ R.locals := fx.1.2.2.2
    show W p l e R s m args below meth c H locs cells slots Z (F0 m pc lsA (.double x :: st.map (rv b base)))
    refine vn_d2l hx hb (hml.trans (LH_size cx.1).symm) hown (hts _ hw) (hts _ ND_n) (hts _ ND_s) (hts _ ND_i) (by omega) (by omega) hd ?_
    have kz := kk H locs cells slots lsA cx
    have kz : W p l e R s m args below meth c H locs cells slots Z (F0 m (pc + 3) lsA (.long (Int64.ofInt x.toInt64.toInt) :: st.map (rv b base))) := kz
    rw [L_back] at kz
    exact kz
  · cases hs
def k_iload : Ck := fun mid pc i d len => match d with | .iload_n q => decide ((q : Nat) = i.2.1 ∧ len = 1) | .iload q => decide (q = i.2.1 ∧ len = 2) | _ => false
theorem so_iload : SOp s_iload k_iload := by
  intro b base D ct scr p l e R s m args below meth c Z mid n0 s0 lim fx pc i d len H locs cells slots lsA ls st h cd ls' st' h' hd hk hs hc cx kk
  obtain ⟨hx, hb, hml, hown, hts, hK, fx⟩ := fx
  unfold s_iload at hs
  split at hs
  · rename_i x he
    cases hs
    have ha := LH_at cx.1 he (by intro q; cases q)
    unfold k_iload at hk
    split at hk
    · obtain ⟨hk1, rfl⟩ := of_decide_eq_true hk
      exact lv_iload_n hx hb hd hk1 ha (kk H locs cells slots lsA cx)
    · obtain ⟨rfl, rfl⟩ := of_decide_eq_true hk
      exact lv_iload hx hb hd ha (kk H locs cells slots lsA cx)
    · cases hk
  · cases hs
def k_lload : Ck := fun mid pc i d len => match d with | .lload_n q => decide ((q : Nat) = i.2.1 ∧ len = 1) | .lload q => decide (q = i.2.1 ∧ len = 2) | _ => false
theorem so_lload : SOp s_lload k_lload := by
  intro b base D ct scr p l e R s m args below meth c Z mid n0 s0 lim fx pc i d len H locs cells slots lsA ls st h cd ls' st' h' hd hk hs hc cx kk
  obtain ⟨hx, hb, hml, hown, hts, hK, fx⟩ := fx
  unfold s_lload at hs
  split at hs
  · rename_i x he
    cases hs
    have ha := LH_at cx.1 he (by intro q; cases q)
    unfold k_lload at hk
    split at hk
    · obtain ⟨hk1, rfl⟩ := of_decide_eq_true hk
      exact lv_lload_n hx hb hd hk1 ha (kk H locs cells slots lsA cx)
    · obtain ⟨rfl, rfl⟩ := of_decide_eq_true hk
      exact lv_lload hx hb hd ha (kk H locs cells slots lsA cx)
    · cases hk
  · cases hs
def k_fload : Ck := fun mid pc i d len => match d with | .fload_n q => decide ((q : Nat) = i.2.1 ∧ len = 1) | .fload q => decide (q = i.2.1 ∧ len = 2) | _ => false
theorem so_fload : SOp s_fload k_fload := by
  intro b base D ct scr p l e R s m args below meth c Z mid n0 s0 lim fx pc i d len H locs cells slots lsA ls st h cd ls' st' h' hd hk hs hc cx kk
  obtain ⟨hx, hb, hml, hown, hts, hK, fx⟩ := fx
  unfold s_fload at hs
  split at hs
  · rename_i x he
    cases hs
    have ha := LH_at cx.1 he (by intro q; cases q)
    unfold k_fload at hk
    split at hk
    · obtain ⟨hk1, rfl⟩ := of_decide_eq_true hk
      exact lv_fload_n hx hb hd hk1 ha (kk H locs cells slots lsA cx)
    · obtain ⟨rfl, rfl⟩ := of_decide_eq_true hk
      exact lv_fload hx hb hd ha (kk H locs cells slots lsA cx)
    · cases hk
  · cases hs
def k_dload : Ck := fun mid pc i d len => match d with | .dload_n q => decide ((q : Nat) = i.2.1 ∧ len = 1) | .dload q => decide (q = i.2.1 ∧ len = 2) | _ => false
theorem so_dload : SOp s_dload k_dload := by
  intro b base D ct scr p l e R s m args below meth c Z mid n0 s0 lim fx pc i d len H locs cells slots lsA ls st h cd ls' st' h' hd hk hs hc cx kk
  obtain ⟨hx, hb, hml, hown, hts, hK, fx⟩ := fx
  unfold s_dload at hs
  split at hs
  · rename_i x he
    cases hs
    have ha := LH_at cx.1 he (by intro q; cases q)
    unfold k_dload at hk
    split at hk
    · obtain ⟨hk1, rfl⟩ := of_decide_eq_true hk
      exact lv_dload_n hx hb hd hk1 ha (kk H locs cells slots lsA cx)
    · obtain ⟨rfl, rfl⟩ := of_decide_eq_true hk
      exact lv_dload hx hb hd ha (kk H locs cells slots lsA cx)
    · cases hk
  · cases hs
def k_aload : Ck := fun mid pc i d len => match d with | .aload_n q => decide ((q : Nat) = i.2.1 ∧ len = 1) | .aload q => decide (q = i.2.1 ∧ len = 2) | _ => false
theorem so_aload : SOp s_aload k_aload := by
  intro b base D ct scr p l e R s m args below meth c Z mid n0 s0 lim fx pc i d len H locs cells slots lsA ls st h cd ls' st' h' hd hk hs hc cx kk
  obtain ⟨hx, hb, hml, hown, hts, hK, fx⟩ := fx
  unfold s_aload at hs
  split at hs
  · rename_i r he
    cases hs
    have ha := LH_at cx.1 he (by intro q; cases q)
    unfold k_aload at hk
    cases r with
    | none =>
      split at hk
      · obtain ⟨hk1, rfl⟩ := of_decide_eq_true hk
        exact lv_aload_n hx hb hd hk1 ha (kk H locs cells slots lsA cx)
      · obtain ⟨rfl, rfl⟩ := of_decide_eq_true hk
        exact lv_aload hx hb hd ha (kk H locs cells slots lsA cx)
      · cases hk
    | some r =>
      split at hk
      · obtain ⟨hk1, rfl⟩ := of_decide_eq_true hk
        exact lv_aload_n hx hb hd hk1 ha (kk H locs cells slots lsA cx)
      · obtain ⟨rfl, rfl⟩ := of_decide_eq_true hk
        exact lv_aload hx hb hd ha (kk H locs cells slots lsA cx)
      · cases hk
  · cases hs
def k_istore : Ck := fun mid pc i d len => match d with | .istore_n q => decide ((q : Nat) = i.2.1 ∧ len = 1 ∧ i.2.1 < mL mid) | .istore q => decide (q = i.2.1 ∧ len = 2 ∧ i.2.1 < mL mid) | _ => false
theorem so_istore : SOp s_istore k_istore := by
  intro b base D ct scr p l e R s m args below meth c Z mid n0 s0 lim fx pc i d len H locs cells slots lsA ls st h cd ls' st' h' hd hk hs hc cx kk
  obtain ⟨hx, hb, hml, hown, hts, hK, fx⟩ := fx
  unfold s_istore at hs
  split at hs
  · rename_i x st
    cases hs
    show W p l e R s m args below meth c H locs cells slots Z (F0 m pc lsA (.int (Int32.ofInt x) :: st'.map (rv b base)))
    obtain ⟨⟨lv, hl1, hl2⟩, cx⟩ := cx
    unfold k_istore at hk
    split at hk
    · obtain ⟨hk1, rfl, hk2⟩ := of_decide_eq_true hk
      exact lv_istore_n hx hb hd hk1 hl1 hk2 rfl (fun lsB hB => kk H locs cells slots lsB ⟨LH_st1 (v := pI x) hl2 hB, cx⟩)
    · obtain ⟨rfl, rfl, hk2⟩ := of_decide_eq_true hk
      exact lv_istore hx hb hd hl1 hk2 rfl (fun lsB hB => kk H locs cells slots lsB ⟨LH_st1 (v := pI x) hl2 hB, cx⟩)
    · cases hk
  · cases hs
def k_fstore : Ck := fun mid pc i d len => match d with | .fstore_n q => decide ((q : Nat) = i.2.1 ∧ len = 1 ∧ i.2.1 < mL mid) | .fstore q => decide (q = i.2.1 ∧ len = 2 ∧ i.2.1 < mL mid) | _ => false
theorem so_fstore : SOp s_fstore k_fstore := by
  intro b base D ct scr p l e R s m args below meth c Z mid n0 s0 lim fx pc i d len H locs cells slots lsA ls st h cd ls' st' h' hd hk hs hc cx kk
  obtain ⟨hx, hb, hml, hown, hts, hK, fx⟩ := fx
  unfold s_fstore at hs
  split at hs
  · rename_i x st
    cases hs
    show W p l e R s m args below meth c H locs cells slots Z (F0 m pc lsA (.float x :: st'.map (rv b base)))
    obtain ⟨⟨lv, hl1, hl2⟩, cx⟩ := cx
    unfold k_fstore at hk
    split at hk
    · obtain ⟨hk1, rfl, hk2⟩ := of_decide_eq_true hk
      exact lv_fstore_n hx hb hd hk1 hl1 hk2 rfl (fun lsB hB => kk H locs cells slots lsB ⟨LH_st1 (v := pF x) hl2 hB, cx⟩)
    · obtain ⟨rfl, rfl, hk2⟩ := of_decide_eq_true hk
      exact lv_fstore hx hb hd hl1 hk2 rfl (fun lsB hB => kk H locs cells slots lsB ⟨LH_st1 (v := pF x) hl2 hB, cx⟩)
    · cases hk
  · cases hs
def k_astore : Ck := fun mid pc i d len => match d with | .astore_n q => decide ((q : Nat) = i.2.1 ∧ len = 1 ∧ i.2.1 < mL mid) | .astore q => decide (q = i.2.1 ∧ len = 2 ∧ i.2.1 < mL mid) | _ => false
theorem so_astore : SOp s_astore k_astore := by
  intro b base D ct scr p l e R s m args below meth c Z mid n0 s0 lim fx pc i d len H locs cells slots lsA ls st h cd ls' st' h' hd hk hs hc cx kk
  obtain ⟨hx, hb, hml, hown, hts, hK, fx⟩ := fx
  unfold s_astore at hs
  split at hs
  · rename_i x st
    cases hs
    show W p l e R s m args below meth c H locs cells slots Z (F0 m pc lsA (.ref (base + x) :: st'.map (rv b base)))
    obtain ⟨⟨lv, hl1, hl2⟩, cx⟩ := cx
    unfold k_astore at hk
    split at hk
    · obtain ⟨hk1, rfl, hk2⟩ := of_decide_eq_true hk
      exact lv_astore_n hx hb hd hk1 hl1 hk2 rfl (fun lsB hB => kk H locs cells slots lsB ⟨LH_st1 (v := pR x) hl2 hB, cx⟩)
    · obtain ⟨rfl, rfl, hk2⟩ := of_decide_eq_true hk
      exact lv_astore hx hb hd hl1 hk2 rfl (fun lsB hB => kk H locs cells slots lsB ⟨LH_st1 (v := pR x) hl2 hB, cx⟩)
    · cases hk
  · cases hs
def k_lstore : Ck := fun mid pc i d len => match d with | .lstore_n q => decide ((q : Nat) = i.2.1 ∧ len = 1 ∧ i.2.1 + 1 < mL mid) | .lstore q => decide (q = i.2.1 ∧ len = 2 ∧ i.2.1 + 1 < mL mid) | _ => false
theorem so_lstore : SOp s_lstore k_lstore := by
  intro b base D ct scr p l e R s m args below meth c Z mid n0 s0 lim fx pc i d len H locs cells slots lsA ls st h cd ls' st' h' hd hk hs hc cx kk
  obtain ⟨hx, hb, hml, hown, hts, hK, fx⟩ := fx
  unfold s_lstore at hs
  split at hs
  · rename_i x st
    cases hs
    show W p l e R s m args below meth c H locs cells slots Z (F0 m pc lsA (.long (Int64.ofInt x) :: st'.map (rv b base)))
    obtain ⟨⟨lv, hl1, hl2⟩, cx⟩ := cx
    unfold k_lstore at hk
    split at hk
    · obtain ⟨hk1, rfl, hk2⟩ := of_decide_eq_true hk
      exact lv_lstore_n hx hb hd hk1 hl1 hk2 rfl (fun lsB hB => kk H locs cells slots lsB ⟨LH_st2 (v := pL x) hl2 hB, cx⟩)
    · obtain ⟨rfl, rfl, hk2⟩ := of_decide_eq_true hk
      exact lv_lstore hx hb hd hl1 hk2 rfl (fun lsB hB => kk H locs cells slots lsB ⟨LH_st2 (v := pL x) hl2 hB, cx⟩)
    · cases hk
  · cases hs
def k_dstore : Ck := fun mid pc i d len => match d with | .dstore_n q => decide ((q : Nat) = i.2.1 ∧ len = 1 ∧ i.2.1 + 1 < mL mid) | .dstore q => decide (q = i.2.1 ∧ len = 2 ∧ i.2.1 + 1 < mL mid) | _ => false
theorem so_dstore : SOp s_dstore k_dstore := by
  intro b base D ct scr p l e R s m args below meth c Z mid n0 s0 lim fx pc i d len H locs cells slots lsA ls st h cd ls' st' h' hd hk hs hc cx kk
  obtain ⟨hx, hb, hml, hown, hts, hK, fx⟩ := fx
  unfold s_dstore at hs
  split at hs
  · rename_i x st
    cases hs
    show W p l e R s m args below meth c H locs cells slots Z (F0 m pc lsA (.double x :: st'.map (rv b base)))
    obtain ⟨⟨lv, hl1, hl2⟩, cx⟩ := cx
    unfold k_dstore at hk
    split at hk
    · obtain ⟨hk1, rfl, hk2⟩ := of_decide_eq_true hk
      exact lv_dstore_n hx hb hd hk1 hl1 hk2 rfl (fun lsB hB => kk H locs cells slots lsB ⟨LH_st2 (v := pD x) hl2 hB, cx⟩)
    · obtain ⟨rfl, rfl, hk2⟩ := of_decide_eq_true hk
      exact lv_dstore hx hb hd hl1 hk2 rfl (fun lsB hB => kk H locs cells slots lsB ⟨LH_st2 (v := pD x) hl2 hB, cx⟩)
    · cases hk
  · cases hs
def k_iinc : Ck := fun mid pc i d len => decide (d = .iinc i.2.1 i.2.2.1 ∧ len = 3 ∧ i.2.1 < mL mid)
theorem so_iinc : SOp s_iinc k_iinc := by
  intro b base D ct scr p l e R s m args below meth c Z mid n0 s0 lim fx pc i d len H locs cells slots lsA ls st h cd ls' st' h' hd hk hs hc cx kk
  obtain ⟨hx, hb, hml, hown, hts, hK, fx⟩ := fx
  unfold s_iinc at hs
  split at hs
  · rename_i x he
    cases hs
    unfold k_iinc at hk
    obtain ⟨rfl, rfl, hk2⟩ := of_decide_eq_true hk
    obtain ⟨⟨lv, hl1, hl2⟩, cx⟩ := cx
    obtain ⟨k, hk3⟩ := List.getElem?_of_mem (hl2 _ _ he (by intro q; cases q))
    exact lv_iinc hx hb hd hl1 (k := k) hk3 (I_add x i.2.2.1).symm hk2 rfl (fun lsB hB => kk H locs cells slots lsB ⟨LH_st1 (v := pI (x + i.2.2.1)) hl2 hB, cx⟩)
  · cases hs
theorem CL_at {ci : Nat} (h : ci < 7) : CL[ci]? = some (clR ci, clT ci, clN ci) := by
  unfold clR clT clN
  match ci, h with
  | 0, _ => rfl
  | 1, _ => rfl
  | 2, _ => rfl
  | 3, _ => rfl
  | 4, _ => rfl
  | 5, _ => rfl
  | 6, _ => rfl
theorem UC_all : ((List.range 7).all (fun ci => (List.range (clN ci)).all (fun k => UCT.any (fun q => decide (q.2 = (ci, k)))))) = true := by decide +kernel
theorem CL_in {ci : Nat} (h : ci < 7) : ∀ w ∈ u_ws (clR ci) (clT ci) (clN ci), w ∈ GW := by
  intro w hw
  obtain ⟨k, hk, rfl⟩ := List.mem_map.mp hw
  have h1 := List.all_eq_true.mp UC_all ci (List.mem_range.mpr h)
  have h2 := List.all_eq_true.mp h1 k hk
  obtain ⟨q, hq, he⟩ := List.any_eq_true.mp h2
  have h3 := UCT_in q hq
  rw [of_decide_eq_true he] at h3
  exact h3
def cty (ci : Nat) : Nat → FieldType := CTY.getD ci tyX1
theorem CL_ty {ci : Nat} (h : ci < 7) : ∀ k, k < clN ci → parseFieldDescriptor (clT ci k).2.2.1 = some (cty ci k) := by
  match ci, h with
  | 0, _ => exact tyX1_ok
  | 1, _ => exact tyX2_ok
  | 2, _ => exact tyX3_ok
  | 3, _ => exact tyX4_ok
  | 4, _ => exact tyX5_ok
  | 5, _ => exact tyX6_ok
  | 6, _ => exact tyX7_ok
theorem CL_nm {ci : Nat} (h : ci < 7) : ∀ a, a < clN ci → ∀ b, b < clN ci → a ≠ b → (clT ci a).2.1 ≠ (clT ci b).2.1 := by
  match ci, h with
  | 0, _ => exact nmX1
  | 1, _ => exact nmX2
  | 2, _ => exact nmX3
  | 3, _ => exact nmX4
  | 4, _ => exact nmX5
  | 5, _ => exact nmX6
  | 6, _ => exact nmX7
theorem fgo_some {c : Option Cl} {ci k : Nat} {v : PV} (h : fgo c ci k = some v) : ∃ fs, c = some (Sum.inl (ci, fs)) ∧ fs[k]? = some v := by
  unfold fgo at h
  split at h
  · rename_i cj fs
    by_cases e : cj = ci
    · subst e
      rw [if_pos rfl] at h
      exact ⟨fs, rfl, h⟩
    · rw [if_neg e] at h
      cases h
  · cases h
theorem fso_some {c : Option Cl} {ci k : Nat} {v : PV} {d : Cl} (h : fso c ci k v = some d) : ∃ fs, c = some (Sum.inl (ci, fs)) ∧ k < fs.length ∧ d = Sum.inl (ci, fs.set k v) := by
  unfold fso at h
  split at h
  · rename_i cj fs
    by_cases e : cj = ci
    · subst e
      rw [if_pos rfl] at h
      cases hg : fs[k]? with
      | none => rw [hg] at h; cases h
      | some u =>
        rw [hg] at h
        exact ⟨fs, rfl, (List.getElem?_eq_some_iff.mp hg).1, (Option.some.inj h).symm⟩
    · rw [if_neg e] at h
      cases h
  · cases h
theorem alo_some {c : Option Cl} {k : Nat} {n : Int} {f : Int → Int} (h : alo c k = some (n, f)) : c = some (cI k n f) := by
  unfold alo at h
  split at h
  · rename_i kj n' f'
    by_cases e : kj = k
    · subst e
      rw [if_pos rfl] at h
      cases h
      rfl
    · rw [if_neg e] at h
      cases h
  · cases h
theorem ado_some {c : Option Cl} {n : Int} {f : Int → UInt64} (h : ado c = some (n, f)) : c = some (cD n f) := by
  unfold ado at h
  split at h
  · rename_i kj n' f'
    by_cases e : kj = 4
    · subst e
      rw [if_pos rfl] at h
      cases h
      rfl
    · rw [if_neg e] at h
      cases h
  · cases h
theorem aro_some {c : Option Cl} {k : Nat} {n : Int} {f : Int → Option Nat} (h : aro c = some (k, n, f)) : c = some (cR k n f) := by
  unfold aro at h
  split at h
  · cases h
    rfl
  · cases h
theorem I_in {i n : Int} (h : 0 ≤ i ∧ i < n) (hn : n ≤ 100000) : vp_in (Int32.ofInt i) n.toNat := by
  rw [vp_in_iff, I_toInt (by omega) (by omega)]
  omega
theorem I_clamp {i : Int} (h : 0 ≤ i) (h2 : i ≤ 100000) : (Int32.ofInt i).toNatClampNeg = i.toNat := by
  rw [I_nat h, nI_clamp (by omega)]
theorem I_idx {i : Int} (h : 0 ≤ i) : ((i.toNat : Nat) : Int) = i := Int.toNat_of_nonneg h
def k_getf : Ck := fun mid pc i d len => match FL[i.2.1]? with | some (_, e) => decide (e.1 = mo mid ∧ d = .getfield e.2.1 ∧ len = 3 ∧ i.2.2.2 = [e.2.2.1, e.2.2.2] ∧ e.2.2.1 < 7 ∧ e.2.2.2 < clN e.2.2.1 ∧ True) | none => false
theorem so_getf : SOp s_getf k_getf := by
  intro b base D ct scr p l e R s m args below meth c Z mid n0 s0 lim fx pc i d len H locs cells slots lsA ls st h cd ls' st' h' hd hk hs hc cx kk
  obtain ⟨hx, hb, hml, hown, hts, hK, fx⟩ := fx
  unfold k_getf at hk
  split at hk
  · rename_i j e1 he
    have hk := of_decide_eq_true hk
    obtain ⟨hk1, rfl, rfl, hk2, hk3, hk4, hk5⟩ := hk
    have hw := FL_in _ (List.mem_of_getElem? he)
    have hci : e1.2.2.1 < 7 := hk3
    have hw : Cond.fieldLink (ow e1.1) e1.2.1 (clT e1.2.2.1 e1.2.2.2).1 (clT e1.2.2.1 e1.2.2.2).2.1 (clT e1.2.2.1 e1.2.2.2).2.2.1 ∈ GW := hw
    rw [hk1] at hw
    rw [hk2] at hs
    unfold s_getf at hs
    split at hs
    · rename_i p1 st ci k hks
      obtain ⟨rfl, rfl⟩ : e1.2.2.1 = ci ∧ e1.2.2.2 = k := by
        have h1 := List.cons.inj hks
        exact ⟨h1.1, (List.cons.inj h1.2).1⟩
      split at hs
      · rename_i v hv
        cases hs
        obtain ⟨fs, hf1, hf2⟩ := fgo_some hv
        obtain ⟨hL, hP, hS, hok1, cx'⟩ := id cx
        show W p l e R s m args below meth c H locs cells slots Z (F0 m pc lsA (.ref (base + p1) :: st.map (rv b base)))
        exact va_get (D := D) (v := rv b base v) hx hb hts (CL_in hci) hown hK hP p1 (wl_get hok1 hf1) (CL_at hci) e1.2.2.2 hk4 (hts _ hw) (fun _ h9 => h9) (by rw [List.getElem?_map, hf2]; rfl) hd (kk H locs cells slots lsA cx)
      · cases hs
    · cases hs
  · cases hk
def fkd (t : FieldType) : Nat := match t with
  | .int => 0
  | .long => 1
  | .object _ => 4
  | .array _ => 4
  | _ => 9
theorem fkd_int {t : FieldType} (h : fkd t = 0) : t = .int := by
  cases t <;> simp [fkd] at h ⊢
theorem fkd_long {t : FieldType} (h : fkd t = 1) : t = .long := by
  cases t <;> simp [fkd] at h ⊢
theorem fkd_ref {t : FieldType} (h : fkd t = 4) (a : Nat) : narrow t (.ref a) = .ref a ∧ fits t (.ref a) = true := by
  cases t <;> first | exact ⟨rfl, rfl⟩ | (simp [fkd] at h)
theorem cx_put {b base : Nat} {D : va_G} {ct : Nat → ClassId} {scr : Int × (Int → Int)} {s : State} {mid n0 s0 : Nat} {lim : Nat × Nat} {H H1 : Heap} {locs locs1 : List Loc} {cells slots : Nat} {lsA : Array Slot} {ls : List PV} {h : Hp} {p1 : Nat} {c0 c1 : Cl}
    (cx : Cx b base D ct scr s mid n0 s0 lim H locs cells slots lsA ls h) (h0 : h.1.1 p1 = some c0) (ha : ∀ k n a, c1 = Sum.inr (k, n, a) → 0 ≤ n ∧ n ≤ 100000 ∧ k ≤ 8)
    (hP : va_P D CL ((wl b base ct h).set p1 (base + p1, re b base ct c1)) H1) (hS : va_S (fun q => base ≤ q) s.heap H1 locs1) : Cx b base D ct scr s mid n0 s0 lim H1 locs1 cells slots lsA ls (hu h p1 c1) := by
  obtain ⟨hL, -, -, hk, hc, hl, hsc⟩ := cx
  have hlt : p1 < h.2.1 := (hk.1 p1).mp ⟨_, h0⟩
  rw [wl_set c1 hlt] at hP
  exact ⟨hL, hP, hS, hok_hu hk h0 ha, hc, hl, hsc⟩
def k_putf : Ck := fun mid pc i d len => match FL[i.2.1]? with | some (_, e) => decide (e.1 = mo mid ∧ d = .putfield e.2.1 ∧ len = 3 ∧ i.2.2.2 = [e.2.2.1, e.2.2.2, fkd (cty e.2.2.1 e.2.2.2)] ∧ e.2.2.1 < 7 ∧ e.2.2.2 < clN e.2.2.1 ∧ ((clT e.2.2.1 e.2.2.2).2.2.2 = false ∨ ((clT e.2.2.1 e.2.2.2).2.2.2 = true ∧ (my mid).name = "<init>" ∧ (clT e.2.2.1 e.2.2.2).1 = ow (mo mid)))) | none => false
theorem so_putf : SOp s_putf k_putf := by
  intro b base D ct scr p l e R s m args below meth c Z mid n0 s0 lim fx pc i d len H locs cells slots lsA ls st h cd ls' st' h' hd hk hs hc cx kk
  obtain ⟨hx, hb, hml, hown, hts, hK, fx⟩ := fx
  unfold k_putf at hk
  split at hk
  · rename_i j e1 he
    have hk := of_decide_eq_true hk
    obtain ⟨hk1, rfl, rfl, hk2, hk3, hk4, hk5⟩ := hk
    have hw := FL_in _ (List.mem_of_getElem? he)
    have hci : e1.2.2.1 < 7 := hk3
    have hw : Cond.fieldLink (ow e1.1) e1.2.1 (clT e1.2.2.1 e1.2.2.2).1 (clT e1.2.2.1 e1.2.2.2).2.1 (clT e1.2.2.1 e1.2.2.2).2.2.1 ∈ GW := hw
    rw [hk1] at hw
    rw [hk2] at hs
    unfold s_putf at hs
    split at hs
    · rename_i v p1 st ci k q hks
      obtain ⟨rfl, rfl, rfl⟩ : e1.2.2.1 = ci ∧ e1.2.2.2 = k ∧ fkd (cty e1.2.2.1 e1.2.2.2) = q := by
        have h1 := List.cons.inj hks
        have h2 := List.cons.inj h1.2
        exact ⟨h1.1, h2.1, (List.cons.inj h2.2).1⟩
      split at hs
      · rename_i c1 d1 hv
        cases hs
        obtain ⟨fs, hf1, hf2, rfl⟩ := fso_some hv
        obtain ⟨hL, hP, hS, hok1, cx'⟩ := id cx
        have hty := CL_ty hci e1.2.2.2 hk4
        have hnf : narrow (cty e1.2.2.1 e1.2.2.2) (rv b base v) = rv b base v ∧ fits (cty e1.2.2.1 e1.2.2.2) (rv b base v) = true := by
          rcases v with x | x | x | x | (_ | (_ | (_ | x)))
          · rw [fkd_int hc]; exact ⟨rfl, rfl⟩
          · rw [fkd_long hc]; exact ⟨rfl, rfl⟩
          · exact hc.elim
          · exact hc.elim
          · exact hc.elim
          · exact hc.elim
          · exact hc.elim
          · exact fkd_ref hc _
        have hset : (fs.map (rv b base)).set e1.2.2.2 (rv b base v) = (fs.set e1.2.2.2 v).map (rv b base) := by rw [List.map_set]
        show W p l e R s m args below meth c H locs cells slots Z (F0 m pc lsA (rv b base v :: .ref (base + p1) :: st'.map (rv b base)))
        rcases hk5 with hfin | ⟨hfin, hin1, hin2⟩
        · refine va_put (D := D) (A := fun q => base ≤ q) hx hb hts (CL_in hci) (cty e1.2.2.1) (CL_ty hci) (CL_nm hci) hown hK hP (wl_D b base ct h) hS p1 (wl_get hok1 hf1) (CL_at hci) e1.2.2.2 hk4 (hts _ hw) (fun _ h9 => h9) hfin hty hnf.1 hnf.2 (by rw [List.length_map]; exact hf2) hd (fun H1 locs1 hP1 hD1 hS1 => ?_)
          rw [hset] at hP1
          exact kk H1 locs1 cells slots lsA (cx_put cx hf1 (fun k n a h9 => by cases h9) hP1 hS1)
        · refine va_putF (D := D) (A := fun q => base ≤ q) hx hb hts (CL_in hci) (cty e1.2.2.1) (CL_ty hci) (CL_nm hci) hown hK hP (wl_D b base ct h) hS p1 (wl_get hok1 hf1) (CL_at hci) e1.2.2.2 hk4 (hts _ hw) (fun _ h9 => h9) hfin (fx.2.2.1 hin1) hin2 hty hnf.1 hnf.2 (by rw [List.length_map]; exact hf2) hd (fun H1 locs1 hP1 hD1 hS1 => ?_)
          rw [hset] at hP1
          exact kk H1 locs1 cells slots lsA (cx_put cx hf1 (fun k n a h9 => by cases h9) hP1 hS1)
      · cases hs
    · cases hs
  · cases hk

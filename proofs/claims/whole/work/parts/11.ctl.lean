theorem goodIn_GW {ws : List Cond} (h : ∀ w ∈ ws, w ∈ GW) : GoodIn GW ws := fun w hw => ⟨h w hw, GW_good w (h w hw)⟩
theorem spr_app : ∀ a c : List PV, (spr (a ++ c)).length = (spr a).length + (spr c).length
  | [], c => by simp [spr]
  | v :: a, c => by
    have ih := spr_app a c
    cases e : wide v <;> simp only [List.cons_append, spr, e, List.length_cons, ih] <;> omega
theorem pk_spec {K : List PV → List PV → Prop} : ∀ (ks : List Nat) (st acc : List PV), pk ks st acc K → ∃ (a rest : List PV), st = a.reverse ++ rest ∧ a.length = ks.length ∧ (spr a).length = wsum ks ∧ K (a ++ acc) rest
  | [], st, acc, h => ⟨[], st, rfl, rfl, rfl, h⟩
  | k :: ks, v :: st, acc, h => by
    obtain ⟨a, rest, h1, h2, h4, h3⟩ := pk_spec ks st (v :: acc) h.2
    refine ⟨a ++ [v], rest, ?_, by simp [h2], ?_, by simpa using h3⟩
    · rw [h1]
      simp
    · rw [spr_app, h4]
      have hw := h.1
      cases e : wide v <;> rw [e] at hw <;> simp only [wsum, ← hw, spr, e, List.length_cons, List.length_nil] <;> omega
  | k :: ks, [], acc, h => h.elim
theorem I_cmp {x y : Int} (hx : inr x) (hy : inr y) : (Int32.ofInt x = Int32.ofInt y ↔ x = y) ∧ (Int32.ofInt x < Int32.ofInt y ↔ x < y) ∧ (Int32.ofInt x ≤ Int32.ofInt y ↔ x ≤ y) := by
  have ex := I_toInt hx.1 hx.2
  have ey := I_toInt hy.1 hy.2
  refine ⟨?_, ?_, ?_⟩
  · rw [← Int32.toInt_inj, ex, ey]
  · rw [Int32.lt_iff_toInt_lt, ex, ey]
  · rw [Int32.le_iff_toInt_le, ex, ey]
theorem inr_0 : inr 0 := by unfold inr; omega
theorem swt_spec {K : Nat → Prop} : ∀ (ts : List Nat) (lo x : Int) (d : Nat), swt ts lo x d K → (x < lo ∨ lo + (ts.length : Int) ≤ x → K d) ∧ ∀ (j : Nat) (t : Nat), ts[j]? = some t → x = lo + (j : Int) → K t
  | [], lo, x, d, h => ⟨fun _ => h, fun j t hj _ => by simp at hj⟩
  | t :: ts, lo, x, d, h => by
    by_cases e : x = lo
    · refine ⟨fun q => ?_, fun j u hj hx => ?_⟩
      · exfalso
        simp only [List.length_cons] at q
        omega
      · have hj0 : j = 0 := by omega
        subst hj0
        have hu : t = u := by simpa using hj
        rw [← hu]
        exact h.1 e
    · obtain ⟨h1, h2⟩ := swt_spec ts (lo + 1) x d (h.2 e)
      refine ⟨fun q => h1 ?_, fun j u hj hx => ?_⟩
      · simp only [List.length_cons] at q
        omega
      · match j, hj with
        | 0, _ => exact absurd (by simpa using hx) e
        | j + 1, hj => exact h2 j u (by simpa using hj) (by omega)
theorem swl_spec {K : Nat → Prop} {pc : Nat} {x dflt : Int} {d : Nat} (hd : (pc : Int) + dflt = (d : Int)) : ∀ (ps : List (Int × Int)) (ks : List Nat), ps.flatMap (fun q => [q.1, (pc : Int) + q.2]) = ks.map (fun t : Nat => (t : Int)) → swl ks x d K → ∃ t : Nat, (pc : Int) + Op.lookupswitch.offset ps dflt x = (t : Int) ∧ K t
  | [], [], _, h => ⟨d, hd, h⟩
  | [], k :: ks, e, h => by simp at e
  | (a, o) :: ps, [], e, h => by simp at e
  | (a, o) :: ps, [k], e, h => by simp at e
  | (a, o) :: ps, k :: t :: ks, e, h => by
    simp only [List.flatMap_cons, List.map_cons, List.cons_append, List.nil_append, List.cons.injEq] at e
    obtain ⟨e1, e2, e3⟩ := e
    rw [Op.lookupswitch.offset_cons]
    by_cases hx : x = (k : Int)
    · rw [if_pos (by omega)]
      exact ⟨t, e2, h.1 hx⟩
    · rw [if_neg (by omega)]
      exact swl_spec hd ps ks e3 (h.2 hx)
section CTL
variable {b base : Nat} {D : va_G} {ct : Nat → ClassId} {scr : Int × (Int → Int)} {p : Program} {l : Launch} {e : Env} {R : Room} {s : State} {m : MethodId} {args : Array Value} {below : List Frame} {meth : Method} {c : Code} {Z : State → Prop} {mid n0 s0 : Nat} {lim : Nat × Nat}
variable {H : Heap} {locs : List Loc} {cells slots : Nat} {lsA : Array Slot} {ls : List PV} {h : Hp}
theorem sd_if (fx : Fx b base D ct scr p R s m args meth c mid n0 s0 lim) {pc n : Nat} {z x : Int} {d : Instr} {len : Nat} (hd : decode (mc mid) pc = .ok (d, len)) (hk : ckI pc n z d len = true) (hi : inr x) {rest : List Value}
    (kt : cnd z x 0 → W p l e R s m args below meth c H locs cells slots Z (F0 m n lsA rest)) (kf : ¬ cnd z x 0 → W p l e R s m args below meth c H locs cells slots Z (F0 m (pc + len) lsA rest)) : W p l e R s m args below meth c H locs cells slots Z (F0 m pc lsA (.int (Int32.ofInt x) :: rest)) := by
  obtain ⟨hx, hb, -⟩ := fx
  have h1 := I_cmp hi inr_0
  have h2 := I_cmp inr_0 hi
  have e0 : Int32.ofInt 0 = 0 := rfl
  rw [e0] at h1 h2
  unfold ckI at hk
  split at hk
  · obtain ⟨ht, rfl, rfl⟩ := of_decide_eq_true hk
    exact lv_if_eq hx hb hd ht (fun q => kt (h1.1.mp q)) (fun q => kf (fun r => q (h1.1.mpr r)))
  · obtain ⟨ht, rfl, rfl⟩ := of_decide_eq_true hk
    exact lv_if_ne hx hb hd ht (fun q => kt (fun r => q (h1.1.mpr r))) (fun q => kf (fun r => r (h1.1.mp q)))
  · obtain ⟨ht, rfl, rfl⟩ := of_decide_eq_true hk
    exact lv_if_lt hx hb hd ht (fun q => kt (h1.2.1.mp q)) (fun q => kf (fun r => q (h1.2.1.mpr r)))
  · obtain ⟨ht, rfl, rfl⟩ := of_decide_eq_true hk
    exact lv_if_ge hx hb hd ht (fun q => kt (h2.2.2.mp q)) (fun q => kf (fun r => q (h2.2.2.mpr r)))
  · obtain ⟨ht, rfl, rfl⟩ := of_decide_eq_true hk
    exact lv_if_gt hx hb hd ht (fun q => kt (h2.2.1.mp q)) (fun q => kf (fun r => q (h2.2.1.mpr r)))
  · obtain ⟨ht, rfl, rfl⟩ := of_decide_eq_true hk
    exact lv_if_le hx hb hd ht (fun q => kt (h1.2.2.mp q)) (fun q => kf (fun r => q (h1.2.2.mpr r)))
  · cases hk
theorem sd_cmp (fx : Fx b base D ct scr p R s m args meth c mid n0 s0 lim) {pc n : Nat} {z x y : Int} {d : Instr} {len : Nat} (hd : decode (mc mid) pc = .ok (d, len)) (hk : ckM pc n z d len = true) (hi : inr x) (hj : inr y) {rest : List Value}
    (kt : cnd z x y → W p l e R s m args below meth c H locs cells slots Z (F0 m n lsA rest)) (kf : ¬ cnd z x y → W p l e R s m args below meth c H locs cells slots Z (F0 m (pc + len) lsA rest)) : W p l e R s m args below meth c H locs cells slots Z (F0 m pc lsA (.int (Int32.ofInt y) :: .int (Int32.ofInt x) :: rest)) := by
  obtain ⟨hx, hb, -⟩ := fx
  have h1 := I_cmp hi hj
  have h2 := I_cmp hj hi
  unfold ckM at hk
  split at hk
  · obtain ⟨ht, rfl, rfl⟩ := of_decide_eq_true hk
    exact lv_icmp_eq hx hb hd ht (fun q => kt (h1.1.mp q)) (fun q => kf (fun r => q (h1.1.mpr r)))
  · obtain ⟨ht, rfl, rfl⟩ := of_decide_eq_true hk
    exact lv_icmp_ne hx hb hd ht (fun q => kt (fun r => q (h1.1.mpr r))) (fun q => kf (fun r => r (h1.1.mp q)))
  · obtain ⟨ht, rfl, rfl⟩ := of_decide_eq_true hk
    exact lv_icmp_lt hx hb hd ht (fun q => kt (h1.2.1.mp q)) (fun q => kf (fun r => q (h1.2.1.mpr r)))
  · obtain ⟨ht, rfl, rfl⟩ := of_decide_eq_true hk
    exact lv_icmp_ge hx hb hd ht (fun q => kt (h2.2.2.mp q)) (fun q => kf (fun r => q (h2.2.2.mpr r)))
  · obtain ⟨ht, rfl, rfl⟩ := of_decide_eq_true hk
    exact lv_icmp_gt hx hb hd ht (fun q => kt (h2.2.1.mp q)) (fun q => kf (fun r => q (h2.2.1.mpr r)))
  · obtain ⟨ht, rfl, rfl⟩ := of_decide_eq_true hk
    exact lv_icmp_le hx hb hd ht (fun q => kt (h1.2.2.mp q)) (fun q => kf (fun r => q (h1.2.2.mpr r)))
  · cases hk
theorem sd_tsw (fx : Fx b base D ct scr p R s m args meth c mid n0 s0 lim) {pc n : Nat} {z x : Int} {ks : List Nat} {d : Instr} {len : Nat} (hd : decode (mc mid) pc = .ok (d, len)) (hk : ckT pc n z ks d = true) (hi : inr x) {rest : List Value}
    (hs : swt ks z x n (fun t => W p l e R s m args below meth c H locs cells slots Z (F0 m t lsA rest))) : W p l e R s m args below meth c H locs cells slots Z (F0 m pc lsA (.int (Int32.ofInt x) :: rest)) := by
  obtain ⟨hx, hb, -⟩ := fx
  have ex := I_toInt hi.1 hi.2
  obtain ⟨g1, g2⟩ := swt_spec _ _ _ _ hs
  unfold ckT at hk
  split at hk
  · rename_i dflt lo hi' offs
    obtain ⟨k1, rfl, rfl, k3⟩ := of_decide_eq_true hk
    have hlen : offs.size = ks.length := by
      have := congrArg List.length k3
      simpa using this
    by_cases ho : x < lo ∨ lo + (ks.length : Int) ≤ x
    · exact lv_tableOut hx hb hd (by rw [ex]; omega) k1 (g1 ho)
    · have hjl : (x - lo).toNat < ks.length := by omega
      obtain ⟨t, ht⟩ : ∃ t, ks[(x - lo).toNat]? = some t := ⟨_, List.getElem?_eq_getElem hjl⟩
      obtain ⟨off, hoff⟩ : ∃ off, offs[(x - lo).toNat]? = some off := ⟨_, Array.getElem?_eq_getElem (by omega)⟩
      have hto : (pc : Int) + off = (t : Int) := by
        have h3 := congrArg (fun l : List Int => l[(x - lo).toNat]?) k3
        simp only [List.getElem?_map, ht, Array.getElem?_toList, hoff, Option.map_some, Option.some.injEq] at h3
        exact h3
      exact lv_tableIn hx hb hd (by rw [ex]; omega) (by rw [ex]; omega) (by rw [ex]; exact hoff) hto (g2 _ t ht (by omega))
  · cases hk
theorem sd_lsw (fx : Fx b base D ct scr p R s m args meth c mid n0 s0 lim) {pc n : Nat} {x : Int} {ks : List Nat} {d : Instr} {len : Nat} (hd : decode (mc mid) pc = .ok (d, len)) (hk : ckL pc n ks d = true) (hi : inr x) {rest : List Value}
    (hs : swl ks x n (fun t => W p l e R s m args below meth c H locs cells slots Z (F0 m t lsA rest))) : W p l e R s m args below meth c H locs cells slots Z (F0 m pc lsA (.int (Int32.ofInt x) :: rest)) := by
  obtain ⟨hx, hb, -⟩ := fx
  have ex := I_toInt hi.1 hi.2
  unfold ckL at hk
  split at hk
  · rename_i dflt ps
    obtain ⟨k1, k2, k3⟩ := of_decide_eq_true hk
    obtain ⟨t, h1, h2⟩ := swl_spec k1 ps.toList ks k3 hs
    exact lv_lookup hx hb hd k2 rfl (by rw [ex]; exact h1) h2
  · cases hk
/-- behind a call -/
theorem call_go (fx : Fx b base D ct scr p R s m args meth c mid n0 s0 lim) (cx : Cx b base D ct scr s mid n0 s0 lim H locs cells slots lsA ls h) {pc n : Nat} {st0 rest : List Value} {l1 : Nat × Nat} {Q' : QT} {a' : Array Value}
    (hr : va_Run p l e R s m args below meth c H locs cells slots (mb n).1 (mb n).2 (F0 m pc lsA st0) rest (qcM b base D ct scr n l1 h Q' a') (fun q => base ≤ q))
    (hex : ∀ r h', Q' r h' → (h.2.1 ≤ h'.2.1 ∧ h.2.2 ≤ h'.2.2 ∧ h'.2.1 ≤ l1.1 ∧ h'.2.2 ≤ l1.2) → h'.2 = (h.2.1 + (mb n).1, h.2.2 + (mb n).2)) (hlim : h.2.1 + (mb n).1 ≤ lim.1 ∧ h.2.2 + (mb n).2 ≤ lim.2)
    (kk : ∀ (r : PV) (h' : Hp) (H1 : Heap) (locs1 : List Loc), Q' r h' → Cx b base D ct scr s mid n0 s0 lim H1 locs1 (cells + (mb n).1) (slots + (mb n).2) lsA ls h' → W p l e R s m args below meth c H1 locs1 (cells + (mb n).1) (slots + (mb n).2) Z (F0 m (pc + 3) lsA ((rov b base n r).toList ++ rest))) :
    W p l e R s m args below meth c H locs cells slots Z (F0 m pc lsA st0) := by
  intro T hT X
  obtain ⟨v, st₀, t, T', L, h0, X', hL, e1, e2, ⟨⟨r, h', hv, hQ, hok', hP', hbd, hsc'⟩, hz, hkF⟩, st⟩ := hr T hT X
  obtain ⟨hLH, hP, hS, hok1, hcn, hlm, hsc⟩ := cx
  have hv := Outcome.returned.inj hv
  rw [h0] at hz hkF
  have h2 := hex r h' hQ hbd
  have h21 : h'.2.1 = h.2.1 + (mb n).1 := by rw [h2]
  have h22 : h'.2.2 = h.2.2 + (mb n).2 := by rw [h2]
  have cx' : Cx b base D ct scr s mid n0 s0 lim T'.heap (locs ++ L) (cells + (mb n).1) (slots + (mb n).2) lsA ls h' := by
    refine ⟨hLH, by rw [e1]; exact hP', ⟨Nat.le_trans hS.1 (by rw [e1]; exact hz), fun q q1 q2 => ?_, fun q hq => ?_⟩, hok', ⟨by omega, by omega⟩, ⟨by omega, by omega⟩, hsc'⟩
    · rw [e1, hkF q (Nat.lt_of_lt_of_le q1 hS.1) q2]
      exact hS.2.1 q q1 q2
    · rcases List.mem_append.mp hq with q1 | q1
      · exact hS.2.2 q q1
      · exact hL q q1
  obtain ⟨t2, a1, b1⟩ := kk r h' T'.heap (locs ++ L) hQ cx' T' rfl X'
  rw [← hv] at a1
  exact ⟨t2, st t2 a1, b1⟩
/-- what a caller owes -/
theorem pre_go (fx : Fx b base D ct scr p R s m args meth c mid n0 s0 lim) (cx : Cx b base D ct scr s mid n0 s0 lim H locs cells slots lsA ls h) (hsz : H.size = base + h.2.1) (n : Nat) (a : List PV) (hX : n = PTIM → mid = LAWM) :
    ∀ U : State, U.heap = H → s.WarmedH U.vm → pcM b base D ct n a h (a.map (rv b base)).toArray U := by
  intro U hU hW
  obtain ⟨hx, hb, hml, hown, hts, hK, hrm, hs0, hnm, hXt, hscr⟩ := fx
  obtain ⟨hLH, hP, hS, hok1, hcn, hlm, hsc⟩ := cx
  refine ⟨rfl, by rw [hU]; exact hsz, by rw [hU]; exact hP, va_K.moved hW.alike hK, fun q => ?_⟩
  obtain ⟨⟨x1, x2, x3, x4⟩, x5, x6⟩ := hXt (Or.inr (hX q))
  exact ⟨⟨x1.moved hW.alike, x2.moved hW.alike, x3.moved hW.alike, x4.moved hW.alike⟩, x5.warmM hW, x6.warmM hW⟩
end CTL

section CALL
variable {b base : Nat} {D : va_G} {ct : Nat → ClassId} {scr : Int × (Int → Int)} {p : Program} {l : Launch} {e : Env} {R : Room} {s : State} {m : MethodId} {args : Array Value} {below : List Frame} {meth : Method} {c : Code} {Z : State → Prop} {mid n0 s0 : Nat} {lim : Nat × Nat}
variable {H : Heap} {locs : List Loc} {cells slots : Nat} {lsA : Array Slot} {ls : List PV} {h : Hp}
theorem mlen (n : Nat) : True := trivial
theorem rcv_spec {a : List PV} {h : Hp} {ci : Nat} (hr : rcv a h ci) : ∃ (q : Nat) (a' : List PV) (fs : List PV), a = pR q :: a' ∧ h.1.1 q = some (Sum.inl (ci, fs)) := by
  unfold rcv at hr
  split at hr
  · rename_i q a'
    obtain ⟨fs, hf⟩ := isO_some hr
    exact ⟨q, a', fs, rfl, hf⟩
  · exact hr.elim
theorem rov_some {b base n : Nat} {r : PV} (h : ¬ mr n = none) : (rov b base n r).toList = [rv b base r] := by
  unfold rov
  cases e : mr n with
  | none => exact absurd e h
  | some v => rfl
theorem rov_none {b base n : Nat} {r : PV} (h : mr n = none) : (rov b base n r).toList = [] := by
  unfold rov
  rw [h]
  rfl
/-- an instance's method -/
theorem sd_callo (fx : Fx b base D ct scr p R s m args meth c mid n0 s0 lim) (cx : Cx b base D ct scr s mid n0 s0 lim H locs cells slots lsA ls h) {pc n ci : Nat} {ks : List Nat} {d : Instr} {len : Nat} (hd : decode (mc mid) pc = .ok (d, len)) (hk : cko mid n (ci :: ks) d len = true) (hbd : mb n = (0, 0))
    {a rest : List PV} (hal : a.length = ks.length) (hrc : rcv a h ci) (hsk : sk4 rest) (hspw : (spr a).length = wsum ks) {Q' : QT} (hC : SX n 0 (ent (mL n) a) [] h h.2 Q')
    (kk : ∀ (r : PV) (h' : Hp) (H1 : Heap) (locs1 : List Loc), Q' r h' → Cx b base D ct scr s mid n0 s0 lim H1 locs1 cells slots lsA ls h' → W p l e R s m args below meth c H1 locs1 cells slots Z (F0 m (pc + len) lsA ((rov b base n r).toList ++ rest.map (rv b base)))) :
    W p l e R s m args below meth c H locs cells slots Z (F0 m pc lsA ((a.reverse ++ rest).map (rv b base))) := by
  unfold cko at hk
  simp only [Bool.and_eq_true] at hk
  obtain ⟨⟨hk1, hk2⟩, hk3⟩ := hk
  obtain ⟨rfl, hlt, hlen, hfr, hlo, hpt⟩ := of_decide_eq_true hk1
  obtain ⟨hci, hcn, hws⟩ := of_decide_eq_true hk3
  split at hk2
  · rename_i ix
    simp only [Bool.and_eq_true] at hk2
    obtain ⟨⟨hm1, hm2⟩, hm3⟩ := hk2
    have g1 := mlk_of hm1
    have g2 := vcond_of hm2
    obtain ⟨g3, g4, g5⟩ := ncond_of hm3
    obtain ⟨⟨hpl, hy1, hy2, hyo⟩, hcc, hic⟩ := my_all hlt
    obtain ⟨q0, a', fs, rfl, hq0⟩ := rcv_spec hrc
    obtain ⟨hx, hb, hml, hown, hts, hK, hrm, hs0, hnm, hXt, hscr⟩ := id fx
    obtain ⟨hLH, hP, hS, hok1, hcn1, hlm, hsc⟩ := id cx
    refine W_sz (fun hu => ?_)
    have hspr := Nat.le_trans (Nat.le_of_eq hspw) hws
    have hsz := Cx_size cx hs0 hu
    have hb1 : (mb n).1 = 0 := by rw [hbd]
    have hb2 : (mb n).2 = 0 := by rw [hbd]
    have hC' : SX n 0 (ent (mL n) (pR q0 :: a')) [] h (h.2.1 + (mb n).1, h.2.2 + (mb n).2) Q' := by rw [hb1, hb2]; exact hC
    have hM := met_of (b := b) (base := base) (D := D) (ct := ct) (scr := scr) (l := l) hlt hspr hok1 hsc hC'
    have hG : GoodIn GW (wsV (ow (mo mid)) ix (my n).cls (my n) (ccond n :: GW)) := goodIn_GW (by
      intro w hw
      unfold wsV at hw
      simp only [List.cons_append, List.nil_append, List.mem_cons] at hw
      rcases hw with rfl | rfl | rfl | rfl | rfl | hw
      · exact g1
      · exact g3
      · exact g2
      · exact hic
      · exact hcc
      · exact hw)
    have hcw := cwV (R := R) (rm := ({ frames := mf n, cells := (mb n).1, slots := (mb n).2, locals := ml n } : Room)) (bytes := mc n) (maxL := mL n) (ret := mr n) (mp n - 1) hts hG rfl rfl rfl ⟨rfl, hy1, hy2, g4⟩ ⟨by have := hrm.2.2.1; show mf n + 1 ≤ _; omega, by have := hrm.2.2.2; show 8 + (mL n + 11) + ml n ≤ _; omega⟩
    have hrecv : ∃ cellB : Cell, H[base + q0]? = some cellB ∧ cellB.vm.isStatics = false ∧ s.vm.findClass (my n).cls = some cellB.cls := by
      have := va_recv hK hP (CL_at hci) (wl_get hok1 hq0)
      rw [← hcn]
      exact this
    have hrun := va_runV (S := ⟨hx, hb, hml, hown, hts⟩) (hM := hM) (cw := hcw) (b := base + q0) (As := a'.map (rv b base)) (rest := rest.map (rv b base)) (g := F0 m pc lsA (((pR q0 :: a').reverse ++ rest).map (rv b base))) (p := p) (e := e) (m := m) (below := below) (meth := meth) (c := c) (H := H) (locs := locs) (cells := cells) (slots := slots) ⟨blind_pc b base D ct n _ h, hrecv, pre_go fx cx hsz n _ (fun q => absurd q hpt)⟩ rfl (by rw [List.length_map]; simp only [List.length_cons] at hal hlen; omega) (LH_size hLH) (by simp [rv, pR]) (lv_room (by have := sk4_sum (b := b) (base := base) (st := rest) hsk; omega)) hd ⟨by omega, by omega⟩
    refine call_go fx cx hrun (fun r h' _ hb => ?_) ⟨by omega, by omega⟩ (fun r h' H1 locs1 hQ cx1 => ?_)
    · rw [hb1, hb2] at hb ⊢
      exact Prod.ext (by show h'.2.1 = _; simp only [Nat.add_zero] at hb ⊢; omega) (by show h'.2.2 = _; simp only [Nat.add_zero] at hb ⊢; omega)
    · rw [hb1, hb2] at cx1 ⊢
      exact kk r h' H1 locs1 hQ cx1
  · cases hk2
/-- a static method -/
theorem sd_calls (fx : Fx b base D ct scr p R s m args meth c mid n0 s0 lim) (cx : Cx b base D ct scr s mid n0 s0 lim H locs cells slots lsA ls h) {pc n : Nat} {ks : List Nat} {d : Instr} {len : Nat} (hd : decode (mc mid) pc = .ok (d, len)) (hk : ckS mid n ks d len = true)
    {a rest : List PV} (hal : a.length = ks.length) (hsk : sk4 rest) (hspw : (spr a).length = wsum ks) {Q' : QT} (hC : SX n 0 (ent (mL n) a) [] h h.2 Q')
    (kk : ∀ (r : PV) (h' : Hp) (H1 : Heap) (locs1 : List Loc), Q' r h' → Cx b base D ct scr s mid n0 s0 lim H1 locs1 cells slots lsA ls h' → W p l e R s m args below meth c H1 locs1 cells slots Z (F0 m (pc + len) lsA (rv b base r :: rest.map (rv b base)))) :
    W p l e R s m args below meth c H locs cells slots Z (F0 m pc lsA ((a.reverse ++ rest).map (rv b base))) := by
  unfold ckS at hk
  simp only [Bool.and_eq_true] at hk
  obtain ⟨hk1, hk2⟩ := hk
  obtain ⟨rfl, hlt, hlen, hfr, hlo, hpt, hbd, hnv, hws⟩ := of_decide_eq_true hk1
  split at hk2
  · rename_i ix
    simp only [Bool.and_eq_true] at hk2
    obtain ⟨hm1, hm2⟩ := hk2
    have g1 := mlk_of hm1
    obtain ⟨g3, g4⟩ := scond_of hm2
    obtain ⟨⟨hpl, hy1, hy2, hyo⟩, hcc, hic⟩ := my_all hlt
    obtain ⟨hx, hb, hml, hown, hts, hK, hrm, hs0, hnm, hXt, hscr⟩ := id fx
    obtain ⟨hLH, hP, hS, hok1, hcn1, hlm, hsc⟩ := id cx
    refine W_sz (fun hu => ?_)
    have hspr := Nat.le_trans (Nat.le_of_eq hspw) hws
    have hsz := Cx_size cx hs0 hu
    have hb1 : (mb n).1 = 0 := by rw [hbd]
    have hb2 : (mb n).2 = 0 := by rw [hbd]
    have hC' : SX n 0 (ent (mL n) a) [] h (h.2.1 + (mb n).1, h.2.2 + (mb n).2) Q' := by rw [hb1, hb2]; exact hC
    have hM := met_of (b := b) (base := base) (D := D) (ct := ct) (scr := scr) (l := l) hlt hspr hok1 hsc hC'
    have hG : GoodIn GW (va_wsS (ow (mo mid)) ix (my n) (ccond n :: GW)) := goodIn_GW (by
      intro w hw
      unfold va_wsS at hw
      simp only [List.cons_append, List.nil_append, List.mem_cons] at hw
      rcases hw with rfl | rfl | rfl | rfl | hw
      · exact g1
      · exact g3
      · exact hic
      · exact hcc
      · exact hw)
    have hcw := va_cwS (R := R) (rm := ({ frames := mf n, cells := (mb n).1, slots := (mb n).2, locals := ml n } : Room)) (bytes := mc n) (maxL := mL n) (ret := mr n) (mp n) hts hG rfl rfl rfl ⟨hy1, hy2, g4⟩ ⟨by have := hrm.2.2.1; show mf n + 1 ≤ _; omega, by have := hrm.2.2.2; show 8 + (mL n + 11) + ml n ≤ _; omega⟩
    have hrun := va_runS (S := ⟨hx, hb, hml, hown, hts⟩) (hM := hM) (cw := hcw) (As := a.map (rv b base)) (rest := rest.map (rv b base)) (g := F0 m pc lsA ((a.reverse ++ rest).map (rv b base))) (p := p) (e := e) (m := m) (below := below) (meth := meth) (c := c) (H := H) (locs := locs) (cells := cells) (slots := slots) ⟨blind_pc b base D ct n _ h, pre_go fx cx hsz n _ (fun q => absurd q hpt)⟩ rfl (by rw [List.length_map]; omega) (LH_size hLH) (by simp) (lv_room (by have := sk4_sum (b := b) (base := base) (st := rest) hsk; omega)) hd ⟨by omega, by omega⟩
    refine call_go fx cx hrun (fun r h' _ hb => ?_) ⟨by omega, by omega⟩ (fun r h' H1 locs1 hQ cx1 => ?_)
    · rw [hb1, hb2] at hb ⊢
      exact Prod.ext (by show h'.2.1 = _; simp only [Nat.add_zero] at hb ⊢; omega) (by show h'.2.2 = _; simp only [Nat.add_zero] at hb ⊢; omega)
    · rw [hb1, hb2] at cx1 ⊢
      rw [rov_some hnv]
      exact kk r h' H1 locs1 hQ cx1
  · cases hk2
/-- a constructor -/
theorem sd_calli (fx : Fx b base D ct scr p R s m args meth c mid n0 s0 lim) (cx : Cx b base D ct scr s mid n0 s0 lim H locs cells slots lsA ls h) {pc n ci : Nat} {ks : List Nat} {d : Instr} {len : Nat} (hd : decode (mc mid) pc = .ok (d, len)) (hk : ckN mid n (ci :: ks) d len = true)
    {a rest : List PV} (hal : a.length = ks.length) (hrc : rcv a h ci) (hsk : sk4 rest) (hspw : (spr a).length = wsum ks) (hlim : h.2.1 + (mb n).1 ≤ lim.1 ∧ h.2.2 + (mb n).2 ≤ lim.2) {Q' : QT} (hC : SX n 0 (ent (mL n) a) [] h (h.2.1 + (mb n).1, h.2.2 + (mb n).2) Q')
    (hex : ∀ r h', Q' r h' → h'.2 = (h.2.1 + (mb n).1, h.2.2 + (mb n).2))
    (kk : ∀ (r : PV) (h' : Hp) (H1 : Heap) (locs1 : List Loc), Q' r h' → Cx b base D ct scr s mid n0 s0 lim H1 locs1 (cells + (mb n).1) (slots + (mb n).2) lsA ls h' → W p l e R s m args below meth c H1 locs1 (cells + (mb n).1) (slots + (mb n).2) Z (F0 m (pc + len) lsA (rest.map (rv b base)))) :
    W p l e R s m args below meth c H locs cells slots Z (F0 m pc lsA ((a.reverse ++ rest).map (rv b base))) := by
  unfold ckN at hk
  simp only [Bool.and_eq_true] at hk
  obtain ⟨⟨hk1, hk3⟩, hk2⟩ := hk
  obtain ⟨hrn, rfl, hlt, hlen, hfr, hlo, hin, hpt, hws⟩ := of_decide_eq_true hk1
  have hws : wsum ks ≤ mL n := hws
  obtain ⟨g3, g4, g5⟩ := ncond_of hk3
  obtain ⟨⟨hpl, hy1, hy2, hyo⟩, hcc, hic⟩ := my_all hlt
  obtain ⟨q0, a', fs, rfl, hq0⟩ := rcv_spec hrc
  obtain ⟨hx, hb, hml, hown, hts, hK, hrm, hs0, hnm, hXt, hscr⟩ := id fx
  obtain ⟨hLH, hP, hS, hok1, hcn1, hlm, hsc⟩ := id cx
  split at hk2
  · rename_i ix
    refine W_sz (fun hu => ?_)
    have hspr := Nat.le_trans (Nat.le_of_eq hspw) hws
    have hsz := Cx_size cx hs0 hu
    have hM := met_of (b := b) (base := base) (D := D) (ct := ct) (scr := scr) (l := l) hlt hspr hok1 hsc hC
    have hG : GoodIn GW (ccond n :: GW) := goodIn_GW (by
      intro w hw
      simp only [List.mem_cons] at hw
      rcases hw with rfl | hw
      · exact hcc
      · exact hw)
    have hn1 : (a'.map (rv b base)).length = mp n - 1 := by rw [List.length_map]; simp only [List.length_cons] at hal hlen; omega
    have hW1 : 2 * (F0 m pc lsA (((pR q0 :: a').reverse ++ rest).map (rv b base))).monitorRoom + ((rest.map (rv b base)).map fun v => v.category).sum ≤ 8 := lv_room (by have := sk4_sum (b := b) (base := base) (st := rest) hsk; omega)
    have hR : mf n + 1 ≤ R.frames ∧ 8 + (mL n + 11) + ml n ≤ R.locals := ⟨by have := hrm.2.2.1; omega, by have := hrm.2.2.2; omega⟩
    have hf : cells + (mb n).1 ≤ R.cells ∧ slots + (mb n).2 ≤ R.slots := ⟨by omega, by omega⟩
    have hrun : va_Run p l e R s m args below meth c H locs cells slots (mb n).1 (mb n).2 (F0 m pc lsA (((pR q0 :: a').reverse ++ rest).map (rv b base))) (rest.map (rv b base)) (qcM b base D ct scr n (h.2.1 + (mb n).1, h.2.2 + (mb n).2) h Q' (Value.ref (base + q0) :: a'.map (rv b base)).toArray) (fun q => base ≤ q) := by
      have hw0 : ccond n = Cond.code (my n) (mc n) (mL n) none := by
        unfold ccond
        rw [hrn]
      rw [hw0] at hM hG
      rcases (Bool.or_eq_true _ _).mp hk2 with hm1 | hm1
      · have g1 := mlk_of hm1
        have hcw := cwI (R := R) (rm := ({ frames := mf n, cells := (mb n).1, slots := (mb n).2, locals := ml n } : Room)) (bytes := mc n) (maxL := mL n) (mp n - 1) hts hG rfl rfl rfl (hts _ hic) (hts _ g1) (hts _ g3) hin ⟨hy1, hy2, g4⟩ hR
        exact va_runI (S := ⟨hx, hb, hml, hown, hts⟩) (hM := hM) (cw := hcw) ⟨blind_pc b base D ct n _ h, pre_go fx cx hsz n _ hpt⟩ rfl hn1 (LH_size hLH) (by simp [rv, pR]) hW1 hd hf
      · obtain ⟨hmid, how, hor⟩ := of_decide_eq_true hm1
        obtain ⟨-, x5, x6⟩ := hXt (Or.inl hmid)
        have hnw : va_Nw (.methodLinkNest (ow (mo mid)) ix (my n) RX6) s := by
          rcases hor with ⟨rfl, h9⟩ | ⟨rfl, h9⟩
          · rw [how, h9]; exact x5
          · rw [how, h9]; exact x6
        have hcw := va_cnB (R := R) (rm := ({ frames := mf n, cells := (mb n).1, slots := (mb n).2, locals := ml n } : Room)) (bytes := mc n) (maxL := mL n) (ret := none) (mp n - 1) hts hG rfl rfl rfl hnw (hts _ hic) ⟨hy1, hy2, g4⟩ hR
        exact va_runIN (S := ⟨hx, hb, hml, hown, hts⟩) (hM := hM) (cw := ⟨hcw, hin, hts _ g3⟩) ⟨blind_pc b base D ct n _ h, pre_go fx cx hsz n _ hpt⟩ rfl hn1 (LH_size hLH) (by simp [rv, pR]) hW1 hd hf
    refine call_go fx cx hrun (fun r h' hQ _ => hex r h' hQ) hlim (fun r h' H1 locs1 hQ cx1 => ?_)
    rw [rov_none hrn]
    exact kk r h' H1 locs1 hQ cx1
  · cases hk2
end CALL

set_option maxHeartbeats 4000000 in
/-- a block, walked by its pure sense, is walked by the machine -/
theorem snd_zx {mid : Nat} {lim : Nat × Nat} {Q : QT} : ∀ (is : List Ins) (pc : Nat) (ls st : List PV) (h : Hp), chk mid pc is = true → zx mb (fun pc ls st h => SX mid pc ls st h lim Q) (fun m' a h' l' Q' => SX m' 0 (ent (mL m') a) [] h' l' Q') lim Q is ls st h →
  ∀ (b base : Nat) (D : va_G) (ct : Nat → ClassId) (scr : Int × (Int → Int)) (p : Program) (l : Launch) (e : Env) (R : Room) (s : State) (m : MethodId) (args : Array Value) (below : List Frame) (meth : Method) (c : Code) (Z : State → Prop) (n0 s0 : Nat),
  Fx b base D ct scr p R s m args meth c mid n0 s0 lim →
  ∀ (H : Heap) (locs : List Loc) (cells slots : Nat) (lsA : Array Slot),
  Cx b base D ct scr s mid n0 s0 lim H locs cells slots lsA ls h →
  (∀ (pc' : Nat) (d : Instr) (r : PV) (h' : Hp) (ls' : List PV) (H' : Heap) (locs' : List Loc) (cells' slots' : Nat) (lsA' : Array Slot), decode (mc mid) pc' = .ok (d, 1) → isRet mid d r → Q r h' → Cx b base D ct scr s mid n0 s0 lim H' locs' cells' slots' lsA' ls' h' → W p l e R s m args below meth c H' locs' cells' slots' Z (F0 m pc' lsA' (rst b base mid r))) →
  W p l e R s m args below meth c H locs cells slots Z (F0 m pc lsA (st.map (rv b base)))
  | [], pc, ls, st, h, hck, hz => hz.elim
  | i :: is, pc, ls, st, h, hck, hz => by
    intro b base D ct scr p l e R s m args below meth c Z n0 s0 fx H locs cells slots lsA cx kr
    obtain ⟨op, n, z, ks⟩ := i
    unfold chk at hck
    unfold zx at hz
    dsimp only at hck hz
    split at hck
    · rename_i h89
      have e89 : op = 89 := Nat.eq_of_beq_eq_true h89
      subst e89
      have hpc := of_decide_eq_true hck
      subst hpc
      exact hz b base D ct scr p l e R s m args below meth c Z n0 s0 fx H locs cells slots lsA cx kr
    · rename_i h89
      split at hck
      · rename_i d len hd
        split at hck
        · rename_i hlt
          rw [hlt] at hz
          dsimp only at hz
          split at hck
          · rename_i k hk
            rw [Bool.and_eq_true] at hck
            split at hz
            · rename_i cd ls' st' h' hst
              obtain ⟨hcd, hz⟩ := hz
              unfold stp at hst
              dsimp only at hst
              split at hst
              · rename_i f hf
                exact so_all hf hk b base D ct scr p l e R s m args below meth c Z mid n0 s0 lim fx pc (op, n, z, ks) d len H locs cells slots lsA ls st h cd ls' st' h' hd hck.1 hst hcd cx (fun H' locs' cells' slots' lsA' cx' => snd_zx is (pc + len) ls' st' h' hck.2 hz b base D ct scr p l e R s m args below meth c Z n0 s0 fx H' locs' cells' slots' lsA' cx' kr)
              · cases hst
            · exact hz.elim
          · cases hck
        · rename_i hlt
          rw [hlt] at hz
          dsimp only at hz
          rw [Bool.and_eq_true] at hck
          obtain ⟨hck, hnx⟩ := hck
          have ih := fun (hn : isT op = false) (ls st : List PV) (h : Hp) => snd_zx (mid := mid) (lim := lim) (Q := Q) is (pc + len) ls st h (by rw [hn, Bool.false_or] at hnx; exact hnx)
          unfold ctl at hz
          dsimp only at hz
          split at hz
          · exact absurd h89 (by decide)
          · have hck : ckG pc n d len = true := hck
            unfold ckG at hck
            split at hck
            · obtain ⟨ht, rfl⟩ := of_decide_eq_true hck
              exact lv_goto fx.1 fx.2.1 hd ht (hz b base D ct scr p l e R s m args below meth c Z n0 s0 fx H locs cells slots lsA cx kr)
            · cases hck
          · split at hz
            · rename_i x st
              exact sd_if fx hd hck hz.1 (fun q => hz.2.1 q b base D ct scr p l e R s m args below meth c Z n0 s0 fx H locs cells slots lsA cx kr) (fun q => ih rfl ls st h (hz.2.2 q) b base D ct scr p l e R s m args below meth c Z n0 s0 fx H locs cells slots lsA cx kr)
            · exact hz.elim
          · split at hz
            · rename_i y x st
              exact sd_cmp fx hd hck hz.1.1 hz.1.2 (fun q => hz.2.1 q b base D ct scr p l e R s m args below meth c Z n0 s0 fx H locs cells slots lsA cx kr) (fun q => ih rfl ls st h (hz.2.2 q) b base D ct scr p l e R s m args below meth c Z n0 s0 fx H locs cells slots lsA cx kr)
            · exact hz.elim
          · split at hz
            · rename_i x st
              exact sd_tsw fx hd hck hz.1 (swt_mono (fun t q => q b base D ct scr p l e R s m args below meth c Z n0 s0 fx H locs cells slots lsA cx kr) _ _ _ _ hz.2)
            · exact hz.elim
          · split at hz
            · rename_i x st
              exact sd_lsw fx hd hck hz.1 (swl_mono (fun t q => q b base D ct scr p l e R s m args below meth c Z n0 s0 fx H locs cells slots lsA cx kr) _ _ _ hz.2)
            · exact hz.elim
          · split at hz
            · obtain ⟨rfl, rfl, hm⟩ := of_decide_eq_true hck
              have := kr pc _ pU h ls H locs cells slots lsA hd (Or.inl ⟨rfl, rfl, hm⟩) hz cx
              unfold rst at this
              rw [hm] at this
              exact this
            · exact hz.elim
          · split at hz
            · rename_i x
              obtain ⟨rfl, rfl, hm⟩ := of_decide_eq_true hck
              have := kr pc _ (pI x) h ls H locs cells slots lsA hd (Or.inr (Or.inl ⟨rfl, ⟨x, rfl⟩, hm⟩)) hz cx
              unfold rst at this
              rw [hm] at this
              exact this
            · exact hz.elim
          · split at hz
            · rename_i x
              obtain ⟨rfl, rfl, hm⟩ := of_decide_eq_true hck
              have := kr pc _ (pI x) h ls H locs cells slots lsA hd (Or.inr (Or.inr (Or.inl ⟨rfl, ⟨x, rfl, hz.1⟩, hm⟩))) hz.2 cx
              unfold rst at this
              rw [hm] at this
              exact this
            · exact hz.elim
          · split at hz
            · rename_i x
              obtain ⟨rfl, rfl, hm⟩ := of_decide_eq_true hck
              have := kr pc _ (pL x) h ls H locs cells slots lsA hd (Or.inr (Or.inr (Or.inr (Or.inl ⟨rfl, ⟨x, rfl⟩, hm⟩)))) hz cx
              unfold rst at this
              rw [hm] at this
              exact this
            · exact hz.elim
          · split at hz
            · rename_i x
              obtain ⟨rfl, rfl, hm⟩ := of_decide_eq_true hck
              have := kr pc _ (pF x) h ls H locs cells slots lsA hd (Or.inr (Or.inr (Or.inr (Or.inr (Or.inl ⟨rfl, ⟨x, rfl⟩, hm⟩))))) hz cx
              unfold rst at this
              rw [hm] at this
              exact this
            · exact hz.elim
          · split at hz
            · rename_i x
              obtain ⟨rfl, rfl, hm⟩ := of_decide_eq_true hck
              have := kr pc _ (pD x) h ls H locs cells slots lsA hd (Or.inr (Or.inr (Or.inr (Or.inr (Or.inr (Or.inl ⟨rfl, ⟨x, rfl⟩, hm⟩)))))) hz cx
              unfold rst at this
              rw [hm] at this
              exact this
            · exact hz.elim
          · split at hz
            · rename_i x
              have hck : (decide (d = .areturn ∧ len = 1) && (match mr mid with | some (.object _) => true | _ => false)) = true := hck
              rw [Bool.and_eq_true] at hck
              obtain ⟨rfl, rfl⟩ := of_decide_eq_true hck.1
              have hck2 := hck.2
              split at hck2
              · rename_i nn hm
                have := kr pc _ (pR x) h ls H locs cells slots lsA hd (Or.inr (Or.inr (Or.inr (Or.inr (Or.inr (Or.inr ⟨rfl, ⟨x, rfl⟩, ⟨nn, hm⟩⟩)))))) hz cx
                unfold rst at this
                rw [hm] at this
                exact this
              · cases hck2
            · exact hz.elim
          · split at hz
            · rename_i ci ks
              obtain ⟨a, rest, rfl, h2, h4, ⟨hrc, hsk⟩, Q', hC, hK⟩ := pk_spec _ _ _ hz
              rw [List.append_nil] at hrc hC
              have hck : (cko mid n (ci :: ks) d len && decide (mb n = (0, 0) ∧ ¬ mr n = none)) = true := hck
              rw [Bool.and_eq_true] at hck
              obtain ⟨hb0, hnv⟩ := of_decide_eq_true hck.2
              refine sd_callo fx cx hd hck.1 hb0 h2 hrc hsk h4 hC (fun r h' H1 locs1 hQ cx1 => ?_)
              rw [rov_some hnv]
              exact ih rfl ls (r :: rest) h' (hK r h' hQ) b base D ct scr p l e R s m args below meth c Z n0 s0 fx H1 locs1 cells slots lsA cx1 kr
            · exact hz.elim
          · split at hz
            · rename_i ci ks
              obtain ⟨a, rest, rfl, h2, h4, ⟨hrc, hsk⟩, Q', hC, hK⟩ := pk_spec _ _ _ hz
              rw [List.append_nil] at hrc hC
              have hck : (cko mid n (ci :: ks) d len && decide (mb n = (0, 0) ∧ mr n = none)) = true := hck
              rw [Bool.and_eq_true] at hck
              obtain ⟨hb0, hnv⟩ := of_decide_eq_true hck.2
              refine sd_callo fx cx hd hck.1 hb0 h2 hrc hsk h4 hC (fun r h' H1 locs1 hQ cx1 => ?_)
              rw [rov_none hnv]
              exact ih rfl ls rest h' (hK r h' hQ) b base D ct scr p l e R s m args below meth c Z n0 s0 fx H1 locs1 cells slots lsA cx1 kr
            · exact hz.elim
          · split at hz
            · rename_i ci ks
              obtain ⟨a, rest, rfl, h2, h4, ⟨hrc, hsk⟩, hlim, Q', hC, hK⟩ := pk_spec _ _ _ hz
              rw [List.append_nil] at hrc hC
              refine sd_calli fx cx hd hck h2 hrc hsk h4 hlim hC (fun r h' q => (hK r h' q).1) (fun r h' H1 locs1 hQ cx1 => ?_)
              exact ih rfl ls rest h' (hK r h' hQ).2 b base D ct scr p l e R s m args below meth c Z n0 s0 fx H1 locs1 _ _ lsA cx1 kr
            · exact hz.elim
          · obtain ⟨a, rest, rfl, h2, h4, hsk, Q', hC, hK⟩ := pk_spec _ _ _ hz
            rw [List.append_nil] at hC
            refine sd_calls fx cx hd hck h2 hsk h4 hC (fun r h' H1 locs1 hQ cx1 => ?_)
            exact ih rfl ls (r :: rest) h' (hK r h' hQ) b base D ct scr p l e R s m args below meth c Z n0 s0 fx H1 locs1 cells slots lsA cx1 kr
          · exact hz.elim
      · cases hck

def OPS : List (Nat × Sem × Ck) := [(1, s_iconst, k_iconst), (2, s_bipush, k_bipush), (3, s_sipush, k_sipush), (4, s_ldc, k_ldc), (5, s_lconst, k_lconst), (6, s_ldc2l, k_ldc2l), (7, s_dconst, k_dconst), (8, s_ldc2d, k_ldc2d), (9, s_ldcf, k_ldcf), (10, s_iload, k_iload), (11, s_lload, k_lload), (12, s_fload, k_fload), (13, s_dload, k_dload), (14, s_aload, k_aload), (15, s_istore, k_istore), (16, s_lstore, k_lstore), (17, s_fstore, k_fstore), (18, s_dstore, k_dstore), (19, s_astore, k_astore), (20, s_iinc, k_iinc), (21, s_iadd, k_iadd), (22, s_isub, k_isub), (23, s_imul, k_imul), (24, s_idiv, k_idiv), (25, s_irem, k_irem), (26, s_ishl, k_ishl), (27, s_ishr, k_ishr), (28, s_iand, k_iand), (29, s_ior, k_ior), (30, s_ixor, k_ixor), (32, s_ladd, k_ladd), (33, s_lsub, k_lsub), (34, s_lmul, k_lmul), (35, s_ldiv, k_ldiv), (36, s_lrem, k_lrem), (37, s_lshl, k_lshl), (38, s_lshr, k_lshr), (39, s_lor, k_lor), (40, s_land, k_land), (41, s_lcmp, k_lcmp), (42, s_i2l, k_i2l), (43, s_l2i, k_l2i), (44, s_i2b, k_i2b), (45, s_i2f, k_i2f), (46, s_l2f, k_l2f), (47, s_l2d, k_l2d), (48, s_f2d, k_f2d), (49, s_d2l, k_d2l), (50, s_fdiv, k_fdiv), (51, s_dadd, k_dadd), (52, s_dsub, k_dsub), (53, s_dmul, k_dmul), (54, s_ddiv, k_ddiv), (55, s_dcmp, k_dcmp), (56, s_fcmp, k_fcmp), (57, s_dup, k_dup), (58, s_pop, k_pop), (59, s_dup2, k_dup2), (60, s_getf, k_getf), (61, s_putf, k_putf), (62, s_iald, k_iald), (63, s_bald, k_bald), (64, s_zald, k_zald), (65, s_lald, k_lald), (66, s_dald, k_dald), (67, s_aald, k_aald), (68, s_iast, k_iast), (69, s_bast, k_bast), (70, s_zast, k_zast), (71, s_last, k_last), (72, s_dast, k_dast), (73, s_aast, k_aast), (74, s_alen, k_alen), (75, s_new, k_new), (76, s_newa, k_newa), (77, s_anew, k_anew), (78, s_objinit, k_objinit), (81, s_acopy, k_acopy), (82, s_rawF, k_rawF), (83, s_rawD, k_rawD), (84, s_sld, k_sld), (85, s_slen, k_slen)]
theorem OPS_sems : OPS.map (fun q => (q.1, q.2.1)) = SEMS := rfl
def CKT : List (Nat × Ck) := OPS.map (fun q => (q.1, q.2.2))
theorem OPS_so : ∀ q ∈ OPS, SOp q.2.1 q.2.2 := List.forall_mem_cons.mpr ⟨so_iconst, List.forall_mem_cons.mpr ⟨so_bipush, List.forall_mem_cons.mpr ⟨so_sipush, List.forall_mem_cons.mpr ⟨so_ldc, List.forall_mem_cons.mpr ⟨so_lconst, List.forall_mem_cons.mpr ⟨so_ldc2l, List.forall_mem_cons.mpr ⟨so_dconst, List.forall_mem_cons.mpr ⟨so_ldc2d, List.forall_mem_cons.mpr ⟨so_ldcf, List.forall_mem_cons.mpr ⟨so_iload, List.forall_mem_cons.mpr ⟨so_lload, List.forall_mem_cons.mpr ⟨so_fload, List.forall_mem_cons.mpr ⟨so_dload, List.forall_mem_cons.mpr ⟨so_aload, List.forall_mem_cons.mpr ⟨so_istore, List.forall_mem_cons.mpr ⟨so_lstore, List.forall_mem_cons.mpr ⟨so_fstore, List.forall_mem_cons.mpr ⟨so_dstore, List.forall_mem_cons.mpr ⟨so_astore, List.forall_mem_cons.mpr ⟨so_iinc, List.forall_mem_cons.mpr ⟨so_iadd, List.forall_mem_cons.mpr ⟨so_isub, List.forall_mem_cons.mpr ⟨so_imul, List.forall_mem_cons.mpr ⟨so_idiv, List.forall_mem_cons.mpr ⟨so_irem, List.forall_mem_cons.mpr ⟨so_ishl, List.forall_mem_cons.mpr ⟨so_ishr, List.forall_mem_cons.mpr ⟨so_iand, List.forall_mem_cons.mpr ⟨so_ior, List.forall_mem_cons.mpr ⟨so_ixor, List.forall_mem_cons.mpr ⟨so_ladd, List.forall_mem_cons.mpr ⟨so_lsub, List.forall_mem_cons.mpr ⟨so_lmul, List.forall_mem_cons.mpr ⟨so_ldiv, List.forall_mem_cons.mpr ⟨so_lrem, List.forall_mem_cons.mpr ⟨so_lshl, List.forall_mem_cons.mpr ⟨so_lshr, List.forall_mem_cons.mpr ⟨so_lor, List.forall_mem_cons.mpr ⟨so_land, List.forall_mem_cons.mpr ⟨so_lcmp, List.forall_mem_cons.mpr ⟨so_i2l, List.forall_mem_cons.mpr ⟨so_l2i, List.forall_mem_cons.mpr ⟨so_i2b, List.forall_mem_cons.mpr ⟨so_i2f, List.forall_mem_cons.mpr ⟨so_l2f, List.forall_mem_cons.mpr ⟨so_l2d, List.forall_mem_cons.mpr ⟨so_f2d, List.forall_mem_cons.mpr ⟨so_d2l, List.forall_mem_cons.mpr ⟨so_fdiv, List.forall_mem_cons.mpr ⟨so_dadd, List.forall_mem_cons.mpr ⟨so_dsub, List.forall_mem_cons.mpr ⟨so_dmul, List.forall_mem_cons.mpr ⟨so_ddiv, List.forall_mem_cons.mpr ⟨so_dcmp, List.forall_mem_cons.mpr ⟨so_fcmp, List.forall_mem_cons.mpr ⟨so_dup, List.forall_mem_cons.mpr ⟨so_pop, List.forall_mem_cons.mpr ⟨so_dup2, List.forall_mem_cons.mpr ⟨so_getf, List.forall_mem_cons.mpr ⟨so_putf, List.forall_mem_cons.mpr ⟨so_iald, List.forall_mem_cons.mpr ⟨so_bald, List.forall_mem_cons.mpr ⟨so_zald, List.forall_mem_cons.mpr ⟨so_lald, List.forall_mem_cons.mpr ⟨so_dald, List.forall_mem_cons.mpr ⟨so_aald, List.forall_mem_cons.mpr ⟨so_iast, List.forall_mem_cons.mpr ⟨so_bast, List.forall_mem_cons.mpr ⟨so_zast, List.forall_mem_cons.mpr ⟨so_last, List.forall_mem_cons.mpr ⟨so_dast, List.forall_mem_cons.mpr ⟨so_aast, List.forall_mem_cons.mpr ⟨so_alen, List.forall_mem_cons.mpr ⟨so_new, List.forall_mem_cons.mpr ⟨so_newa, List.forall_mem_cons.mpr ⟨so_anew, List.forall_mem_cons.mpr ⟨so_objinit, List.forall_mem_cons.mpr ⟨so_acopy, List.forall_mem_cons.mpr ⟨so_rawF, List.forall_mem_cons.mpr ⟨so_rawD, List.forall_mem_cons.mpr ⟨so_sld, List.forall_mem_cons.mpr ⟨so_slen, fun _ h => absurd h List.not_mem_nil⟩⟩⟩⟩⟩⟩⟩⟩⟩⟩⟩⟩⟩⟩⟩⟩⟩⟩⟩⟩⟩⟩⟩⟩⟩⟩⟩⟩⟩⟩⟩⟩⟩⟩⟩⟩⟩⟩⟩⟩⟩⟩⟩⟩⟩⟩⟩⟩⟩⟩⟩⟩⟩⟩⟩⟩⟩⟩⟩⟩⟩⟩⟩⟩⟩⟩⟩⟩⟩⟩⟩⟩⟩⟩⟩⟩⟩⟩⟩⟩⟩⟩
theorem lk_pair {β γ : Type} : ∀ (l : List (Nat × β × γ)) (k : Nat) (f : β) (g : γ), lk (l.map (fun q => (q.1, q.2.1))) k = some f → lk (l.map (fun q => (q.1, q.2.2))) k = some g → ∃ q ∈ l, q.2.1 = f ∧ q.2.2 = g
  | [], _, _, _, h, _ => by cases h
  | (a, b, c) :: l, k, f, g, h1, h2 => by
    simp only [List.map_cons, lk] at h1 h2
    by_cases e : a = k
    · rw [if_pos e] at h1 h2
      cases h1
      cases h2
      exact ⟨_, List.mem_cons_self, rfl, rfl⟩
    · rw [if_neg e] at h1 h2
      obtain ⟨q, hq, h3⟩ := lk_pair l k f g h1 h2
      exact ⟨q, List.mem_cons_of_mem _ hq, h3⟩
theorem so_all {op : Nat} {f : Sem} {k : Ck} (hf : lk SEMS op = some f) (hk : lk CKT op = some k) : SOp f k := by
  rw [← OPS_sems] at hf
  obtain ⟨q, hq, rfl, rfl⟩ := lk_pair OPS op f k hf hk
  exact OPS_so q hq
/-! the check of control: what is said of a branch, a switch, a return, a call is what stands in the code -/
def wsum : List Nat → Nat
  | [] => 0
  | k :: ks => (match wk k with
    | true => 2
    | false => 1) + wsum ks
def ckI (pc n : Nat) (z : Int) (d : Instr) (len : Nat) : Bool := match d with
  | .ifCond .eq o => decide ((pc : Int) + o = (n : Int) ∧ len = 3 ∧ z = 0)
  | .ifCond .ne o => decide ((pc : Int) + o = (n : Int) ∧ len = 3 ∧ z = 1)
  | .ifCond .lt o => decide ((pc : Int) + o = (n : Int) ∧ len = 3 ∧ z = 2)
  | .ifCond .ge o => decide ((pc : Int) + o = (n : Int) ∧ len = 3 ∧ z = 3)
  | .ifCond .gt o => decide ((pc : Int) + o = (n : Int) ∧ len = 3 ∧ z = 4)
  | .ifCond .le o => decide ((pc : Int) + o = (n : Int) ∧ len = 3 ∧ z = 5)
  | _ => false
def ckM (pc n : Nat) (z : Int) (d : Instr) (len : Nat) : Bool := match d with
  | .if_icmp .eq o => decide ((pc : Int) + o = (n : Int) ∧ len = 3 ∧ z = 0)
  | .if_icmp .ne o => decide ((pc : Int) + o = (n : Int) ∧ len = 3 ∧ z = 1)
  | .if_icmp .lt o => decide ((pc : Int) + o = (n : Int) ∧ len = 3 ∧ z = 2)
  | .if_icmp .ge o => decide ((pc : Int) + o = (n : Int) ∧ len = 3 ∧ z = 3)
  | .if_icmp .gt o => decide ((pc : Int) + o = (n : Int) ∧ len = 3 ∧ z = 4)
  | .if_icmp .le o => decide ((pc : Int) + o = (n : Int) ∧ len = 3 ∧ z = 5)
  | _ => false
def ckT (pc n : Nat) (z : Int) (ks : List Nat) (d : Instr) : Bool := match d with
  | .tableswitch dflt lo hi offs => decide ((pc : Int) + dflt = (n : Int) ∧ lo = z ∧ hi = lo + (ks.length : Int) - 1 ∧ offs.toList.map (fun o => (pc : Int) + o) = ks.map (fun t : Nat => (t : Int)))
  | _ => false
def ckL (pc n : Nat) (ks : List Nat) (d : Instr) : Bool := match d with
  | .lookupswitch dflt ps => decide ((pc : Int) + dflt = (n : Int) ∧ (ps.toList.zip (ps.toList.drop 1)).all (fun (a, next) => a.1 < next.1) = true ∧ ps.toList.flatMap (fun q => [q.1, (pc : Int) + q.2]) = ks.map (fun t : Nat => (t : Int)))
  | _ => false
def ckG (pc n : Nat) (d : Instr) (len : Nat) : Bool := match d with
  | .goto o => decide ((pc : Int) + o = (n : Int) ∧ len = 3)
  | _ => false
def cko (mid n : Nat) (ks : List Nat) (d : Instr) (len : Nat) : Bool := decide (len = 3 ∧ n < LAWM ∧ ks.length = mp n + 1 ∧ mf n + 1 ≤ mf mid ∧ 8 + (mL n + 11) + ml n ≤ ml mid ∧ ¬ n = PTIM) && (match d with
    | .invokevirtual ix => MLK.any (fun q => decide (q.2 = (mo mid, ix, n))) && VCT.any (fun q => decide (q.2 = n)) && NCT.any (fun q => decide (q.2 = n))
    | _ => false) && (match ks with
    | ci :: ks => decide (ci < 7 ∧ clR ci = (my n).cls ∧ wsum ks ≤ mL n)
    | [] => false)
def ckN (mid n : Nat) (ks : List Nat) (d : Instr) (len : Nat) : Bool := decide (mr n = none ∧ len = 3 ∧ n < LAWM ∧ ks.length = mp n + 1 ∧ mf n + 1 ≤ mf mid ∧ 8 + (mL n + 11) + ml n ≤ ml mid ∧ (my n).name = "<init>" ∧ (n = PTIM → mid = LAWM) ∧ wsum ks.tail ≤ mL n) && NCT.any (fun q => decide (q.2 = n)) && (match d with
    | .invokespecial ix => MLK.any (fun q => decide (q.2 = (mo mid, ix, n))) || decide (mid = PTIM ∧ ow (mo mid) = RX6 ∧ ((ix = 78 ∧ my n = yX1_init) ∨ (ix = 79 ∧ my n = yX4_init)))
    | _ => false)
def ckS (mid n : Nat) (ks : List Nat) (d : Instr) (len : Nat) : Bool := decide (len = 3 ∧ n < LAWM ∧ ks.length = mp n ∧ mf n + 1 ≤ mf mid ∧ 8 + (mL n + 11) + ml n ≤ ml mid ∧ ¬ n = PTIM ∧ mb n = (0, 0) ∧ ¬ mr n = none ∧ wsum ks ≤ mL n) && (match d with
    | .invokestatic ix => MLK.any (fun q => decide (q.2 = (mo mid, ix, n))) && SCT.any (fun q => decide (q.2 = n))
    | _ => false)
def ckc (mid pc : Nat) (i : Ins) (d : Instr) (len : Nat) : Bool := match i.1 with
  | 90 => ckG pc i.2.1 d len
  | 91 => ckI pc i.2.1 i.2.2.1 d len
  | 92 => ckM pc i.2.1 i.2.2.1 d len
  | 93 => ckT pc i.2.1 i.2.2.1 i.2.2.2 d
  | 94 => ckL pc i.2.1 i.2.2.2 d
  | 95 => decide (d = .return_ ∧ len = 1 ∧ mr mid = none)
  | 96 => decide (d = .ireturn ∧ len = 1 ∧ mr mid = some .int)
  | 97 => decide (d = .ireturn ∧ len = 1 ∧ mr mid = some .boolean)
  | 98 => decide (d = .lreturn ∧ len = 1 ∧ mr mid = some .long)
  | 99 => decide (d = .freturn ∧ len = 1 ∧ mr mid = some .float)
  | 100 => decide (d = .dreturn ∧ len = 1 ∧ mr mid = some .double)
  | 101 => decide (d = .areturn ∧ len = 1) && (match mr mid with
    | some (.object _) => true
    | _ => false)
  | 110 => cko mid i.2.1 i.2.2.2 d len && decide (mb i.2.1 = (0, 0) ∧ ¬ mr i.2.1 = none)
  | 111 => cko mid i.2.1 i.2.2.2 d len && decide (mb i.2.1 = (0, 0) ∧ mr i.2.1 = none)
  | 112 => ckN mid i.2.1 i.2.2.2 d len
  | 113 => ckS mid i.2.1 i.2.2.2 d len
  | _ => false
def isT (op : Nat) : Bool := Nat.blt 92 op && Nat.blt op 102 || Nat.beq op 90
def chk (mid : Nat) : Nat → List Ins → Bool
  | _, [] => false
  | pc, i :: is => match Nat.beq i.1 89 with
    | true => decide (i.2.1 = pc)
    | false => (match decode (mc mid) pc with
      | .ok (d, len) => (match Nat.blt i.1 86 with
        | true => (match lk CKT i.1 with
          | some k => k mid pc i d len && chk mid (pc + len) is
          | none => false)
        | false => ckc mid pc i d len && (isT i.1 || chk mid (pc + len) is))
      | .error _ => false)
def chkM (mid : Nat) : Bool := (BT.getD mid []).all (fun q => chk mid q.1 q.2)
/-! what holds of a method that is called -/
theorem Met.ofWF {l : Launch} {y : MethodName} {ws ws' : List Cond} {rm : Room} {Pc : Array Value → State → Prop} {Qc : Array Value → State → Outcome → State → Prop} {mc ms : Nat} {free : Addr → Prop} {cc : ByteArray} {maxL : Nat} {ret : Option FieldType}
    (hy : plainFor y = true) (hw : ws = Cond.code y cc maxL ret :: ws')
    (body : ∀ p e s m args below meth c s₁, BodyLoose p l y (headSpec ws rm) cc maxL ret e s m args below meth c s₁ → c.maxLocals = maxL → Pc args s →
      W p l e (headSpec ws rm).room s m args below meth c s.heap [] 0 0 (MQ below Qc args s mc ms free) (entryFrame m args maxL)) : Met l y ws rm Pc Qc mc ms free := by
  refine MetFree.of_bodySF (code := cc) (maxLocals := maxL) (ret := ret) hy ?_ ?_
  · intro args s m h hn
    obtain ⟨meth, c, h1, h2, h3, h4, h5, h6, -, -⟩ := Cond.code_spec hn (atoms_spec (ws := ws) h _ (by rw [hw]; exact List.mem_cons_self))
    exact ⟨meth, c, h1, h2, h3, h4, h5, h6⟩
  · intro p e s m args below meth c s₁ B hml hP _
    have hh0 : s₁.heap = s.heap := by rw [B.state]; rfl
    obtain ⟨t, a1, o, b1, b2, b3⟩ := body p e s m args below meth c s₁ B hml hP s₁ hh0 (Stand.of_body B)
    exact ⟨t, o, a1, b1, b2, ⟨b3.1, b3.2⟩⟩
theorem MY_all : ((List.range LAWM).all (fun n => decide (plainFor (my n) = true ∧ (my n).cls ≠ "java/lang/invoke/MethodHandle" ∧ (my n).cls ≠ "java/lang/invoke/VarHandle" ∧ (my n).cls = ow (mo n)) && CCT.any (fun q => decide (q.2 = n)) && ICT.any (fun q => decide (q.2 = n)))) = true := by decide +kernel
theorem MP_v : NCT.all (fun q => decide ((parseMethodDescriptor (my q.2).desc).map (fun d => d.parameters.length) = some (mp q.2 - 1) ∧ 1 ≤ mp q.2)) = true := by decide +kernel
theorem MP_s : SCT.all (fun q => decide ((parseMethodDescriptor (my q.2).desc).map (fun d => d.parameters.length) = some (mp q.2))) = true := by decide +kernel
theorem any_in {α : Type} {f : α → Cond} {l : List (Nat × α)} (hl : ∀ q ∈ l, f q.2 ∈ GW) {P : α → Prop} {a : α} (hd : ∀ x, P x → x = a) {dp : Nat × α → Bool} (hdp : ∀ q, dp q = true → P q.2) (h : l.any dp = true) : f a ∈ GW := by
  obtain ⟨q, hq, he⟩ := List.any_eq_true.mp h
  have := hl q hq
  rwa [hd _ (hdp q he)] at this
theorem my_all {n : Nat} (h : n < LAWM) : (plainFor (my n) = true ∧ (my n).cls ≠ "java/lang/invoke/MethodHandle" ∧ (my n).cls ≠ "java/lang/invoke/VarHandle" ∧ (my n).cls = ow (mo n)) ∧ ccond n ∈ GW ∧ icond n ∈ GW := by
  have h1 := List.all_eq_true.mp MY_all n (List.mem_range.mpr h)
  simp only [Bool.and_eq_true] at h1
  exact ⟨of_decide_eq_true h1.1.1, any_in CCT_in (P := fun x => x = n) (fun _ h => h) (fun q h => of_decide_eq_true h) h1.1.2, any_in ICT_in (P := fun x => x = n) (fun _ h => h) (fun q h => of_decide_eq_true h) h1.2⟩
theorem ncond_of {n : Nat} (h : NCT.any (fun q => decide (q.2 = n)) = true) : ncond n ∈ GW ∧ (parseMethodDescriptor (my n).desc).map (fun d => d.parameters.length) = some (mp n - 1) ∧ 1 ≤ mp n := by
  refine ⟨any_in NCT_in (P := fun x => x = n) (fun _ h => h) (fun q h => of_decide_eq_true h) h, ?_⟩
  obtain ⟨q, hq, he⟩ := List.any_eq_true.mp h
  have h2 := of_decide_eq_true (List.all_eq_true.mp MP_v q hq)
  rwa [of_decide_eq_true he] at h2
theorem scond_of {n : Nat} (h : SCT.any (fun q => decide (q.2 = n)) = true) : scond n ∈ GW ∧ (parseMethodDescriptor (my n).desc).map (fun d => d.parameters.length) = some (mp n) := by
  refine ⟨any_in SCT_in (P := fun x => x = n) (fun _ h => h) (fun q h => of_decide_eq_true h) h, ?_⟩
  obtain ⟨q, hq, he⟩ := List.any_eq_true.mp h
  have h2 := of_decide_eq_true (List.all_eq_true.mp MP_s q hq)
  rwa [of_decide_eq_true he] at h2
theorem mlk_of {mid ix n : Nat} (h : MLK.any (fun q => decide (q.2 = (mo mid, ix, n))) = true) : Cond.methodLink (ow (mo mid)) ix (my n) ∈ GW := any_in (f := mcond) MLK_in (P := fun x => x = (mo mid, ix, n)) (fun _ h => h) (fun q h => of_decide_eq_true h) h
theorem vcond_of {n : Nat} (h : VCT.any (fun q => decide (q.2 = n)) = true) : vcond n ∈ GW := any_in VCT_in (P := fun x => x = n) (fun _ h => h) (fun q h => of_decide_eq_true h) h
/-! soundness -/
def isRet (mid : Nat) (d : Instr) (r : PV) : Prop := (d = .return_ ∧ r = pU ∧ mr mid = none) ∨ (d = .ireturn ∧ (∃ x, r = pI x) ∧ mr mid = some .int) ∨ (d = .ireturn ∧ (∃ x, r = pI x ∧ (x = 0 ∨ x = 1)) ∧ mr mid = some .boolean) ∨ (d = .lreturn ∧ (∃ x, r = pL x) ∧ mr mid = some .long) ∨ (d = .freturn ∧ (∃ x, r = pF x) ∧ mr mid = some .float) ∨ (d = .dreturn ∧ (∃ x, r = pD x) ∧ mr mid = some .double) ∨ (d = .areturn ∧ (∃ x, r = pR x) ∧ ∃ n, mr mid = some (.object n))
def rov (b base mid : Nat) (r : PV) : Option Value := match mr mid with
  | none => none
  | some _ => some (rv b base r)
def rst (b base mid : Nat) (r : PV) : List Value := match mr mid with
  | none => []
  | some _ => [rv b base r]
def SX : XT := fun mid pc ls st h lim Q =>
  ∀ (b base : Nat) (D : va_G) (ct : Nat → ClassId) (scr : Int × (Int → Int)) (p : Program) (l : Launch) (e : Env) (R : Room) (s : State) (m : MethodId) (args : Array Value) (below : List Frame) (meth : Method) (c : Code) (Z : State → Prop) (n0 s0 : Nat),
  Fx b base D ct scr p R s m args meth c mid n0 s0 lim →
  ∀ (H : Heap) (locs : List Loc) (cells slots : Nat) (lsA : Array Slot),
  Cx b base D ct scr s mid n0 s0 lim H locs cells slots lsA ls h →
  (∀ (pc' : Nat) (d : Instr) (r : PV) (h' : Hp) (ls' : List PV) (H' : Heap) (locs' : List Loc) (cells' slots' : Nat) (lsA' : Array Slot), decode (mc mid) pc' = .ok (d, 1) → isRet mid d r → Q r h' → Cx b base D ct scr s mid n0 s0 lim H' locs' cells' slots' lsA' ls' h' → W p l e R s m args below meth c H' locs' cells' slots' Z (F0 m pc' lsA' (rst b base mid r))) →
  W p l e R s m args below meth c H locs cells slots Z (F0 m pc lsA (st.map (rv b base)))
/-- a method's start and end, by the pure heap -/
def pcM (b base : Nat) (D : va_G) (ct : Nat → ClassId) (mid : Nat) (a : List PV) (h : Hp) : Array Value → State → Prop := va_Pc (a.map (rv b base)) (fun U => U.heap.size = base + h.2.1 ∧ va_P D CL (wl b base ct h) U.heap ∧ va_K D CL (tys ct) U ∧ (mid = PTIM → Xtra U))
def qcM (b base : Nat) (D : va_G) (ct : Nat → ClassId) (scr : Int × (Int → Int)) (mid : Nat) (lim : Nat × Nat) (h : Hp) (Q : QT) : Array Value → State → Outcome → State → Prop := fun _ st oc t =>
  (∃ (r : PV) (h' : Hp), oc = .returned (rov b base mid r) ∧ Q r h' ∧ hok h' ∧ va_P D CL (wl b base ct h') t.heap ∧ (h.2.1 ≤ h'.2.1 ∧ h.2.2 ≤ h'.2.2 ∧ h'.2.1 ≤ lim.1 ∧ h'.2.2 ≤ lim.2) ∧ h'.1.2 = scr) ∧ va_F (fun q => base ≤ q) st t
theorem blind_pc (b base : Nat) (D : va_G) (ct : Nat → ClassId) (mid : Nat) (a : List PV) (h : Hp) : FrameBlind (pcM b base D ct mid a h) := by
  intro a' U g mk q
  obtain ⟨q0, q1, qP, qK, qX⟩ := q
  refine ⟨q0, q1, qP, va_K.moved (u := U) (U := U.calling g mk a') (Vm.Alike.refl U.vm) qK, fun e => ?_⟩
  obtain ⟨⟨x1, x2, x3, x4⟩, x5, x6⟩ := qX e
  exact ⟨⟨va_AO.moved (u := U) (Vm.Alike.refl U.vm) x1, va_AO.moved (u := U) (Vm.Alike.refl U.vm) x2, va_AO.moved (u := U) (Vm.Alike.refl U.vm) x3, va_AO.moved (u := U) (Vm.Alike.refl U.vm) x4⟩, va_Nw.same (u := U) rfl rfl x5, va_Nw.same (u := U) rfl rfl x6⟩
set_option maxHeartbeats 4000000 in
theorem met_of {b base : Nat} {D : va_G} {ct : Nat → ClassId} {scr : Int × (Int → Int)} {l : Launch} {mid : Nat} {a : List PV} {h : Hp} {Q : QT} (hm : mid < LAWM) (hspr : (spr a).length ≤ mL mid) (hok1 : hok h) (hsc : h.1.2 = scr)
    (H : SX mid 0 (ent (mL mid) a) [] h (h.2.1 + (mb mid).1, h.2.2 + (mb mid).2) Q) :
    Met l (my mid) (ccond mid :: GW) ({ frames := mf mid, cells := (mb mid).1, slots := (mb mid).2, locals := ml mid } : Room) (pcM b base D ct mid a h) (qcM b base D ct scr mid (h.2.1 + (mb mid).1, h.2.2 + (mb mid).2) h Q) (mb mid).1 (mb mid).2 (fun q => base ≤ q) := by
  obtain ⟨⟨hpl, hy1, hy2, hyo⟩, hcc, hic⟩ := my_all hm
  refine Met.ofWF (cc := mc mid) (maxL := mL mid) (ret := mr mid) hpl rfl ?_
  intro p e s m args below meth c s₁ B hml hv
  obtain ⟨rfl, hsz, hP, hK, hX⟩ := hv
  have hx := B.exec
  have hb := B.bytes
  have hr := B.returns
  have hlocks := B.notSynchronized
  have hts0 := atoms_spec (ws := ccond mid :: GW) B.pre
  have hts : ∀ w ∈ GW, w.before (a.map (rv b base)).toArray s = true := fun w h => hts0 w (List.mem_cons_of_mem _ h)
  have hown : s.vm.findClass (ow (mo mid)) = some m.cls := by rw [← hyo]; exact findClass_of_methodNamed B.named
  have hnm := (name_of_methodNamed B.named B.method).1
  rw [lg_entry_eq]
  have hne : ¬ mid = LAWM := by omega
  refine H b base D ct scr p l e _ s m _ below meth c _ h.2.1 h.2.2 ⟨hx, hb, hml, hown, hts, hK, ⟨Nat.le_refl _, Nat.le_refl _, Nat.le_refl _, Nat.le_refl _⟩, hsz, fun q => hnm.trans q, fun q => hX (q.elim id (fun q => absurd q hne)), fun q => absurd q hne⟩ s.heap [] 0 0 _ ⟨LH_ent hspr, hP, va_S.rf, hok1, ⟨Nat.zero_add _, Nat.zero_add _⟩, ⟨Nat.le_add_right _ _, Nat.le_add_right _ _⟩, hsc⟩ ?_
  intro pc' d r h' ls' H' locs' cells' slots' lsA' hd hret hQ cx
  obtain ⟨hL, hP', hS', hok', hcn, hlm, hsc'⟩ := cx
  refine W.widen (k := (mb mid).1) (n := (mb mid).2) (by omega) (by omega) ?_
  have hend : ∀ (t : State) (ov : Option Value), t.heap = H' → ov = rov b base mid r → qcM b base D ct scr mid (h.2.1 + (mb mid).1, h.2.2 + (mb mid).2) h Q (a.map (rv b base)).toArray s (.returned ov) t := by
    intro t ov ht hov
    refine ⟨⟨r, h', by rw [hov], hQ, hok', by rw [ht]; exact hP', ⟨by omega, by omega, hlm⟩, hsc'⟩, hS'.F ht⟩
  rcases hret with ⟨rfl, rfl, hm1⟩ | ⟨rfl, ⟨x, rfl⟩, hm1⟩ | ⟨rfl, ⟨x, rfl, h01⟩, hm1⟩ | ⟨rfl, ⟨x, rfl⟩, hm1⟩ | ⟨rfl, ⟨x, rfl⟩, hm1⟩ | ⟨rfl, ⟨x, rfl⟩, hm1⟩ | ⟨rfl, ⟨x, rfl⟩, ⟨nn, hm1⟩⟩
  · unfold rst
    rw [hm1]
    exact W.vret hx hb (hr.trans hm1) (fun t ht hW => hend t _ ht (by unfold rov; rw [hm1])) hS'.2.2 hd hlocks
  · unfold rst
    rw [hm1]
    exact W.iret (v := Int32.ofInt x) hx hb (hr.trans hm1) (fun t ht hW => hend t _ ht (by unfold rov; rw [hm1]; rfl)) hS'.2.2 hd hlocks
  · unfold rst
    rw [hm1]
    exact W.zret (v := Int32.ofInt x) hx hb (hr.trans hm1) (by rcases h01 with rfl | rfl <;> decide) (fun t ht hW => hend t _ ht (by unfold rov; rw [hm1]; rfl)) hS'.2.2 hd hlocks
  · unfold rst
    rw [hm1]
    exact W.lret (v := Int64.ofInt x) hx hb (hr.trans hm1) (fun t ht hW => hend t _ ht (by unfold rov; rw [hm1]; rfl)) hS'.2.2 hd hlocks
  · unfold rst
    rw [hm1]
    exact W.fret (v := x) hx hb (hr.trans hm1) (fun t ht hW => hend t _ ht (by unfold rov; rw [hm1]; rfl)) hS'.2.2 hd hlocks
  · unfold rst
    rw [hm1]
    exact W.dret (v := x) hx hb (hr.trans hm1) (fun t ht hW => hend t _ ht (by unfold rov; rw [hm1]; rfl)) hS'.2.2 hd hlocks
  · unfold rst
    rw [hm1]
    exact W.aret (v := .ref (base + x)) hx hb (hr.trans hm1) (Or.inl ⟨nn, rfl⟩) (Or.inr ⟨_, rfl⟩) (fun t ht hW => hend t _ ht (by unfold rov; rw [hm1]; rfl)) hS'.2.2 hd hlocks

/-! the model: places 87 to 111 -/
def MO (h : Hp) (fi : Int) (m Q wd ts wc : Nat) (re tm tr ph fu : Int) : Prop := hg h 87 = some (cO 6 [pI fi, pI m, pI Q, pI wd, pR 88, pR 89, pR 90, pR 91, pR 92, pR 93, pR 94, pR 95, pR 96, pR 97, pR 98, pR 99, pR 100, pI ts, pR 101, pI wc, pI re, pR 102, pI tm, pI tr, pR 103, pI ph, pR 104, pI fu, pR 105, pR 106, pR 107, pR 108, pR 109, pR 110, pR 111])
def fuK (kp : Int → Int) : Int := kp 0 + 2 * kp 1 + 4 * kp 2 + 8 * kp 3
def MWt (h : Hp) (wf : Int → Int) : Prop := ∃ f, hg h 88 = some (cI 0 15 f) ∧ ∀ i : Int, 0 ≤ i → i < 15 → f i = wf i
def MTa (h : Hp) (le sp nu sn wo ro no lv : Int → Int) : Prop := hg h 89 = some (cI 0 768 le) ∧ hg h 90 = some (cI 2 768 sp) ∧ hg h 91 = some (cI 3 768 nu) ∧ hg h 92 = some (cI 0 768 sn) ∧ hg h 93 = some (cI 0 768 wo) ∧ hg h 94 = some (cI 0 6144 ro) ∧ hg h 95 = some (cI 0 6 no) ∧ hg h 96 = some (cI 0 6 lv)
def bI (b : Bool) : Int := match b with
  | true => 1
  | false => 0
/-- a row of nodes from a place on -/
def MT0 (le sp nu ro : Int → Int) (b : Nat) (L : List Nd) (ν : Nat → Nat → Int) : Prop := ∀ (i : Nat) (x : Nd), L[i]? = some x → le ((128 * b + i : Nat) : Int) = (x.1 : Int) ∧ sp ((128 * b + i : Nat) : Int) = bI x.2.2 ∧ nu ((128 * b + i : Nat) : Int) = ν x.1 x.2.1 ∧ ∀ j : Nat, j < x.1 → ro ((8 * (128 * b + i) + j : Nat) : Int) = (dg x.1 x.2.1 j : Int)
def MT1 (sn wo : Int → Int) (b : Nat) (m : Nat) (S : Nat → Nat → Bool) (L : List Nd) : Prop := ∀ (i : Nat) (x : Nd), L[i]? = some x → sn ((128 * b + i : Nat) : Int) = (szN m S x.1 x.2.1 : Int) ∧ wo ((128 * b + i : Nat) : Int) = (match x.2.2 with
  | true => -1
  | false => (rkn L i : Int))
def MTr (le sp nu sn wo ro no lv : Int → Int) (b : Nat) (m : Nat) (φ ν : Nat → Nat → Int) (k : Nat) : Prop := no b = ((1 + k * m : Nat) : Int) ∧ lv b = ((1 + k * (m - 1) : Nat) : Int) ∧ MT0 le sp nu ro b (TK m φ k) ν ∧ MT1 sn wo b m (SK m φ k) (TK m φ k)
def MTs (h : Hp) (m Q wd : Nat) (wf : Int → Int) : Prop := ∃ le sp nu sn wo ro no lv, MTa h le sp nu sn wo ro no lv ∧ ∀ q : Nat, q < Q → MTr le sp nu sn wo ro no lv q m (scF Q q wf) (numF Q q wf) (KK m wd)
def MSc (h : Hp) : Prop := (∃ f, hg h 97 = some (cD 3 f)) ∧ (∃ f, hg h 98 = some (cD 3 f)) ∧ (∃ f, hg h 99 = some (cD 9 f)) ∧ (∃ f, hg h 102 = some (cI 0 80 f)) ∧ (∃ f, hg h 103 = some (cI 0 80 f)) ∧ (∃ f, hg h 104 = some (cI 0 80 f)) ∧ (∃ f, hg h 109 = some (cI 0 60 f))
def MTx (h : Hp) (ts : Nat) (tx : Int → Int) (wc : Nat) (co : Int → Int) : Prop := (∃ f, hg h 100 = some (cI 0 80 f) ∧ ∀ i : Int, 0 ≤ i → i < ts → f i = tx i) ∧ (∃ f, hg h 101 = some (cI 0 80 f) ∧ ∀ i : Int, 0 ≤ i → i < wc → f i = co i)
def slA (f : Int → Int) (s : Int) (x : Nat × Nat × Nat × (Int → Int)) : Prop := (f (18 * s) = (x.1 : Int) ∧ f (18 * s + 1) = (x.2.1 : Int) ∧ f (18 * s + 2) = (x.2.2.1 : Int)) ∧ ∀ k : Int, 0 ≤ k → k < 15 → f (18 * s + 3 + k) = x.2.2.2 k
def MSl (h : Hp) (kp : Int → Int) (sl : Int → Nat × Nat × Nat × (Int → Int)) : Prop := ∃ f, hg h 105 = some (cI 0 72 f) ∧ ∀ s : Int, 0 ≤ s → s < 4 → kp s = 1 → slA f s (sl s)
def MCr (h : Hp) (cf cs : Int → Int) (cd cl cc : Int → Int → Int) : Prop := ∃ f g p, hg h 106 = some (cI 0 4 f) ∧ hg h 107 = some (cI 0 4 g) ∧ hg h 108 = some (cI 0 240 p) ∧ (∀ c : Int, 0 ≤ c → c < 4 → (f c = (if cs c = -1 then -1 else cf c) ∧ (cs c ≠ -1 → g c = cs c)) ∧ ∀ i : Int, 0 ≤ i → i < 20 → (i < cs c → p (60 * c + 3 * i) = cd c i) ∧ p (60 * c + 3 * i + 1) = cl c i ∧ p (60 * c + 3 * i + 2) = cc c i) ∧ ∀ c : Int, 0 ≤ c → c < 4 → -1 ≤ g c ∧ g c ≤ 20
def MSh (h : Hp) (ss : Int → Int) (sb : Int → Int → Int) : Prop := ∃ f p, hg h 110 = some (cI 0 2 f) ∧ hg h 111 = some (cI 0 160 p) ∧ ∀ s : Int, 0 ≤ s → s < 2 → f s = ss s ∧ ∀ i : Int, 0 ≤ i → i < ss s → p (80 * s + i) = sb s i
theorem MO_fr {h h' : Hp} {fi : Int} {m Q wd ts wc : Nat} {re tm tr ph fu : Int} (a : MO h fi m Q wd ts wc re tm tr ph fu) (f : Sm h h' 87 88) : MO h' fi m Q wd ts wc re tm tr ph fu := (f 87 (by omega) (by omega)).trans a
theorem MWt_fr {h h' : Hp} {wf : Int → Int} (a : MWt h wf) (f : Sm h h' 88 89) : MWt h' wf := by
  obtain ⟨g, a, b⟩ := a
  exact ⟨g, (f 88 (by omega) (by omega)).trans a, b⟩
theorem MTa_fr {h h' : Hp} {le sp nu sn wo ro no lv : Int → Int} (a : MTa h le sp nu sn wo ro no lv) (f : Sm h h' 89 97) : MTa h' le sp nu sn wo ro no lv := by
  obtain ⟨a0, a1, a2, a3, a4, a5, a6, a7⟩ := a
  exact ⟨(f _ (by omega) (by omega)).trans a0, (f _ (by omega) (by omega)).trans a1, (f _ (by omega) (by omega)).trans a2, (f _ (by omega) (by omega)).trans a3, (f _ (by omega) (by omega)).trans a4, (f _ (by omega) (by omega)).trans a5, (f _ (by omega) (by omega)).trans a6, (f _ (by omega) (by omega)).trans a7⟩
theorem MTs_fr {h h' : Hp} {m Q wd : Nat} {wf : Int → Int} (a : MTs h m Q wd wf) (f : Sm h h' 89 97) : MTs h' m Q wd wf := by
  obtain ⟨le, sp, nu, sn, wo, ro, no, lv, a, b⟩ := a
  exact ⟨le, sp, nu, sn, wo, ro, no, lv, MTa_fr a f, b⟩
theorem MSc_fr {h h' : Hp} (a : MSc h) (f : Sm h h' 97 100) (g : Sm h h' 102 105) (k : Sm h h' 109 110) : MSc h' := by
  obtain ⟨⟨f1, a1⟩, ⟨f2, a2⟩, ⟨f3, a3⟩, ⟨f4, a4⟩, ⟨f5, a5⟩, ⟨f6, a6⟩, ⟨f7, a7⟩⟩ := a
  exact ⟨⟨f1, (f _ (by omega) (by omega)).trans a1⟩, ⟨f2, (f _ (by omega) (by omega)).trans a2⟩, ⟨f3, (f _ (by omega) (by omega)).trans a3⟩, ⟨f4, (g _ (by omega) (by omega)).trans a4⟩, ⟨f5, (g _ (by omega) (by omega)).trans a5⟩, ⟨f6, (g _ (by omega) (by omega)).trans a6⟩, ⟨f7, (k _ (by omega) (by omega)).trans a7⟩⟩
theorem MTx_fr {h h' : Hp} {ts : Nat} {tx : Int → Int} {wc : Nat} {co : Int → Int} (a : MTx h ts tx wc co) (f : Sm h h' 100 102) : MTx h' ts tx wc co := by
  obtain ⟨⟨f1, a1, b1⟩, ⟨f2, a2, b2⟩⟩ := a
  exact ⟨⟨f1, (f _ (by omega) (by omega)).trans a1, b1⟩, ⟨f2, (f _ (by omega) (by omega)).trans a2, b2⟩⟩
theorem MSl_fr {h h' : Hp} {kp : Int → Int} {sl : Int → Nat × Nat × Nat × (Int → Int)} (a : MSl h kp sl) (f : Sm h h' 105 106) : MSl h' kp sl := by
  obtain ⟨g, a, b⟩ := a
  exact ⟨g, (f _ (by omega) (by omega)).trans a, b⟩
theorem cI_inj {k : Nat} {n : Int} {f g : Int → Int} (e : some (cI k n f) = some (cI k n g)) : f = g := by
  unfold cI at e
  simpa using e
theorem MCr_fr {h h' : Hp} {cf cs : Int → Int} {cd cl cc : Int → Int → Int} (a : MCr h cf cs cd cl cc) (f : Sm h h' 106 109) : MCr h' cf cs cd cl cc := by
  obtain ⟨f1, g, p, a1, a2, a3, b⟩ := a
  exact ⟨f1, g, p, (f _ (by omega) (by omega)).trans a1, (f _ (by omega) (by omega)).trans a2, (f _ (by omega) (by omega)).trans a3, b⟩
theorem MSh_fr {h h' : Hp} {ss : Int → Int} {sb : Int → Int → Int} (a : MSh h ss sb) (f : Sm h h' 110 112) : MSh h' ss sb := by
  obtain ⟨f1, p, a1, a3, b⟩ := a
  exact ⟨f1, p, (f _ (by omega) (by omega)).trans a1, (f _ (by omega) (by omega)).trans a3, b⟩
def MA (h : Hp) (m Q wd : Nat) (wf : Int → Int) (ts : Nat) (tx : Int → Int) (wc : Nat) (co : Int → Int) (re fi : Int) (kp : Int → Int) (sl : Int → Nat × Nat × Nat × (Int → Int)) (cf cs : Int → Int) (cd cl cc : Int → Int → Int) (ss : Int → Int) (sb : Int → Int → Int) : Prop := (∃ tm tr ph, MO h fi m Q wd ts wc re tm tr ph (fuK kp)) ∧ MWt h wf ∧ MTs h m Q wd wf ∧ MSc h ∧ MTx h ts tx wc co ∧ MSl h kp sl ∧ MCr h cf cs cd cl cc ∧ MSh h ss sb
section ST2
variable {m Q wd : Nat} {wf : Int → Int} {ts : Nat} {tx : Int → Int} {wc : Nat} {co : Int → Int} {re fi : Int} {kp : Int → Int} {sl : Int → Nat × Nat × Nat × (Int → Int)} {cf cs : Int → Int} {cd cl cc : Int → Int → Int} {ss : Int → Int} {sb : Int → Int → Int}
theorem MA_fr {h h' : Hp} (a : MA h m Q wd wf ts tx wc co re fi kp sl cf cs cd cl cc ss sb) (f : Sm h h' 87 112) : MA h' m Q wd wf ts tx wc co re fi kp sl cf cs cd cl cc ss sb := by
  obtain ⟨⟨tm, tr, ph, a1⟩, a2, a3, a4, a5, a6, a7, a8⟩ := a
  exact ⟨⟨tm, tr, ph, MO_fr a1 (Sm_w f (by omega) (by omega))⟩, MWt_fr a2 (Sm_w f (by omega) (by omega)), MTs_fr a3 (Sm_w f (by omega) (by omega)), MSc_fr a4 (Sm_w f (by omega) (by omega)) (Sm_w f (by omega) (by omega)) (Sm_w f (by omega) (by omega)), MTx_fr a5 (Sm_w f (by omega) (by omega)), MSl_fr a6 (Sm_w f (by omega) (by omega)), MCr_fr a7 (Sm_w f (by omega) (by omega)), MSh_fr a8 (Sm_w f (by omega) (by omega))⟩
/-- a change of the object alone -/
theorem MA_ob {h : Hp} (a : MA h m Q wd wf ts tx wc co re fi kp sl cf cs cd cl cc ss sb) {ts2 wc2 : Nat} {re2 fi2 tm2 tr2 ph2 : Int} {c : Cl} (hts : ts2 ≤ ts) (hwc : wc2 ≤ wc) (e : c = cO 6 [pI fi2, pI m, pI Q, pI wd, pR 88, pR 89, pR 90, pR 91, pR 92, pR 93, pR 94, pR 95, pR 96, pR 97, pR 98, pR 99, pR 100, pI ts2, pR 101, pI wc2, pI re2, pR 102, pI tm2, pI tr2, pR 103, pI ph2, pR 104, pI (fuK kp), pR 105, pR 106, pR 107, pR 108, pR 109, pR 110, pR 111]) : MA (hu h 87 c) m Q wd wf (ts2) tx (wc2) co (re2) (fi2) kp sl cf cs cd cl cc ss sb := by
  obtain ⟨⟨tm, tr, ph, a1⟩, a2, a3, a4, a5, a6, a7, a8⟩ := a
  have f : Sm h (hu h 87 c) 88 112 := fun k x y => hg_ne _ _ _ _ (by omega)
  have a5' := MTx_fr a5 (Sm_w f (by omega) (by omega))
  obtain ⟨⟨f1, x1, y1⟩, ⟨f2, x2, y2⟩⟩ := a5'
  exact ⟨⟨tm2, tr2, ph2, by rw [e]; exact hg_same _ _ _⟩, MWt_fr a2 (Sm_w f (by omega) (by omega)), MTs_fr a3 (Sm_w f (by omega) (by omega)), MSc_fr a4 (Sm_w f (by omega) (by omega)) (Sm_w f (by omega) (by omega)) (Sm_w f (by omega) (by omega)), ⟨⟨f1, x1, fun i i0 i1 => y1 i i0 (by omega)⟩, ⟨f2, x2, fun i i0 i1 => y2 i i0 (by omega)⟩⟩, MSl_fr a6 (Sm_w f (by omega) (by omega)), MCr_fr a7 (Sm_w f (by omega) (by omega)), MSh_fr a8 (Sm_w f (by omega) (by omega))⟩
end ST2
def Inv (h : Hp) (L : Int) (xs : Int → Int) : Prop := h.1.2 = (L, xs) ∧ h.2 = (112, 15955) ∧ ∃ (m Q wd : Nat) (wf : Int → Int) (ts : Nat) (tx : Int → Int) (wc : Nat) (co : Int → Int) (re fi : Int) (kp : Int → Int) (sl : Int → Nat × Nat × Nat × (Int → Int)) (cf cs : Int → Int) (cd cl cc : Int → Int → Int) (ss : Int → Int) (sb : Int → Int → Int), CA h m Q wd wf ts tx wc co re fi kp sl cf cs cd cl cc ss sb ∧ MA h m Q wd wf ts tx wc co re fi kp sl cf cs cd cl cc ss sb ∧ VS m Q wd wf ts tx wc co re fi kp sl cf cs cd cl cc ss sb

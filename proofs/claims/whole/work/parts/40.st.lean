/-! what both sides stand for -/
def SOK (m Q wd : Nat) (wf : Int → Int) : Prop := (2 ≤ m ∧ m ≤ 5) ∧ (1 ≤ Q ∧ Q ≤ 3) ∧ (1 ≤ wd ∧ wd ≤ 6) ∧ m ≤ 2 ^ wd ∧ WOK m wf ∧ ∀ s : Nat, s < 3 → rs (fun l => wf (5 * (s : Int) + (l : Int))) m = 16
def TOK (m ts : Nat) (tx : Int → Int) : Prop := ts ≤ 80 ∧ ∀ i : Int, 0 ≤ i → i < ts → 0 ≤ tx i ∧ tx i < m
def COK (wc : Nat) (co : Int → Int) : Prop := wc ≤ 80 ∧ ∀ i : Int, 0 ≤ i → i < wc → 0 ≤ co i ∧ co i < 64
def LOK (kp : Int → Int) (sl : Int → Nat × Nat × Nat × (Int → Int)) : Prop := ∀ s : Int, 0 ≤ s → s < 4 → kp s = 0 ∨ (kp s = 1 ∧ SOK (sl s).1 (sl s).2.1 (sl s).2.2.1 (sl s).2.2.2)
def fits (f l : Int) : Prop := f = 0 ∨ (f = 1 ∧ l = 1) ∨ (f = 2 ∧ l = 0)
def KOK (cf cs : Int → Int) (cd cl cc : Int → Int → Int) : Prop := ∀ c : Int, 0 ≤ c → c < 4 → (cs c = -1 ∨ ((0 ≤ cs c ∧ cs c ≤ 20) ∧ (0 ≤ cf c ∧ cf c ≤ 2) ∧ ∀ i : Int, 0 ≤ i → i < cs c → cd c i = -1 ∨ ((0 ≤ cd c i ∧ cd c i ≤ 8) ∧ fits (cf c) (cl c i)))) ∧ ∀ i : Int, 0 ≤ i → i < 20 → (cl c i = 0 ∨ cl c i = 1) ∧ inr (cc c i)
def HOK (ss : Int → Int) (sb : Int → Int → Int) : Prop := ∀ s : Int, 0 ≤ s → s < 2 → (-1 ≤ ss s ∧ ss s ≤ 80) ∧ ∀ i : Int, 0 ≤ i → i < 80 → -128 ≤ sb s i ∧ sb s i ≤ 127
def VS (m Q wd : Nat) (wf : Int → Int) (ts : Nat) (tx : Int → Int) (wc : Nat) (co : Int → Int) (re fi : Int) (kp : Int → Int) (sl : Int → Nat × Nat × Nat × (Int → Int)) (cf cs : Int → Int) (cd cl cc : Int → Int → Int) (ss : Int → Int) (sb : Int → Int → Int) : Prop := SOK m Q wd wf ∧ TOK m ts tx ∧ COK wc co ∧ ((0 ≤ re ∧ re ≤ 8) ∧ (0 ≤ fi ∧ fi ≤ 4)) ∧ LOK kp sl ∧ KOK cf cs cd cl cc ∧ HOK ss sb
/-! the class: places 0 to 86 -/
def Sm (h h' : Hp) (lo hi : Nat) : Prop := ∀ k, lo ≤ k → k < hi → hg h' k = hg h k
theorem Sm_w {h h' : Hp} {lo hi lo' hi' : Nat} (a : Sm h h' lo hi) (h1 : lo ≤ lo') (h2 : hi' ≤ hi) : Sm h h' lo' hi' := fun k x y => a k (by omega) (by omega)
theorem Fr_Sm {h h' : Hp} {lo hi a b : Nat} (f : Fr h h' lo hi) (hp : b ≤ lo ∨ hi ≤ a) : Sm h h' a b := fun k x y => f.1 k (by omega)
def PTO (h : Hp) (ts wc : Nat) (re fi : Int) : Prop := hg h 0 = some (cO 5 [pR 1, pR 3, pR 4, pR 5, pR 6, pR 7, pR 8, pR 9, pR 10, pR 11, pR 12, pR 13, pI ts, pI wc, pI re, pI fi])
def CRf (h : Hp) : Prop := (∃ f, hg h 3 = some (cR 5 3 f) ∧ ∀ q : Nat, q < 3 → f q = some (14 + 15 * q)) ∧ (∃ f, hg h 4 = some (cR 6 4 f) ∧ ∀ q : Nat, q < 4 → f q = some (59 + 2 * q)) ∧ (∃ f, hg h 6 = some (cR 7 4 f) ∧ ∀ q : Nat, q < 4 → f q = some (67 + 4 * q)) ∧ (∃ f, hg h 7 = some (cR 8 2 f) ∧ ∀ q : Nat, q < 2 → f q = some (83 + 2 * q))
def CTx (h : Hp) (tx co kp : Int → Int) : Prop := hg h 5 = some (cI 2 4 kp) ∧ hg h 8 = some (cI 0 80 tx) ∧ hg h 9 = some (cI 0 80 co)
def CSc (h : Hp) : Prop := (∃ f, hg h 10 = some (cI 0 80 f)) ∧ (∃ f, hg h 11 = some (cI 0 80 f)) ∧ (∃ f, hg h 12 = some (cD 3 f)) ∧ (∃ f, hg h 13 = some (cD 3 f))
def CTr (h : Hp) (m Q : Nat) (wf : Int → Int) : Prop := ∀ q : Nat, q < 3 → ∃ k t, TreX h (14 + 15 * q) m Q q wf k t
def CSl (h : Hp) (sl : Int → Nat × Nat × Nat × (Int → Int)) : Prop := ∀ s : Nat, s < 4 → SetA h (59 + 2 * s) (60 + 2 * s) (sl s).1 (sl s).2.1 (sl s).2.2.1 (sl s).2.2.2
def CrA (h : Hp) (c : Nat) (f s : Int) (d l x : Int → Int) : Prop := hg h (67 + 4 * c) = some (cO 0 [pI f, pI s, pR (68 + 4 * c), pR (69 + 4 * c), pR (70 + 4 * c)]) ∧ hg h (68 + 4 * c) = some (cI 0 20 d) ∧ hg h (69 + 4 * c) = some (cI 2 20 l) ∧ hg h (70 + 4 * c) = some (cI 0 20 x)
def CCr (h : Hp) (cf cs : Int → Int) (cd cl cc : Int → Int → Int) : Prop := ∀ c : Nat, c < 4 → CrA h c (cf c) (cs c) (cd c) (cl c) (cc c)
def ShA (h : Hp) (s : Nat) (n : Int) (b : Int → Int) : Prop := hg h (83 + 2 * s) = some (cO 3 [pI n, pR (84 + 2 * s)]) ∧ hg h (84 + 2 * s) = some (cI 1 80 b)
def CSh (h : Hp) (ss : Int → Int) (sb : Int → Int → Int) : Prop := ∀ s : Nat, s < 2 → ShA h s (ss s) (sb s)
theorem PTO_fr {h h' : Hp} {ts wc : Nat} {re fi : Int} (a : PTO h ts wc re fi) (f : Sm h h' 0 1) : PTO h' ts wc re fi := (f 0 (by omega) (by omega)).trans a
theorem CRf_fr {h h' : Hp} (a : CRf h) (f : Sm h h' 3 5) (g : Sm h h' 6 8) : CRf h' := by
  obtain ⟨⟨f1, a1, b1⟩, ⟨f2, a2, b2⟩, ⟨f3, a3, b3⟩, ⟨f4, a4, b4⟩⟩ := a
  exact ⟨⟨f1, (f 3 (by omega) (by omega)).trans a1, b1⟩, ⟨f2, (f 4 (by omega) (by omega)).trans a2, b2⟩, ⟨f3, (g 6 (by omega) (by omega)).trans a3, b3⟩, ⟨f4, (g 7 (by omega) (by omega)).trans a4, b4⟩⟩
theorem CTx_fr {h h' : Hp} {tx co kp : Int → Int} (a : CTx h tx co kp) (f : Sm h h' 5 6) (g : Sm h h' 8 10) : CTx h' tx co kp := ⟨(f 5 (by omega) (by omega)).trans a.1, (g 8 (by omega) (by omega)).trans a.2.1, (g 9 (by omega) (by omega)).trans a.2.2⟩
theorem CSc_fr {h h' : Hp} (a : CSc h) (f : Sm h h' 10 14) : CSc h' := by
  obtain ⟨⟨f1, a1⟩, ⟨f2, a2⟩, ⟨f3, a3⟩, ⟨f4, a4⟩⟩ := a
  exact ⟨⟨f1, (f 10 (by omega) (by omega)).trans a1⟩, ⟨f2, (f 11 (by omega) (by omega)).trans a2⟩, ⟨f3, (f 12 (by omega) (by omega)).trans a3⟩, ⟨f4, (f 13 (by omega) (by omega)).trans a4⟩⟩
theorem SetA_sm {h h' : Hp} {p w : Nat} {m Q wd : Int} {wf : Int → Int} (s : SetA h p w m Q wd wf) (f1 : hg h' p = hg h p) (f2 : hg h' w = hg h w) : SetA h' p w m Q wd wf := ⟨f1.trans s.1, f2.trans s.2⟩
theorem GrA_sm {h h' : Hp} {g : Nat} {st : Int} {lb dp ch so ns op : Int → Int} {oc sp mm : Int} (s : GrA h g st lb dp ch so ns op oc sp mm) (f : Sm h h' g (g + 7)) : GrA h' g st lb dp ch so ns op oc sp mm := by
  obtain ⟨a0, a1, a2, a3, a4, a5, a6⟩ := s
  exact ⟨(f _ (by omega) (by omega)).trans a0, (f _ (by omega) (by omega)).trans a1, (f _ (by omega) (by omega)).trans a2, (f _ (by omega) (by omega)).trans a3, (f _ (by omega) (by omega)).trans a4, (f _ (by omega) (by omega)).trans a5, (f _ (by omega) (by omega)).trans a6⟩
theorem TrA_sm {h h' : Hp} {T : Nat} {sp : Int} {nf lf nu fw od lo es : Int → Int} {lg ls : Int} (s : TrA h T sp nf lf nu fw od lo es lg ls) (f : Sm h h' T (T + 8)) : TrA h' T sp nf lf nu fw od lo es lg ls := by
  obtain ⟨a0, a1, a2, a3, a4, a5, a6, a7⟩ := s
  exact ⟨(f _ (by omega) (by omega)).trans a0, (f _ (by omega) (by omega)).trans a1, (f _ (by omega) (by omega)).trans a2, (f _ (by omega) (by omega)).trans a3, (f _ (by omega) (by omega)).trans a4, (f _ (by omega) (by omega)).trans a5, (f _ (by omega) (by omega)).trans a6, (f _ (by omega) (by omega)).trans a7⟩
theorem TreX_sm {h h' : Hp} {T m Q q : Nat} {wf : Int → Int} {k t : Nat} (s : TreX h T m Q q wf k t) (f : Sm h h' T (T + 15)) : TreX h' T m Q q wf k t := by
  obtain ⟨⟨wn, lb, dp, ch, so, ns, op, oc, mm, a1, a2⟩, b, nf, lf, nu, fw, od, lo', es, lg, ls, c, d⟩ := s
  exact ⟨⟨wn, lb, dp, ch, so, ns, op, oc, mm, GrA_sm a1 (Sm_w f (by omega) (by omega)), a2⟩, b, nf, lf, nu, fw, od, lo', es, lg, ls, TrA_sm c (Sm_w f (by omega) (by omega)), d⟩
theorem CTr_fr {h h' : Hp} {m Q : Nat} {wf : Int → Int} (a : CTr h m Q wf) (f : Sm h h' 14 59) : CTr h' m Q wf := by
  intro q hq
  obtain ⟨k, t, x⟩ := a q hq
  exact ⟨k, t, TreX_sm x (Sm_w f (by omega) (by omega))⟩
theorem CSl_fr {h h' : Hp} {sl : Int → Nat × Nat × Nat × (Int → Int)} (a : CSl h sl) (f : Sm h h' 59 67) : CSl h' sl := fun s hs => SetA_sm (a s hs) (f _ (by omega) (by omega)) (f _ (by omega) (by omega))
theorem CCr_fr {h h' : Hp} {cf cs : Int → Int} {cd cl cc : Int → Int → Int} (a : CCr h cf cs cd cl cc) (f : Sm h h' 67 83) : CCr h' cf cs cd cl cc := by
  intro c hc
  obtain ⟨a0, a1, a2, a3⟩ := a c hc
  exact ⟨(f _ (by omega) (by omega)).trans a0, (f _ (by omega) (by omega)).trans a1, (f _ (by omega) (by omega)).trans a2, (f _ (by omega) (by omega)).trans a3⟩
theorem CSh_fr {h h' : Hp} {ss : Int → Int} {sb : Int → Int → Int} (a : CSh h ss sb) (f : Sm h h' 83 87) : CSh h' ss sb := by
  intro c hc
  obtain ⟨a0, a1⟩ := a c hc
  exact ⟨(f _ (by omega) (by omega)).trans a0, (f _ (by omega) (by omega)).trans a1⟩
def CA (h : Hp) (m Q wd : Nat) (wf : Int → Int) (ts : Nat) (tx : Int → Int) (wc : Nat) (co : Int → Int) (re fi : Int) (kp : Int → Int) (sl : Int → Nat × Nat × Nat × (Int → Int)) (cf cs : Int → Int) (cd cl cc : Int → Int → Int) (ss : Int → Int) (sb : Int → Int → Int) : Prop := PTO h ts wc re fi ∧ SetA h 1 2 m Q wd wf ∧ CRf h ∧ CTx h tx co kp ∧ CSc h ∧ CTr h m Q wf ∧ CSl h sl ∧ CCr h cf cs cd cl cc ∧ CSh h ss sb
section ST
variable {m Q wd : Nat} {wf : Int → Int} {ts : Nat} {tx : Int → Int} {wc : Nat} {co : Int → Int} {re fi : Int} {kp : Int → Int} {sl : Int → Nat × Nat × Nat × (Int → Int)} {cf cs : Int → Int} {cd cl cc : Int → Int → Int} {ss : Int → Int} {sb : Int → Int → Int}
theorem CA_fr {h h' : Hp} (a : CA h m Q wd wf ts tx wc co re fi kp sl cf cs cd cl cc ss sb) (f : Sm h h' 0 87) : CA h' m Q wd wf ts tx wc co re fi kp sl cf cs cd cl cc ss sb := by
  obtain ⟨a1, a2, a3, a4, a5, a6, a7, a8, a9⟩ := a
  exact ⟨PTO_fr a1 (Sm_w f (by omega) (by omega)), SetA_sm a2 (f _ (by omega) (by omega)) (f _ (by omega) (by omega)), CRf_fr a3 (Sm_w f (by omega) (by omega)) (Sm_w f (by omega) (by omega)), CTx_fr a4 (Sm_w f (by omega) (by omega)) (Sm_w f (by omega) (by omega)), CSc_fr a5 (Sm_w f (by omega) (by omega)), CTr_fr a6 (Sm_w f (by omega) (by omega)), CSl_fr a7 (Sm_w f (by omega) (by omega)), CCr_fr a8 (Sm_w f (by omega) (by omega)), CSh_fr a9 (Sm_w f (by omega) (by omega))⟩
/-- a change of the object alone -/
theorem CA_ob {h : Hp} (a : CA h m Q wd wf ts tx wc co re fi kp sl cf cs cd cl cc ss sb) {ts2 wc2 : Nat} {re2 fi2 : Int} {c : Cl} (e : c = cO 5 [pR 1, pR 3, pR 4, pR 5, pR 6, pR 7, pR 8, pR 9, pR 10, pR 11, pR 12, pR 13, pI ts2, pI wc2, pI re2, pI fi2]) : CA (hu h 0 c) m Q wd wf (ts2) tx (wc2) co (re2) (fi2) kp sl cf cs cd cl cc ss sb := by
  obtain ⟨a1, a2, a3, a4, a5, a6, a7, a8, a9⟩ := a
  have f : Sm h (hu h 0 c) 1 87 := fun k x y => hg_ne _ _ _ _ (by omega)
  exact ⟨by rw [e]; exact hg_same _ _ _, SetA_sm a2 (f _ (by omega) (by omega)) (f _ (by omega) (by omega)), CRf_fr a3 (Sm_w f (by omega) (by omega)) (Sm_w f (by omega) (by omega)), CTx_fr a4 (Sm_w f (by omega) (by omega)) (Sm_w f (by omega) (by omega)), CSc_fr a5 (Sm_w f (by omega) (by omega)), CTr_fr a6 (Sm_w f (by omega) (by omega)), CSl_fr a7 (Sm_w f (by omega) (by omega)), CCr_fr a8 (Sm_w f (by omega) (by omega)), CSh_fr a9 (Sm_w f (by omega) (by omega))⟩
end ST

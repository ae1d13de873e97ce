theorem law_ok (L : Int) (xs : Int → Int) (hL : 0 ≤ L ∧ L ≤ 3072) (hx : ∀ i, inr (xs i)) : WP LAWM 0 (ent (mL LAWM) [pS]) [] (((fun _ => none), (L, xs)), (0, 0)) (112, 15955) (fun r _ => r = pI 1) := by
  sorry

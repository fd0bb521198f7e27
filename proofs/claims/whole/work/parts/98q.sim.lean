/-! THE CALLS, one by one: init, feed, compile, place, code -/
theorem xFC_f (S : mv_S) (o f : Nat) : (xFC S).1 o f = if o = 1 ∧ f = 12 then -1 else if o = 1 ∧ f = 10 then 0 else if o = 1 ∧ f = 11 then 0 else S.1 o f := by
  show (mv_pf (mv_pf (mv_pf S 1 11 0) 1 10 0) 1 12 (-1)).1 o f = _
  rw [pf_get, pf_get, pf_get]
theorem xFC_r (S : mv_S) (o i : Nat) : (xFC S).2.1 o i = if o = 12 ∧ i < 8 then -1 else S.2.1 o i := by
  show (va_up S.2.1 12 (rFill (S.2.1 12) 0 8 (-1))) o i = _
  by_cases h : o = 12
  · subst h
    by_cases h2 : i < 8 <;> simp [va_up, rFill, h2]
  · simp [va_up, h]
theorem xIN_f (S : mv_S) (a b : Int32) (o f : Nat) : (xIN S a b).1 o f = if o = 4 ∧ (f = 11 ∨ f = 12 ∨ f = 13 ∨ f = 14 ∨ f = 15 ∨ f = 16) then 0 else if o = 3 ∧ f = 13 then b else if o = 3 ∧ f = 12 then a else if o = 6 ∧ f = 2 then 0 else if o = 1 ∧ f = 12 then -1 else if o = 1 ∧ f = 10 then 0 else if o = 1 ∧ f = 11 then 0 else if o = 1 ∧ f = 9 then 0 else S.1 o f := by
  unfold xIN
  rw [xCL_f, pf_get, pf_get, pf_get, xFC_f, pf_get]
theorem xIN_r (S : mv_S) (a b : Int32) (o i : Nat) : (xIN S a b).2.1 o i = if (o = 23 ∧ i < 158) ∨ (o = 24 ∧ i < 54) then 0 else if o = 12 ∧ i < 8 then -1 else S.2.1 o i := by
  unfold xIN
  rw [xCL_r]
  show (if (o = 23 ∧ i < 158) ∨ (o = 24 ∧ i < 54) then 0 else (xFC (mv_pf S 1 9 0)).2.1 o i) = _
  rw [xFC_r]; rfl
theorem yIN_f (T : mv_S) (a b : Int32) (o f : Nat) : (yIN T a b).1 o f = if o = 0 ∧ f = 53 then 6 else if o = 0 ∧ f = 54 then 0 else if o = 0 ∧ f = 33 then 0 else if o = 0 ∧ f = 52 then 0 else if o = 0 ∧ (f = 43 ∨ f = 48 ∨ f = 50) then 0 else if o = 0 ∧ f = 7 then 0 else if o = 0 ∧ f = 5 then 0 else if o = 0 ∧ f = 4 then -1 else if o = 0 ∧ f = 1 then 0 else if o = 0 ∧ f = 36 then b else if o = 0 ∧ f = 35 then a else T.1 o f := by
  unfold yIN
  rw [pf_get, pf_get, pf_get, pf_get, yCL_f, pf_get, pf_get, pf_get, pf_get, pf_get, pf_get]
theorem yIN_r (T : mv_S) (a b : Int32) (o i : Nat) : (yIN T a b).2.1 o i = if o = 24 ∧ i = 0 then 0 else if o = 22 ∧ i < 2 then 0 else if o = 21 ∧ i < 6 then 0 else if o = 20 ∧ i < 4 then 0 else if o = 19 ∧ i = 0 then 0 else if o = 19 ∧ i < 8 then 0 else T.2.1 o i := by
  show (yCL (mv_pf (mv_pf (mv_pf (mv_pf (mv_pf (mv_pf T 0 35 a) 0 36 b) 0 1 0) 0 4 (-1)) 0 5 0) 0 7 0) 0).2.1 o i = _
  rw [yCL_r]; rfl
theorem lw_skip : ∀ n S T, lw_Rel n S T → lw_Rel (n + 1) S T := fun n S T h => by
  obtain ⟨B, h1, h2⟩ := h
  exact ⟨B, by omega, h2⟩
theorem hInj_leaf {K A B : Nat → Int32} {σ : Nat → Nat} {R : tT → Int32 → Prop} (h : ∀ U c, R U c → U = .leaf) : hInj K A B σ R := by
  intro U c U' c' i j h1 h2 hi
  rw [h U c h1] at hi
  cases hi
section SM
variable {S T : mv_S} {n : Nat}
set_option maxHeartbeats 1000000 in
theorem sm_0 (h : lw_Rel n S T) (a b : Int32) : lw_Sim (lw_Rel (n + 1)) 158 1 [a, b] S T := by
  have sk := lw_skip n S T h
  obtain ⟨B, hB, hr⟩ := h
  obtain ⟨r, r1, r2⟩ := rel_ro hr
  have h12 : T.1 0 12 = 0 ∨ T.1 0 12 = 1 := by
    obtain ⟨_, _, _, _, _, _, _, _, q, _⟩ := hr
    exact q
  refine x_init (fun c => ⟨-2, rfl, y_init (fun _ => ⟨rfl, sk⟩) (fun h1 h2 => absurd ⟨h1, h2⟩ c)⟩) (fun h1 h2 => ⟨0, rfl, y_init (fun c => absurd ⟨h1, h2⟩ c) (fun _ _ => ⟨rfl, B, by omega, ?_⟩)⟩)
  have fx := xIN_f S a b
  have rx := xIN_r S a b
  have fy := yIN_f T a b
  have ry := yIN_r T a b
  obtain ⟨b0, b1, b2⟩ := nI_of2 (M := 400) (n := 400) rfl (Int32.not_lt.mpr (Int32.le_trans (by decide) h1)) h2
  obtain ⟨S', eS⟩ : ∃ S', S' = xIN S a b := ⟨_, rfl⟩
  obtain ⟨T', eT⟩ : ∃ T', T' = yIN T a b := ⟨_, rfl⟩
  rw [← eS] at fx rx ⊢
  rw [← eT] at fy ry ⊢
  have x4 : ∀ f, (f = 11 ∨ f = 12 ∨ f = 13 ∨ f = 14 ∨ f = 15 ∨ f = 16) → S'.1 4 f = 0 := fun f hf => by rw [fx, if_pos ⟨rfl, hf⟩]
  refine ⟨0, fun _ => -1, a, b0, 0, ⟨by decide, ?_, ?_, fun i hi => absurd hi (by omega), fun i hi => absurd hi (by omega), fun _ _ => rfl⟩, ⟨?_, ?_, ?_, ?_, b1⟩, ⟨x4 15 (by omega), ?_⟩, ?_, Or.inl ⟨?_, ?_, ?_, fun _ => 0, fun _ => .leaf, [], 0, ⟨fun _ => 0, ⟨fun i hi => ?_, fun i hi => ?_, ⟨x4 14 (by omega), by decide, fun p x hp => by cases hp⟩, x4 16 (by omega), r, r1, ?_, fun i i1 i2 => ?_⟩, ?_, x4 13 (by omega), x4 12 (by omega), fun i i1 i2 => ?_, hInj_leaf (fun U c z => by obtain ⟨_, _, e, _⟩ := z; exact e)⟩, ⟨fun _ => 0, ⟨fun i hi => ?_, fun i hi => ?_, ⟨?_, by decide, fun p x hp => by cases hp⟩, ?_⟩, ?_, hInj_leaf (fun U c z => by obtain ⟨_, _, e, _⟩ := z; exact e), 0, 0, by decide, by decide, ?_, ?_⟩, fun i _ => ⟨trivial, Nat.zero_le _⟩⟩⟩
  · rw [fx, if_neg (by omega), if_neg (by omega), if_neg (by omega), if_neg (by omega), if_neg (by omega), if_neg (by omega), if_neg (by omega), if_pos ⟨rfl, rfl⟩]; rfl
  · rw [fy, if_neg (by omega), if_neg (by omega), if_neg (by omega), if_neg (by omega), if_neg (by omega), if_neg (by omega), if_neg (by omega), if_neg (by omega), if_pos ⟨rfl, rfl⟩]; rfl
  · rw [fx, if_neg (by omega), if_neg (by omega), if_pos ⟨rfl, rfl⟩]
  · rw [fy, if_neg (by omega), if_neg (by omega), if_neg (by omega), if_neg (by omega), if_neg (by omega), if_neg (by omega), if_neg (by omega), if_neg (by omega), if_neg (by omega), if_neg (by omega), if_pos ⟨rfl, rfl⟩]
  · rw [fx, if_neg (by omega), if_pos ⟨rfl, rfl⟩]; exact b2
  · rw [fy, if_neg (by omega), if_neg (by omega), if_neg (by omega), if_neg (by omega), if_neg (by omega), if_neg (by omega), if_neg (by omega), if_neg (by omega), if_neg (by omega), if_pos ⟨rfl, rfl⟩]; exact b2
  · rw [fy, if_neg (by omega), if_neg (by omega), if_neg (by omega), if_pos ⟨rfl, rfl⟩]; rfl
  · rw [fy, if_neg (by omega), if_neg (by omega), if_neg (by omega), if_neg (by omega), if_neg (by omega), if_neg (by omega), if_neg (by omega), if_neg (by omega), if_neg (by omega), if_neg (by omega), if_neg (by omega)]; exact h12
  · rw [fx, if_neg (by omega), if_neg (by omega), if_neg (by omega), if_neg (by omega), if_neg (by omega), if_neg (by omega), if_pos ⟨rfl, rfl⟩]
  · rw [fy, if_neg (by omega), if_neg (by omega), if_neg (by omega), if_neg (by omega), if_neg (by omega), if_neg (by omega), if_pos ⟨rfl, rfl⟩]
  · rw [fx, if_neg (by omega), if_neg (by omega), if_neg (by omega), if_neg (by omega), if_pos ⟨rfl, rfl⟩, fy, if_neg (by omega), if_neg (by omega), if_neg (by omega), if_neg (by omega), if_neg (by omega), if_neg (by omega), if_neg (by omega), if_pos ⟨rfl, rfl⟩]
  · rw [rx, if_pos (by omega)]
  · show S'.2.1 24 i = 0
    rw [rx, if_pos (by omega)]
  · rw [fx, if_neg (by omega), if_neg (by omega), if_neg (by omega), if_neg (by omega), if_neg (by omega), if_neg (by omega), if_neg (by omega), if_neg (by omega)]; exact r2.1
  · rw [rx, if_neg (by omega), if_neg (by omega)]; exact r2.2 i i1 i2
  · rw [fx, if_neg (by omega), if_neg (by omega), if_neg (by omega), if_pos ⟨rfl, rfl⟩]
  · rw [rx, if_pos (by omega)]
  · rw [ry, if_neg (by omega), if_neg (by omega), if_neg (by omega), if_neg (by omega)]
    by_cases z : i = 0
    · rw [if_pos ⟨rfl, z⟩]
    · rw [if_neg (fun y => z y.2), if_pos ⟨rfl, hi⟩]
  · show T'.2.1 20 i = 0
    rw [ry, if_neg (by omega), if_neg (by omega), if_neg (by omega), if_pos ⟨rfl, hi⟩]
  · rw [fy, if_neg (by omega), if_neg (by omega), if_neg (by omega), if_neg (by omega), if_pos ⟨rfl, by omega⟩]; rfl
  · rw [fy, if_neg (by omega), if_neg (by omega), if_pos ⟨rfl, rfl⟩]; rfl
  · rw [fy, if_neg (by omega), if_pos ⟨rfl, rfl⟩]
  · rw [fy, if_neg (by omega), if_neg (by omega), if_neg (by omega), if_neg (by omega), if_pos ⟨rfl, by omega⟩]; rfl
  · rw [fy, if_neg (by omega), if_neg (by omega), if_neg (by omega), if_neg (by omega), if_pos ⟨rfl, by omega⟩]; rfl
set_option maxHeartbeats 1000000 in
theorem sm_1 (h : lw_Rel n S T) (a : Int32) : lw_Sim (lw_Rel (n + 1)) 159 2 [a] S T := by
  have sk := lw_skip n S T h
  obtain ⟨B, hB, k, tk, sd, rm, st, h1, h2, h3, h4, h5⟩ := h
  obtain ⟨t1, t2, t3, t4, t5, t6⟩ := h1
  have vw := rVw_st h2.2.2.2.2 h5
  refine x_feed (fun c => ?_) (fun c => ?_)
  · rw [t2] at c
    have ck : 700 ≤ k := (nI_leI (a := 700) (by decide) (by omega)).mp c
    exact ⟨-3, rfl, y_feed t3 t1 (fun _ => ⟨rfl, sk⟩) (fun z => absurd z (by omega))⟩
  · rw [t2] at c
    have ck : k < 700 := (nI_ltI (b := 700) (by omega) (by decide)).mp c
    have fA : ∀ o f, (xAD S a).1 o f = if o = 1 ∧ f = 12 then -1 else if o = 1 ∧ f = 10 then 0 else if o = 1 ∧ f = 11 then 0 else if o = 1 ∧ f = 9 then nI (k + 1) else S.1 o f := fun o f => by
      unfold xAD
      rw [xFC_f, pf_get, sR_1, t2, nI_1]
    have rA : ∀ o i, (xAD S a).2.1 o i = if o = 12 ∧ i < 8 then -1 else if o = 8 ∧ i = k then a else S.2.1 o i := fun o i => by
      unfold xAD
      rw [xFC_r, t2, sR_nI ck (by decide)]
      show (if o = 12 ∧ i < 8 then -1 else (mv_pr S 8 k a).2.1 o i) = _
      rw [pr_get]
    have fL := xLR_f (xAD S a)
    have rL := xLR_r (xAD S a)
    have e9 : (xLR (xAD S a)).1 1 9 = nI (k + 1) := by rw [fL, if_neg (by omega), if_neg (by omega), fA, if_neg (by omega), if_neg (by omega), if_neg (by omega), if_pos ⟨rfl, rfl⟩]
    rw [e9]
    refine ⟨nI (k + 1), rfl, y_feed t3 t1 (fun z => absurd z (by omega)) (fun _ => ?_)⟩
    rw [t3, nI_1]
    refine ⟨rfl, B, by omega, ?_⟩
    have fY : ∀ o f, (yFD T k a).1 o f = if o = 0 ∧ f = 4 then -1 else if o = 0 ∧ f = 53 then 6 else if o = 0 ∧ f = 54 then 0 else if o = 0 ∧ f = 5 then 0 else if o = 0 ∧ f = 1 then nI (k + 1) else T.1 o f := fun o f => by
      unfold yFD
      rw [pf_get, pf_get, pf_get, pf_get, pf_get, t3, nI_1]; rfl
    have rY : ∀ o i, (yFD T k a).2.1 o i = if o = 1 ∧ i = k then a else T.2.1 o i := fun o i => by
      show (mv_pr T 1 k a).2.1 o i = _
      rw [pr_get]
    have id : rId (xLR (xAD S a)) (yFD T k a) B := by
      refine rId_of vw ?_ ?_ ?_ (fun o i z => ?_) (fun i hi => ?_) (fun g hg => ?_) ?_ (fun o i z => ?_)
      · rw [fA, if_neg (by omega), if_neg (by omega), if_neg (by omega), if_neg (by omega)]
      · rw [fA, if_neg (by omega), if_neg (by omega), if_neg (by omega), if_neg (by omega)]
      · rw [fA, if_neg (by omega), if_neg (by omega), if_neg (by omega), if_neg (by omega)]
      · rw [rA, if_neg (by omega), if_neg (by omega)]
      · rw [rA, if_neg (by omega), if_neg (by omega)]
      · rw [fY, if_neg (by omega), if_neg (by omega), if_neg (by omega), if_neg (by omega), if_neg (by omega)]
      · rw [fY, if_neg (by omega), if_neg (by omega), if_pos ⟨rfl, rfl⟩]
      · rw [rY, if_neg (by omega)]
    have gX : ∀ o f, ¬ (o = 1 ∧ (f = 9 ∨ f = 10 ∨ f = 11 ∨ f = 12)) → ¬ (o = 4 ∧ (f = 11 ∨ f = 12 ∨ f = 13)) → ¬ (o = 6 ∧ f = 2) → (xLR (xAD S a)).1 o f = S.1 o f := fun o f q1 q2 q3 => by rw [fL, if_neg q2, if_neg q3, fA, if_neg (by omega), if_neg (by omega), if_neg (by omega), if_neg (by omega)]
    have gY : ∀ o f, ¬ (o = 0 ∧ (f = 1 ∨ f = 4 ∨ f = 5 ∨ f = 53 ∨ f = 54)) → (yFD T k a).1 o f = T.1 o f := fun o f q => by rw [fY, if_neg (by omega), if_neg (by omega), if_neg (by omega), if_neg (by omega), if_neg (by omega)]
    refine ⟨k + 1, fun i => if i = k then a else tk i, sd, rm, st, ⟨by omega, e9, ?_, fun i hi => ?_, fun i hi => ?_, fun p hp => ?_⟩, ⟨(gX 3 12 (by omega) (by omega) (by omega)).trans h2.1, (gY 0 35 (by omega)).trans h2.2.1, (gX 3 13 (by omega) (by omega) (by omega)).trans h2.2.2.1, (gY 0 36 (by omega)).trans h2.2.2.2.1, h2.2.2.2.2⟩, ⟨(gX 4 15 (by omega) (by omega) (by omega)).trans h3.1, (gY 0 52 (by omega)).trans h3.2⟩, by rw [gY 0 12 (by omega)]; exact h4, Or.inl ⟨?_, ?_, ?_, id⟩⟩
    · rw [fY, if_neg (by omega), if_neg (by omega), if_neg (by omega), if_neg (by omega), if_pos ⟨rfl, rfl⟩]
    · rw [rL, if_neg (by omega), rA, if_neg (by omega)]
      show (if 8 = 8 ∧ i = k then a else S.2.1 8 i) = (if i = k then a else tk i)
      by_cases z : i = k
      · rw [if_pos ⟨rfl, z⟩, if_pos z]
      · rw [if_neg (fun y => z y.2), if_neg z]; exact t4 i (by omega)
    · rw [rY]
      show (if 1 = 1 ∧ i = k then a else T.2.1 1 i) = (if i = k then a else tk i)
      by_cases z : i = k
      · rw [if_pos ⟨rfl, z⟩, if_pos z]
      · rw [if_neg (fun y => z y.2), if_neg z]; exact t5 i (by omega)
    · show (if p = k then a else tk p) = -1
      rw [if_neg (by omega)]; exact t6 p (by omega)
    · rw [fL, if_neg (by omega), if_neg (by omega), fA, if_neg (by omega), if_neg (by omega), if_pos ⟨rfl, rfl⟩]
    · rw [fY, if_neg (by omega), if_neg (by omega), if_neg (by omega), if_pos ⟨rfl, rfl⟩]
    · rw [fL, if_neg (by omega), if_neg (by omega), fA, if_pos ⟨rfl, rfl⟩, fY, if_pos ⟨rfl, rfl⟩]
set_option maxHeartbeats 1000000 in
theorem sm_2 (h : lw_Rel n S T) : lw_Sim (lw_Rel (n + 1)) 160 25 [] S T := by
  obtain ⟨B, hB, k, tk, sd, rm, st, h1, h2, h3, h4, h5⟩ := h
  obtain ⟨t1, t2, t3, t4, t5, t6⟩ := h1
  have vw := rVw_st h2.2.2.2.2 h5
  have fL := xLR_f S
  have rL := xLR_r S
  have base : ∀ S' T', xKc (xLR S) S' → yKc T T' → rId S' T' B ∧ rTk S' T' k tk ∧ (S'.1 3 12 = sd ∧ T'.1 0 35 = sd ∧ S'.1 3 13 = nI rm ∧ T'.1 0 36 = nI rm ∧ rm ≤ 400) ∧ (S'.1 4 15 = nI st ∧ T'.1 0 52 = nI st) ∧ (T'.1 0 12 = 0 ∨ T'.1 0 12 = 1) := by
    intro S' T' kx ky
    have id0 : rId (xLR S) T' B := rId_of vw rfl rfl rfl (fun _ _ _ => rfl) (fun _ _ => rfl) (fun g hg => ky.1 0 g (fun _ => by omega)) ky.2.2.2.2.1 (fun o i z => ky.2.1 o i (by omega))
    have gX : ∀ o f, o ≠ 1 → o ≠ 2 → ¬ (o = 4 ∧ (f = 11 ∨ f = 12 ∨ f = 13)) → ¬ (o = 6 ∧ f = 2) → S'.1 o f = S.1 o f := fun o f q1 q2 q3 q4 => by rw [kx.1 o f q1 q2, fL, if_neg q3, if_neg q4]
    refine ⟨rId_go id0 (fun o g z => kx.1 o g (by omega) (by omega)) (fun o i a b => kx.2.2.1 o i (by omega)), ⟨t1, ?_, (ky.1 0 1 (fun _ => by omega)).trans t3, fun i hi => ?_, fun i hi => (ky.2.1 1 i (by omega)).trans (t5 i hi), t6⟩, ⟨(gX 3 12 (by omega) (by omega) (by omega) (by omega)).trans h2.1, (ky.1 0 35 (fun _ => by omega)).trans h2.2.1, (gX 3 13 (by omega) (by omega) (by omega) (by omega)).trans h2.2.2.1, (ky.1 0 36 (fun _ => by omega)).trans h2.2.2.2.1, h2.2.2.2.2⟩, ⟨(gX 4 15 (by omega) (by omega) (by omega) (by omega)).trans h3.1, (ky.1 0 52 (fun _ => by omega)).trans h3.2⟩, ky.2.2.2.2.2⟩
    · rw [kx.2.1, fL, if_neg (by omega), if_neg (by omega)]; exact t2
    · rw [kx.2.2.1 8 i (by omega), rL, if_neg (by omega)]; exact t4 i hi
  refine mv_deep (d := 402) (by omega) (x_compile t2 t1 t4 t6 (fun w q S' e kx e1 e2 => ⟨w, rfl, ?_⟩) (fun l s par fs mw mt S' e le kx e1 e2 => ⟨-16, rfl, ?_⟩) (fun l s par fs mw mt S' e kx cx => ⟨nI l.length, rfl, ?_⟩))
  · refine mv_deep (d := 24) (by omega) (y_compile t3 t1 t5 t6 h4 (fun v q' T' e' ky y1 y2 => ?_) (fun l s par fs mw mt T' e' => by rw [e] at e'; cases e') (fun l s par fs mw mt l' s' fs' mm mt' T' e' => by rw [e] at e'; cases e'))
    have e4 := e.symm.trans e'
    simp only [Except.error.injEq, Prod.mk.injEq] at e4
    obtain ⟨b1, b2, b3, b4, b5⟩ := base S' T' kx ky
    exact ⟨by rw [e4.1], B, by omega, k, tk, sd, rm, st, b2, b3, b4, b5, Or.inl ⟨e1, y1, by rw [e2, y2, e4.2], b1⟩⟩
  · refine mv_deep (d := 24) (by omega) (y_compile t3 t1 t5 t6 h4 (fun v q' T' e' => by rw [e] at e'; cases e') (fun l2 s2 par2 fs2 mw2 mt2 T' e' le' ky y1 y2 => ?_) (fun l2 s2 par2 fs2 mw2 mt2 l' s' fs' mm mt' T' e' e3 ky cy => ?_))
    · obtain ⟨b1, b2, b3, b4, b5⟩ := base S' T' kx ky
      exact ⟨rfl, B, by omega, k, tk, sd, rm, st, b2, b3, b4, b5, Or.inl ⟨e1, y1, by rw [e2, y2], b1⟩⟩
    · have e4 := e.symm.trans e'
      simp only [Except.ok.injEq, Prod.mk.injEq] at e4
      have := cy.2.2.2.1
      rw [← e4.1] at this
      omega
  · have le1 := cx.2.2.2.1
    refine mv_deep (d := 24) (by omega) (y_compile t3 t1 t5 t6 h4 (fun v q' T' e' => by rw [e] at e'; cases e') (fun l2 s2 par2 fs2 mw2 mt2 T' e' le' => ?_) (fun l2 s2 par2 fs2 mw2 mt2 l' s' fs' mm mt' T' e' e3 ky cy => ?_))
    · have e4 := e.symm.trans e'
      simp only [Except.ok.injEq, Prod.mk.injEq] at e4
      rw [← e4.1] at le'
      omega
    · obtain ⟨b1, b2, b3, b4, b5⟩ := base S' T' kx ky
      have e4 := e.symm.trans e'
      simp only [Except.ok.injEq, Prod.mk.injEq] at e4
      obtain ⟨f1, f2, f3, f4, f5, f6⟩ := e4
      obtain ⟨q1, _, q3, _⟩ := cAll_2 e e3
      rw [q1, q3, ← f3] at e3
      rw [← f1, ← f3, ← f4, ← f5] at cy
      rw [← f1]
      exact ⟨rfl, B, by omega, k, tk, sd, rm, st, b2, b3, b4, b5, Or.inr ⟨par, mw, mm, mt, l, l', s, fs, fs', ⟨e, e3, cx, cy⟩, Or.inl b1⟩⟩
theorem sm_3 (h : lw_Rel n S T) : lw_Sim (lw_Rel (n + 1)) 161 26 [] S T := by
  have sk := lw_skip n S T h
  obtain ⟨B, hB, k, tk, sd, rm, st, h1, h2, h3, h4, h5⟩ := h
  refine x_place ⟨_, rfl, y_place ⟨?_, sk⟩⟩
  rcases h5 with ⟨_, _, e, _⟩ | ⟨par, mw, mm, mt, l, l', s, fs, fs', cd, _⟩
  · rw [e]
  · rw [cd.2.2.1.2.1, cd.2.2.2.2.1]
theorem sm_4 (h : lw_Rel n S T) (a : Int32) : lw_Sim (lw_Rel (n + 1)) 162 27 [a] S T := by
  have sk := lw_skip n S T h
  obtain ⟨B, hB, k, tk, sd, rm, st, h1, h2, h3, h4, h5⟩ := h
  refine x_code ⟨_, rfl, ?_⟩
  rcases h5 with ⟨e1, e2, _, _⟩ | ⟨par, mw, mm, mt, l, l', s, fs, fs', cd, _⟩
  · refine y_code0 e2 ⟨?_, sk⟩
    unfold xWd
    rw [if_pos e1, if_neg]
    rintro ⟨p, q⟩
    exact absurd p (Int32.not_le.mpr q)
  · obtain ⟨c1, c2, cx, cy⟩ := cd
    have l15 := cx.2.2.2.1
    refine y_code1 cy.1 cy.2.2.1 l15 (fun z => ⟨?_, sk⟩) (fun j hj e => ⟨?_, sk⟩)
    · unfold xWd
      rw [cx.1, if_neg (show ¬ (1 : Int32) = 0 by decide), cx.2.2.1, if_neg]
      rintro ⟨p, q⟩
      obtain ⟨u1, u2⟩ := aN_of (n := l.length) rfl (by omega) p q
      exact z ⟨_, u2, u1⟩
    · have e5 := List.getElem?_eq_getElem hj
      unfold xWd
      rw [cx.1, if_neg (show ¬ (1 : Int32) = 0 by decide), cx.2.2.1, e, if_pos ⟨nI_pos' (by omega), nI_lt hj (by omega)⟩, rAt_nI (by omega) (by decide), cx.2.2.2.2.1 j _ e5, cy.2.2.2.2.2.1 j _ e5]
end SM

/-! THE TWO OBJECTS TOGETHER -/
def rTk (S T : mv_S) (n : Nat) (tk : Nat → Int32) : Prop := n ≤ 700 ∧ S.1 1 9 = nI n ∧ T.1 0 1 = nI n ∧ (∀ i, i < n → S.2.1 8 i = tk i) ∧ (∀ i, i < n → T.2.1 1 i = tk i) ∧ (∀ p, n ≤ p → tk p = -1)
def rCd (S T : mv_S) (n : Nat) (tk par : Nat → Int32) (mw mm mt : Nat) (l l' : List Int32) (s : List (Bool × Nat × Nat)) (fs fs' : List (Nat × Nat × Nat)) : Prop := cAll n tk false = .ok (l, s, par, fs, mw, mt) ∧ cAll n tk true = .ok (l', s, par, fs', mm, mt) ∧ xCode S l s par fs mw mt ∧ yCode T l l' par fs fs' mw mm
/-- what the face shows, alike -/
def rVw (S T : mv_S) (B : Nat) : Prop := ∃ σ σ' vs mp told most, xVe S σ vs mp told most B ∧ hInj (S.2.1 15) (S.2.1 18) (S.2.1 19) σ (fun U c => ∃ i, i < 4 ∧ U = mp i ∧ c = S.2.1 24 i) ∧ yVe T σ' vs mp told most ∧ hInj (T.2.1 13) (T.2.1 15) (T.2.1 16) σ' (fun U c => ∃ i, i < 4 ∧ U = mp i ∧ c = T.2.1 20 i) ∧ (∃ cs t, cs ≤ 24 ∧ t ≤ 2000 ∧ T.1 0 43 = nI cs ∧ T.1 0 48 = nI t) ∧ mOk mp
/-- without a run -/
def rId (S T : mv_S) (B : Nat) : Prop := ∃ vs mp told most, xId S vs mp told most B ∧ yId T vs mp told most ∧ mOk mp
/-- with a run -/
def rRn (S T : mv_S) (sd : Int32) (rm B : Nat) (par : Nat → Int32) (L : Nat) : Prop := S.1 6 2 = 1 ∧ T.1 0 54 = 1 ∧ T.1 0 55 = 0 ∧ ∃ c s, xRun S sd rm B c s ∧ yM T T sd rm c s ∧ aBd sd rm s ∧ (c = 1 → aInv (yW T) par L sd rm s)
def rSt (S T : mv_S) (n : Nat) (tk : Nat → Int32) (sd : Int32) (rm B : Nat) : Prop := (S.1 1 11 = 0 ∧ T.1 0 5 = 0 ∧ S.1 1 12 = T.1 0 4 ∧ rId S T B) ∨ (∃ par mw mm mt l l' s fs fs', rCd S T n tk par mw mm mt l l' s fs fs' ∧ (rId S T B ∨ rRn S T sd rm B par l.length))
def rel (S T : mv_S) (B : Nat) : Prop := ∃ n tk sd rm st, rTk S T n tk ∧ (S.1 3 12 = sd ∧ T.1 0 35 = sd ∧ S.1 3 13 = nI rm ∧ T.1 0 36 = nI rm ∧ rm ≤ 400) ∧ (S.1 4 15 = nI st ∧ T.1 0 52 = nI st) ∧ (T.1 0 12 = 0 ∨ T.1 0 12 = 1) ∧ rSt S T n tk sd rm B
/-- what holds of the two objects together, after n calls -/
def lw_Rel (n : Nat) (S T : mv_S) : Prop := ∃ B, B ≤ 1000100 * n ∧ rel S T B
section RL
variable {S S' S1 T T' T0 : mv_S} {n : Nat} {tk par : Nat → Int32} {sd c : Int32} {rm B B' L mw mm mt r : Nat} {l l' : List Int32} {s : List (Bool × Nat × Nat)} {fs fs' : List (Nat × Nat × Nat)} {st : aMs}
theorem yM_self (h : yM T0 T sd rm c st) : yM T T sd rm c st := by
  obtain ⟨σ, h⟩ := h
  exact ⟨σ, yA_out h ⟨fun _ _ _ => rfl, fun _ _ _ => rfl⟩ ⟨h.1.1 0 35 (fun z => by unfold yFs at z; omega), h.1.1 0 36 (fun z => by unfold yFs at z; omega)⟩ (fun _ _ => rfl) (fun _ _ _ => rfl)⟩
theorem yM_fr (h : yM T0 T sd rm c st) : yO T0 T := by
  obtain ⟨σ, h⟩ := h
  exact h.1
theorem rVw_id (h : rId S T B) : rVw S T B := by
  obtain ⟨vs, mp, told, most, ⟨σ, a1, _, _, _, _, a2⟩, ⟨σ', b1, _, b2, b3⟩, m⟩ := h
  exact ⟨σ, σ', vs, mp, told, most, a1, a2, b1, b2, b3, m⟩
theorem rVw_rn (hrm : rm ≤ 400) (h : rRn S T sd rm B par L) : rVw S T B := by
  obtain ⟨_, _, _, c, s, ⟨⟨K', _, _, hD⟩, _⟩, hM, bd, _⟩ := h
  obtain ⟨σ, a1, a2⟩ := xD_ve hD
  obtain ⟨σ', b1, b2⟩ := yM_ve hM
  obtain ⟨σ2, hA⟩ := hM
  have bl := bd.2.1
  exact ⟨σ, σ', _, _, _, _, a1, a2, b1, b2, ⟨s.2.2.2.1.length, (s.2.2.1 ++ s.2.2.2.1.flatten).length, hA.2.2.2.2.1.2.1, by omega, hA.2.2.2.2.1.1, hA.2.2.2.1.1⟩, aOk_m (D := s.2.2) bd.1 hrm⟩
theorem rVw_st (hrm : rm ≤ 400) (h : rSt S T n tk sd rm B) : rVw S T B := by
  rcases h with ⟨_, _, _, h⟩ | ⟨_, _, _, _, _, _, _, _, _, _, h | h⟩
  · exact rVw_id h
  · exact rVw_id h
  · exact rVw_rn hrm h
/-- the run goes -/
theorem rId_of (h : rVw S T B) (f10 : S1.1 3 10 = S.1 3 10) (f14 : S1.1 4 14 = S.1 4 14) (f16 : S1.1 4 16 = S.1 4 16) (rx : ∀ o i, (15 ≤ o ∧ o ≤ 19) ∨ o = 21 ∨ o = 23 ∨ o = 31 → S1.2.1 o i = S.2.1 o i) (r24 : ∀ i, i < 4 → S1.2.1 24 i = S.2.1 24 i) (fy : ∀ g, g = 33 ∨ g = 43 ∨ g = 48 ∨ g = 50 → T'.1 0 g = T.1 0 g) (h54 : T'.1 0 54 = 0) (ry : ∀ o i, (13 ≤ o ∧ o ≤ 16) ∨ o = 19 ∨ o = 20 ∨ o = 29 → T'.2.1 o i = T.2.1 o i) : rId (xLR S1) T' B := by
  obtain ⟨σ, σ', vs, mp, told, most, a1, a2, b1, b2, ⟨cs, t, b3⟩, m⟩ := h
  refine ⟨vs, mp, told, most, xId_of (xVe_go a1 f10 f14 f16 rx r24) (xInj_go a2 (fun o i a b => rx o i (Or.inl ⟨a, b⟩)) r24), ?_, m⟩
  have e13 : T'.2.1 13 = T.2.1 13 := funext (fun i => ry 13 i (by omega))
  have e15 : T'.2.1 15 = T.2.1 15 := funext (fun i => ry 15 i (by omega))
  have e16 : T'.2.1 16 = T.2.1 16 := funext (fun i => ry 16 i (by omega))
  have e20 : T'.2.1 20 = T.2.1 20 := funext (fun i => ry 20 i (by omega))
  refine ⟨σ', ⟨fun i hi => (ry 19 i (by omega)).trans (b1.1 i hi), fun i hi => ?_, ⟨(fy 50 (by omega)).trans b1.2.2.1.1, b1.2.2.1.2.1, fun p x hp => (ry 29 p (by omega)).trans (b1.2.2.1.2.2 p x hp)⟩, (fy 33 (by omega)).trans b1.2.2.2⟩, h54, by rw [e13, e15, e16, e20]; exact b2, cs, t, b3.1, b3.2.1, (fy 43 (by omega)).trans b3.2.2.1, (fy 48 (by omega)).trans b3.2.2.2⟩
  rw [e20]
  exact yTr_ro (fun o j h1 h2 => ry o j (Or.inl ⟨h1, h2⟩)) (b1.2.1 i hi)
theorem rId_go (h : rId S T B) (f : ∀ o g, o = 3 ∨ o = 4 ∨ o = 6 → S'.1 o g = S.1 o g) (rx : ∀ o i, 15 ≤ o → o < 35 → S'.2.1 o i = S.2.1 o i) : rId S' T B := by
  obtain ⟨vs, mp, told, most, a, b, m⟩ := h
  exact ⟨vs, mp, told, most, xId_go a f rx, b, m⟩
theorem rId_B (h : rId S T B) (hB : B ≤ B') : rId S T B' := by
  obtain ⟨vs, mp, told, most, a, b, m⟩ := h
  exact ⟨vs, mp, told, most, xId_B a hB, b, m⟩
theorem rRn_B (h : rRn S T sd rm B par L) (hB : B ≤ B') : rRn S T sd rm B' par L := by
  obtain ⟨a, b, e, c, s, ⟨⟨K', q1, q2, q3⟩, q4⟩, h⟩ := h
  exact ⟨a, b, e, c, s, ⟨⟨K', q1, q2, xD_B q3 hB⟩, q4⟩, h⟩
theorem rel_B (h : rel S T B) (hB : B ≤ B') : rel S T B' := by
  obtain ⟨n, tk, sd, rm, st, h1, h2, h3, h4, h5⟩ := h
  refine ⟨n, tk, sd, rm, st, h1, h2, h3, h4, ?_⟩
  rcases h5 with ⟨a, b, c, h⟩ | ⟨par, mw, mm, mt, l, l', s, fs, fs', cd, h | h⟩
  · exact Or.inl ⟨a, b, c, rId_B h hB⟩
  · exact Or.inr ⟨par, mw, mm, mt, l, l', s, fs, fs', cd, Or.inl (rId_B h hB)⟩
  · exact Or.inr ⟨par, mw, mm, mt, l, l', s, fs, fs', cd, Or.inr (rRn_B h hB)⟩
theorem xCode_go {cf : List (Nat × Nat × Nat)} (h : xCode S l s par cf mw mt) (f : ∀ g, S'.1 1 g = S.1 1 g) (r : ∀ o i, 9 ≤ o → o ≤ 14 → S'.2.1 o i = S.2.1 o i) : xCode S' l s par cf mw mt := by
  obtain ⟨a1, a2, a3, a4, a5, a6, a7, a8, a9, a10⟩ := h
  refine ⟨(f 11).trans a1, (f 12).trans a2, (f 10).trans a3, a4, fun i x hx => (r 11 i (by decide) (by decide)).trans (a5 i x hx), fun g q e z => ⟨(a6 g q e z).1, ?_⟩, fun i hi => (r 12 i (by decide) (by decide)).trans (a7 i hi), fun f w t z => ⟨(a8 f w t z).1, (a8 f w t z).2.1, (r 13 f (by decide) (by decide)).trans (a8 f w t z).2.2.1, (r 14 f (by decide) (by decide)).trans (a8 f w t z).2.2.2⟩, (f 7).trans a9, (f 8).trans a10⟩
  rw [r _ q (by split <;> decide) (by split <;> decide)]
  exact (a6 g q e z).2
theorem yCode_go (h : yCode T l l' par fs fs' mw mm) (f : ∀ g, g = 4 ∨ g = 5 ∨ g = 7 ∨ g = 10 ∨ g = 11 → T'.1 0 g = T.1 0 g) (r : ∀ o i, 2 ≤ o → o ≤ 7 → T'.2.1 o i = T.2.1 o i) : yCode T' l l' par fs fs' mw mm := by
  obtain ⟨a1, a2, a3, a4, a5, a6, a7, a8, a9, a10, a11, a12⟩ := h
  exact ⟨(f 5 (by omega)).trans a1, (f 4 (by omega)).trans a2, (f 7 (by omega)).trans a3, a4, a5, fun i x hx => (r 2 i (by decide) (by decide)).trans (a6 i x hx), fun i x hx => (r 3 i (by decide) (by decide)).trans (a7 i x hx), fun f hf z => ⟨(r 5 f (by decide) (by decide)).trans (a8 f hf z).1, (a8 f hf z).2⟩, fun f w t z => ⟨(a9 f w t z).1, (a9 f w t z).2.1, (r 6 f (by decide) (by decide)).trans (a9 f w t z).2.2⟩, fun f w t z => ⟨(a10 f w t z).1, (a10 f w t z).2.1, (r 7 f (by decide) (by decide)).trans (a10 f w t z).2.2⟩, (f 10 (by omega)).trans a11, (f 11 (by omega)).trans a12⟩
theorem rTk_go (h : rTk S T n tk) (f1 : S'.1 1 9 = S.1 1 9) (f2 : T'.1 0 1 = T.1 0 1) (r1 : ∀ i, S'.2.1 8 i = S.2.1 8 i) (r2 : ∀ i, T'.2.1 1 i = T.2.1 1 i) : rTk S' T' n tk := ⟨h.1, f1.trans h.2.1, f2.trans h.2.2.1, fun i hi => (r1 i).trans (h.2.2.2.1 i hi), fun i hi => (r2 i).trans (h.2.2.2.2.1 i hi), h.2.2.2.2.2⟩
/-- only rounds have changed -/
theorem rel_rg (h : rel S T B) (g : xRg S S' r) (hr : r ≤ B) : rel S' T (B + 1) := by
  obtain ⟨n, tk, sd, rm, st, h1, h2, h3, h4, h5⟩ := h
  have ff : ∀ o f, ¬ (o = 3 ∧ (f = 10 ∨ f = 11)) → S'.1 o f = S.1 o f := g.1
  have rr : ∀ o i, o ≠ 21 → o ≠ 22 → S'.2.1 o i = S.2.1 o i := g.2.1
  have id : rId S T B → rId S' T (B + 1) := by
    rintro ⟨vs, mp, told, most, ⟨σ, ⟨a1, a2, a3, a4, _⟩, b1, b2, b3, b4, b5⟩, y, m⟩
    refine ⟨vs, mp, told, most, ⟨σ, ⟨fun i hi => (rr 23 i (by decide) (by decide)).trans (a1 i hi), fun i hi => ?_, ⟨(ff 4 14 (by omega)).trans a3.1, a3.2.1, fun p x hp => (rr 31 p (by decide) (by decide)).trans (a3.2.2 p x hp)⟩, (ff 4 16 (by omega)).trans a4, r + 1, by omega, g.2.2.2⟩, (ff 6 2 (by omega)).trans b1, (ff 4 13 (by omega)).trans b2, (ff 4 12 (by omega)).trans b3, fun i i1 i2 => (rr 24 i (by decide) (by decide)).trans (b4 i i1 i2), xInj_go b5 (fun o i a b => rr o i (by omega) (by omega)) (fun i _ => rr 24 i (by decide) (by decide))⟩, y, m⟩
    rw [rr 24 i (by decide) (by decide)]
    exact xTr_ro (fun o j h1 h2 => rr o j (by omega) (by omega)) (a2 i hi)
  refine ⟨n, tk, sd, rm, st, rTk_go h1 (ff 1 9 (by omega)) rfl (fun i => rr 8 i (by decide) (by decide)) (fun _ => rfl), ⟨(ff 3 12 (by omega)).trans h2.1, h2.2.1, (ff 3 13 (by omega)).trans h2.2.2.1, h2.2.2.2⟩, ⟨(ff 4 15 (by omega)).trans h3.1, h3.2⟩, h4, ?_⟩
  rcases h5 with ⟨a, b, c, h⟩ | ⟨par, mw, mm, mt, l, l', s, fs, fs', cd, h⟩
  · exact Or.inl ⟨(ff 1 11 (by omega)).trans a, b, (ff 1 12 (by omega)).trans c, id h⟩
  · refine Or.inr ⟨par, mw, mm, mt, l, l', s, fs, fs', ⟨cd.1, cd.2.1, xCode_go cd.2.2.1 (fun f => ff 1 f (by omega)) (fun o i a b => rr o i (by omega) (by omega)), cd.2.2.2⟩, ?_⟩
    rcases h with h | ⟨q1, q2, q3, c, s', ⟨⟨K', u1, u2, σ, fb, u3⟩, u4, u5⟩, q4⟩
    · exact Or.inl (id h)
    · exact Or.inr ⟨(ff 6 2 (by omega)).trans q1, q2, q3, c, s', ⟨⟨K', u1, u2, xD_self ⟨σ, fb, xA_rg u3 g hr⟩⟩, (ff 6 3 (by omega)).trans u4, (ff 6 4 (by omega)).trans u5⟩, q4⟩
/-- only the reference's marks have changed -/
theorem rel_mf (h : rel S T B) (g : yMf T T') : rel S T' B := by
  obtain ⟨n, tk, sd, rm, st, h1, h2, h3, h4, h5⟩ := h
  have ff : ∀ o f, ¬ (o = 0 ∧ f = 30) → T'.1 o f = T.1 o f := g.1
  have rr : ∀ o i, o ≠ 17 → o ≠ 18 → T'.2.1 o i = T.2.1 o i := g.2.1
  have id : rId S T B → rId S T' B := by
    rintro ⟨vs, mp, told, most, x, y, m⟩
    refine ⟨vs, mp, told, most, x, yId_go y (fun f hf => ff 0 f (by omega)) ?_ (fun o i a => rr o i (by omega) (by omega)), m⟩
    obtain ⟨σ, _, b, _⟩ := y
    exact (ff 0 54 (by omega)).trans b
  have ew : yW T' = yW T := by
    funext q
    unfold yW
    rw [ff 0 55 (by omega), rr 2 q (by decide) (by decide), rr 3 q (by decide) (by decide)]
  refine ⟨n, tk, sd, rm, st, rTk_go h1 rfl (ff 0 1 (by omega)) (fun _ => rfl) (fun i => rr 1 i (by decide) (by decide)), ⟨h2.1, (ff 0 35 (by omega)).trans h2.2.1, h2.2.2.1, (ff 0 36 (by omega)).trans h2.2.2.2.1, h2.2.2.2.2⟩, ⟨h3.1, (ff 0 52 (by omega)).trans h3.2⟩, by rw [ff 0 12 (by omega)]; exact h4, ?_⟩
  rcases h5 with ⟨a, b, c, h⟩ | ⟨par, mw, mm, mt, l, l', s, fs, fs', cd, h⟩
  · exact Or.inl ⟨a, (ff 0 5 (by omega)).trans b, by rw [ff 0 4 (by omega)]; exact c, id h⟩
  · refine Or.inr ⟨par, mw, mm, mt, l, l', s, fs, fs', ⟨cd.1, cd.2.1, cd.2.2.1, yCode_go cd.2.2.2 (fun f hf => ff 0 f (by omega)) (fun o i a b => rr o i (by omega) (by omega))⟩, ?_⟩
    rcases h with h | ⟨q1, q2, q3, c, s', u, ⟨σ, hA⟩, bd, iv⟩
    · exact Or.inl (id h)
    · exact Or.inr ⟨q1, (ff 0 54 (by omega)).trans q2, (ff 0 55 (by omega)).trans q3, c, s', u, yM_self ⟨σ, yA_mf hA g⟩, bd, by rw [ew]; exact iv⟩
theorem rel_ro (h : rel S T B) : ∃ r, r ≤ B ∧ xRo S r := by
  obtain ⟨n, tk, sd, rm, st, h1, h2, h3, h4, h5⟩ := h
  obtain ⟨σ, σ', vs, mp, told, most, a1, _⟩ := rVw_st h2.2.2.2.2 h5
  exact a1.2.2.2.2
/-- what the code gives to a run -/
theorem rCd_run (h : rCd S T n tk par mw mm mt l l' s fs fs') (ht : ∀ p, n ≤ p → tk p = -1) (h55 : T.1 0 55 = 0) : ∃ fa : Nat → Nat, xPg S (yW T) par fa l.length ∧ yPg T par fa l.length ∧ tyA (yW T) par l.length true mw [] := by
  obtain ⟨c1, c2, ⟨x1, x2, x3, x4, x5, x6, x7, x8, x9, x10⟩, ⟨y1, y2, y3, y4, y5, y6, y7, y8, y9, y10, y11, y12⟩⟩ := h
  have ew : yW T = T.2.1 2 := by
    funext q
    unfold yW
    rw [if_pos h55]
  have seg : Seg (T.2.1 2) 0 l := fun i x hx => by rw [Nat.zero_add]; exact y6 i x hx
  obtain ⟨t1, t2, t3, t4, t5, t6, t7⟩ := tyAll (w := T.2.1 2) ht c1 seg rfl (by omega)
  rw [ew]
  have fa : ∀ f, f < 8 → ¬ par f = -1 → ∃ a, S.2.1 13 f = nI a ∧ T.2.1 6 f = nI a ∧ tyA (T.2.1 2) par l.length false a [] ∧ (T.2.1 6 f).toNatClampNeg = a := by
    intro f hf z
    obtain ⟨a, t, hm⟩ := t4 f hf z
    have ty := t2 f a t hm
    have i := tyA_i ty
    obtain ⟨k, hk, hw⟩ := nI_of2 (M := 30) (n := 30) rfl (Int32.not_lt.mpr i.1.2.2.1) i.1.2.2.2
    have := okI_len i hw hk
    have := aWl_pos k
    refine ⟨a, (x8 f a t hm).2.2.1, (y9 f a t hm).2.2, ty, ?_⟩
    rw [(y9 f a t hm).2.2, nI_clamp (by omega)]
  refine ⟨fun f => (T.2.1 6 f).toNatClampNeg, ⟨by rw [x1]; decide, x3, x4, fun p hp => ?_, x7, fun f hf z => ?_⟩, ⟨fun f hf z => (y8 f hf z).1, fun f hf z => ?_, fun p hp => ?_, fun f hf z => ?_⟩, t1⟩
  · have e := List.getElem?_eq_getElem hp
    rw [x5 p _ e, y6 p _ e]
  · obtain ⟨a, a1, a2, a3, a4⟩ := fa f hf z
    show S.2.1 13 f = nI (T.2.1 6 f).toNatClampNeg
    rw [a1, a4]
  · obtain ⟨a, a1, a2, a3, a4⟩ := fa f hf z
    show (if T.1 0 55 = 0 then T.2.1 6 f else T.2.1 7 f) = nI (T.2.1 6 f).toNatClampNeg
    rw [if_pos h55, a4]; exact a2
  · exact ⟨fun _ => by omega, fun z => absurd h55 z⟩
  · obtain ⟨a, a1, a2, a3, a4⟩ := fa f hf z
    show tyA (yW T) par l.length false (T.2.1 6 f).toNatClampNeg []
    rw [a4, ew]; exact a3
end RL

/-! THE CALLS, one by one: what was told, variables, maps, counts -/
section SO
variable {S T : mv_S} {n : Nat}
theorem rel_vw {B : Nat} (h : rel S T B) : rVw S T B := by
  obtain ⟨k, tk, sd, rm, st, h1, h2, h3, h4, h5⟩ := h
  exact rVw_st h2.2.2.2.2 h5
theorem sm_8 (h : lw_Rel n S T) : lw_Sim (lw_Rel (n + 1)) 166 69 [] S T := by
  have sk := lw_skip n S T h
  obtain ⟨B, hB, hr⟩ := h
  obtain ⟨σ, σ', vs, mp, told, most, a1, a2, b1, b2, b3, m⟩ := rel_vw hr
  exact x_outSize ⟨_, rfl, y_outSize ⟨by rw [a1.2.2.1.1, b1.2.2.1.1], sk⟩⟩
theorem sm_9 (h : lw_Rel n S T) (a : Int32) : lw_Sim (lw_Rel (n + 1)) 167 70 [a] S T := by
  have sk := lw_skip n S T h
  obtain ⟨B, hB, hr⟩ := h
  obtain ⟨σ, σ', vs, mp, told, most, a1, a2, b1, b2, b3, m⟩ := rel_vw hr
  have t3 := a1.2.2.1.2.1
  refine x_out ⟨_, rfl, y_out b1.2.2.1.1 b1.2.2.1.2.1 (fun z => ⟨?_, sk⟩) (fun j hj e => ⟨?_, sk⟩)⟩
  · unfold xTold
    rw [a1.2.2.1.1, if_neg]
    rintro ⟨p, q⟩
    obtain ⟨u1, u2⟩ := aN_of (n := told.length) rfl (by omega) p q
    exact z ⟨_, u2, u1⟩
  · have e5 := List.getElem?_eq_getElem hj
    unfold xTold
    rw [a1.2.2.1.1, e, if_pos ⟨nI_pos' (by omega), nI_lt hj (by omega)⟩, rAt_nI (by omega) (by decide), a1.2.2.1.2.2 j _ e5, b1.2.2.1.2.2 j _ e5]
theorem sm_10 (h : lw_Rel n S T) (a : Int32) : lw_Sim (lw_Rel (n + 1)) 168 71 [a] S T := by
  have sk := lw_skip n S T h
  obtain ⟨B, hB, hr⟩ := h
  obtain ⟨σ, σ', vs, mp, told, most, a1, a2, b1, b2, b3, m⟩ := rel_vw hr
  refine x_variable ⟨_, rfl, y_variable (fun z => ⟨?_, sk⟩) (fun z => ⟨?_, sk⟩)⟩
  · unfold xVar
    rw [if_neg z]
  · obtain ⟨u1, u2⟩ := aN_of (n := 8) rfl (by decide) z.1 z.2
    have e : rAt 158 (S.2.1 23) (xVP S a) = S.2.1 23 a.toNatClampNeg := by
      unfold xVP
      rw [if_pos z.2]
      rw [show rAt 158 (S.2.1 23) a = rAt 158 (S.2.1 23) (nI a.toNatClampNeg) by rw [← u1], rAt_nI (by omega) (by decide)]
    unfold xVar
    rw [if_pos z, e, a1.1 _ u2, b1.1 _ u2]
set_option maxHeartbeats 1000000 in
theorem sm_11 (h : lw_Rel n S T) (hn : n ≤ 511) (a b c : Int32) : lw_Sim (lw_Rel (n + 1)) 169 72 [a, b, c] S T := by
  have sk := lw_skip n S T h
  obtain ⟨B, hB, hr⟩ := h
  obtain ⟨σ, σ', vs, mp, told, most, a1, a2, b1, b2, b3, m⟩ := rel_vw hr
  have nj : ∀ {j j' : Nat}, j < 4 → j' < 4 → a = nI j → a = nI j' → j = j' := fun h1 h2 e1 e2 => (nI_eq (by omega) (by omega)).mp (e1.symm.trans e2)
  refine x_mapG (i := c) a1 m (by omega) (fun z => ⟨-2, rfl, y_mapG (i := c) b1 m (fun _ => ⟨rfl, sk⟩) (fun j hj e1 e2 => absurd ⟨⟨by rw [e1]; exact nI_pos' (by omega), by rw [e1]; exact nI_lt (b := 4) hj (by decide)⟩, by rw [e2]; decide⟩ z) (fun j hj e1 e2 => absurd ⟨⟨by rw [e1]; exact nI_pos' (by omega), by rw [e1]; exact nI_lt (b := 4) hj (by decide)⟩, by rw [e2]; decide⟩ z) (fun j hj e1 e2 => absurd ⟨⟨by rw [e1]; exact nI_pos' (by omega), by rw [e1]; exact nI_lt (b := 4) hj (by decide)⟩, by rw [e2]; decide⟩ z) (fun j hj e1 e2 => absurd ⟨⟨by rw [e1]; exact nI_pos' (by omega), by rw [e1]; exact nI_lt (b := 4) hj (by decide)⟩, by rw [e2]; decide⟩ z)⟩) (fun j hj e1 e2 S' r hr1 hrg => ⟨_, rfl, ?_⟩) (fun j hj e1 e2 => ⟨_, rfl, ?_⟩) (fun j hj e1 e2 => ⟨_, rfl, ?_⟩) (fun j hj e1 e2 => ⟨_, rfl, ?_⟩)
  · have inr : (0 ≤ a ∧ a < 4) ∧ (0 ≤ b ∧ b < 4) := ⟨⟨by rw [e1]; exact nI_pos' (by omega), by rw [e1]; exact nI_lt (b := 4) hj (by decide)⟩, by rw [e2]; decide⟩
    refine y_mapG (i := c) b1 m (fun z => absurd inr z) (fun j' hj' e1' e2' T' g => ?_) (fun j' hj' e1' e2' => absurd (e2.symm.trans e2') (by decide)) (fun j' hj' e1' e2' => absurd (e2.symm.trans e2') (by decide)) (fun j' hj' e1' e2' => absurd (e2.symm.trans e2') (by decide))
    obtain rfl := nj hj hj' e1 e1'
    exact ⟨rfl, B + 1, by omega, rel_mf (rel_rg hr hrg hr1) g⟩
  · have inr : (0 ≤ a ∧ a < 4) ∧ (0 ≤ b ∧ b < 4) := ⟨⟨by rw [e1]; exact nI_pos' (by omega), by rw [e1]; exact nI_lt (b := 4) hj (by decide)⟩, by rw [e2]; decide⟩
    refine y_mapG (i := c) b1 m (fun z => absurd inr z) (fun j' hj' e1' e2' => absurd (e2.symm.trans e2') (by decide)) (fun j' hj' e1' e2' => ?_) (fun j' hj' e1' e2' => absurd (e2.symm.trans e2') (by decide)) (fun j' hj' e1' e2' => absurd (e2.symm.trans e2') (by decide))
    obtain rfl := nj hj hj' e1 e1'
    exact ⟨rfl, sk⟩
  · have inr : (0 ≤ a ∧ a < 4) ∧ (0 ≤ b ∧ b < 4) := ⟨⟨by rw [e1]; exact nI_pos' (by omega), by rw [e1]; exact nI_lt (b := 4) hj (by decide)⟩, by rw [e2]; decide⟩
    refine y_mapG (i := c) b1 m (fun z => absurd inr z) (fun j' hj' e1' e2' => absurd (e2.symm.trans e2') (by decide)) (fun j' hj' e1' e2' => absurd (e2.symm.trans e2') (by decide)) (fun j' hj' e1' e2' => ?_) (fun j' hj' e1' e2' => absurd (e2.symm.trans e2') (by decide))
    obtain rfl := nj hj hj' e1 e1'
    exact ⟨rfl, sk⟩
  · have inr : (0 ≤ a ∧ a < 4) ∧ (0 ≤ b ∧ b < 4) := ⟨⟨by rw [e1]; exact nI_pos' (by omega), by rw [e1]; exact nI_lt (b := 4) hj (by decide)⟩, by rw [e2]; decide⟩
    refine y_mapG (i := c) b1 m (fun z => absurd inr z) (fun j' hj' e1' e2' => absurd (e2.symm.trans e2') (by decide)) (fun j' hj' e1' e2' => absurd (e2.symm.trans e2') (by decide)) (fun j' hj' e1' e2' => absurd (e2.symm.trans e2') (by decide)) (fun j' hj' e1' e2' => ?_)
    obtain rfl := nj hj hj' e1 e1'
    exact ⟨rfl, sk⟩
theorem aHd_K {K K' : List aI} {R} (h : aMap K' = aMap K) : aHd (K', R) = aHd (K, R) := by
  funext U
  unfold aHd
  show ((∃ i, i < 6 + 2 * R.1.length ∧ U = R.2.2.1 i) ∨ ∃ q, (U, q) ∈ aMap (K' ++ R.1.flatten)) = ((∃ i, i < 6 + 2 * R.1.length ∧ U = R.2.2.1 i) ∨ ∃ q, (U, q) ∈ aMap (K ++ R.1.flatten))
  rw [aMap_app, aMap_app, h]
/-- live cells, alike -/
theorem sm_live {B : Nat} (h : rel S T B) (hB : B + 5 < 2 ^ 31) : mv_big layX sysX 3 122 [.ref 4] S (fun r S' => ∃ x, r = some (.int x) ∧ ∃ rr, rr ≤ B ∧ xRg S S' rr ∧ mv_big layY sysY 2 31 [.ref 0, .int (T.1 0 54)] T (fun r T' => r = none ∧ yMf T T' ∧ T'.1 0 30 = x)) := by
  obtain ⟨k, tk, sd, rm, st, h1, h2, h3, h4, h5⟩ := h
  have idle : rId S T B → mv_big layX sysX 3 122 [.ref 4] S (fun r S' => ∃ x, r = some (.int x) ∧ ∃ rr, rr ≤ B ∧ xRg S S' rr ∧ mv_big layY sysY 2 31 [.ref 0, .int (T.1 0 54)] T (fun r T' => r = none ∧ yMf T T' ∧ T'.1 0 30 = x)) := by
    rintro ⟨vs, mp, told, most, ⟨σ, ⟨a1, a2, a3, a4, r, r1, r2⟩, x2, x13, x12, x24, xi⟩, ⟨σ', ⟨b1, b2, b3, b4⟩, y54, yi, cs, t, c1, c2, c3, c4⟩, m⟩
    obtain ⟨Ln, hL⟩ : ∃ Ln, hNs (fun U => ∃ i, i < 4 ∧ U = mp i) Ln := by
      obtain ⟨V, v1, v2⟩ := nd_ex (((List.range 4).map mp).flatMap tNd)
      refine ⟨V, v1, fun x => ?_⟩
      rw [v2 x, List.mem_flatMap]
      refine exists_congr (fun U => and_congr_left (fun _ => ?_))
      rw [List.mem_map]
      exact ⟨fun ⟨i, h, e⟩ => ⟨i, List.mem_range.mp h, e.symm⟩, fun ⟨i, h, e⟩ => ⟨i, List.mem_range.mpr h, e.symm⟩⟩
    have ex : (fun U => ∃ c, ∃ i, i < 4 ∧ U = mp i ∧ c = S.2.1 24 i) = (fun U => ∃ i, i < 4 ∧ U = mp i) := by
      funext U
      exact propext ⟨fun ⟨c, i, q1, q2, _⟩ => ⟨i, q1, q2⟩, fun ⟨i, q1, q2⟩ => ⟨_, i, q1, q2, rfl⟩⟩
    have ey : (fun U => ∃ c, ∃ i, i < 4 ∧ U = mp i ∧ c = T.2.1 20 i) = (fun U => ∃ i, i < 4 ∧ U = mp i) := by
      funext U
      exact propext ⟨fun ⟨c, i, q1, q2, _⟩ => ⟨i, q1, q2⟩, fun ⟨i, q1, q2⟩ => ⟨_, i, q1, q2, rfl⟩⟩
    refine x_liveG (d := 0) (cs := 0) (t := 0) (rt := fun U c => ∃ i, i < 4 ∧ U = mp i ∧ c = S.2.1 24 i) (Ln := Ln) r2 (by omega) (fun U c z => by obtain ⟨i, q1, rfl, rfl⟩ := z; exact a2 i q1) xi (by decide) (by decide) x13 x12 (fun p hp => ?_) (fun p hp => absurd hp (by omega)) (fun U c z => by obtain ⟨i, q1, _, q3⟩ := z; exact Or.inl ⟨i, by omega, q3⟩) (by rw [ex]; exact hL) (fun S' g => ⟨_, rfl, r, r1, g, ?_⟩)
    · by_cases z : p < 4
      · exact Or.inr ⟨mp p, p, z, rfl, rfl⟩
      · exact Or.inl (x24 p (by omega) (by omega))
    · rw [y54]
      exact y_liveN (d := 0) c1 c2 c3 c4 b2 yi (by rw [ey]; exact hL) (fun T' g1 g2 => ⟨rfl, g1, g2⟩)
  rcases h5 with ⟨_, _, _, hi⟩ | ⟨par, mw, mm, mt, l, l', s, fs, fs', cd, hi | ⟨x2, y54, y55, c, sm, ⟨⟨K', e1, e2, σ, fb, hA⟩, _⟩, ⟨σ', hA'⟩, bd, iv⟩⟩
  · exact idle hi
  · exact idle hi
  · obtain ⟨pc, rets, K, Ks, vs, mp, told, most, stp⟩ := sm
    have hA : xA S S σ sd rm fb B rets K' Ks vs mp told most := hA
    have hA' : yA T T σ' sd rm pc c rets K Ks vs mp told most := hA'
    have e1 : aMap K' = aMap K := e1
    have bdl : (aMap K).length ≤ 17 := bd.2.2.2
    have bdq : (K ++ Ks.flatten).length ≤ 1250 := bd.2.1
    obtain ⟨Ln, hL⟩ := aNs_ex (K, Ks, vs, mp, told, most, stp)
    have hLx := hL
    rw [← aHd_K (K' := K') e1, ← xRt_hd (S := S)] at hLx
    have hLy := hL
    rw [← yRt_hd (T := T)] at hLy
    obtain ⟨r, r1, r2⟩ := hA.2.1.2.2.2.2.2.2.2.2
    have ln := xBs_len hA.2.2.2.2.1.2.2
    have n24 := hA.2.2.2.2.1.2.1
    have zl : (aMap (K' ++ Ks.flatten)).length ≤ 425 := by rw [aMap_app, List.length_append, e1]; omega
    refine x_liveG (d := 0) (cs := Ks.length) (t := (aMap (K' ++ Ks.flatten)).length) (rt := xRt S (aMap (K' ++ Ks.flatten)) Ks.length mp) (Ln := Ln) r2 (by omega) (fun U c z => xCl_tr (xA_cl hA z)) hA.2.2.2.2.2.2.2.2.2 n24 zl hA.2.2.2.2.1.1 hA.2.2.2.1.1 (fun p hp => Or.inr ⟨mp p, Or.inl ⟨p, hp, rfl, rfl⟩⟩) (fun p hp => ?_) (fun U c z => ?_) hLx (fun S' g => ⟨_, rfl, r, r1, g, ?_⟩)
    · obtain ⟨U, z⟩ := xZr_idx (S := S) hp
      exact ⟨U, Or.inr z⟩
    · rcases z with ⟨i, q1, q2, q3⟩ | z
      · exact Or.inl ⟨i, q1, q3⟩
      · obtain ⟨p, p1, p2⟩ := xZr_hok (V := fun _ => True) z
        exact Or.inr ⟨p, p1, p2⟩
    · rw [y54]
      exact y_liveA (d := 0) hA' bdq hLy (fun T' g1 g2 => ⟨rfl, g1, g2⟩)
set_option maxHeartbeats 1000000 in
theorem sm_12 (h : lw_Rel n S T) (hn : n ≤ 511) (a : Int32) : lw_Sim (lw_Rel (n + 1)) 170 73 [a] S T := by
  have sk := lw_skip n S T h
  obtain ⟨B, hB, hr⟩ := h
  have lv := sm_live hr (by omega)
  have hr0 := hr
  obtain ⟨σ, σ', vs, mp, told, most, a1, a2, b1, b2, b3, m⟩ := rel_vw hr
  obtain ⟨k, tk, sd, rm, st, h1, h2, h3, h4, h5⟩ := hr
  have zx : (S.1 6 2 = 0 ∧ T.1 0 54 = 0 ∧ S.1 4 13 = 0) ∨ (S.1 6 2 = 1 ∧ T.1 0 54 = 1 ∧ S.1 4 13 = T.1 0 43 ∧ S.1 6 3 = T.1 0 51 ∧ S.1 6 4 = T.1 0 53) := by
    have idle : rId S T B → S.1 6 2 = 0 ∧ T.1 0 54 = 0 ∧ S.1 4 13 = 0 := by
      rintro ⟨vs, mp, told, most, ⟨σ, _, x2, x13, _⟩, ⟨σ', _, y54, _⟩, _⟩
      exact ⟨x2, y54, x13⟩
    rcases h5 with ⟨_, _, _, hi⟩ | ⟨par, mw, mm, mt, l, l', s, fs, fs', cd, hi | ⟨x2, y54, y55, c, sm, ⟨⟨K', e1, e2, σ, fb, hA⟩, e3, e4⟩, ⟨σ', hA'⟩, bd, iv⟩⟩
    · exact Or.inl (idle hi)
    · exact Or.inl (idle hi)
    · exact Or.inr ⟨x2, y54, hA.2.2.2.2.1.1.trans hA'.2.2.2.2.1.1.symm, e3.trans hA'.2.2.1.1.symm, e4.trans hA'.2.2.1.2.symm⟩
  have zc : (if S.1 1 11 = 0 then (0 : Int32) else S.1 1 10) = if T.1 0 5 = 0 then 0 else T.1 0 7 := by
    rcases h5 with ⟨e1, e2, _, _⟩ | ⟨par, mw, mm, mt, l, l', s, fs, fs', cd, _⟩
    · rw [if_pos e1, if_pos e2]
    · rw [if_neg (by rw [cd.2.2.1.1]; decide), if_neg (by rw [cd.2.2.2.1]; decide), cd.2.2.1.2.2.1, cd.2.2.2.2.2.1]
  have hzx : S.1 6 2 = 0 ∨ S.1 6 2 = 1 := zx.elim (fun z => Or.inl z.1) (fun z => Or.inr z.1)
  have hzy : T.1 0 54 = 0 ∨ T.1 0 54 = 1 := zx.elim (fun z => Or.inl z.2.1) (fun z => Or.inr z.2.1)
  -- the reference's answer, where it is a number that stands
  have yy : ∀ x : Int32, (a = 0 → T.1 0 1 = x) → (a = 1 → (if T.1 0 5 = 0 then (0 : Int32) else T.1 0 7) = x) → (a = 2 → T.1 0 52 = x) → ¬ a = 3 → (a = 4 → T.1 0 33 = x) → (a = 5 → (if T.1 0 54 = 0 then (0 : Int32) else T.1 0 43) = x) → (a = 6 → (if T.1 0 54 = 0 then (-1 : Int32) else T.1 0 51) = x) → (a = 7 → (if T.1 0 54 = 0 then (6 : Int32) else T.1 0 53) = x) → (¬ (0 ≤ a ∧ a < 8) → -2 = x) → mv_big layY sysY 2000 73 [.ref 0, .int a] T (fun r' T' => r' = some (.int x) ∧ lw_Rel (n + 1) S T') := fun x q0 q1 q2 q3 q4 q5 q6 q7 qb => y_countG hzy (fun e => ⟨by rw [q0 e], sk⟩) (fun e => ⟨by rw [q1 e], sk⟩) (fun e => ⟨by rw [q2 e], sk⟩) (fun e => absurd e q3) (fun e => ⟨by rw [q4 e], sk⟩) (fun e => ⟨by rw [q5 e], sk⟩) (fun e => ⟨by rw [q6 e], sk⟩) (fun e => ⟨by rw [q7 e], sk⟩) (fun e => ⟨by rw [qb e], sk⟩)
  refine x_countG hzx (fun e => ⟨_, rfl, ?_⟩) (fun e => ⟨_, rfl, ?_⟩) (fun e => ⟨_, rfl, ?_⟩) (fun e => ?_) (fun e => ⟨_, rfl, ?_⟩) (fun e => ⟨_, rfl, ?_⟩) (fun e => ⟨_, rfl, ?_⟩) (fun e => ⟨_, rfl, ?_⟩) (fun e => ⟨_, rfl, ?_⟩)
  · subst e
    exact yy _ (fun _ => h1.2.2.1.trans h1.2.1.symm) (fun z => absurd z (by decide)) (fun z => absurd z (by decide)) (by decide) (fun z => absurd z (by decide)) (fun z => absurd z (by decide)) (fun z => absurd z (by decide)) (fun z => absurd z (by decide)) (fun z => absurd (by decide) z)
  · subst e
    exact yy _ (fun z => absurd z (by decide)) (fun _ => zc.symm) (fun z => absurd z (by decide)) (by decide) (fun z => absurd z (by decide)) (fun z => absurd z (by decide)) (fun z => absurd z (by decide)) (fun z => absurd z (by decide)) (fun z => absurd (by decide) z)
  · subst e
    exact yy _ (fun z => absurd z (by decide)) (fun z => absurd z (by decide)) (fun _ => h3.2.trans h3.1.symm) (by decide) (fun z => absurd z (by decide)) (fun z => absurd z (by decide)) (fun z => absurd z (by decide)) (fun z => absurd z (by decide)) (fun z => absurd (by decide) z)
  · subst e
    refine mv_big_mono 3 _ (by omega) _ _ _ _ _ (fun r S' z => ?_) lv
    obtain ⟨x, rfl, rr, r1, g, hy⟩ := z
    refine ⟨x, rfl, x, rfl, y_countG hzy (fun z => absurd z (by decide)) (fun z => absurd z (by decide)) (fun z => absurd z (by decide)) (fun _ => ?_) (fun z => absurd z (by decide)) (fun z => absurd z (by decide)) (fun z => absurd z (by decide)) (fun z => absurd z (by decide)) (fun z => absurd (by decide) z)⟩
    refine mv_big_mono 2 _ (by omega) _ _ _ _ _ (fun r T' z => ?_) hy
    obtain ⟨rfl, g1, g2⟩ := z
    exact ⟨rfl, by rw [g2], B + 1, by omega, rel_mf (rel_rg hr0 g r1) g1⟩
  · subst e
    exact yy _ (fun z => absurd z (by decide)) (fun z => absurd z (by decide)) (fun z => absurd z (by decide)) (by decide) (fun _ => b1.2.2.2.trans a1.2.2.2.1.symm) (fun z => absurd z (by decide)) (fun z => absurd z (by decide)) (fun z => absurd z (by decide)) (fun z => absurd (by decide) z)
  · subst e
    refine yy _ (fun z => absurd z (by decide)) (fun z => absurd z (by decide)) (fun z => absurd z (by decide)) (by decide) (fun z => absurd z (by decide)) (fun _ => ?_) (fun z => absurd z (by decide)) (fun z => absurd z (by decide)) (fun z => absurd (by decide) z)
    rcases zx with ⟨_, y, x13⟩ | ⟨_, y, x13, _⟩
    · rw [if_pos y, x13]
    · rw [if_neg (by rw [y]; decide), x13]
  · subst e
    refine yy _ (fun z => absurd z (by decide)) (fun z => absurd z (by decide)) (fun z => absurd z (by decide)) (by decide) (fun z => absurd z (by decide)) (fun z => absurd z (by decide)) (fun _ => ?_) (fun z => absurd z (by decide)) (fun z => absurd (by decide) z)
    rcases zx with ⟨x, y, _⟩ | ⟨x, y, _, q, _⟩
    · rw [if_pos y, if_pos x]
    · rw [if_neg (by rw [y]; decide), if_neg (by rw [x]; decide), q]
  · subst e
    refine yy _ (fun z => absurd z (by decide)) (fun z => absurd z (by decide)) (fun z => absurd z (by decide)) (by decide) (fun z => absurd z (by decide)) (fun z => absurd z (by decide)) (fun z => absurd z (by decide)) (fun _ => ?_) (fun z => absurd (by decide) z)
    rcases zx with ⟨x, y, _⟩ | ⟨x, y, _, _, q⟩
    · rw [if_pos y, if_pos x]
    · rw [if_neg (by rw [y]; decide), if_neg (by rw [x]; decide), q]
  · have ne : ∀ x : Int32, (0 ≤ x ∧ x < 8) → ¬ a = x := fun x hx z => e (by rw [z]; exact hx)
    exact yy _ (fun z => absurd z (ne 0 (by decide))) (fun z => absurd z (ne 1 (by decide))) (fun z => absurd z (ne 2 (by decide))) (ne 3 (by decide)) (fun z => absurd z (ne 4 (by decide))) (fun z => absurd z (ne 5 (by decide))) (fun z => absurd z (ne 6 (by decide))) (fun z => absurd z (ne 7 (by decide))) (fun _ => rfl)
end SO
theorem lw_R0 : lw_Rel 0 sX0 sY0 := by
  refine ⟨0, by omega, 0, fun _ => -1, 0, 300, 0, ⟨by decide, rfl, rfl, fun i hi => absurd hi (by omega), fun i hi => absurd hi (by omega), fun _ _ => rfl⟩, ⟨rfl, rfl, rfl, rfl, by decide⟩, ⟨rfl, rfl⟩, Or.inl rfl, Or.inl ⟨rfl, rfl, rfl, fun _ => 0, fun _ => .leaf, [], 0, ⟨fun _ => 0, ⟨fun i hi => rfl, fun i hi => rfl, ⟨rfl, by decide, fun p x hp => by cases hp⟩, rfl, 0, Nat.le_refl _, rfl, fun i _ _ => ⟨0, Nat.le_refl _, rfl⟩⟩, rfl, rfl, rfl, fun i _ _ => rfl, hInj_leaf (fun U c z => by obtain ⟨_, _, e, _⟩ := z; exact e)⟩, ⟨fun _ => 0, ⟨fun i hi => rfl, fun i hi => rfl, ⟨rfl, by decide, fun p x hp => by cases hp⟩, rfl⟩, rfl, hInj_leaf (fun U c z => by obtain ⟨_, _, e, _⟩ := z; exact e), 0, 0, by decide, by decide, rfl, rfl⟩, fun i _ => ⟨trivial, Nat.zero_le _⟩⟩⟩
theorem lw_step : ∀ n, 4 * n + 4 ≤ 2048 → ∀ S T, lw_Rel n S T → ∀ (k : Nat) (q : Nat × Nat × Nat), lw_T[k]? = some q → ∀ as : List Int32, as.length = q.2.2 → lw_Sim (lw_Rel (n + 1)) q.1 q.2.1 as S T := by
  intro n hn S T hR k q hq as has
  have hn' : n ≤ 511 := by omega
  match k, hq with
  | 0, hq => cases hq; match as, has with | [a, b], _ => exact sm_0 hR a b
  | 1, hq => cases hq; match as, has with | [a], _ => exact sm_1 hR a
  | 2, hq => cases hq; match as, has with | [], _ => exact sm_2 hR
  | 3, hq => cases hq; match as, has with | [], _ => exact sm_3 hR
  | 4, hq => cases hq; match as, has with | [a], _ => exact sm_4 hR a
  | 5, hq => cases hq; match as, has with | [a], _ => exact sm_5 hR hn' a
  | 6, hq => cases hq; match as, has with | [a], _ => exact sm_6 hR hn' a
  | 7, hq => cases hq; match as, has with | [a, b], _ => exact sm_7 hR hn' a b
  | 8, hq => cases hq; match as, has with | [], _ => exact sm_8 hR
  | 9, hq => cases hq; match as, has with | [a], _ => exact sm_9 hR a
  | 10, hq => cases hq; match as, has with | [a], _ => exact sm_10 hR a
  | 11, hq => cases hq; match as, has with | [a, b, c], _ => exact sm_11 hR hn' a b c
  | 12, hq => cases hq; match as, has with | [a], _ => exact sm_12 hR hn' a
  | k + 13, hq => simp [lw_T] at hq

/-! THE CALLS, one by one: start, run, interpret -/
section SN
variable {S T : mv_S} {n : Nat}
set_option maxHeartbeats 1000000 in
theorem sm_5 (h : lw_Rel n S T) (hn : n ≤ 511) (a : Int32) : lw_Sim (lw_Rel (n + 1)) 163 46 [a] S T := by
  have sk := lw_skip n S T h
  obtain ⟨B, hB, hr⟩ := h
  obtain ⟨r, r1, r2⟩ := rel_ro hr
  obtain ⟨k, tk, sd, rm, st, h1, h2, h3, h4, h5⟩ := hr
  rcases h5 with ⟨e1, e2, _, _⟩ | ⟨par, mw, mm, mt, l, l', s, fs, fs', cd, _⟩
  · exact x_start0 e1 ⟨6, rfl, y_start0 e2 ⟨rfl, sk⟩⟩
  · refine x_start1 (arg := a) cd.2.2.1.1 r2 (by omega) h2.1 h2.2.2.1 h2.2.2.2.2 (fun S' fx rx x15 x2 x3 x4 xd => ⟨0, rfl, ?_⟩)
    refine y_start1 cd.2.2.2.1 (fun T' fy ry y52 y54 y55 ym => ⟨rfl, B + 1, by omega, ?_⟩)
    have cx := xCode_go cd.2.2.1 (fun g => fx 1 g (by omega) (by omega) (by omega)) (fun o i a b => rx o i (by omega))
    have cy := yCode_go cd.2.2.2 (fun g hg => fy 0 g (by omega)) (fun o i a b => ry o i (by omega))
    have cd' : rCd S' T' k tk par mw mm mt l l' s fs fs' := ⟨cd.1, cd.2.1, cx, cy⟩
    obtain ⟨fa, g1, g2, g3⟩ := rCd_run cd' h1.2.2.2.2.2 y55
    have hv : aInv (yW T') par l.length sd rm (mw, [], aD0 a) := ⟨g3, trivial, Nat.zero_le _, aD0_ok⟩
    refine ⟨k, tk, sd, rm, 0, rTk_go h1 (fx 1 9 (by omega) (by omega) (by omega)) (fy 0 1 (by omega)) (fun i => rx 8 i (by omega)) (fun i => ry 1 i (by omega)), ⟨?_, (fy 0 35 (by omega)).trans h2.2.1, ?_, (fy 0 36 (by omega)).trans h2.2.2.2.1, h2.2.2.2.2⟩, ⟨x15, y52⟩, by rw [fy 0 12 (by omega)]; exact h4, Or.inr ⟨par, mw, mm, mt, l, l', s, fs, fs', cd', Or.inr ⟨x2, y54, y55, 1, (mw, [], aD0 a), ⟨⟨[], rfl, fun _ => rfl, xD_B xd (by omega)⟩, x3.trans cd.2.2.1.2.2.2.2.2.2.2.2.1, x4⟩, ym sd rm mw h2.2.1 h2.2.2.2.1 cd.2.2.2.2.2.2.2.2.2.2.2.2.2.1, aInv_bd hv, fun _ => hv⟩⟩⟩
    · obtain ⟨σ, fb, hA⟩ := xd
      exact hA.2.1.1
    · obtain ⟨σ, fb, hA⟩ := xd
      exact hA.2.1.2.1
set_option maxHeartbeats 1000000 in
theorem sm_6 (h : lw_Rel n S T) (hn : n ≤ 511) (a : Int32) : lw_Sim (lw_Rel (n + 1)) 164 47 [a] S T := by
  have sk := lw_skip n S T h
  obtain ⟨B, hB, k, tk, sd, rm, st, h1, h2, h3, h4, h5⟩ := h
  have idle : rId S T B → lw_Sim (lw_Rel (n + 1)) 164 47 [a] S T := by
    rintro ⟨vs, mp, told, most, ⟨σ, _, x2, _⟩, ⟨σ', _, y2, _⟩, _⟩
    exact x_run0 x2 (fun c => ⟨-2, rfl, y_run0 y2 (fun _ => ⟨rfl, sk⟩) (fun z => absurd z c)⟩) (fun c => ⟨6, rfl, y_run0 y2 (fun z => absurd c z) (fun _ => ⟨rfl, sk⟩)⟩)
  rcases h5 with ⟨_, _, _, hi⟩ | ⟨par, mw, mm, mt, l, l', s, fs, fs', cd, hi | ⟨x2, y54, y55, c, sm, xr, ym, bd, iv⟩⟩
  · exact idle hi
  · exact idle hi
  · refine x_run1 x2 (fun c => ⟨-2, rfl, y_run1 y54 (fun _ => ⟨rfl, sk⟩) (fun z => absurd z c)⟩) (fun cg => ?_)
    obtain ⟨g, g1, rfl⟩ := nI_of2 (M := 5000) (n := 5000) rfl (Int32.not_lt.mpr (Int32.le_trans (by decide) cg.1)) cg.2
    have g0 : 1 ≤ g := (nI_leI (a := 1) (by decide) (by omega)).mp cg.1
    by_cases c1 : c = 1
    · subst c1
      have hv := iv rfl
      obtain ⟨fa, p1, p2, p3⟩ := rCd_run cd h1.2.2.2.2.2 y55
      refine mv_deep (d := 8) (by omega) (x_goOn (d := 0) g1 p2.2.2.2 h2.2.2.2.2 p1 hv xr (by omega) h3.1 (fun S' fx xr' e15 c99 => ⟨_, rfl, _, rfl, ?_⟩))
      refine y_run1 y54 (fun z => absurd cg z) (fun _ => ?_)
      refine mv_deep (d := 8) (by omega) (y_go1 (d := 0) h2.2.2.2.2 y55 p2 (by omega) hv ym h3.2 c99 (fun T0 T' e0 ym' e52 => ⟨rfl, ?_⟩))
      obtain ⟨b1, b2⟩ := aRun_bd p2.2.2.2 h2.2.2.2.2 g sm hv
      have fr := yM_fr ym'
      have ff : ∀ f, ¬ yFs f → ¬ f = 52 → T'.1 0 f = T.1 0 f := fun f q1 q2 => (fr.1 0 f (fun z => q1 z.2)).trans (e0.1 0 f (fun z => q2 z.2))
      have rr : ∀ o i, o < 13 → T'.2.1 o i = T.2.1 o i := fun o i q => (fr.2 o i q).trans (by rw [e0.2])
      have ew : yW T' = yW T := by
        funext q
        unfold yW
        rw [ff 55 (by unfold yFs; omega) (by omega), rr 2 q (by omega), rr 3 q (by omega)]
      refine ⟨by rw [yM_53 ym'], B + g, by omega, k, tk, sd, rm, _, rTk_go h1 (fx.1 1 9 (by omega) (by omega) (by omega) (by omega)) (ff 1 (by unfold yFs; omega) (by omega)) (fun i => fx.2 8 i (by omega)) (fun i => rr 1 i (by omega)), ⟨?_, (ff 35 (by unfold yFs; omega) (by omega)).trans h2.2.1, ?_, (ff 36 (by unfold yFs; omega) (by omega)).trans h2.2.2.2.1, h2.2.2.2.2⟩, ⟨e15, e52⟩, by rw [ff 12 (by unfold yFs; omega) (by omega)]; exact h4, Or.inr ⟨par, mw, mm, mt, l, l', s, fs, fs', ⟨cd.1, cd.2.1, xCode_go cd.2.2.1 (fun f => fx.1 1 f (by omega) (by omega) (by omega) (by omega)) (fun o i q1 q2 => fx.2 o i (by omega)), yCode_go cd.2.2.2 (fun f hf => ff f (by unfold yFs; omega) (by omega)) (fun o i q1 q2 => rr o i (by omega))⟩, Or.inr ⟨(fx.1 6 2 (by omega) (by omega) (by omega) (by omega)).trans x2, (ff 54 (by unfold yFs; omega) (by omega)).trans y54, (ff 55 (by unfold yFs; omega) (by omega)).trans y55, _, _, xr', yM_self ym', b1, by rw [ew]; exact b2⟩⟩⟩
      · obtain ⟨⟨K', _, _, σ, fb, hA⟩, _⟩ := xr'
        exact hA.2.1.1
      · obtain ⟨⟨K', _, _, σ, fb, hA⟩, _⟩ := xr'
        exact hA.2.1.2.1
    · refine mv_deep (d := 8) (by omega) (x_goE (d := 0) g0 g1 xr.2.2 c1 ⟨_, rfl, _, rfl, ?_⟩)
      refine y_run1 y54 (fun z => absurd cg z) (fun _ => ?_)
      refine mv_deep (d := 1) (by omega) (y_goE (d := 0) (yM_53 ym) c1 ⟨rfl, by rw [yM_53 ym], sk⟩)
set_option maxHeartbeats 2000000 in
theorem sm_7 (h : lw_Rel n S T) (hn : n ≤ 511) (a b : Int32) : lw_Sim (lw_Rel (n + 1)) 165 48 [a, b] S T := by
  have sk := lw_skip n S T h
  obtain ⟨B, hB, hr⟩ := h
  obtain ⟨r, r1, r2⟩ := rel_ro hr
  obtain ⟨k, tk, sd, rm, st, h1, h2, h3, h4, h5⟩ := hr
  rcases h5 with ⟨e1, e2, _, _⟩ | ⟨par, mw, mm, mt, l, l', s, fs, fs', cd, _⟩
  · exact x_interpret0 e1 (fun c => ⟨-2, rfl, y_interpret0 e2 (fun _ => ⟨rfl, sk⟩) (fun z => absurd z c)⟩) (fun c => ⟨6, rfl, y_interpret0 e2 (fun z => absurd c z) (fun _ => ⟨rfl, sk⟩)⟩)
  · refine x_interpret1 (arg := a) cd.2.2.1.1 r2 (by omega) h2.1 h2.2.2.1 h2.2.2.2.2 (fun c => ⟨-2, rfl, y_interpret1 (arg := a) cd.2.2.2.1 (fun _ => ⟨rfl, sk⟩) (fun z => absurd z c)⟩) (fun cg S1 fx rx x15 xd => ?_)
    obtain ⟨g, g1, rfl⟩ := nI_of2 (M := 5000) (n := 5000) rfl (Int32.not_lt.mpr (Int32.le_trans (by decide) cg.1)) cg.2
    -- the reference's beginning, to have its words
    have key : ∀ T1 : mv_S, (∀ o i, o < 19 → T1.2.1 o i = T.2.1 o i) → T1.1 0 55 = 1 → yW T1 = T.2.1 3 := by
      intro T1 ry y55
      funext q
      unfold yW
      rw [if_neg (by rw [y55]; decide)]; exact ry 3 q (by decide)
    obtain ⟨Tx, eTx⟩ : ∃ Tx : mv_S, Tx = mv_pf T 0 55 1 := ⟨_, rfl⟩
    have rTx : ∀ o i, o < 19 → Tx.2.1 o i = T.2.1 o i := fun o i _ => by rw [eTx]; rfl
    have fTx : Tx.1 0 55 = 1 := by rw [eTx, pf_get, if_pos ⟨rfl, rfl⟩]
    have eW := key Tx rTx fTx
    obtain ⟨fa, ft, pe, l1, s1, q1, q2, q3, q4, q5, q6, q7, q8, q9, q10, q11, q12⟩ := rCd_go (S1 := S1) (T1 := Tx) (gr := g) (Bt := r + 1 + 1000000) cd h1 h2.2.2.2.2 g1 (by omega) (fun f => fx 1 f (by omega) (by omega)) (fun o i q => rx o i (Or.inl q)) rTx fTx
    rw [eW] at q1 q8 q12
    refine mv_deep (d := 8) (by omega) (x_walk (d := 0) (w := T.2.1 3) (L := l'.length) (B := r + 1) q1 (Nat.le_refl _) xd x15 q3 q4 q5 q6 q7 q8 q9 q10 q11 q12 ?_)
    intro f c left' s' S2 B2 hg hB2 hs c99
    refine ⟨c, rfl, c, rfl, ?_⟩
    refine y_interpret1 (arg := a) cd.2.2.2.1 (fun z => absurd cg z) (fun _ T1 fy ry y52 y54 y55 ym => ?_)
    have eW1 := key T1 ry y55
    obtain ⟨fa2, ft2, pe2, l2, s2, u1, u2, u3, u4, u5, u6, u7, u8, u9, u10, u11, u12⟩ := rCd_go (S1 := S1) (T1 := T1) (gr := g) (Bt := r + 1 + 1000000) cd h1 h2.2.2.2.2 g1 (by omega) (fun f => fx 1 f (by omega) (by omega)) (fun o i q => rx o i (Or.inl q)) ry y55
    have n55 : ¬ T1.1 0 55 = 0 := by rw [y55]; decide
    have n55x : ¬ Tx.1 0 55 = 0 := by rw [fTx]; decide
    have pg : yPg T1 par fa l'.length := by
      obtain ⟨v1, v2, v3, v4⟩ := q2
      refine ⟨u2.1, fun f hf z => ?_, u2.2.2.1, fun f hf z => ?_⟩
      · have := v2 f hf z
        rw [if_neg n55x, rTx 7 f (by decide)] at this
        rw [if_neg n55, ry 7 f (by decide)]; exact this
      · have := v4 f hf z
        rw [eW] at this
        rw [eW1]; exact this
    have hv : aInv (T.2.1 3) par l'.length sd rm (mm, [], aD0 a) := ⟨q12, trivial, Nat.zero_le _, aD0_ok⟩
    have ym0 := ym sd rm mm h2.2.1 h2.2.2.2.1 cd.2.2.2.2.2.2.2.2.2.2.2.2.2.2
    have bd := aGo_bd (q1.2.2.2.2.2.1) h2.2.2.2.2 f g _ hv hg
    refine mv_deep (d := 8) (by omega) (y_go2 (d := 0) (n0 := 0) h2.2.2.2.2 n55 pg (by omega) (by rw [eW1]; exact hv) ym0 y52 (by rw [eW1]; exact hg) c99 (fun T0 T' e0 ym' e52 hle => ⟨rfl, ?_⟩))
    have fr := yM_fr ym'
    have ff : ∀ f, ¬ yFs f → ¬ f = 52 → T'.1 0 f = T1.1 0 f := fun f q1 q2 => (fr.1 0 f (fun z => q1 z.2)).trans (e0.1 0 f (fun z => q2 z.2))
    have rr : ∀ o i, o < 13 → T'.2.1 o i = T1.2.1 o i := fun o i q => (fr.2 o i q).trans (by rw [e0.2])
    obtain ⟨w1, ⟨oc, K', w2, w3⟩, w4, w5, w6⟩ := hs
    have fL := xLR_f S2
    have rL := xLR_r S2
    have gX : ∀ f, (xLR S2).1 1 f = S.1 1 f := fun f => by rw [fL, if_neg (by omega), if_neg (by omega), w1.1 1 f (by omega) (by omega) (by omega) (by omega)]; exact fx 1 f (by omega) (by omega)
    have gR : ∀ o i, o < 15 → (xLR S2).2.1 o i = S.2.1 o i := fun o i q => by rw [rL, if_neg (by omega), w1.2 o i q]; exact rx o i (Or.inl q)
    have gY : ∀ f, f = 1 ∨ f = 4 ∨ f = 5 ∨ f = 7 ∨ f = 10 ∨ f = 11 ∨ f = 12 ∨ f = 35 ∨ f = 36 → T'.1 0 f = T.1 0 f := fun f hf => (ff f (by unfold yFs; omega) (by omega)).trans (fy 0 f (by omega))
    have h54 : T'.1 0 54 = 0 := (ff 54 (by unfold yFs; omega) (by omega)).trans y54
    have sd12 : (xLR S2).1 3 12 = sd ∧ (xLR S2).1 3 13 = nI rm := by
      obtain ⟨σ, fb, hA⟩ := w3
      exact ⟨by rw [fL, if_neg (by omega), if_neg (by omega)]; exact hA.2.1.1, by rw [fL, if_neg (by omega), if_neg (by omega)]; exact hA.2.1.2.1⟩
    have e15 : (xLR S2).1 4 15 = nI (g - left') := by rw [fL, if_neg (by omega), if_neg (by omega)]; exact w4
    have id : rId (xLR S2) T' (r + 1 + 1000000) := by
      refine ⟨_, _, _, _, xId_B (xId_D w3) hB2, yM_id ym' bd.2.1 (fun _ _ => rfl) h54 (fun _ _ _ => rfl), aOk_m (D := s'.2.2) bd.1 h2.2.2.2.2⟩
    refine ⟨by rw [yM_53 ym'], r + 1 + 1000000, by omega, k, tk, sd, rm, g - left', rTk_go h1 (gX 9) (gY 1 (by omega)) (fun i => gR 8 i (by omega)) (fun i => (rr 1 i (by omega)).trans (ry 1 i (by omega))), ⟨sd12.1, (gY 35 (by omega)).trans h2.2.1, sd12.2, (gY 36 (by omega)).trans h2.2.2.2.1, h2.2.2.2.2⟩, ⟨e15, by rw [e52]; congr 1; omega⟩, by rw [gY 12 (by omega)]; exact h4, Or.inr ⟨par, mw, mm, mt, l, l', s, fs, fs', ⟨cd.1, cd.2.1, xCode_go cd.2.2.1 gX (fun o i q1 q2 => gR o i (by omega)), yCode_go cd.2.2.2 (fun f hf => gY f (by omega)) (fun o i q1 q2 => (rr o i (by omega)).trans (ry o i (by omega)))⟩, Or.inl id⟩⟩
end SN

/-! THE CLASS WALKS BESIDE THE MACHINE OF BOTH: either, calls -/
section WS
variable {d : Nat} {P : Option Value → mv_S → Prop} {Sp S : mv_S} {w par par1 : Nat → Int32} {fa ft : Nat → Nat} {sd : Int32} {rm gr Bt L n N : Nat} {tk : Nat → Int32} {k left r p : Nat} {O : List (Nat × Nat)} {oc rets : List Nat} {m mn : Bool}
theorem it_f {it : aI} (h : aSh [it] = [false]) : ∃ v, it = .inl v := by
  cases it with
  | inl v => exact ⟨v, rfl⟩
  | inr v => cases h
theorem seg2 {b : Nat} {x y : Int32} {l : List Int32} (h : Seg w b (x :: y :: l)) : w b = x ∧ w (b + 1) = y ∧ Seg w (b + 2) l := by
  obtain ⟨a, b'⟩ := Seg_cons h
  obtain ⟨c, e⟩ := Seg_cons b'
  exact ⟨a, c, e⟩
set_option maxHeartbeats 1000000 in
theorem wSh_30 (hy : wHy Sp w par fa ft rm gr Bt L n tk) (ih : wEMs d P Sp w par fa sd rm gr Bt L n tk N) (ht : tk p = 30) {b1 p1 : Nat} {l s} (h : cEither (cEM n tk par1 true r) (tk p) p b1 = .ok (p1, l, s)) (hr : r ≤ 15) (hs : Seg w b1 l) (hn : wN Sp s) (hsub : wSub par par1) (hl : b1 + l.length ≤ L) (hp : p < n) (hb : Sp.2.1 9 p = nI p1) (c : Nat) (K : List aI) (Rr : List (List aI) × (Nat → Int32) × (Nat → tT) × List Int32 × Nat × Nat) (hN : left ≤ N) (hk : 10 * left + c + 9 ≤ k) (hO : O.length + (r + 1) ≤ 17 * (Rr.1.length + 1)) (hX : wX Sp sd rm gr Bt k left ((p, 0) :: O) (p + 1) oc (K, Rr) S) (hM : wM P Sp w par fa sd rm gr Bt L left (b1, rets, K, Rr)) (hK : ∀ k' left' it Rr' S', left' ≤ left → 10 * left' + c + 5 ≤ k' → Rr'.1 = Rr.1 → aSh [it] = [false] → wX Sp sd rm gr Bt k' left' O p1 oc (it :: K, Rr') S' → wM P Sp w par fa sd rm gr Bt L left' (b1 + l.length, rets, it :: K, Rr') → xLp P d k' S') : xLp P d k S := by
  have hn7 := hy.1.2.1
  have hg := hy.2.2.1
  have y4 := hy.2.2.2.1
  have y5 := hy.2.2.2.2.1
  have y6 := hy.2.2.2.2.2.1
  have y2 := hy.2.1
  have n24 : Rr.1.length ≤ 24 := hM.1.2.2.1
  obtain ⟨pa, l1, s1, l2, s2, h1, h2, rfl, rfl⟩ := cEither_ok h
  obtain ⟨n1, n2⟩ := wN_app hn
  obtain ⟨g1, g2⟩ := Seg_app hs
  obtain ⟨w1, w2, g3⟩ := seg2 g2
  obtain ⟨g4, g5⟩ := Seg_app g3
  obtain ⟨w3, w4, g6⟩ := seg2 g5
  obtain ⟨w5, w6, g7⟩ := seg2 g6
  obtain ⟨w7, w8, _⟩ := seg2 g7
  rw [ht] at w1 w8
  have len : (l1 ++ (if tk p = 30 then (13 : Int32) else 14) :: nI (b1 + l1.length + 2 + l2.length + 4) :: (l2 ++ [11, 11, 12, nI (b1 + l1.length + 2 + l2.length + 6), 1, if tk p = 30 then 0 else 1])).length = l1.length + 2 + l2.length + 6 := by
    simp only [List.length_append, List.length_cons, List.length_nil]; omega
  rw [len] at hl hK
  obtain ⟨hk1, lx, sx, rx, er, el, _⟩ := cEM_30 h1
  have hpa : p + 1 < n := cKind_in hy.1.2.2.2.1 hk1
  obtain ⟨hk2, ly, sy, ry, er2, el2, _⟩ := cEM_30 h2
  have hpb : pa < n := cKind_in hy.1.2.2.2.1 hk2
  have hw1 : w b1 = 30 := by rw [el] at g1; exact (Seg_cons g1).1
  have hw2 : w (b1 + l1.length + 2) = 30 := by rw [el2] at g4; exact (Seg_cons g4).1
  obtain ⟨k, rfl⟩ : ∃ k0, k = k0 + 1 := ⟨k - 1, by omega⟩
  refine wBg hy (wTn_s30 hy (by omega) ht) (by omega) (by omega) (fun z => by cases z) hX hM hw1 (fun left1 S1 e1 hX1 hM1 => ?_)
  subst e1
  refine ih r false (p + 1) b1 pa l1 s1 par1 h1 (by omega) g1 n1 hsub (by omega) (c + 9) k left1 ((p, 1) :: O) oc rets K Rr S1 (by omega) (by omega) (by simp only [List.length_cons]; omega) hX1 hM1 (fun k2 left2 it Rr2 S2 q1 q2 q3 q4 hX2 hM2 => ?_)
  obtain ⟨v, rfl⟩ := it_f q4
  obtain ⟨k2, rfl⟩ : ∃ k0, k2 = k0 + 1 := ⟨k2 - 1, by omega⟩
  have bn : (aNum K).length ≤ 40 := by
    have := (aInv_b hM2.1).1
    have this : (aNum K).length + 1 ≤ 33 := this
    omega
  have hM3 := wM_13 y6 y2 hM2 w1 w2 (by omega)
  obtain ⟨B, c1, c2, c3, c4⟩ := hX2
  by_cases hv : v = 0
  · rw [if_pos hv] at hM3
    refine x_lp30 hy.1 c4 (by omega) (by omega) ht (mv_deep (d := d + 6) (by omega) (x_sho1_30z hy.1 c4 ht hv bn (by omega) hb (fun S3 h3 => ⟨rfl, ?_⟩)))
    have w7' : w (b1 + l1.length + 2 + l2.length + 4) = 1 := w7
    have w8' : w (b1 + l1.length + 2 + l2.length + 4 + 1) = 0 := w8
    have hM4 := wM_1 y6 y2 hM3 w7'
    rw [w8'] at hM4
    refine hK k2 left2 (.inl 0) Rr2 S3 (by omega) (by omega) q3 rfl ⟨B, by omega, c2, by omega, h3⟩ ?_
    have e : b1 + (l1.length + 2 + l2.length + 6) = b1 + l1.length + 2 + l2.length + 4 + 2 := by omega
    rw [e]; exact hM4
  · rw [if_neg hv] at hM3
    refine x_lp30 hy.1 c4 (by omega) (by omega) ht (mv_deep (d := d + 6) (by omega) (x_sho1_30n hy.1 c4 ht hv bn (by omega) (by omega) (by omega) hg (by omega) (fun z S3 h3 => ⟨rfl, ?_⟩) (fun z S3 h3 => ⟨rfl, ?_⟩)))
    · obtain rfl : left2 = 0 := by omega
      exact x_lpS h3 (by omega) (wG_no hM3.2 (aIs_30 hw2) (by omega) h3)
    · obtain ⟨left3, rfl⟩ : ∃ l3, left2 = l3 + 1 := ⟨left2 - 1, by omega⟩
      have e : gr - (left3 + 1) + 1 = gr - left3 := by omega
      rw [e] at h3
      have hM4 := wM_30 y6 y2 hM3 hw2
      refine ih r false pa (b1 + l1.length + 2) p1 l2 s2 par1 h2 (by omega) g4 n2 hsub (by omega) (c + 9) k2 left3 ((p, 2) :: O) oc rets K Rr2 S3 (by omega) (by omega) (by rw [q3]; simp only [List.length_cons]; omega) ⟨B, by omega, by omega, by omega, h3⟩ hM4 (fun k4 left4 it2 Rr4 S4 u1 u2 u3 u4 hX4 hM5 => ?_)
      obtain ⟨v2, rfl⟩ := it_f u4
      obtain ⟨k4, rfl⟩ : ∃ k0, k4 = k0 + 1 := ⟨k4 - 1, by omega⟩
      obtain ⟨B4, d1, d2, d3, d4⟩ := hX4
      have hM6 := wM_11 y6 y2 hM5 w3
      have hM7 := wM_11 y6 y2 hM6 w4
      have hM8 := wM_12 y6 y2 hM7 w5 w6 (by omega)
      have e9 : b1 + l1.length + 2 + l2.length + 6 = b1 + (l1.length + 2 + l2.length + 6) := by omega
      rw [e9] at hM8
      by_cases hv2 : v2 = 0
      · rw [if_pos hv2, if_neg (by decide)] at hM8
        refine x_lp30 hy.1 d4 (by omega) (by omega) ht (mv_deep (d := d + 6) (by omega) (x_sho2_30z hy.1 d4 ht hv2 bn (by omega) hb (fun S5 h5 => ⟨rfl, ?_⟩)))
        exact hK k4 left4 (.inl 0) Rr4 S5 (by omega) (by omega) (u3.trans q3) rfl ⟨B4, by omega, d2, by omega, h5⟩ hM8
      · rw [if_neg hv2, if_pos rfl] at hM8
        refine x_lp30 hy.1 d4 (by omega) (by omega) ht (mv_deep (d := d + 6) (by omega) (x_sho2_30n hy.1 d4 ht hv2 bn (by omega) hb (fun S5 h5 => ⟨rfl, ?_⟩)))
        exact hK k4 left4 (.inl 1) Rr4 S5 (by omega) (by omega) (u3.trans q3) rfl ⟨B4, by omega, d2, by omega, h5⟩ hM8
set_option maxHeartbeats 1000000 in
theorem wSh_31 (hy : wHy Sp w par fa ft rm gr Bt L n tk) (ih : wEMs d P Sp w par fa sd rm gr Bt L n tk N) (ht : tk p = 31) {b1 p1 : Nat} {l s} (h : cEither (cEM n tk par1 true r) (tk p) p b1 = .ok (p1, l, s)) (hr : r ≤ 15) (hs : Seg w b1 l) (hn : wN Sp s) (hsub : wSub par par1) (hl : b1 + l.length ≤ L) (hp : p < n) (hb : Sp.2.1 9 p = nI p1) (c : Nat) (K : List aI) (Rr : List (List aI) × (Nat → Int32) × (Nat → tT) × List Int32 × Nat × Nat) (hN : left ≤ N) (hk : 10 * left + c + 9 ≤ k) (hO : O.length + (r + 1) ≤ 17 * (Rr.1.length + 1)) (hX : wX Sp sd rm gr Bt k left ((p, 0) :: O) (p + 1) oc (K, Rr) S) (hM : wM P Sp w par fa sd rm gr Bt L left (b1, rets, K, Rr)) (hK : ∀ k' left' it Rr' S', left' ≤ left → 10 * left' + c + 5 ≤ k' → Rr'.1 = Rr.1 → aSh [it] = [false] → wX Sp sd rm gr Bt k' left' O p1 oc (it :: K, Rr') S' → wM P Sp w par fa sd rm gr Bt L left' (b1 + l.length, rets, it :: K, Rr') → xLp P d k' S') : xLp P d k S := by
  have hn7 := hy.1.2.1
  have hg := hy.2.2.1
  have y4 := hy.2.2.2.1
  have y5 := hy.2.2.2.2.1
  have y6 := hy.2.2.2.2.2.1
  have y2 := hy.2.1
  have n24 : Rr.1.length ≤ 24 := hM.1.2.2.1
  obtain ⟨pa, l1, s1, l2, s2, h1, h2, rfl, rfl⟩ := cEither_ok h
  obtain ⟨n1, n2⟩ := wN_app hn
  obtain ⟨g1, g2⟩ := Seg_app hs
  obtain ⟨w1, w2, g3⟩ := seg2 g2
  obtain ⟨g4, g5⟩ := Seg_app g3
  obtain ⟨w3, w4, g6⟩ := seg2 g5
  obtain ⟨w5, w6, g7⟩ := seg2 g6
  obtain ⟨w7, w8, _⟩ := seg2 g7
  rw [ht] at w1 w8
  have len : (l1 ++ (if tk p = 30 then (13 : Int32) else 14) :: nI (b1 + l1.length + 2 + l2.length + 4) :: (l2 ++ [11, 11, 12, nI (b1 + l1.length + 2 + l2.length + 6), 1, if tk p = 30 then 0 else 1])).length = l1.length + 2 + l2.length + 6 := by
    simp only [List.length_append, List.length_cons, List.length_nil]; omega
  rw [len] at hl hK
  obtain ⟨hk1, lx, sx, rx, er, el, _⟩ := cEM_30 h1
  have hpa : p + 1 < n := cKind_in hy.1.2.2.2.1 hk1
  obtain ⟨hk2, ly, sy, ry, er2, el2, _⟩ := cEM_30 h2
  have hpb : pa < n := cKind_in hy.1.2.2.2.1 hk2
  have hw1 : w b1 = 30 := by rw [el] at g1; exact (Seg_cons g1).1
  have hw2 : w (b1 + l1.length + 2) = 30 := by rw [el2] at g4; exact (Seg_cons g4).1
  obtain ⟨k, rfl⟩ : ∃ k0, k = k0 + 1 := ⟨k - 1, by omega⟩
  refine wBg hy (wTn_s31 hy (by omega) ht) (by omega) (by omega) (fun z => by cases z) hX hM hw1 (fun left1 S1 e1 hX1 hM1 => ?_)
  subst e1
  refine ih r false (p + 1) b1 pa l1 s1 par1 h1 (by omega) g1 n1 hsub (by omega) (c + 9) k left1 ((p, 1) :: O) oc rets K Rr S1 (by omega) (by omega) (by simp only [List.length_cons]; omega) hX1 hM1 (fun k2 left2 it Rr2 S2 q1 q2 q3 q4 hX2 hM2 => ?_)
  obtain ⟨v, rfl⟩ := it_f q4
  obtain ⟨k2, rfl⟩ : ∃ k0, k2 = k0 + 1 := ⟨k2 - 1, by omega⟩
  have bn : (aNum K).length ≤ 40 := by
    have := (aInv_b hM2.1).1
    have this : (aNum K).length + 1 ≤ 33 := this
    omega
  have hM3 := wM_14 y6 y2 hM2 w1 w2 (by omega)
  obtain ⟨B, c1, c2, c3, c4⟩ := hX2
  by_cases hv : v = 0
  · rw [if_pos hv] at hM3
    refine x_lp31 hy.1 c4 (by omega) (by omega) ht (mv_deep (d := d + 6) (by omega) (x_sho1_31z hy.1 c4 ht hv bn (by omega) (by omega) (by omega) hg (by omega) (fun z S3 h3 => ⟨rfl, ?_⟩) (fun z S3 h3 => ⟨rfl, ?_⟩)))
    · obtain rfl : left2 = 0 := by omega
      exact x_lpS h3 (by omega) (wG_no hM3.2 (aIs_30 hw2) (by omega) h3)
    · obtain ⟨left3, rfl⟩ : ∃ l3, left2 = l3 + 1 := ⟨left2 - 1, by omega⟩
      have e : gr - (left3 + 1) + 1 = gr - left3 := by omega
      rw [e] at h3
      have hM4 := wM_30 y6 y2 hM3 hw2
      refine ih r false pa (b1 + l1.length + 2) p1 l2 s2 par1 h2 (by omega) g4 n2 hsub (by omega) (c + 9) k2 left3 ((p, 2) :: O) oc rets K Rr2 S3 (by omega) (by omega) (by rw [q3]; simp only [List.length_cons]; omega) ⟨B, by omega, by omega, by omega, h3⟩ hM4 (fun k4 left4 it2 Rr4 S4 u1 u2 u3 u4 hX4 hM5 => ?_)
      obtain ⟨v2, rfl⟩ := it_f u4
      obtain ⟨k4, rfl⟩ : ∃ k0, k4 = k0 + 1 := ⟨k4 - 1, by omega⟩
      obtain ⟨B4, d1, d2, d3, d4⟩ := hX4
      have hM6 := wM_11 y6 y2 hM5 w3
      have hM7 := wM_11 y6 y2 hM6 w4
      have hM8 := wM_12 y6 y2 hM7 w5 w6 (by omega)
      have e9 : b1 + l1.length + 2 + l2.length + 6 = b1 + (l1.length + 2 + l2.length + 6) := by omega
      rw [e9] at hM8
      by_cases hv2 : v2 = 0
      · rw [if_pos hv2, if_neg (by decide)] at hM8
        refine x_lp31 hy.1 d4 (by omega) (by omega) ht (mv_deep (d := d + 6) (by omega) (x_sho2_31z hy.1 d4 ht hv2 bn (by omega) hb (fun S5 h5 => ⟨rfl, ?_⟩)))
        exact hK k4 left4 (.inl 0) Rr4 S5 (by omega) (by omega) (u3.trans q3) rfl ⟨B4, by omega, d2, by omega, h5⟩ hM8
      · rw [if_neg hv2, if_pos rfl] at hM8
        refine x_lp31 hy.1 d4 (by omega) (by omega) ht (mv_deep (d := d + 6) (by omega) (x_sho2_31n hy.1 d4 ht hv2 bn (by omega) hb (fun S5 h5 => ⟨rfl, ?_⟩)))
        exact hK k4 left4 (.inl 1) Rr4 S5 (by omega) (by omega) (u3.trans q3) rfl ⟨B4, by omega, d2, by omega, h5⟩ hM8
  · rw [if_neg hv] at hM3
    refine x_lp31 hy.1 c4 (by omega) (by omega) ht (mv_deep (d := d + 6) (by omega) (x_sho1_31n hy.1 c4 ht hv bn (by omega) hb (fun S3 h3 => ⟨rfl, ?_⟩)))
    have w7' : w (b1 + l1.length + 2 + l2.length + 4) = 1 := w7
    have w8' : w (b1 + l1.length + 2 + l2.length + 4 + 1) = 1 := w8
    have hM4 := wM_1 y6 y2 hM3 w7'
    rw [w8'] at hM4
    refine hK k2 left2 (.inl 1) Rr2 S3 (by omega) (by omega) q3 rfl ⟨B, by omega, c2, by omega, h3⟩ ?_
    have e : b1 + (l1.length + 2 + l2.length + 6) = b1 + l1.length + 2 + l2.length + 4 + 2 := by omega
    rw [e]; exact hM4
set_option maxHeartbeats 2000000 in
/-- a call, to its answer -/
theorem wCa (hy : wHy Sp w par fa ft rm gr Bt L n tk) (ih : wEMs d P Sp w par fa sd rm gr Bt L n tk N) (ihS : wSTs d P Sp w par fa sd rm gr Bt L n tk N) (ht : tk p = 8 ∨ tk p = 36) {b1 p1 : Nat} {l s} (h : cPlain n tk par1 (cEM n tk par1 true r) p b1 = .ok (p1, l, s)) (hr : r ≤ 15) (hs : Seg w b1 l) (hn : wN Sp s) (hsub : wSub par par1) (hl : b1 + l.length ≤ L) (hp : p < n) (hb : Sp.2.1 9 p = nI p1) (c : Nat) (K : List aI) (Ks : List (List aI)) (Re : (Nat → Int32) × (Nat → tT) × List Int32 × Nat × Nat) (hN : left ≤ N) (hk : 10 * left + c + 9 ≤ k) (hO : O.length + (r + 1) ≤ 17 * (Ks.length + 1)) (hX : wX Sp sd rm gr Bt k left ((p, 0) :: O) (p + 2) oc (K, Ks, Re) S) (hM : wM P Sp w par fa sd rm gr Bt L left (b1, rets, K, Ks, Re))
    (hK : ∀ k' left' v rr Re' S', left' ≤ left → 10 * left' + c + 6 ≤ k' → rr ≤ 3 → cNums tk par p = nI rr → wX Sp sd rm gr Bt k' left' ((p, rr + 1) :: O) p1 oc (.inl v :: K, Ks, Re') S' → wM P Sp w par fa sd rm gr Bt L left' (b1 + l.length, rets, .inl v :: K, Ks, Re') → xLp P d k' S') : xLp P d k S := by
  have hn7 := hy.1.2.1
  have hg := hy.2.2.1
  have y4 := hy.2.2.2.1
  have y5 := hy.2.2.2.2.1
  have y6 := hy.2.2.2.2.2.1
  have y2 := hy.2.1
  have n24 : Ks.length ≤ 24 := hM.1.2.2.1
  rw [cPlain_call ht] at h
  match h0 : cKnown n tk par1 (p + 1), h with
  | .error e, h => cases h
  | .ok q, h =>
  simp only at h
  obtain ⟨rfl, hp1, hf⟩ := cKnown_ok hy.1.2.2.2.1 h0
  obtain ⟨f, hf8, ef⟩ : ∃ f, f < 8 ∧ tk (p + 1) = nI f := ⟨_, (aN_of (n := 8) rfl (by decide) hf.1 hf.2.1).2, (aN_of (n := 8) rfl (by decide) hf.1 hf.2.1).1⟩
  have hf3 := hf.2.2
  rw [ef, nI_clamp (by omega)] at hf3
  obtain ⟨sp1, sp2, sp3⟩ := hsub f hf8 hf3
  have hparne : ¬ par f = -1 := by rw [sp1]; exact hf3
  obtain ⟨rr, hrr, epar⟩ : ∃ rr, rr ≤ 3 ∧ par f = nI rr := by
    obtain ⟨a, b⟩ := aN_of (x := par f) (c := 4) (n := 4) rfl (by decide) sp2 (Int32.lt_of_le_of_lt sp3 (by decide))
    exact ⟨_, by omega, a⟩
  have hF1 : cHasF par1 (tk (p + 1)) := hf
  have hF : cHasF par (tk (p + 1)) := ⟨hf.1, hf.2.1, by rw [ef, nI_clamp (by omega)]; exact hparne⟩
  have hNm : cNums tk par p = nI rr := by
    unfold cNums cPar
    rw [if_pos ht, if_pos hF, ef, nI_clamp (by omega), epar]
  have ePar : (cPar par1 (tk (p + 1))).toNatClampNeg = rr := by
    unfold cPar
    rw [if_pos hF1, ef, nI_clamp (by omega), ← sp1, epar, nI_clamp (by omega)]
  rw [ePar] at h
  match h1 : cMany (cEM n tk par1 true r false) rr (p + 1 + 1) b1, h with
  | .error e, h => cases h
  | .ok (p3, la, s3), h =>
  simp only [Except.ok.injEq, Prod.mk.injEq] at h
  obtain ⟨rfl, rfl, rfl⟩ := h
  obtain ⟨g1, g2⟩ := Seg_app hs
  obtain ⟨w1, w2, _⟩ := seg2 g2
  rw [ef] at w2
  have len : (la ++ [16, tk (p + 1)]).length = la.length + 2 := by simp
  rw [len] at hl hK
  have tn : ∀ g0, 0 ≤ g0 → g0 < 0 + rr → wTn d P Sp sd rm gr tk false oc p g0 (g0 + 1) O := by
    intro g0 _ a2
    rcases ht with t | t
    · exact wTn_c8 hy (by omega) t hNm hrr (by omega)
    · exact wTn_c36 hy (by omega) t hNm hrr (by omega)
  refine wMany (X := c + 9) hy ih hr hsub (by omega) rr 0 (p + 1 + 1) b1 p3 la s3 h1 g1 hn (by omega) tn k left K (Ks, Re) S hN (by omega) hO hX hM (fun k2 left2 its Rr2 S2 q1 q2 q3 q4 hX2 hM2 => ?_)
  obtain ⟨Ks2, vs, mp, told, most, st⟩ := Rr2
  have q3 : Ks2 = Ks := q3
  subst q3
  obtain ⟨ps0, R0, e1, e2, e3⟩ := aSh_n rr (K := its) (t := []) (by rw [q4, List.append_nil])
  obtain rfl := aSh_nil e3
  obtain ⟨ps, rfl⟩ : ∃ ps : List Int32, ps0 = ps.reverse := ⟨ps0.reverse, by simp⟩
  rw [List.length_reverse] at e1
  rw [List.append_nil] at e2
  subst e2
  obtain ⟨t1, t2⟩ := aTk (K := K) (ps := ps)
  obtain ⟨k2, rfl⟩ : ∃ k0, k2 = k0 + 1 := ⟨k2 - 1, by omega⟩
  have bb := aInv_b hM2.1
  obtain ⟨nn1, nn2⟩ := aNum_inl ps.reverse K
  have b1' : (aNum (ps.reverse.map Sum.inl ++ K)).length ≤ 33 := bb.1
  have b2' : (aMap (ps.reverse.map Sum.inl ++ K)).length ≤ 17 := bb.2.1
  rw [nn1, List.length_append] at b1'
  rw [nn2] at b2'
  obtain ⟨B, c1, c2, c3, c4⟩ := hX2
  rw [Nat.zero_add] at c4
  obtain ⟨f14, f10, f700, par2, pe, lf, sf, hf1, hf2, hf3', hf4, hf5, hf6⟩ := hy.2.2.2.2.2.2 f hf8 hparne
  have hw16 : w (b1 + la.length) = nI 16 := w1
  have est : aSt w par fa sd rm (b1 + la.length, rets, ps.reverse.map Sum.inl ++ K, Ks2, vs, mp, told, most, st) = if Ks2.length = 24 then (3, b1 + la.length + 2, rets, ps.reverse.map Sum.inl ++ K, Ks2, vs, mp, told, most, st) else (1, fa f, (b1 + la.length + 2) :: rets, [], K :: Ks2, aEn Ks2.length vs (aOw ps), aEm Ks2.length mp, told, most, st) := by
    refine (aSt_k (k := 16) (s := (b1 + la.length, rets, ps.reverse.map Sum.inl ++ K, Ks2, vs, mp, told, most, st)) hw16 (by decide)).trans ?_
    show (if Ks2.length = 24 then ((3 : Int32), ((b1 + la.length + 2, rets, ps.reverse.map Sum.inl ++ K, Ks2, vs, mp, told, most, st) : aMs)) else (1, fa (w (b1 + la.length + 1)).toNatClampNeg, (b1 + la.length + 2) :: rets, aEnt (par (w (b1 + la.length + 1)).toNatClampNeg).toNatClampNeg (ps.reverse.map Sum.inl ++ K, Ks2, vs, mp, told, most, st))) = _
    rw [w2, nI_clamp (by omega), epar, nI_clamp (by omega), ← e1]
    show (if Ks2.length = 24 then ((3 : Int32), ((b1 + la.length + 2, rets, ps.reverse.map Sum.inl ++ K, Ks2, vs, mp, told, most, st) : aMs)) else (1, fa f, (b1 + la.length + 2) :: rets, [], (ps.reverse.map Sum.inl ++ K).drop ps.length :: Ks2, aEn Ks2.length vs (aOw (aNum ((ps.reverse.map Sum.inl ++ K).take ps.length)).reverse), aEm Ks2.length mp, told, most, st)) = _
    rw [t1, t2]
  have i16 : aIs w (b1 + la.length, rets, ps.reverse.map Sum.inl ++ K, Ks2, vs, mp, told, most, st) = false := aIs_no (k := 16) hw16 (by decide)
  have fin : mv_big layX sysX (d + 6) 153 [.ref 7, .int (nI p), .int (nI rr)] S2 (fun r S' => r = none ∧ xLp P d k2 S') := by
    refine x_call1 (f := f) hy.1 c4 hNm hrr (by omega) ef (fun S3 h3 => ?_) (fun r S z => z.1)
    rw [← e1]
    refine x_enterW h3 hf8 f14 (by omega) (by omega) (fun z => by simp only [List.length_cons]; omega) (by omega) b2' (fun z S4 h4 => ⟨rfl, ?_⟩) (fun z S4 h4 => ⟨rfl, ?_⟩)
    · rw [if_pos z] at est
      refine x_lpS h4 (by omega) (wG_en (B := B) hM2.2 i16 (by rw [est]) (by decide) (by decide) (by omega) (by rw [est]; exact h4))
    · rw [if_neg (by omega)] at est
      have hM4 : wM P Sp w par fa sd rm gr Bt L left2 (fa f, (b1 + la.length + 2) :: rets, [], K :: Ks2, aEn Ks2.length vs (aOw ps), aEm Ks2.length mp, told, most, st) := by
        have p1 := aSt_inv y6 y2 hM2.1 (by rw [est])
        have p2 := wG_st hM2.2 i16 (by rw [est])
        rw [est] at p1 p2
        exact ⟨p1, p2⟩
      obtain ⟨u1, u2⟩ := Seg_app hf3'
      obtain ⟨u3, u4, u5⟩ := seg2 u2
      obtain ⟨u6, _⟩ := Seg_cons u5
      refine wBlk (X := c + 8) (g := 0) (q := ft f) (O := (p, rr + 1) :: O) (oc := (O.length + 1) :: oc) (rets := (b1 + la.length + 2) :: rets) (mn := false) (r := 16) hy ihS (Nat.le_refl _) hf6 (by omega) (wTn_b10 hy f700 f10) (c + 6) (by omega) 700 (ft f + 3) (fa f) pe lf sf hf1 u1 hf5 (by omega) k2 left2 [] (K :: Ks2, aEn Ks2.length vs (aOw ps), aEm Ks2.length mp, told, most, st) S4 (by omega) rfl (by omega) (by simp only [List.length_cons]; omega) ⟨B, by omega, c2, by omega, h4⟩ hM4 ?_ (fun k5 left5 Rr5 S5 v1 v2 v3 hX5 hM5 => ?_)
      · intro _
        refine ⟨[(ft f, 0)], p, rr + 1, O, p3, K, Ks2, b1 + la.length + 2, rets, oc, rfl, rfl, rfl, rfl, by omega, hb, fun k' left' v Re' S' z1 z2 hX' hM' => ?_⟩
        exact hK k' left' v rr Re' S' (by omega) (by omega) hrr hNm hX' (by rw [← Nat.add_assoc]; exact hM')
      · obtain ⟨Ks5, Re5⟩ := Rr5
        have v3 : Ks5 = K :: Ks2 := v3
        subst v3
        obtain ⟨k5, rfl⟩ : ∃ k0, k5 = k0 + 1 := ⟨k5 - 1, by omega⟩
        obtain ⟨B5, d1, d2, d3, d4⟩ := hX5
        have hM6 := wM_1 y6 y2 hM5 u3
        rw [u4] at hM6
        have hM7 := wM_17 y6 y2 hM6 u6
        have hpe : pe < n := tk_in hy.1.2.2.2.1 (by rw [hf2]; decide)
        refine x_lp10 hy.1 d4 (by omega) f700 f10 (mv_deep (d := d + 6) (by omega) (x_bodyE hy.1 d4 (by omega) hf2 (x_comeBack1 (Tt := [(ft f, 0)]) d4 rfl (by omega) hb (fun S6 h6 => ⟨rfl, ?_⟩)) (fun r S z => z.1)))
        exact hK k5 left5 0 rr Re5 S6 (by omega) (by omega) hrr hNm ⟨B5, by omega, d2, by omega, h6⟩ (by rw [← Nat.add_assoc]; exact hM7)
  rcases ht with t | t
  · exact x_lp8 hy.1 c4 (by omega) (by omega) t (mv_deep (d := d + 6) (by omega) fin)
  · exact x_lp36 hy.1 c4 (by omega) (by omega) t (mv_deep (d := d + 6) (by omega) fin)
end WS

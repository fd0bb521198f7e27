/-! THE CLASS WALKS BESIDE THE MACHINE OF BOTH: loops, answers, all statements -/
section WJ
variable {d : Nat} {P : Option Value → mv_S → Prop} {Sp : mv_S} {w par par1 : Nat → Int32} {fa ft : Nat → Nat} {sd : Int32} {rm gr Bt L n N : Nat} {tk : Nat → Int32} {r p : Nat} {O : List (Nat × Nat)} {oc rets : List Nat} {m mn : Bool}
set_option maxHeartbeats 1000000 in
/-- as long as -/
theorem wWh (hy : wHy Sp w par fa ft rm gr Bt L n tk) (ih : wEMs d P Sp w par fa sd rm gr Bt L n tk N) (ihS : wSTs d P Sp w par fa sd rm gr Bt L n tk N) (ht : tk p = 5) {b1 p1 : Nat} {l s} (h : cWhile tk (cEM n tk par1 true r) (cLoop tk (cStm n tk par1 true mn r) 700) p b1 = .ok (p1, l, s)) (hr : r ≤ 15) (hs : Seg w b1 l) (hn : wN Sp s) (hsub : wSub par par1) (hl : b1 + l.length ≤ L) (hp : p < n) (hb : Sp.2.1 9 p = nI p1) (c cr : Nat) (K : List aI) (hcr : cr ≤ c + 5) (Ks0 : List (List aI)) (hm : mn = Ks0.isEmpty) (hO : O.length + (r + 1) ≤ 17 * (Ks0.length + 1)) : ∀ (left k : Nat) (Rr : List (List aI) × (Nat → Int32) × (Nat → tT) × List Int32 × Nat × Nat) (S : mv_S), Rr.1 = Ks0 → left ≤ N → 10 * left + c + 9 ≤ k → wX Sp sd rm gr Bt k left ((p, 0) :: O) (p + 1) oc (K, Rr) S → wM P Sp w par fa sd rm gr Bt L left (b1, rets, K, Rr) → wRet d P Sp w par fa sd rm gr Bt L cr left mn O oc rets Ks0 → (∀ k' left' Rr' S', left' ≤ left → 10 * left' + c + 5 ≤ k' → Rr'.1 = Ks0 → wX Sp sd rm gr Bt k' left' O p1 oc (K, Rr') S' → wM P Sp w par fa sd rm gr Bt L left' (b1 + l.length, rets, K, Rr') → xLp P d k' S') → xLp P d k S := by
  have hn7 := hy.1.2.1
  have y4 := hy.2.2.2.1
  have y5 := hy.2.2.2.2.1
  have y6 := hy.2.2.2.2.2.1
  have y2 := hy.2.1
  obtain ⟨pa, l1, s1, p2, l2, s2, h1, h2, t0, rfl, rfl, rfl⟩ := cWhile_ok h
  obtain ⟨hk1, lx, sx, rx, er, el, _⟩ := cEM_30 h1
  have hpa : p + 1 < n := cKind_in hy.1.2.2.2.1 hk1
  have hp2 : p2 < n := tk_in hy.1.2.2.2.1 (by rw [t0]; decide)
  obtain ⟨n1, n2⟩ := wN_app hn
  obtain ⟨g1, g2⟩ := Seg_app hs
  obtain ⟨w1, w2, g3⟩ := seg2 g2
  obtain ⟨g4, g5⟩ := Seg_app g3
  obtain ⟨w3, w4, _⟩ := seg2 g5
  have len : (l1 ++ 13 :: nI (b1 + l1.length + 2 + l2.length + 2) :: (l2 ++ [12, nI b1])).length = l1.length + 2 + l2.length + 2 := by
    simp only [List.length_append, List.length_cons, List.length_nil]; omega
  rw [len] at hl ⊢
  have e0 : b1 + (l1.length + 2 + l2.length + 2) = b1 + l1.length + 2 + l2.length + 2 := by omega
  rw [e0]
  have hw1 : w b1 = 30 := by rw [el] at g1; exact (Seg_cons g1).1
  intro left
  induction left using Nat.strongRecOn with
  | _ left ihl =>
  intro k Rr S hKs hN hk hX hM hR hK
  have n24 : Rr.1.length ≤ 24 := hM.1.2.2.1
  rw [hKs] at n24
  obtain ⟨k, rfl⟩ : ∃ k0, k = k0 + 1 := ⟨k - 1, by omega⟩
  refine wBg hy (wTn_w0 hy (by omega) ht) (by omega) (by omega) (fun z => by cases z) hX hM hw1 (fun left1 S1 e1 hX1 hM1 => ?_)
  subst e1
  refine ih r false (p + 1) b1 pa l1 s1 par1 h1 (by omega) g1 n1 hsub (by omega) (c + 9) k left1 ((p, 1) :: O) oc rets K Rr S1 (by omega) (by omega) (by rw [hKs]; simp only [List.length_cons]; omega) hX1 hM1 (fun k2 left2 it Rr2 S2 q1 q2 q3 q4 hX2 hM2 => ?_)
  obtain ⟨v, rfl⟩ := it_f q4
  obtain ⟨k2, rfl⟩ : ∃ k0, k2 = k0 + 1 := ⟨k2 - 1, by omega⟩
  have bn : (aNum K).length ≤ 40 := by
    have := (aInv_b hM2.1).1
    have this : (aNum K).length + 1 ≤ 33 := this
    omega
  rw [hKs] at q3
  obtain ⟨B, c1, c2, c3, c4⟩ := hX2
  have hM3 := wM_13 y6 y2 hM2 w1 w2 (by omega)
  refine x_lp5 hy.1 c4 (by omega) (by omega) ht (mv_deep (d := d + 6) (by omega) (x_rep1 c4 bn (by omega) hb (fun hv S3 h3 => ⟨rfl, ?_⟩) (fun hv S3 h3 => ⟨rfl, ?_⟩)))
  · rw [if_pos hv] at hM3
    exact hK k2 left2 Rr2 S3 (by omega) (by omega) q3 ⟨B, by omega, c2, by omega, h3⟩ hM3
  · rw [if_neg hv] at hM3
    refine wBlk (X := c + 10) (g := 2) (mn := mn) hy ihS (by omega) hsub (by omega) (wTn_w2 hy (by omega) ht) cr (by omega) 700 pa _ p2 l2 s2 h2 g4 n2 (by omega) k2 left2 K Rr2 S3 (by omega) (by rw [q3]; exact hm) (by omega) (by rw [q3]; omega) ⟨B, by omega, c2, by omega, h3⟩ hM3 (by rw [q3]; exact wRet_cons (wRet_mono hR (by omega))) (fun k4 left4 Rr4 S4 u1 u2 u3 hX4 hM4 => ?_)
    obtain ⟨k4, rfl⟩ : ∃ k0, k4 = k0 + 1 := ⟨k4 - 1, by omega⟩
    obtain ⟨B4, d1, d2, d3, d4⟩ := hX4
    have hM5 := wM_12 y6 y2 hM4 w3 w4 (by omega)
    refine x_lp5 hy.1 d4 (by omega) (by omega) ht (mv_deep (d := d + 6) (by omega) (x_rep2E hy.1 d4 (by omega) t0 (fun S5 h5 => ⟨rfl, ?_⟩)))
    exact ihl left4 (by omega) k4 Rr4 S5 (u3.trans q3) (by omega) (by omega) ⟨B4, by omega, d2, by omega, h5⟩ hM5 (wRet_mono hR (by omega)) (fun k' left' Rr' S' z1 => hK k' left' Rr' S' (by omega))
set_option maxHeartbeats 1000000 in
/-- key by key: from the map on the stack on -/
theorem wEa1 (hy : wHy Sp w par fa ft rm gr Bt L n tk) (ihS : wSTs d P Sp w par fa sd rm gr Bt L n tk N) (ht : tk p = 6) {b2 p2 : Nat} {l2 s2} (h2 : cLoop tk (cStm n tk par1 true mn r) 700 (p + 4) (b2 + 4) = .ok (p2, l2, s2)) (t0 : tk p2 = 0) (hr : r ≤ 15) (w29 : w b2 = 29) (wv : w (b2 + 1) = tk (p + 2)) (ww : w (b2 + 2) = tk (p + 3)) (we : w (b2 + 3) = nI (b2 + 4 + l2.length + 2)) (g4 : Seg w (b2 + 4) l2) (w12 : w (b2 + 4 + l2.length) = 12) (w13 : w (b2 + 4 + l2.length + 1) = nI b2) (n2 : wN Sp s2) (hsub : wSub par par1) (hl : b2 + 4 + l2.length + 2 ≤ L) (hp : p + 3 < n) (hb : Sp.2.1 9 p = nI (p2 + 1)) (h14 : 0 ≤ tk (p + 2)) (h15 : tk (p + 2) < 14) (h16 : 0 ≤ tk (p + 3)) (h17 : tk (p + 3) < 14) (c cr : Nat) (K : List aI) (hcr : cr ≤ c + 5) (Ks0 : List (List aI)) (hm : mn = Ks0.isEmpty) (hO : O.length + (r + 1) ≤ 17 * (Ks0.length + 1)) (T : tT) : ∀ (left k : Nat) (q : Option Int32) (Rr : List (List aI) × (Nat → Int32) × (Nat → tT) × List Int32 × Nat × Nat) (S : mv_S) (nx : Nat), Rr.1 = Ks0 → left ≤ N → 10 * left + c + 7 ≤ k → wX Sp sd rm gr Bt k left ((p, 1) :: O) nx oc (.inr (T, q) :: K, Rr) S → wM P Sp w par fa sd rm gr Bt L left (b2, rets, .inr (T, q) :: K, Rr) → wRet d P Sp w par fa sd rm gr Bt L cr left mn O oc rets Ks0 → (∀ k' left' Rr' S', left' ≤ left → 10 * left' + c + 5 ≤ k' → Rr'.1 = Ks0 → wX Sp sd rm gr Bt k' left' O (p2 + 1) oc (K, Rr') S' → wM P Sp w par fa sd rm gr Bt L left' (b2 + 4 + l2.length + 2, rets, K, Rr') → xLp P d k' S') → xLp P d k S := by
  have hn7 := hy.1.2.1
  have hg := hy.2.2.1
  have y4 := hy.2.2.2.1
  have y5 := hy.2.2.2.2.1
  have y6 := hy.2.2.2.2.2.1
  have y2 := hy.2.1
  have hp2 : p2 < n := tk_in hy.1.2.2.2.1 (by rw [t0]; decide)
  intro left
  induction left using Nat.strongRecOn with
  | _ left ihl =>
  intro k q Rr S nx hKs hN hk hX hM hR hK
  obtain ⟨Ks, vs, mp, told, most, st⟩ := Rr
  have hKs : Ks = Ks0 := hKs
  subst hKs
  obtain ⟨k, rfl⟩ : ∃ k0, k = k0 + 1 := ⟨k - 1, by omega⟩
  obtain ⟨B, c1, c2, c3, c4⟩ := hX
  have bm : (aMap K).length ≤ 16 := by
    have := (aInv_b hM.1).2.1
    have this : (aMap K).length + 1 ≤ 17 := this
    omega
  have ho : tOrd T := (hM.1.2.2.2.1 T (aHd_in (m := (T, q)) List.mem_cons_self)).1
  refine x_lp6 hy.1 c4 (by omega) (by omega) ht (mv_deep (d := d + 6) (by omega) (x_each1 (x_comeToKeyW hy.1 c4 ho bm (by omega) h14 h15 h16 h17 hb hg (by omega) (fun e0 S1 h1 => ⟨rfl, ?_⟩) (fun e0 z S1 h1 => ⟨rfl, ?_⟩) (fun e0 z S1 h1 => ⟨rfl, ?_⟩)) (fun r S z => z.1)))
  · exact hK k left (Ks, vs, mp, told, most, st) S1 (Nat.le_refl _) (by omega) rfl ⟨B, by omega, c2, by omega, h1⟩ (wM_29e y6 y2 hM w29 we (by omega) e0)
  · obtain rfl : left = 0 := by omega
    exact x_lpS h1 (by omega) (wG_no hM.2 (aIs_29 w29 e0) (by omega) h1)
  · obtain ⟨left1, rfl⟩ : ∃ l1, left = l1 + 1 := ⟨left - 1, by omega⟩
    have e : gr - (left1 + 1) + 1 = gr - left1 := by omega
    rw [e] at h1
    have hM1 := wM_29 y6 y2 hM w29 e0
    rw [wv, ww] at hM1
    refine wBlk (X := c + 9) (g := 2) (mn := mn) hy ihS (by omega) hsub (by omega) (wTn_e2 hy (by omega) ht) cr (by omega) 700 (p + 4) _ p2 l2 s2 h2 g4 n2 (by omega) k left1 (.inr (T, some (tKy (tNx q T))) :: K) (Ks, aUp (aUp vs (aVP Ks.length (tk (p + 2)).toNatClampNeg) (tKy (tNx q T))) (aVP Ks.length (tk (p + 3)).toNatClampNeg) (tV (tNx q T)), mp, told, most, st) S1 (by omega) hm (by omega) (by show O.length + 1 + r ≤ 17 * (Ks.length + 1); omega) ⟨B, by omega, by omega, by omega, h1⟩ hM1 (wRet_cons (wRet_mono hR (by omega))) (fun k4 left4 Rr4 S4 u1 u2 u3 hX4 hM4 => ?_)
    obtain ⟨k4, rfl⟩ : ∃ k0, k4 = k0 + 1 := ⟨k4 - 1, by omega⟩
    obtain ⟨B4, d1, d2, d3, d4⟩ := hX4
    have hM5 := wM_12 y6 y2 hM4 w12 w13 (by omega)
    refine x_lp6 hy.1 d4 (by omega) (by omega) ht (mv_deep (d := d + 6) (by omega) (x_each2E hy.1 d4 (by omega) t0 (fun S5 h5 => ⟨rfl, ?_⟩)))
    exact ihl left4 (by omega) k4 (some (tKy (tNx q T))) Rr4 S5 p2 u3 (by omega) (by omega) ⟨B4, by omega, d2, by omega, h5⟩ hM5 (wRet_mono hR (by omega)) (fun k' left' Rr' S' z1 => hK k' left' Rr' S' (by omega))
set_option maxHeartbeats 1000000 in
/-- S -/
theorem wST_s (hy : wHy Sp w par fa ft rm gr Bt L n tk) (ih : wEMs d P Sp w par fa sd rm gr Bt L n tk N) (ihS : wSTs d P Sp w par fa sd rm gr Bt L n tk N) : wSTs d P Sp w par fa sd rm gr Bt L n tk (N + 1) := by
  intro r mn p b p1 l s par1 hS h hr hs hn hsub hl c cr k left O oc rets K Rr S hN hcr hm hk hO hX hM hR hK
  have hn7 := hy.1.2.1
  have hg := hy.2.2.1
  have y4 := hy.2.2.2.1
  have y5 := hy.2.2.2.2.1
  have y6 := hy.2.2.2.2.2.1
  have y2 := hy.2.1
  obtain ⟨l0, s0, r0, rfl, rfl, rfl, h0⟩ := cStm_30 h
  have hp : p < n := cIsS_in hy.1.2.2.2.1 hS
  obtain ⟨_, hs0⟩ := Seg_cons hs
  obtain ⟨n1, n2⟩ := wN_app hn
  have hb : Sp.2.1 9 p = nI p1 := (n2 false p p1 (by simp)).2
  have len : (30 :: l0 : List Int32).length = l0.length + 1 := rfl
  rw [len] at hl hK
  have e1 : b + (l0.length + 1) = b + 1 + l0.length := by omega
  rw [e1] at hK
  obtain ⟨tt, et, t1, t2⟩ := tkRange (a := 1) (b := 9) (by decide) (by decide) hS.1 hS.2.1
  have t4 : ¬ tt = 4 := fun z => hS.2.2 (by rw [et, z]; rfl)
  have n24 : Rr.1.length ≤ 24 := hM.1.2.2.1
  by_cases a3 : tt = 3
  · have t : tk p = 3 := by rw [et, a3]; rfl
    rw [if_pos t] at h0
    have hX' := hX
    rw [t] at hX'
    exact wIf hy ih ihS t h0 (by omega) hs0 n1 hsub (by omega) hp hb c cr K Rr (by omega) hcr hm hk hO hX' hM hR hK
  have c3 : ¬ tk p = 3 := fun z => a3 ((nI_eq (b := 3) (by omega) (by decide)).mp (et.symm.trans z))
  rw [if_neg c3] at h0
  by_cases a5 : tt = 5
  · have t : tk p = 5 := by rw [et, a5]; rfl
    rw [if_pos t] at h0
    have hX' := hX
    rw [t] at hX'
    exact wWh hy ih ihS t h0 (by omega) hs0 n1 hsub (by omega) hp hb c cr K hcr Rr.1 hm hO left k Rr S rfl (by omega) hk hX' hM hR hK
  have c5 : ¬ tk p = 5 := fun z => a5 ((nI_eq (b := 5) (by omega) (by decide)).mp (et.symm.trans z))
  rw [if_neg c5] at h0
  by_cases a6 : tt = 6
  · have t : tk p = 6 := by rw [et, a6]; rfl
    rw [if_pos t] at h0
    obtain ⟨p2, l2, b1, b2, b3, h2, t0, rfl, rfl⟩ := cEach_ok h0
    have f1 := cBare_ok b1
    have f2 := cBare_ok b2
    have f3 := cBare_ok b3
    have hX' := hX
    rw [t] at hX'
    obtain ⟨w1, w2, g3⟩ := seg2 hs0
    obtain ⟨w3, w4, g4⟩ := seg2 g3
    obtain ⟨w5, w6, g5⟩ := seg2 g4
    obtain ⟨g6, g7⟩ := Seg_app g5
    obtain ⟨w7, w8, _⟩ := seg2 g7
    have len2 : (19 :: tk (p + 1) :: 29 :: tk (p + 2) :: tk (p + 3) :: nI (b + 1 + 6 + l2.length + 2) :: (l2 ++ [12, nI (b + 1 + 2)])).length = 6 + l2.length + 2 := by
      simp only [List.length_append, List.length_cons, List.length_nil]; omega
    rw [len2] at hl hK
    obtain ⟨Ks, vs, mp, told, most, st⟩ := Rr
    obtain ⟨v1, v2⟩ := aN_of (n := 6) rfl (by decide) f1.2.2.1 f1.2.2.2
    -- the map is pushed on both sides
    have hw19 : w (b + 1) = nI 19 := w1
    have hM1 : wM P Sp w par fa sd rm gr Bt L left (b + 1 + 2, rets, .inr (mp (aMP Ks.length (tk (p + 1)).toNatClampNeg), none) :: K, Ks, vs, mp, told, most, st) := by
      refine wM_st (k := 19) y6 y2 hM hw19 (by decide) ?_
      show (1, b + 1 + 2, rets, .inr (mp (aMP Ks.length (w (b + 1 + 1)).toNatClampNeg), none) :: K, Ks, vs, mp, told, most, st) = _
      rw [w2]
    have bm : (aMap K).length ≤ 16 := by
      have := (aInv_b hM1.1).2.1
      have this : (aMap K).length + 1 ≤ 17 := this
      omega
    obtain ⟨k, rfl⟩ : ∃ k0, k = k0 + 1 := ⟨k - 1, by omega⟩
    obtain ⟨B, c1, c2, c3', c4⟩ := hX'
    refine x_lp6 hy.1 c4 (by omega) (by omega) t (mv_deep (d := d + 6) (by omega) (x_each0 hy.1 c4 (by omega) f1.2.2.1 f1.2.2.2 bm (fun S1 h1 => ⟨rfl, ?_⟩)))
    have ea : b + 1 + 2 + 4 = b + 1 + 6 := by omega
    have eb : b + 1 + 6 + l2.length + 2 = b + 1 + (6 + l2.length + 2) := by omega
    refine wEa1 (b2 := b + 1 + 2) hy ihS t (by rw [ea]; exact h2) t0 (by omega) w3 w4 w5 (by rw [ea]; exact w6) g6 w7 w8 n1 hsub (by omega) (by omega) hb f2.2.2.1 f2.2.2.2 f3.2.2.1 f3.2.2.2 c cr K hcr Ks hm hO _ left k none (Ks, vs, mp, told, most, st) S1 _ rfl (by omega) (by omega) ⟨B, by omega, c2, by omega, h1⟩ hM1 hR (fun k' left' Rr' S' z1 z2 z3 hX2 hM2 => ?_)
    rw [ea, eb] at hM2
    exact hK k' left' Rr' S' z1 z2 z3 hX2 hM2
  have c6 : ¬ tk p = 6 := fun z => a6 ((nI_eq (b := 6) (by omega) (by decide)).mp (et.symm.trans z))
  rw [if_neg c6] at h0
  by_cases a9 : tt = 9
  · have t : tk p = 9 := by rw [et, a9]; rfl
    rw [if_pos t] at h0
    obtain ⟨l1, h1, rfl⟩ := cAnswer_ok h0
    have hX' := hX
    rw [t, show (tkArg 9).toNatClampNeg = 0 by decide, Nat.add_zero] at hX'
    obtain ⟨g1, g2⟩ := Seg_app hs0
    obtain ⟨hk1, lx, sx, rx, er, el, _⟩ := cEM_30 h1
    have hpa : p + 1 < n := cKind_in hy.1.2.2.2.1 hk1
    have hw1 : w (b + 1) = 30 := by rw [el] at g1; exact (Seg_cons g1).1
    rw [List.length_append] at hl
    obtain ⟨k, rfl⟩ : ∃ k0, k = k0 + 1 := ⟨k - 1, by omega⟩
    refine wBg hy (wTn_a0 hy (by omega) t) (by omega) (by omega) (fun z => by cases z) hX' hM hw1 (fun left1 S1 e2 hX1 hM1 => ?_)
    subst e2
    refine ih r0 false (p + 1) (b + 1) p1 l1 s0 par1 h1 (by omega) g1 n1 hsub (by omega) (c + 9) k left1 ((p, 1) :: O) oc rets K Rr S1 (by omega) (by omega) (by simp only [List.length_cons]; omega) hX1 hM1 (fun k2 left2 it Rr2 S2 q1 q2 q3 q4 hX2 hM2 => ?_)
    obtain ⟨v, rfl⟩ := it_f q4
    obtain ⟨k2, rfl⟩ : ∃ k0, k2 = k0 + 1 := ⟨k2 - 1, by omega⟩
    have bn : (aNum K).length ≤ 40 := by
      have := (aInv_b hM2.1).1
      have this : (aNum K).length + 1 ≤ 33 := this
      omega
    obtain ⟨Ks2, Re⟩ := Rr2
    have q3 : Ks2 = Rr.1 := q3
    obtain ⟨B, c1, c2, c3', c4⟩ := hX2
    cases mn with
    | true =>
      have eK : Ks2 = [] := by rw [q3]; exact List.isEmpty_iff.mp hm.symm
      subst eK
      obtain ⟨w2, w3, _⟩ := seg2 (l := []) g2
      have hM3 := wM_18 y6 y2 hM2 w2
      have hw0 : w (b + 1 + l1.length + 1) = nI 0 := w3
      refine x_lp9 hy.1 c4 (by omega) (by omega) t (mv_deep (d := d + 6) (by omega) (x_ans1 c4 bn (fun S3 h3 => x_comeBack0 h3 (fun S4 h4 => ⟨rfl, ?_⟩)) (fun r S z => z.1)))
      have e9 : aSt w par fa sd rm (b + 1 + l1.length + 1, rets, K, [], Re) = (0, b + 1 + l1.length + 1 + 1, rets, K, [], Re) := aSt_k (k := 0) (s := (b + 1 + l1.length + 1, rets, K, [], Re)) hw0 (by decide)
      exact x_lpS h4 (by omega) (wG_en (B := B) hM3.2 (aIs_no (k := 0) hw0 (by decide)) (by rw [e9]) (by decide) (by decide) (by omega) (by rw [e9]; exact h4))
    | false =>
      obtain ⟨T, pr, gr1, R1, er1, K1, Ks', ret, rets', oc', o1, o2, o3, o4, o5, o6, o7⟩ := hR rfl
      subst o1 o2 o4
      have eK : Ks2 = K1 :: Ks' := q3.trans o3
      subst eK
      obtain ⟨w2, _⟩ := Seg_cons (l := []) g2
      have hM3 := wM_17 y6 y2 hM2 w2
      refine x_lp9 hy.1 c4 (by omega) (by omega) t (mv_deep (d := d + 6) (by omega) (x_ans1 c4 bn (fun S3 h3 => x_comeBack1 (Tt := (p, 1) :: T) h3 rfl o5 o6 (fun S4 h4 => ⟨rfl, ?_⟩)) (fun r S z => z.1)))
      exact o7 k2 left2 v Re S4 (by omega) (by omega) ⟨B, by omega, c2, by omega, h4⟩ hM3
  have c9 : ¬ tk p = 9 := fun z => a9 ((nI_eq (b := 9) (by omega) (by decide)).mp (et.symm.trans z))
  rw [if_neg c9] at h0
  by_cases a8 : tt = 8
  · have t : tk p = 8 := by rw [et, a8]; rfl
    rw [if_pos t] at h0
    obtain ⟨l1, h1, rfl⟩ := cCallS_ok h0
    have hX' := hX
    rw [t] at hX'
    obtain ⟨g1, g2⟩ := Seg_app hs0
    obtain ⟨w2, _⟩ := Seg_cons g2
    rw [List.length_append] at hl hK
    obtain ⟨Ks, Re⟩ := Rr
    have hl1 : l1.length + [(18 : Int32)].length = l1.length + 1 := rfl
    rw [hl1] at hl hK
    refine wCa hy ih ihS (Or.inl t) h1 (by omega) g1 n1 hsub (by omega) hp hb c K Ks Re (by omega) hk hO hX' hM (fun k' left' v rr Re' S' q1 q2 q3 q4 hX2 hM2 => ?_)
    obtain ⟨k', rfl⟩ : ∃ k0, k' = k0 + 1 := ⟨k' - 1, by omega⟩
    obtain ⟨B, c1, c2, c3', c4⟩ := hX2
    have bn : (aNum K).length ≤ 40 := by
      have := (aInv_b hM2.1).1
      have this : (aNum K).length + 1 ≤ 33 := this
      omega
    have hM3 := wM_18 y6 y2 hM2 w2
    refine x_lp8 hy.1 c4 (by omega) (by omega) t (mv_deep (d := d + 6) (by omega) (x_call2S hy.1 c4 q4 q3 (by omega) t bn (fun S3 h3 => ⟨rfl, ?_⟩)))
    exact hK k' left' (Ks, Re') S3 q1 (by omega) rfl ⟨B, by omega, c2, by omega, h3⟩ hM3
  have c8 : ¬ tk p = 8 := fun z => a8 ((nI_eq (b := 8) (by omega) (by decide)).mp (et.symm.trans z))
  rw [if_neg c8] at h0
  have tp : tkPl (tk p) := by rw [et]; exact tkPl_of (by omega)
  refine wPl hy ih tp h0 (by omega) hs0 n1 hsub (by omega) hp c K Rr (by omega) hk hO hX hM (fun k' left' res Rr' S' q1 q2 q3 q4 hX' hM' => ?_)
  have e40 : ¬ (40 : Int32) ≤ tk p := by
    intro z
    rw [et] at z
    have := (nI_leI (a := 40) (by decide) (by omega)).mp z
    omega
  have e20 : ¬ (20 : Int32) ≤ tk p := by
    intro z
    rw [et] at z
    have := (nI_leI (a := 20) (by decide) (by omega)).mp z
    omega
  rw [if_neg e40, if_neg e20] at q4
  obtain rfl := aSh_nil q4
  exact hK k' left' Rr' S' q1 q2 q3 hX' hM'
/-- all -/
theorem wAll (hy : wHy Sp w par fa ft rm gr Bt L n tk) : ∀ N, wEMs d P Sp w par fa sd rm gr Bt L n tk N ∧ wSTs d P Sp w par fa sd rm gr Bt L n tk N
  | 0 => ⟨fun r m p b p1 l s par1 _ _ _ _ _ _ c k left O oc rets K Rr S z => absurd z (Nat.not_lt_zero _), fun r mn p b p1 l s par1 _ _ _ _ _ _ _ c cr k left O oc rets K Rr S z => absurd z (Nat.not_lt_zero _)⟩
  | N + 1 => ⟨wEM_s hy (wAll hy N).1 (wAll hy N).2, wST_s hy (wAll hy N).1 (wAll hy N).2⟩
end WJ

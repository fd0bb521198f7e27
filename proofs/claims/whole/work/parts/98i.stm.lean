/-! THE CLASS WALKS BESIDE THE MACHINE OF BOTH: E and M, statements -/
section WI
variable {d : Nat} {P : Option Value → mv_S → Prop} {Sp S : mv_S} {w par par1 : Nat → Int32} {fa ft : Nat → Nat} {sd : Int32} {rm gr Bt L n N : Nat} {tk : Nat → Int32} {k left r p : Nat} {O : List (Nat × Nat)} {oc rets : List Nat} {m mn : Bool}
theorem tkRange {t : Int32} {a b : Nat} (ha : a < 2 ^ 31) (hb : b < 2 ^ 31) (h1 : nI a ≤ t) (h2 : t ≤ nI b) : ∃ k, t = nI k ∧ a ≤ k ∧ k ≤ b := by
  have h0 : ¬ t < 0 := Int32.not_lt.mpr (Int32.le_trans (nI_pos' ha) h1)
  obtain ⟨j, hj, rfl⟩ := nI_of h0
  exact ⟨j, rfl, (nI_leI ha hj).mp h1, (nI_leI hj hb).mp h2⟩
theorem tkPl_of {k : Nat} (h : k = 1 ∨ k = 2 ∨ k = 7 ∨ (20 ≤ k ∧ k ≤ 29) ∨ (32 ≤ k ∧ k ≤ 35) ∨ (40 ≤ k ∧ k ≤ 44)) : tkPl (nI k) := by
  unfold tkPl
  rcases h with rfl | rfl | rfl | h | h | h
  · exact Or.inl rfl
  · exact Or.inr (Or.inl rfl)
  · exact Or.inr (Or.inr (Or.inl rfl))
  · exact Or.inr (Or.inr (Or.inr (Or.inl ⟨nI_le h.1 (by omega), nI_le h.2 (by decide)⟩)))
  · exact Or.inr (Or.inr (Or.inr (Or.inr (Or.inl ⟨nI_le h.1 (by omega), nI_le h.2 (by decide)⟩))))
  · exact Or.inr (Or.inr (Or.inr (Or.inr (Or.inr ⟨nI_le h.1 (by omega), nI_le h.2 (by decide)⟩))))
/-- what stands at the place of an E or M -/
theorem cKind_cases (h : cKind m (tk p)) : (tkPl (tk p) ∧ (if 40 ≤ tk p then [true] else if 20 ≤ tk p then [false] else []) = [m]) ∨ (m = false ∧ tk p = 30) ∨ (m = false ∧ tk p = 31) ∨ (m = false ∧ tk p = 36) := by
  cases m with
  | true =>
    have h : 40 ≤ tk p ∧ tk p ≤ 44 := h
    obtain ⟨k, e, h1, h2⟩ := tkRange (a := 40) (b := 44) (by decide) (by decide) h.1 h.2
    refine Or.inl ⟨by rw [e]; exact tkPl_of (by omega), ?_⟩
    rw [if_pos h.1]
  | false =>
    have h : 20 ≤ tk p ∧ tk p ≤ 36 := h
    obtain ⟨k, e, h1, h2⟩ := tkRange (a := 20) (b := 36) (by decide) (by decide) h.1 h.2
    by_cases c : k = 30
    · exact Or.inr (Or.inl ⟨rfl, by rw [e, c]; rfl⟩)
    by_cases c2 : k = 31
    · exact Or.inr (Or.inr (Or.inl ⟨rfl, by rw [e, c2]; rfl⟩))
    by_cases c3 : k = 36
    · exact Or.inr (Or.inr (Or.inr ⟨rfl, by rw [e, c3]; rfl⟩))
    refine Or.inl ⟨by rw [e]; exact tkPl_of (by omega), ?_⟩
    rw [if_neg, if_pos h.1]
    intro z
    rw [e] at z
    have := (nI_leI (a := 40) (by decide) (by omega)).mp z
    omega
theorem sh1 {res : List aI} (h : aSh res = [m]) : ∃ it, res = [it] ∧ aSh [it] = [m] := by
  match res, h with
  | [it], h => exact ⟨it, rfl, h⟩
  | [], h => cases h
  | .inl a :: .inl b :: R, h => cases h
  | .inl a :: .inr b :: R, h => cases h
  | .inr a :: .inl b :: R, h => cases h
  | .inr a :: .inr b :: R, h => cases h
set_option maxHeartbeats 1000000 in
/-- E and M -/
theorem wEM_s (hy : wHy Sp w par fa ft rm gr Bt L n tk) (ih : wEMs d P Sp w par fa sd rm gr Bt L n tk N) (ihS : wSTs d P Sp w par fa sd rm gr Bt L n tk N) : wEMs d P Sp w par fa sd rm gr Bt L n tk (N + 1) := by
  intro r m p b p1 l s par1 h hr hs hn hsub hl c k left O oc rets K Rr S hN hk hO hX hM hK
  have hn7 := hy.1.2.1
  obtain ⟨hkd, l0, s0, r0, rfl, rfl, rfl, h0⟩ := cEM_30 h
  have hp : p < n := cKind_in hy.1.2.2.2.1 hkd
  obtain ⟨_, hs0⟩ := Seg_cons hs
  obtain ⟨n1, n2⟩ := wN_app hn
  have len : (30 :: l0 : List Int32).length = l0.length + 1 := rfl
  rw [len] at hl hK
  have e1 : b + (l0.length + 1) = b + 1 + l0.length := by omega
  rw [e1] at hK
  rcases cKind_cases hkd with ⟨t, e⟩ | ⟨rfl, t⟩ | ⟨rfl, t⟩ | ⟨rfl, t⟩
  · have t3 : ¬ (tk p = 30 ∨ tk p = 31) := by
      obtain ⟨kk, e2, h1, h2⟩ := tkPl_n t
      rw [e2]
      rintro (z | z)
      · have := (nI_eq (b := 30) (by omega) (by decide)).mp z; omega
      · have := (nI_eq (b := 31) (by omega) (by decide)).mp z; omega
    rw [if_neg t3] at h0
    refine wPl hy ih t h0 (by omega) hs0 n1 hsub (by omega) hp c K Rr (by omega) hk hO hX hM (fun k' left' res Rr' S' q1 q2 q3 q4 hX' hM' => ?_)
    rw [e] at q4
    obtain ⟨it, rfl, q5⟩ := sh1 q4
    exact hK k' left' it Rr' S' q1 q2 q3 q5 hX' hM'
  · rw [if_pos (Or.inl t)] at h0
    have hX' := hX
    rw [t] at hX'
    exact wSh_30 hy ih t h0 (by omega) hs0 n1 hsub (by omega) hp (n2 false p p1 (by simp)).2 c K Rr (by omega) hk hO hX' hM hK
  · rw [if_pos (Or.inr t)] at h0
    have hX' := hX
    rw [t] at hX'
    exact wSh_31 hy ih t h0 (by omega) hs0 n1 hsub (by omega) hp (n2 false p p1 (by simp)).2 c K Rr (by omega) hk hO hX' hM hK
  · rw [if_neg (by rw [t]; decide)] at h0
    have hX' := hX
    rw [t] at hX'
    obtain ⟨Ks, Re⟩ := Rr
    refine wCa hy ih ihS (Or.inr t) h0 (by omega) hs0 n1 hsub (by omega) hp (n2 false p p1 (by simp)).2 c K Ks Re (by omega) hk hO hX' hM (fun k' left' v rr Re' S' q1 q2 q3 q4 hX2 hM2 => ?_)
    obtain ⟨k', rfl⟩ : ∃ k0, k' = k0 + 1 := ⟨k' - 1, by omega⟩
    obtain ⟨B, c1, c2, c3, c4⟩ := hX2
    refine x_lp36 hy.1 c4 (by omega) (by omega) t (mv_deep (d := d + 6) (by omega) (x_call2E hy.1 c4 q4 q3 (by omega) t (fun S3 h3 => ⟨rfl, ?_⟩)))
    exact hK k' left' (.inl v) (Ks, Re') S3 q1 (by omega) rfl rfl ⟨B, by omega, c2, by omega, h3⟩ hM2
set_option maxHeartbeats 1000000 in
/-- if -/
theorem wIf (hy : wHy Sp w par fa ft rm gr Bt L n tk) (ih : wEMs d P Sp w par fa sd rm gr Bt L n tk N) (ihS : wSTs d P Sp w par fa sd rm gr Bt L n tk N) (ht : tk p = 3) {b1 p1 : Nat} {l s} (h : cIf tk (cEM n tk par1 true r) (cLoop tk (cStm n tk par1 true mn r) 700) p b1 = .ok (p1, l, s)) (hr : r ≤ 15) (hs : Seg w b1 l) (hn : wN Sp s) (hsub : wSub par par1) (hl : b1 + l.length ≤ L) (hp : p < n) (hb : Sp.2.1 9 p = nI p1) (c cr : Nat) (K : List aI) (Rr : List (List aI) × (Nat → Int32) × (Nat → tT) × List Int32 × Nat × Nat) (hN : left ≤ N) (hcr : cr ≤ c + 5) (hm : mn = Rr.1.isEmpty) (hk : 10 * left + c + 9 ≤ k) (hO : O.length + (r + 1) ≤ 17 * (Rr.1.length + 1)) (hX : wX Sp sd rm gr Bt k left ((p, 0) :: O) (p + 1) oc (K, Rr) S) (hM : wM P Sp w par fa sd rm gr Bt L left (b1, rets, K, Rr)) (hR : wRet d P Sp w par fa sd rm gr Bt L cr left mn O oc rets Rr.1) (hK : ∀ k' left' Rr' S', left' ≤ left → 10 * left' + c + 5 ≤ k' → Rr'.1 = Rr.1 → wX Sp sd rm gr Bt k' left' O p1 oc (K, Rr') S' → wM P Sp w par fa sd rm gr Bt L left' (b1 + l.length, rets, K, Rr') → xLp P d k' S') : xLp P d k S := by
  have hn7 := hy.1.2.1
  have y4 := hy.2.2.2.1
  have y5 := hy.2.2.2.2.1
  have y6 := hy.2.2.2.2.2.1
  have y2 := hy.2.1
  have n24 : Rr.1.length ≤ 24 := hM.1.2.2.1
  obtain ⟨pa, l1, s1, p2, l2, s2, h1, h2, h3⟩ := cIf_ok h
  obtain ⟨hk1, lx, sx, rx, er, el, _⟩ := cEM_30 h1
  have hpa : p + 1 < n := cKind_in hy.1.2.2.2.1 hk1
  -- the words and notes of the first part are alike in both forms
  have g1 : Seg w b1 l1 := by
    rcases h3 with ⟨_, p3, l3, s3, _, _, _, rfl, _⟩ | ⟨_, _, rfl, _⟩ <;> exact (Seg_app hs).1
  have n1 : wN Sp s1 := by
    rcases h3 with ⟨_, p3, l3, s3, _, _, _, _, rfl⟩ | ⟨_, _, _, rfl⟩ <;> exact (wN_app hn).1
  have ll : l1.length + 2 + l2.length ≤ l.length := by
    rcases h3 with ⟨_, p3, l3, s3, _, _, _, rfl, _⟩ | ⟨_, _, rfl, _⟩ <;> simp only [List.length_append, List.length_cons] <;> omega
  have hw1 : w b1 = 30 := by rw [el] at g1; exact (Seg_cons g1).1
  obtain ⟨k, rfl⟩ : ∃ k0, k = k0 + 1 := ⟨k - 1, by omega⟩
  refine wBg hy (wTn_i0 hy (by omega) ht) (by omega) (by omega) (fun z => by cases z) hX hM hw1 (fun left1 S1 e1 hX1 hM1 => ?_)
  subst e1
  refine ih r false (p + 1) b1 pa l1 s1 par1 h1 (by omega) g1 n1 hsub (by omega) (c + 9) k left1 ((p, 1) :: O) oc rets K Rr S1 (by omega) (by omega) (by simp only [List.length_cons]; omega) hX1 hM1 (fun k2 left2 it Rr2 S2 q1 q2 q3 q4 hX2 hM2 => ?_)
  obtain ⟨v, rfl⟩ := it_f q4
  obtain ⟨k2, rfl⟩ : ∃ k0, k2 = k0 + 1 := ⟨k2 - 1, by omega⟩
  have bn : (aNum K).length ≤ 40 := by
    have := (aInv_b hM2.1).1
    have this : (aNum K).length + 1 ≤ 33 := this
    omega
  obtain ⟨B, c1, c2, c3, c4⟩ := hX2
  have fin : ∀ k' left' Rr' S' nx, left' ≤ left2 → 10 * left' + (c + 9) ≤ k' → Rr'.1 = Rr.1 → ¬ cIsS (tk nx) → nx < 700 → wX Sp sd rm gr Bt k' left' ((p, 2) :: O) nx oc (K, Rr') S' → wM P Sp w par fa sd rm gr Bt L left' (b1 + l.length, rets, K, Rr') → xLp P d k' S' := by
    intro k' left' Rr' S' nx a1 a2 a3 a4 a5 hX' hM'
    obtain ⟨k', rfl⟩ : ∃ k0, k' = k0 + 1 := ⟨k' - 1, by omega⟩
    obtain ⟨B', d1, d2, d3, d4⟩ := hX'
    refine x_lp3 hy.1 d4 (by omega) (by omega) ht (mv_deep (d := d + 6) (by omega) (x_choice2E hy.1 d4 (by omega) a4 (by omega) hb (fun S3 h3 => ⟨rfl, ?_⟩)))
    exact hK k' left' Rr' S3 (by omega) (by omega) a3 ⟨B', by omega, d2, by omega, h3⟩ hM'
  have zS : ¬ cIsS 0 := by decide
  have fS : ¬ cIsS 4 := by decide
  rcases h3 with ⟨t4, p3, l3, s3, h4, t0, rfl, rfl, rfl⟩ | ⟨t0, rfl, rfl, rfl⟩
  · -- with an else
    obtain ⟨_, n2⟩ := wN_app hn
    obtain ⟨n3, n4⟩ := wN_app n2
    have hp2 : p2 < n := tk_in hy.1.2.2.2.1 (by rw [t4]; decide)
    have hp3 : p3 < n := tk_in hy.1.2.2.2.1 (by rw [t0]; decide)
    have ht10 : Sp.2.1 10 p = nI p2 := (n4 true p p2 (by simp)).2
    have n5 : wN Sp s3 := fun g q e z => n4 g q e (List.mem_cons_of_mem _ z)
    obtain ⟨_, g2⟩ := Seg_app hs
    obtain ⟨w1, w2, g3⟩ := seg2 g2
    obtain ⟨g4, g5⟩ := Seg_app g3
    obtain ⟨w3, w4, g6⟩ := seg2 g5
    have len : (l1 ++ 13 :: nI (b1 + l1.length + 2 + l2.length + 2) :: (l2 ++ 12 :: nI (b1 + l1.length + 2 + l2.length + 2 + l3.length) :: l3)).length = l1.length + 2 + l2.length + 2 + l3.length := by
      simp only [List.length_append, List.length_cons]; omega
    rw [len] at hl fin
    have hM3 := wM_13 y6 y2 hM2 w1 w2 (by omega)
    refine x_lp3 hy.1 c4 (by omega) (by omega) ht (mv_deep (d := d + 6) (by omega) (x_choice1 hy.1 c4 bn (by omega) ht10 (by omega) (fun S3 h3 => ⟨rfl, ?_⟩)))
    rw [if_pos t4] at h3
    by_cases hv : v = 0
    · rw [if_pos hv] at h3 hM3
      refine wBlk (X := c + 9) (g := 2) (mn := mn) hy ihS (by omega) hsub (by omega) (wTn_i2 hy (by omega) ht) cr (by omega) 700 (p2 + 1) _ p3 l3 s3 h4 g6 n5 (by omega) k2 left2 K Rr2 S3 (by omega) (by rw [q3]; exact hm) (by omega) (by rw [q3]; omega) ⟨B, by omega, c2, by omega, h3⟩ hM3 (by rw [q3]; exact wRet_cons (wRet_mono hR (by omega))) (fun k4 left4 Rr4 S4 u1 u2 u3 hX4 hM4 => ?_)
      refine fin k4 left4 Rr4 S4 p3 u1 u2 (u3.trans q3) (by rw [t0]; exact zS) (by omega) hX4 ?_
      have e : b1 + (l1.length + 2 + l2.length + 2 + l3.length) = b1 + l1.length + 2 + l2.length + 2 + l3.length := by omega
      rw [e]; exact hM4
    · rw [if_neg hv] at h3 hM3
      refine wBlk (X := c + 9) (g := 2) (mn := mn) hy ihS (by omega) hsub (by omega) (wTn_i2 hy (by omega) ht) cr (by omega) 700 pa _ p2 l2 s2 h2 g4 n3 (by omega) k2 left2 K Rr2 S3 (by omega) (by rw [q3]; exact hm) (by omega) (by rw [q3]; omega) ⟨B, by omega, c2, by omega, h3⟩ hM3 (by rw [q3]; exact wRet_cons (wRet_mono hR (by omega))) (fun k4 left4 Rr4 S4 u1 u2 u3 hX4 hM4 => ?_)
      refine fin k4 left4 Rr4 S4 p2 u1 u2 (u3.trans q3) (by rw [t4]; exact fS) (by omega) hX4 ?_
      have hM5 := wM_12 y6 y2 hM4 w3 w4 (by omega)
      have e : b1 + (l1.length + 2 + l2.length + 2 + l3.length) = b1 + l1.length + 2 + l2.length + 2 + l3.length := by omega
      rw [e]; exact hM5
  · -- without
    obtain ⟨_, n2⟩ := wN_app hn
    obtain ⟨n3, n4⟩ := wN_app n2
    have hp2 : p2 < n := tk_in hy.1.2.2.2.1 (by rw [t0]; decide)
    have ht10 : Sp.2.1 10 p = nI p2 := (n4 true p p2 (by simp)).2
    obtain ⟨_, g2⟩ := Seg_app hs
    obtain ⟨w1, w2, g3⟩ := seg2 g2
    have len : (l1 ++ 13 :: nI (b1 + l1.length + 2 + l2.length) :: l2).length = l1.length + 2 + l2.length := by
      simp only [List.length_append, List.length_cons]; omega
    rw [len] at hl fin
    have hM3 := wM_13 y6 y2 hM2 w1 w2 (by omega)
    have e : b1 + (l1.length + 2 + l2.length) = b1 + l1.length + 2 + l2.length := by omega
    rw [e] at fin
    refine x_lp3 hy.1 c4 (by omega) (by omega) ht (mv_deep (d := d + 6) (by omega) (x_choice1 hy.1 c4 bn (by omega) ht10 (by omega) (fun S3 h3 => ⟨rfl, ?_⟩)))
    rw [if_neg (show ¬ tk p2 = 4 by rw [t0]; decide)] at h3
    by_cases hv : v = 0
    · rw [if_pos hv] at h3 hM3
      exact fin k2 left2 Rr2 S3 p2 (Nat.le_refl _) (by omega) q3 (by rw [t0]; exact zS) (by omega) ⟨B, by omega, c2, by omega, h3⟩ hM3
    · rw [if_neg hv] at h3 hM3
      refine wBlk (X := c + 9) (g := 2) (mn := mn) hy ihS (by omega) hsub (by omega) (wTn_i2 hy (by omega) ht) cr (by omega) 700 pa _ p2 l2 s2 h2 g3 n3 (by omega) k2 left2 K Rr2 S3 (by omega) (by rw [q3]; exact hm) (by omega) (by rw [q3]; omega) ⟨B, by omega, c2, by omega, h3⟩ hM3 (by rw [q3]; exact wRet_cons (wRet_mono hR (by omega))) (fun k4 left4 Rr4 S4 u1 u2 u3 hX4 hM4 => ?_)
      exact fin k4 left4 Rr4 S4 p2 u1 u2 (u3.trans q3) (by rw [t0]; exact zS) (by omega) hX4 hM4
end WI

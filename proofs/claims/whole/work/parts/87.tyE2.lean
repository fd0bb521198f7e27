/-! THE CODE IS TYPED: E and M, all levels -/
section TY
variable {w par par1 : Nat → Int32} {L : Nat} {mn : Bool} {n : Nat} {tk : Nat → Int32} {mk : Bool}
set_option maxHeartbeats 400000 in
theorem tyEM_0 : tyEM w par L mn n tk par1 mk 0 := by
  intro m p b sh p1 l s h
  unfold cEM at h
  split at h <;> cases h
set_option maxHeartbeats 400000 in
theorem tyMark {pc N : Nat} {sh : shT} {l : List Int32} (hs : Seg w pc (if mk then 30 :: l else l)) (hL : pc + (if mk then 30 :: l else l).length ≤ L) (b1 : shN sh ≤ 33) (b2 : shM sh ≤ 17) (h : Seg w (pc + mk.toNat) l → pc + mk.toNat + l.length ≤ L → tyN w par L mn N (pc + mk.toNat) sh) : tyN w par L mn N pc sh := by
  cases mk
  · exact h hs hL
  · obtain ⟨g1, g2⟩ := Seg_cons hs
    have hL : pc + (l.length + 1) ≤ L := hL
    exact tyN_j (mkI_30 g1 b1 b2 ⟨by omega, h g2 (by show pc + 1 + l.length ≤ L; omega)⟩)
set_option maxHeartbeats 400000 in
theorem tyEM_s {r : Nat} (hr : r < 16) (ht : ∀ p, n ≤ p → tk p = -1) (hsub : ∀ f, f < 8 → par1 f ≠ -1 → par f = par1 f ∧ 0 ≤ par f ∧ par f ≤ 3) (hL31 : L < 2 ^ 31) (ih : tyEM w par L mn n tk par1 mk r) : tyEM w par L mn n tk par1 mk (r + 1) := by
  intro m p b sh p1 l s h hs hL b1 b2 N z
  by_cases c : cKind m (tk p)
  · have hp := cKind_in ht c
    by_cases t30 : tk p = 30 ∨ tk p = 31
    · have hm : m = false := by
        cases m
        · rfl
        · have c1 : 40 ≤ tk p := c.1
          rcases t30 with t | t <;> rw [t] at c1 <;> exact absurd c1 (by decide)
      subst hm
      rw [cEM_or t30] at h
      obtain ⟨l0, s0, h1, rfl, rfl⟩ := cMark_ok h
      refine tyMark hs hL (by omega) (by omega) (fun hs hL => ?_)
      have z : tyN w par L mn N (b + mk.toNat + l0.length) (false :: sh) := by
        have e : b + (if mk then 30 :: l0 else l0).length = b + mk.toNat + l0.length := by cases mk <;> simp <;> omega
        rw [e] at z; exact z
      generalize b + mk.toNat = b at hs hL z h1
      obtain ⟨p2, l1, s1, l2, s2, a1, a2, rfl, rfl⟩ := cEither_ok h1
      obtain ⟨g1, g2⟩ := Seg_app hs
      obtain ⟨g3, g4⟩ := Seg_cons g2
      obtain ⟨g5, g6⟩ := Seg_cons g4
      obtain ⟨g7, g8⟩ := Seg_app g6
      obtain ⟨k1, k2⟩ := Seg_cons g8
      obtain ⟨k3, k4⟩ := Seg_cons k2
      obtain ⟨k5, k6⟩ := Seg_cons k4
      obtain ⟨k7, k8⟩ := Seg_cons k6
      obtain ⟨k9, k10⟩ := Seg_cons k8
      simp only [List.length_append, List.length_cons, List.length_nil] at hL z
      have e0 : b + l1.length + 1 + 1 = b + l1.length + 2 := rfl
      rw [e0] at g7 k1 k3 k5 k7 k9
      -- the last words
      have zE : tyN w par L mn N (b + l1.length + 2 + l2.length + 6) (false :: sh) := by
        rw [show b + l1.length + 2 + l2.length + 6 = b + (l1.length + (l2.length + (0 + 1 + 1 + 1 + 1 + 1 + 1) + 1 + 1)) by omega]; exact z
      have zP : tyN w par L mn N (b + l1.length + 2 + l2.length + 4) sh := by
        refine tyN_j (mkI_1 ?_ (by omega) (by omega) ⟨by omega, zE⟩)
        rw [show b + l1.length + 2 + l2.length + 4 = b + l1.length + 2 + l2.length + 1 + 1 + 1 + 1 by omega]; exact k9
      have zG : tyN w par L mn N (b + l1.length + 2 + l2.length + 2) (false :: sh) := by
        refine tyN_j (mkI_12 ?_ (by rw [shN_f]; omega) (by rw [shM_f]; omega) ⟨⟨by omega, ?_⟩, ?_⟩)
        · rw [show b + l1.length + 2 + l2.length + 2 = b + l1.length + 2 + l2.length + 1 + 1 by omega]; exact k5
        · rw [show b + l1.length + 2 + l2.length + 2 + 1 = b + l1.length + 2 + l2.length + 1 + 1 + 1 by omega, k7]; exact nI_pos' (by omega)
        · rw [show b + l1.length + 2 + l2.length + 2 + 1 = b + l1.length + 2 + l2.length + 1 + 1 + 1 by omega, k7, nI_clamp (by omega)]; exact zE
      have zN : tyN w par L mn N (b + l1.length + 2 + l2.length) (false :: sh) := by
        refine tyN_j (mkI_11 k1 (by rw [shN_f]; omega) (by rw [shM_f]; omega) ⟨⟨by omega, rfl⟩, ?_⟩)
        exact tyN_j (mkI_11 k3 (by rw [shN_f]; omega) (by rw [shM_f]; omega) ⟨⟨by omega, rfl⟩, zG⟩)
      have z2 : tyN w par L mn N (b + l1.length + 2) sh := ih false p2 _ sh p1 l2 s2 a2 g7 (by omega) (by omega) (by omega) N zN
      refine ih false (p + 1) b sh p2 l1 s1 a1 g1 (by omega) (by omega) (by omega) N ?_
      have ct : (b + l1.length + 1 : Nat) < 2 ^ 31 := by omega
      by_cases c30 : tk p = 30
      · rw [if_pos c30] at g3
        refine tyN_j (mkI_13 g3 (by rw [shN_f]; omega) (by rw [shM_f]; omega) ⟨⟨by omega, ?_, rfl⟩, ?_, z2⟩)
        · rw [g5]; exact nI_pos' (by omega)
        · rw [g5, nI_clamp (by omega)]; exact zP
      · rw [if_neg c30] at g3
        refine tyN_j (mkI_14 g3 (by rw [shN_f]; omega) (by rw [shM_f]; omega) ⟨⟨by omega, ?_, rfl⟩, ?_, z2⟩)
        · rw [g5]; exact nI_pos' (by omega)
        · rw [g5, nI_clamp (by omega)]; exact zP
    · rw [cEM_kind c t30] at h
      obtain ⟨l0, s0, h1, rfl, rfl⟩ := cMark_ok h
      refine tyMark hs hL (by omega) (by omega) (fun hs hL => ?_)
      have z : tyN w par L mn N (b + mk.toNat + l0.length) (m :: sh) := by
        have e : b + (if mk then 30 :: l0 else l0).length = b + mk.toNat + l0.length := by cases mk <;> simp <;> omega
        rw [e] at z; exact z
      generalize b + mk.toNat = b at hs hL z h1
      cases m
      · by_cases t20 : tk p = 20
        · rw [cPlain_20 t20] at h1
          split at h1
          · cases h1
            obtain ⟨g1, g2⟩ := Seg_cons hs
            exact tyN_j (mkI_1 g1 (by omega) (by omega) ⟨hL, z⟩)
          · cases h1
        by_cases t21 : tk p = 21
        · rw [cPlain_21 t21] at h1
          match hq : cBare n tk 14 (p + 1), h1 with
          | .error e, h1 => cases h1
          | .ok q, h1 =>
            cases h1
            have hv := cBare_ok hq
            obtain ⟨g1, g2⟩ := Seg_cons hs
            obtain ⟨g3, _⟩ := Seg_cons g2
            exact tyN_j (mkI_2 g1 (by omega) (by omega) ⟨⟨hL, by rw [g3]; exact hv.2.2⟩, z⟩)
        by_cases t36 : tk p = 36
        · rw [cPlain_call (Or.inr t36)] at h1
          match hq : cKnown n tk par1 (p + 1), h1 with
          | .error e, h1 => cases h1
          | .ok q, h1 =>
            simp only at h1
            have hq2 := cKnown_ok ht hq
            match hc : cMany (cEM n tk par1 mk r false) (cPar par1 (tk (p + 1))).toNatClampNeg q b, h1 with
            | .error e, h1 => cases h1
            | .ok (p3, l3, s3), h1 =>
              cases h1
              obtain ⟨g1, g2⟩ := Seg_app hs
              obtain ⟨g3, g4⟩ := Seg_cons g2
              obtain ⟨g5, _⟩ := Seg_cons g4
              simp only [List.length_append, List.length_cons, List.length_nil] at hL z
              have hK : (cPar par1 (tk (p + 1))).toNatClampNeg ≤ 3 := by
                obtain ⟨j, hj, e⟩ := nI_of (Int32.not_lt.mpr hq2.2.2.1)
                have hj8 : j < 8 := by
                  have := hq2.2.2.2.1
                  rw [e] at this
                  exact (nI_ltI (b := 8) hj (by decide)).mp this
                have hpf := hq2.2.2.2.2
                unfold cPar
                rw [if_pos hq2.2.2]
                rw [e, nI_clamp hj] at hpf ⊢
                have := hsub j hj8 hpf
                rw [← this.1]
                exact (clampI (i := 3) (by decide)).mp this.2.2
              refine tyMany ih false (cPar par1 (tk (p + 1))).toNatClampNeg q b sh _ l3 _ hc g1 (by omega) (fun _ => by omega) (fun e => by cases e) N ?_
              refine tyCall hsub hq2.2.2 g3 g5 (by omega) (by omega) (by omega) ?_
              rw [show b + l3.length + 2 = b + (l3.length + (0 + 1 + 1)) by omega]; exact z
        have cr : 22 ≤ tk p ∧ tk p ≤ 29 ∨ 32 ≤ tk p ∧ tk p ≤ 35 := by
          obtain ⟨j, ja, jb, e⟩ := tk_rng (a := 20) (b := 36) (by decide) (by decide) c.1 c.2
          have n1 : j ≠ 20 := fun z => t20 (by rw [e, z]; rfl)
          have n2 : j ≠ 21 := fun z => t21 (by rw [e, z]; rfl)
          have n3 : j ≠ 30 := fun z => t30 (Or.inl (by rw [e, z]; rfl))
          have n4 : j ≠ 31 := fun z => t30 (Or.inr (by rw [e, z]; rfl))
          have n5 : j ≠ 36 := fun z => t36 (by rw [e, z]; rfl)
          rw [e]
          by_cases z : j ≤ 29
          · exact Or.inl ⟨nI_le (a := 22) (by omega) (by omega), nI_le (b := 29) z (by decide)⟩
          · exact Or.inr ⟨nI_le (a := 32) (by omega) (by omega), nI_le (b := 35) (by omega) (by decide)⟩
        rw [cPlain_P (cr.elim Or.inl (fun z => Or.inr (Or.inl z)))] at h1
        match hc : cParts (cEM n tk par1 mk r) (tkMaps (tk p)).toNatClampNeg (tkNums (tk p)).toNatClampNeg (p + 1) b, h1 with
        | .error e, h1 => cases h1
        | .ok (p3, l3, s3), h1 =>
          cases h1
          obtain ⟨g1, g2⟩ := Seg_app hs
          obtain ⟨g3, _⟩ := Seg_cons g2
          simp only [List.length_append, List.length_cons, List.length_nil] at hL z
          have hmk : (tkNums (tk p)).toNatClampNeg ≤ 2 ∧ (tkMaps (tk p)).toNatClampNeg ≤ 1 := by
            rcases cr with cr | cr
            · obtain ⟨j, ja, jb, e⟩ := tk_rng (a := 22) (b := 29) (by decide) (by decide) cr.1 cr.2
              have : j = 22 ∨ j = 23 ∨ j = 24 ∨ j = 25 ∨ j = 26 ∨ j = 27 ∨ j = 28 ∨ j = 29 := by omega
              rw [e]
              rcases this with rfl | rfl | rfl | rfl | rfl | rfl | rfl | rfl <;> decide
            · obtain ⟨j, ja, jb, e⟩ := tk_rng (a := 32) (b := 35) (by decide) (by decide) cr.1 cr.2
              have : j = 32 ∨ j = 33 ∨ j = 34 ∨ j = 35 := by omega
              rw [e]
              rcases this with rfl | rfl | rfl | rfl <;> decide
          refine tyParts ih hc g1 (by omega) (by omega) (by omega) (by omega) (Or.inr (by omega)) (tyOpE cr g3 (by omega) (by omega) (by omega) ?_)
          rw [show b + l3.length + 1 = b + (l3.length + (0 + 1)) by omega]; exact z
      · by_cases t40 : tk p = 40
        · rw [cPlain_40 t40] at h1
          match hq : cBare n tk 6 (p + 1), h1 with
          | .error e, h1 => cases h1
          | .ok q, h1 =>
            cases h1
            have hv := cBare_ok hq
            obtain ⟨g1, g2⟩ := Seg_cons hs
            obtain ⟨g3, _⟩ := Seg_cons g2
            exact tyN_j (mkI_19 g1 (by omega) (by omega) ⟨⟨hL, by rw [g3]; exact hv.2.2⟩, z⟩)
        by_cases t41 : tk p = 41
        · rw [cPlain_41 t41] at h1
          cases h1
          obtain ⟨g1, _⟩ := Seg_cons hs
          exact tyN_j (mkI_21 g1 (by omega) (by omega) ⟨hL, z⟩)
        have cr : 42 ≤ tk p ∧ tk p ≤ 44 := by
          obtain ⟨j, ja, jb, e⟩ := tk_rng (a := 40) (b := 44) (by decide) (by decide) c.1 c.2
          have n1 : j ≠ 40 := fun z => t40 (by rw [e, z]; rfl)
          have n2 : j ≠ 41 := fun z => t41 (by rw [e, z]; rfl)
          rw [e]
          exact ⟨nI_le (a := 42) (by omega) (by omega), nI_le (b := 44) jb (by decide)⟩
        rw [cPlain_P (Or.inr (Or.inr cr))] at h1
        match hc : cParts (cEM n tk par1 mk r) (tkMaps (tk p)).toNatClampNeg (tkNums (tk p)).toNatClampNeg (p + 1) b, h1 with
        | .error e, h1 => cases h1
        | .ok (p3, l3, s3), h1 =>
          cases h1
          obtain ⟨g1, g2⟩ := Seg_app hs
          obtain ⟨g3, _⟩ := Seg_cons g2
          simp only [List.length_append, List.length_cons, List.length_nil] at hL z
          have hmk : (tkNums (tk p)).toNatClampNeg ≤ 2 ∧ (tkMaps (tk p)).toNatClampNeg ≤ 2 ∧ ((tkNums (tk p)).toNatClampNeg = 0 ∨ (tkMaps (tk p)).toNatClampNeg ≤ 1) := by
            obtain ⟨j, ja, jb, e⟩ := tk_rng (a := 42) (b := 44) (by decide) (by decide) cr.1 cr.2
            have : j = 42 ∨ j = 43 ∨ j = 44 := by omega
            rw [e]
            rcases this with rfl | rfl | rfl <;> decide
          refine tyParts ih hc g1 (by omega) (by omega) (by omega) (by omega) (hmk.2.2.elim Or.inl (fun _ => Or.inr (by omega))) (tyOpM cr g3 (by omega) (by omega) (by omega) ?_)
          rw [show b + l3.length + 1 = b + (l3.length + (0 + 1)) by omega]; exact z
  · rw [cEM, if_neg c] at h
    cases h
set_option maxHeartbeats 400000 in
theorem tyEM_all (ht : ∀ p, n ≤ p → tk p = -1) (hsub : ∀ f, f < 8 → par1 f ≠ -1 → par f = par1 f ∧ 0 ≤ par f ∧ par f ≤ 3) (hL31 : L < 2 ^ 31) : ∀ r, r ≤ 16 → tyEM w par L mn n tk par1 mk r := by
  intro r
  induction r with
  | zero => exact fun _ => tyEM_0
  | succ r ih => exact fun h => tyEM_s (by omega) ht hsub hL31 (ih (by omega))
end TY

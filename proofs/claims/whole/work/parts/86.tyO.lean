/-! THE CODE IS TYPED: operations -/
section TY
variable {w par par1 : Nat → Int32} {L : Nat} {mn : Bool} {n : Nat} {tk : Nat → Int32} {mk : Bool}
set_option maxHeartbeats 200000 in
theorem tyOpE {pc N : Nat} {sh : shT} {t : Int32} (ht : 22 ≤ t ∧ t ≤ 29 ∨ 32 ≤ t ∧ t ≤ 35) (e : w pc = tkWord t) (hL : pc + 1 ≤ L) (b1 : shN sh ≤ 30) (b2 : shM sh ≤ 15) (z : tyN w par L mn N (pc + 1) (false :: sh)) : tyN w par L mn N pc (List.replicate (tkNums t).toNatClampNeg false ++ (List.replicate (tkMaps t).toNatClampNeg true ++ sh)) := by
  refine tyN_j ?_
  rcases ht with ht | ht
  · by_cases h29 : t = 29
    · subst h29
      rw [show tkNums 29 = 1 by decide, show tkMaps 29 = 0 by decide, show (1 : Int32).toNatClampNeg = 1 by decide, show (0 : Int32).toNatClampNeg = 0 by decide]
      show okI w par L mn _ pc (false :: sh)
      exact mkI_11 e (by rw [shN_f]; omega) (by rw [shM_f]; omega) ⟨⟨hL, rfl⟩, z⟩
    · have h28 : t ≤ 28 := by
        obtain ⟨j, a, b, rfl⟩ := tk_rng (a := 22) (b := 29) (by decide) (by decide) ht.1 ht.2
        have : j ≠ 29 := fun z => h29 (by rw [z]; rfl)
        exact nI_le (b := 28) (by omega) (by decide)
      have ta := tkA_22 ht.1 h28
      rw [ta.2.1, ta.2.2.1, show (2 : Int32).toNatClampNeg = 2 by decide, show (0 : Int32).toNatClampNeg = 0 by decide]
      show okI w par L mn _ pc (false :: false :: sh)
      have hw : 4 ≤ w pc ∧ w pc ≤ 10 := by
        rw [e]
        obtain ⟨j, a, b, rfl⟩ := tk_rng (a := 22) (b := 28) (by decide) (by decide) ht.1 h28
        have : j = 22 ∨ j = 23 ∨ j = 24 ∨ j = 25 ∨ j = 26 ∨ j = 27 ∨ j = 28 := by omega
        rcases this with rfl | rfl | rfl | rfl | rfl | rfl | rfl <;> decide
      exact mkI_4 hw (by rw [shN_f, shN_f]; omega) (by rw [shM_f, shM_f]; omega) ⟨⟨hL, rfl⟩, z⟩
  · obtain ⟨j, a, b, rfl⟩ := tk_rng (a := 32) (b := 35) (by decide) (by decide) ht.1 ht.2
    have : j = 32 ∨ j = 33 ∨ j = 34 ∨ j = 35 := by omega
    have c0 : (0 : Int32).toNatClampNeg = 0 := by decide
    have c1 : (1 : Int32).toNatClampNeg = 1 := by decide
    have c2 : (2 : Int32).toNatClampNeg = 2 := by decide
    rcases this with rfl | rfl | rfl | rfl
    · rw [show tkNums (nI 32) = 1 by decide, show tkMaps (nI 32) = 1 by decide, c1]
      show okI w par L mn _ pc (false :: true :: sh)
      exact mkI_25 e (by rw [shN_f, shN_t]; omega) (by rw [shM_f, shM_t]; omega) ⟨⟨hL, rfl⟩, z⟩
    · rw [show tkNums (nI 33) = 1 by decide, show tkMaps (nI 33) = 1 by decide, c1]
      show okI w par L mn _ pc (false :: true :: sh)
      exact mkI_26 e (by rw [shN_f, shN_t]; omega) (by rw [shM_f, shM_t]; omega) ⟨⟨hL, rfl⟩, z⟩
    · rw [show tkNums (nI 34) = 0 by decide, show tkMaps (nI 34) = 1 by decide, c0, c1]
      show okI w par L mn _ pc (true :: sh)
      exact mkI_27 e (by rw [shN_t]; omega) (by rw [shM_t]; omega) ⟨⟨hL, rfl⟩, z⟩
    · rw [show tkNums (nI 35) = 2 by decide, show tkMaps (nI 35) = 1 by decide, c2, c1]
      show okI w par L mn _ pc (false :: false :: true :: sh)
      exact mkI_28 e (by rw [shN_f, shN_f, shN_t]; omega) (by rw [shM_f, shM_f, shM_t]; omega) ⟨⟨hL, rfl⟩, z⟩
set_option maxHeartbeats 200000 in
theorem tyOpM {pc N : Nat} {sh : shT} {t : Int32} (ht : 42 ≤ t ∧ t ≤ 44) (e : w pc = tkWord t) (hL : pc + 1 ≤ L) (b1 : shN sh ≤ 30) (b2 : shM sh ≤ 15) (z : tyN w par L mn N (pc + 1) (true :: sh)) : tyN w par L mn N pc (List.replicate (tkNums t).toNatClampNeg false ++ (List.replicate (tkMaps t).toNatClampNeg true ++ sh)) := by
  refine tyN_j ?_
  obtain ⟨j, a, b, rfl⟩ := tk_rng (a := 42) (b := 44) (by decide) (by decide) ht.1 ht.2
  have : j = 42 ∨ j = 43 ∨ j = 44 := by omega
  have c0 : (0 : Int32).toNatClampNeg = 0 := by decide
  have c1 : (1 : Int32).toNatClampNeg = 1 := by decide
  have c2 : (2 : Int32).toNatClampNeg = 2 := by decide
  rcases this with rfl | rfl | rfl
  · rw [show tkNums (nI 42) = 2 by decide, show tkMaps (nI 42) = 1 by decide, c2, c1]
    show okI w par L mn _ pc (false :: false :: true :: sh)
    exact mkI_22 e (by rw [shN_f, shN_f, shN_t]; omega) (by rw [shM_f, shM_f, shM_t]; omega) ⟨⟨hL, rfl⟩, z⟩
  · rw [show tkNums (nI 43) = 1 by decide, show tkMaps (nI 43) = 1 by decide, c1]
    show okI w par L mn _ pc (false :: true :: sh)
    exact mkI_23 e (by rw [shN_f, shN_t]; omega) (by rw [shM_f, shM_t]; omega) ⟨⟨hL, rfl⟩, z⟩
  · rw [show tkNums (nI 44) = 0 by decide, show tkMaps (nI 44) = 2 by decide, c0, c2]
    show okI w par L mn _ pc (true :: true :: sh)
    exact mkI_24 e (by rw [shN_t, shN_t]; omega) (by rw [shM_t, shM_t]; omega) ⟨⟨hL, rfl⟩, z⟩
set_option maxHeartbeats 200000 in
theorem tyCall {pc N : Nat} {sh : shT} {f : Int32} (hsub : ∀ f, f < 8 → par1 f ≠ -1 → par f = par1 f ∧ 0 ≤ par f ∧ par f ≤ 3) (hf : cHasF par1 f) (e : w pc = 16) (e1 : w (pc + 1) = f) (hL : pc + 2 ≤ L) (b1 : shN sh ≤ 30) (b2 : shM sh ≤ 15) (z : tyN w par L mn N (pc + 2) (false :: sh)) : tyN w par L mn N pc (List.replicate (cPar par1 f).toNatClampNeg false ++ sh) := by
  obtain ⟨j, hj, rfl⟩ := nI_of (Int32.not_lt.mpr hf.1)
  have hj8 : j < 8 := (nI_ltI (b := 8) hj (by decide)).mp hf.2.1
  have hpf := hf.2.2
  rw [nI_clamp hj] at hpf
  obtain ⟨s1, s2, s3⟩ := hsub j hj8 hpf
  have ec : cPar par1 (nI j) = par j := by
    unfold cPar
    rw [if_pos hf, nI_clamp hj, s1]
  have hk : (par j).toNatClampNeg ≤ 3 := (clampI (i := 3) (by decide)).mp s3
  have et : (w (pc + 1)).toNatClampNeg = j := by rw [e1, nI_clamp hj]
  rw [ec]
  have dr : ∀ k, (List.replicate k false ++ sh).drop k = sh := fun k => by
    have := List.drop_left (l₁ := List.replicate k false) (l₂ := sh)
    rw [List.length_replicate] at this
    exact this
  refine tyN_j (mkI_16 e ?_ ?_ ⟨⟨hL, ?_, ?_, ?_, ?_⟩, ?_⟩)
  · have : shN (List.replicate (par j).toNatClampNeg false ++ sh) = (par j).toNatClampNeg + shN sh := by simp [shN, List.count_append, List.count_replicate]
    omega
  · have : shM (List.replicate (par j).toNatClampNeg false ++ sh) = shM sh := by simp [shM, List.count_append, List.count_replicate]
    omega
  · rw [e1]; exact ⟨hf.1, hf.2.1, by rw [nI_clamp hj, s1]; exact hpf⟩
  · rw [et]; exact s2
  · rw [et]; exact s3
  · rw [et, dr]
  · rw [et, dr]; exact z
end TY

/-! THE CODE IS TYPED: statements -/
section TY
variable {w par par1 : Nat → Int32} {L : Nat} {mn : Bool} {n : Nat} {tk : Nat → Int32} {mk : Bool}
def tyStm (w par : Nat → Int32) (L : Nat) (mn : Bool) (n : Nat) (tk par1 : Nat → Int32) (mk : Bool) (r : Nat) : Prop :=
  ∀ p b sh p1 l s, cIsS (tk p) → cStm n tk par1 mk mn r p b = .ok (p1, l, s) → Seg w b l → b + l.length ≤ L → shN sh = 0 → shM sh ≤ 16 - r → ∀ N, tyN w par L mn N (b + l.length) sh → tyN w par L mn N b sh
set_option maxHeartbeats 400000 in
theorem tyBlk {r : Nat} (ht : ∀ p, n ≤ p → tk p = -1) (hS : tyStm w par L mn n tk par1 mk r) : ∀ k p b sh p1 l s, cLoop tk (cStm n tk par1 mk mn r) k p b = .ok (p1, l, s) → Seg w b l → b + l.length ≤ L → shN sh = 0 → shM sh ≤ 16 - r → ∀ N, tyN w par L mn N (b + l.length) sh → tyN w par L mn N b sh := by
  intro k
  induction k with
  | zero =>
    intro p b sh p1 l s h _ _ _ _ N z
    simp only [cLoop, Except.ok.injEq, Prod.mk.injEq] at h
    obtain ⟨_, rfl, _⟩ := h
    exact z
  | succ k ih =>
    intro p b sh p1 l s h hs hL b1 b2 N z
    unfold cLoop at h
    split at h
    · rename_i c
      obtain ⟨p2, l1, s1, l2, s2, a1, a2, rfl, rfl⟩ := cThen_ok h
      obtain ⟨g1, g2⟩ := Seg_app hs
      rw [List.length_append] at hL z
      refine hS p b sh p2 l1 s1 c a1 g1 (by omega) b1 b2 N ?_
      refine ih p2 (b + l1.length) sh p1 l2 s2 a2 g2 (by omega) b1 b2 N ?_
      rw [Nat.add_assoc]; exact z
    · simp only [Except.ok.injEq, Prod.mk.injEq] at h
      obtain ⟨_, rfl, _⟩ := h
      exact z
set_option maxHeartbeats 400000 in
theorem tyGo {pc t N : Nat} {sh : shT} (e : w pc = 12) (e1 : w (pc + 1) = nI t) (ht : t < 2 ^ 31) (hL : pc + 2 ≤ L) (b1 : shN sh ≤ 33) (b2 : shM sh ≤ 17) (z : tyN w par L mn N t sh) : tyN w par L mn N pc sh :=
  tyN_j (mkI_12 e b1 b2 ⟨⟨hL, by rw [e1]; exact nI_pos' ht⟩, by rw [e1, nI_clamp ht]; exact z⟩)
set_option maxHeartbeats 400000 in
theorem tyGoz {pc t N : Nat} {sh : shT} (e : w pc = 13) (e1 : w (pc + 1) = nI t) (ht : t < 2 ^ 31) (hL : pc + 2 ≤ L) (b1 : shN sh ≤ 32) (b2 : shM sh ≤ 17) (z : tyN w par L mn N t sh) (z2 : tyN w par L mn N (pc + 2) sh) : tyN w par L mn (N + 1) pc (false :: sh) :=
  tyN_i (mkI_13 e (by rw [shN_f]; omega) (by rw [shM_f]; omega) ⟨⟨hL, by rw [e1]; exact nI_pos' ht, rfl⟩, by rw [e1, nI_clamp ht]; exact z, z2⟩)
set_option maxHeartbeats 400000 in
theorem tyIf {r : Nat} (hL31 : L < 2 ^ 31) (hr : r < 16) (ht : ∀ p, n ≤ p → tk p = -1) (hE : tyEM w par L mn n tk par1 mk r) (hS : tyStm w par L mn n tk par1 mk r) {p b p1 : Nat} {sh : shT} {l s} (h : cIf tk (cEM n tk par1 mk r) (cLoop tk (cStm n tk par1 mk mn r) 700) p b = .ok (p1, l, s)) (hs : Seg w b l) (hL : b + l.length ≤ L) (b1 : shN sh = 0) (b2 : shM sh ≤ 16 - r) {N : Nat} (z : tyN w par L mn N (b + l.length) sh) : tyN w par L mn N b sh := by
  obtain ⟨p2, l1, s1, p3, l2, s2, h1, h2, h3⟩ := cIf_ok h
  rcases h3 with ⟨h4, p4, l3, s3, h5, h0, rfl, rfl, rfl⟩ | ⟨h0, rfl, rfl, rfl⟩
  · obtain ⟨g1, g2⟩ := Seg_app hs
    obtain ⟨g3, g4⟩ := Seg_cons g2
    obtain ⟨g5, g6⟩ := Seg_cons g4
    obtain ⟨g7, g8⟩ := Seg_app g6
    obtain ⟨k1, k2⟩ := Seg_cons g8
    obtain ⟨k3, k4⟩ := Seg_cons k2
    simp only [List.length_append, List.length_cons] at hL z
    rw [show b + l1.length + 1 + 1 = b + l1.length + 2 from rfl] at g7 k1 k3 k4
    rw [show b + l1.length + 2 + l2.length + 1 + 1 = b + l1.length + 2 + l2.length + 2 from rfl] at k4
    have z : tyN w par L mn N (b + l1.length + 2 + l2.length + 2 + l3.length) sh := by
      rw [show b + l1.length + 2 + l2.length + 2 + l3.length = b + (l1.length + (l2.length + (l3.length + 1 + 1) + 1 + 1)) by omega]; exact z
    have z3 := tyBlk ht hS 700 (p3 + 1) _ sh p4 l3 s3 h5 k4 (by omega) b1 b2 N z
    have z2 := tyBlk ht hS 700 p2 _ sh p3 l2 s2 h2 g7 (by omega) b1 b2 N (tyGo k1 k3 (by omega) (by omega) (by omega) (by omega) z)
    exact hE false (p + 1) b sh p2 l1 s1 h1 g1 (by omega) (by omega) (by omega) N (tyN_le (Nat.le_succ N) (tyGoz g3 g5 (by omega) (by omega) (by omega) (by omega) z3 z2))
  · obtain ⟨g1, g2⟩ := Seg_app hs
    obtain ⟨g3, g4⟩ := Seg_cons g2
    obtain ⟨g5, g6⟩ := Seg_cons g4
    simp only [List.length_append, List.length_cons] at hL z
    rw [show b + l1.length + 1 + 1 = b + l1.length + 2 from rfl] at g6
    have z : tyN w par L mn N (b + l1.length + 2 + l2.length) sh := by
      rw [show b + l1.length + 2 + l2.length = b + (l1.length + (l2.length + 1 + 1)) by omega]; exact z
    have z2 := tyBlk ht hS 700 p2 _ sh p3 l2 s2 h2 g6 (by omega) b1 b2 N z
    exact hE false (p + 1) b sh p2 l1 s1 h1 g1 (by omega) (by omega) (by omega) N (tyN_le (Nat.le_succ N) (tyGoz g3 g5 (by omega) (by omega) (by omega) (by omega) z z2))
set_option maxHeartbeats 400000 in
theorem tyWhile {r : Nat} (hL31 : L < 2 ^ 31) (hr : r < 16) (ht : ∀ p, n ≤ p → tk p = -1) (hE : tyEM w par L mn n tk par1 mk r) (hS : tyStm w par L mn n tk par1 mk r) {p b p1 : Nat} {sh : shT} {l s} (h : cWhile tk (cEM n tk par1 mk r) (cLoop tk (cStm n tk par1 mk mn r) 700) p b = .ok (p1, l, s)) (hs : Seg w b l) (hL : b + l.length ≤ L) (b1 : shN sh = 0) (b2 : shM sh ≤ 16 - r) : ∀ {N : Nat}, tyN w par L mn N (b + l.length) sh → tyN w par L mn N b sh := by
  obtain ⟨p2, l1, s1, p3, l2, s2, h1, h2, h0, rfl, rfl, rfl⟩ := cWhile_ok h
  obtain ⟨g1, g2⟩ := Seg_app hs
  obtain ⟨g3, g4⟩ := Seg_cons g2
  obtain ⟨g5, g6⟩ := Seg_cons g4
  obtain ⟨g7, g8⟩ := Seg_app g6
  obtain ⟨k1, k2⟩ := Seg_cons g8
  obtain ⟨k3, _⟩ := Seg_cons k2
  simp only [List.length_append, List.length_cons, List.length_nil] at hL
  rw [show b + l1.length + 1 + 1 = b + l1.length + 2 from rfl] at g7 k1 k3
  intro N
  induction N with
  | zero =>
    intro _ m hm
    have : m = 0 := by omega
    subst this
    trivial
  | succ N ih =>
    intro z
    have z0 : tyN w par L mn (N + 1) (b + l1.length + 2 + l2.length + 2) sh := by
      rw [show b + l1.length + 2 + l2.length + 2 = b + (l1 ++ 13 :: nI (b + l1.length + 2 + l2.length + 2) :: (l2 ++ [12, nI b])).length by simp; omega]; exact z
    have zb := ih (tyN_le (Nat.le_succ N) z)
    have z2 := tyBlk ht hS 700 p2 _ sh p3 l2 s2 h2 g7 (by omega) b1 b2 N (tyGo k1 k3 (by omega) (by omega) (by omega) (by omega) zb)
    exact hE false (p + 1) b sh p2 l1 s1 h1 g1 (by omega) (by omega) (by omega) (N + 1) (tyGoz g3 g5 (by omega) (by omega) (by omega) (by omega) (tyN_le (Nat.le_succ N) z0) z2)
set_option maxHeartbeats 400000 in
theorem tyEach {r : Nat} (hL31 : L < 2 ^ 31) (hr : r < 16) (ht : ∀ p, n ≤ p → tk p = -1) (hS : tyStm w par L mn n tk par1 mk r) {p b p1 : Nat} {sh : shT} {l s} (h : cEach n tk (cLoop tk (cStm n tk par1 mk mn r) 700) p b = .ok (p1, l, s)) (hs : Seg w b l) (hL : b + l.length ≤ L) (b1 : shN sh = 0) (b2 : shM sh ≤ 15 - r) : ∀ {N : Nat}, tyN w par L mn N (b + l.length) sh → tyN w par L mn N b sh := by
  obtain ⟨p2, l2, h1, h2, h3, h4, h0, rfl, rfl⟩ := cEach_ok h
  have v1 := (cBare_ok h1).2.2
  have v2 := (cBare_ok h2).2.2
  have v3 := (cBare_ok h3).2.2
  obtain ⟨g1, g2⟩ := Seg_cons hs
  obtain ⟨g3, g4⟩ := Seg_cons g2
  obtain ⟨g5, g6⟩ := Seg_cons g4
  obtain ⟨g7, g8⟩ := Seg_cons g6
  obtain ⟨g9, g10⟩ := Seg_cons g8
  obtain ⟨g11, g12⟩ := Seg_cons g10
  obtain ⟨g13, g14⟩ := Seg_app g12
  obtain ⟨k1, k2⟩ := Seg_cons g14
  obtain ⟨k3, _⟩ := Seg_cons k2
  simp only [List.length_append, List.length_cons, List.length_nil] at hL
  rw [show b + 1 + 1 + 1 + 1 + 1 + 1 = b + 6 from rfl] at g13 k1 k3
  have loop : ∀ {N : Nat}, tyN w par L mn N (b + 6 + l2.length + 2) sh → tyN w par L mn N (b + 2) (true :: sh) := by
    intro N
    induction N with
    | zero =>
      intro _ m hm
      have : m = 0 := by omega
      subst this
      trivial
    | succ N ih =>
      intro z
      have zb := ih (tyN_le (Nat.le_succ N) z)
      have z2 := tyBlk ht hS 700 (p + 4) _ (true :: sh) p2 l2 s h4 g13 (by omega) (by rw [shN_t]; exact b1) (by rw [shM_t]; omega) N (tyGo k1 k3 (by omega) (by omega) (by rw [shN_t]; omega) (by rw [shM_t]; omega) zb)
      refine tyN_i (mkI_29 g5 (by rw [shN_t]; omega) (by rw [shM_t]; omega) ⟨⟨by omega, ?_, ?_, ?_, ?_, ?_, rfl⟩, ?_, z2⟩)
      · rw [show w (b + 2 + 1) = tk (p + 2) from g7]; exact v2.1
      · rw [show w (b + 2 + 1) = tk (p + 2) from g7]; exact v2.2
      · rw [show w (b + 2 + 2) = tk (p + 3) from g9]; exact v3.1
      · rw [show w (b + 2 + 2) = tk (p + 3) from g9]; exact v3.2
      · rw [show w (b + 2 + 3) = nI (b + 6 + l2.length + 2) from g11]; exact nI_pos' (by omega)
      · rw [show w (b + 2 + 3) = nI (b + 6 + l2.length + 2) from g11, nI_clamp (by omega)]; exact tyN_le (Nat.le_succ N) z
  intro N z
  refine tyN_j (mkI_19 g1 (by omega) (by omega) ⟨⟨by omega, by rw [g3]; exact v1⟩, loop ?_⟩)
  rw [show b + 6 + l2.length + 2 = b + (19 :: tk (p + 1) :: 29 :: tk (p + 2) :: tk (p + 3) :: nI (b + 6 + l2.length + 2) :: (l2 ++ [12, nI (b + 2)])).length by simp; omega]
  exact z
set_option maxHeartbeats 400000 in
theorem tyStm_0 : tyStm w par L mn n tk par1 mk 0 := by
  intro p b sh p1 l s _ h
  unfold cStm at h
  cases h
set_option maxHeartbeats 400000 in
theorem tyStm_s {r : Nat} (hr : r < 16) (ht : ∀ p, n ≤ p → tk p = -1) (hsub : ∀ f, f < 8 → par1 f ≠ -1 → par f = par1 f ∧ 0 ≤ par f ∧ par f ≤ 3) (hL31 : L < 2 ^ 31) (hE : tyEM w par L mn n tk par1 mk r) (hS : tyStm w par L mn n tk par1 mk r) : tyStm w par L mn n tk par1 mk (r + 1) := by
  intro p b sh p1 l s hcs h hs hL b1 b2 N z
  rw [cStm] at h
  obtain ⟨l0, s0, h1, rfl, rfl⟩ := cMark_ok h
  refine tyMark hs hL (by omega) (by omega) (fun hs hL => ?_)
  have z : tyN w par L mn N (b + mk.toNat + l0.length) sh := by
    have e : b + (if mk then 30 :: l0 else l0).length = b + mk.toNat + l0.length := by cases mk <;> simp <;> omega
    rw [e] at z; exact z
  generalize b + mk.toNat = b at hs hL z h1
  split at h1
  · exact tyIf hL31 hr ht hE hS h1 hs hL b1 (by omega) z
  split at h1
  · exact tyWhile hL31 hr ht hE hS h1 hs hL b1 (by omega) z
  split at h1
  · exact tyEach hL31 hr ht hS h1 hs hL b1 (by omega) z
  split at h1
  · obtain ⟨l1, h2, rfl⟩ := cAnswer_ok h1
    obtain ⟨g1, g2⟩ := Seg_app hs
    rw [List.length_append] at hL z
    refine hE false (p + 1) b sh p1 l1 s0 h2 g1 (by omega) (by omega) (by omega) N ?_
    cases mn
    · obtain ⟨g3, _⟩ := Seg_cons g2
      have hL : b + (l1.length + 1) ≤ L := hL
      exact tyN_j (mkI_17 g3 (by rw [shN_f]; omega) (by rw [shM_f]; omega) ⟨by omega, rfl, rfl⟩)
    · obtain ⟨g3, g4⟩ := Seg_cons g2
      obtain ⟨g5, _⟩ := Seg_cons g4
      have hL : b + (l1.length + 2) ≤ L := hL
      exact tyN_j (mkI_18 g3 (by rw [shN_f]; omega) (by rw [shM_f]; omega) ⟨⟨by omega, rfl⟩, tyN_j (mkI_0 g5 (by show shN sh ≤ 33; omega) (by show shM sh ≤ 17; omega) (by omega))⟩)
  split at h1
  · rename_i t8
    obtain ⟨l1, h2, rfl⟩ := cCallS_ok h1
    rw [cPlain_call (Or.inl t8)] at h2
    match hq : cKnown n tk par1 (p + 1), h2 with
    | .error e, h2 => cases h2
    | .ok q, h2 =>
      simp only at h2
      have hq2 := cKnown_ok ht hq
      match hc : cMany (cEM n tk par1 mk r false) (cPar par1 (tk (p + 1))).toNatClampNeg q b, h2 with
      | .error e, h2 => cases h2
      | .ok (p3, l3, s3), h2 =>
        cases h2
        obtain ⟨ga, gb⟩ := Seg_app hs
        obtain ⟨g1, g2⟩ := Seg_app ga
        obtain ⟨g3, g4⟩ := Seg_cons g2
        obtain ⟨g5, _⟩ := Seg_cons g4
        obtain ⟨g7, _⟩ := Seg_cons gb
        simp only [List.length_append, List.length_cons, List.length_nil] at hL z g7
        have hK : (cPar par1 (tk (p + 1))).toNatClampNeg ≤ 3 := by
          obtain ⟨j, hj, e⟩ := nI_of (Int32.not_lt.mpr hq2.2.2.1)
          have hj8 : j < 8 := by
            have := hq2.2.2.2.1
            rw [e] at this
            exact (nI_ltI (b := 8) hj (by decide)).mp this
          have hpf := hq2.2.2.2.2
          unfold cPar
          rw [if_pos hq2.2.2]
          rw [e, nI_clamp hj] at hpf ⊢
          have := hsub j hj8 hpf
          rw [← this.1]
          exact (clampI (i := 3) (by decide)).mp this.2.2
        refine tyMany hE false (cPar par1 (tk (p + 1))).toNatClampNeg q b sh _ l3 _ hc g1 (by omega) (fun _ => by omega) (fun e => by cases e) N ?_
        refine tyCall hsub hq2.2.2 g3 g5 (by omega) (by omega) (by omega) ?_
        refine tyN_j (mkI_18 ?_ (by rw [shN_f]; omega) (by rw [shM_f]; omega) ⟨⟨by omega, rfl⟩, ?_⟩)
        · rw [show b + l3.length + 2 = b + (l3.length + (0 + 1 + 1)) by omega]; exact g7
        · show tyN w par L mn N (b + l3.length + 2 + 1) sh
          rw [show b + l3.length + 2 + 1 = b + (l3.length + (0 + 1 + 1) + (0 + 1)) by omega]; exact z
  rename_i t3 t5 t6 t9 t8
  by_cases t7 : tk p = 7
  · rw [cPlain_7 t7] at h1
    match hc : cEM n tk par1 mk r false (p + 1) b, h1 with
    | .error e, h1 => cases h1
    | .ok (p3, l3, s3), h1 =>
      cases h1
      obtain ⟨g1, g2⟩ := Seg_app hs
      obtain ⟨g3, _⟩ := Seg_cons g2
      simp only [List.length_append, List.length_cons, List.length_nil] at hL z
      refine hE false (p + 1) b sh _ l3 _ hc g1 (by omega) (by omega) (by omega) N ?_
      refine tyN_j (mkI_15 g3 (by rw [shN_f]; omega) (by rw [shM_f]; omega) ⟨⟨by omega, rfl⟩, ?_⟩)
      show tyN w par L mn N (b + l3.length + 1) sh
      rw [show b + l3.length + 1 = b + (l3.length + (0 + 1)) by omega]; exact z
  by_cases t1 : tk p = 1
  · rw [cPlain_1 t1] at h1
    match hq : cBare n tk 14 (p + 1), h1 with
    | .error e, h1 => cases h1
    | .ok q, h1 =>
      simp only at h1
      have hv := (cBare_ok hq).2.2
      match hc : cEM n tk par1 mk r false q b, h1 with
      | .error e, h1 => cases h1
      | .ok (p3, l3, s3), h1 =>
        cases h1
        obtain ⟨g1, g2⟩ := Seg_app hs
        obtain ⟨g3, g4⟩ := Seg_cons g2
        obtain ⟨g5, _⟩ := Seg_cons g4
        simp only [List.length_append, List.length_cons, List.length_nil] at hL z
        refine hE false q b sh _ l3 _ hc g1 (by omega) (by omega) (by omega) N ?_
        refine tyN_j (mkI_3 g3 (by rw [shN_f]; omega) (by rw [shM_f]; omega) ⟨⟨by omega, by rw [g5]; exact hv.1, by rw [g5]; exact hv.2, rfl⟩, ?_⟩)
        show tyN w par L mn N (b + l3.length + 2) sh
        rw [show b + l3.length + 2 = b + (l3.length + (0 + 1 + 1)) by omega]; exact z
  by_cases t2 : tk p = 2
  · rw [cPlain_2 t2] at h1
    match hq : cBare n tk 6 (p + 1), h1 with
    | .error e, h1 => cases h1
    | .ok q, h1 =>
      simp only at h1
      have hv := (cBare_ok hq).2.2
      match hc : cEM n tk par1 mk r true q b, h1 with
      | .error e, h1 => cases h1
      | .ok (p3, l3, s3), h1 =>
        cases h1
        obtain ⟨g1, g2⟩ := Seg_app hs
        obtain ⟨g3, g4⟩ := Seg_cons g2
        obtain ⟨g5, _⟩ := Seg_cons g4
        simp only [List.length_append, List.length_cons, List.length_nil] at hL z
        refine hE true q b sh _ l3 _ hc g1 (by omega) (by omega) (by omega) N ?_
        refine tyN_j (mkI_20 g3 (by rw [shN_t]; omega) (by rw [shM_t]; omega) ⟨⟨by omega, by rw [g5]; exact hv.1, by rw [g5]; exact hv.2, rfl⟩, ?_⟩)
        show tyN w par L mn N (b + l3.length + 2) sh
        rw [show b + l3.length + 2 = b + (l3.length + (0 + 1 + 1)) by omega]; exact z
  obtain ⟨j, ja, jb, e⟩ := tk_rng (a := 1) (b := 9) (by decide) (by decide) hcs.1 hcs.2.1
  have t4 := hcs.2.2
  have : j = 1 ∨ j = 2 ∨ j = 3 ∨ j = 4 ∨ j = 5 ∨ j = 6 ∨ j = 7 ∨ j = 8 ∨ j = 9 := by omega
  rcases this with rfl | rfl | rfl | rfl | rfl | rfl | rfl | rfl | rfl
  · exact absurd e t1
  · exact absurd e t2
  · exact absurd e t3
  · exact absurd e t4
  · exact absurd e t5
  · exact absurd e t6
  · exact absurd e t7
  · exact absurd e t8
  · exact absurd e t9
set_option maxHeartbeats 400000 in
theorem tyStm_all (ht : ∀ p, n ≤ p → tk p = -1) (hsub : ∀ f, f < 8 → par1 f ≠ -1 → par f = par1 f ∧ 0 ≤ par f ∧ par f ≤ 3) (hL31 : L < 2 ^ 31) : ∀ r, r ≤ 16 → tyStm w par L mn n tk par1 mk r := by
  intro r
  induction r with
  | zero => exact fun _ => tyStm_0
  | succ r ih => exact fun h => tyStm_s (by omega) ht hsub hL31 (tyEM_all ht hsub hL31 r (by omega)) (ih (by omega))
end TY

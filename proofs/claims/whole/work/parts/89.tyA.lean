/-! THE CODE IS TYPED: functions, the whole -/
set_option maxHeartbeats 400000 in
theorem cRest_ok {k n : Nat} {tk : Nat → Int32} {mk : Bool} {par : Nat → Int32} {p b f : Nat} {a : cRes} {p2 l s par2 fs} (h : cRest k n tk mk par p b f a = .ok (p2, l, s, par2, fs)) : ∃ p1 l1 s1 l2 s2 f2, a = .ok (p1, l1, s1) ∧ cFuns n tk mk k par p1 (b + l1.length) = .ok (p2, l2, s2, par2, f2) ∧ l = l1 ++ l2 ∧ s = s1 ++ s2 ∧ fs = (f, b, p) :: f2 := by
  unfold cRest at h
  match a, h with
  | .error e, h => cases h
  | .ok (p1, l1, s1), h =>
    simp only at h
    match hc : cFuns n tk mk k par p1 (b + l1.length), h with
    | .error e, h => cases h
    | .ok (p3, l3, s3, par3, f3), h =>
      simp only [cPreF, Except.ok.injEq, Prod.mk.injEq] at h
      obtain ⟨rfl, rfl, rfl, rfl, rfl⟩ := h
      exact ⟨p1, l1, s1, l3, s3, f3, rfl, hc, rfl, rfl, rfl⟩
set_option maxHeartbeats 400000 in
theorem cFuns_facts {n : Nat} {tk : Nat → Int32} {mk : Bool} (ht : ∀ p, n ≤ p → tk p = -1) : ∀ k par p b p2 l s par2 fs, p ≤ n → cFuns n tk mk k par p b = .ok (p2, l, s, par2, fs) → (∀ f, f < 8 → par f ≠ -1 → 0 ≤ par f ∧ par f ≤ 3) → (∀ f, par f ≠ -1 → par2 f = par f) ∧ (∀ f, f < 8 → par2 f ≠ -1 → 0 ≤ par2 f ∧ par2 f ≤ 3) ∧ (∀ f, f < 8 → par2 f ≠ -1 → par f ≠ -1 ∨ ∃ w t, (f, w, t) ∈ fs) ∧ p ≤ p2 ∧ p2 ≤ n ∧ l.length + (8 + mk.toNat) * p ≤ (8 + mk.toNat) * p2 := by
  intro k
  induction k with
  | zero =>
    intro par p b p2 l s par2 fs hp h hr
    simp only [cFuns, Except.ok.injEq, Prod.mk.injEq] at h
    obtain ⟨rfl, rfl, rfl, rfl, rfl⟩ := h
    exact ⟨fun _ _ => rfl, hr, fun f _ z => Or.inl z, Nat.le_refl _, hp, by simp⟩
  | succ k ih =>
    intro par p b p2 l s par2 fs hp h hr
    by_cases t : tk p = 10
    · rw [cFuns_s t] at h
      obtain ⟨p1, l1, s1, l2, s2, f2, a1, a2, rfl, rfl, rfl⟩ := cRest_ok h
      have q := cFun1_ok ht a1
      obtain ⟨j, hj, e⟩ := nI_of (Int32.not_lt.mpr q.2.2.2.2.1)
      have hj8 : j < 8 := by
        have := q.2.2.2.2.2.1
        rw [e] at this
        exact (nI_ltI (b := 8) hj (by decide)).mp this
      have ej : (tk (p + 1)).toNatClampNeg = j := by rw [e, nI_clamp hj]
      rw [ej] at a2
      have hx : 0 ≤ tk (p + 2) ∧ tk (p + 2) ≤ 3 := by
        unfold cFun1 at a1
        rw [if_neg q.2.2.2.1] at a1
        match h1 : cBare n tk 8 (p + 1), a1 with
        | .error e1, a1 => cases a1
        | .ok _, a1 =>
          simp only at a1
          match h2 : cBare n tk 4 (p + 2), a1 with
          | .error e1, a1 => cases a1
          | .ok _, a1 =>
            have := (cBare_ok h2).2.2
            exact ⟨this.1, (lePred (k := 4) (by decide) (by decide)).mpr this.2⟩
      have hpj : par j = -1 := by
        by_cases z : par j = -1
        · exact z
        · exact absurd ⟨q.2.2.2.2.1, q.2.2.2.2.2.1, by rw [ej]; exact z⟩ q.2.2.2.1
      obtain ⟨i1, i2, i3, i4, i5, i6⟩ := ih (upd par j (tk (p + 2))) p1 _ p2 l2 s2 par2 f2 q.2.1 a2 (fun f hf z => by
        by_cases c : f = j
        · subst c; rw [pk_us]; exact hx
        · rw [pk_un c] at z ⊢; exact hr f hf z)
      refine ⟨fun f z => ?_, i2, fun f hf z => ?_, by omega, i5, ?_⟩
      · have c : f ≠ j := fun c => z (by rw [c]; exact hpj)
        have := i1 f (by rw [pk_un c]; exact z)
        rw [this, pk_un c]
      · rcases i3 f hf z with y | ⟨a, c, y⟩
        · by_cases c : f = j
          · subst c
            rw [ej]
            exact Or.inr ⟨b, p, List.mem_cons_self⟩
          · rw [pk_un c] at y
            exact Or.inl y
        · exact Or.inr ⟨a, c, List.mem_cons_of_mem _ y⟩
      · rw [List.length_append]
        have := q.2.2.1
        omega
    · rw [cFuns, if_neg t] at h
      simp only [Except.ok.injEq, Prod.mk.injEq] at h
      obtain ⟨rfl, rfl, rfl, rfl, rfl⟩ := h
      exact ⟨fun _ _ => rfl, hr, fun f _ z => Or.inl z, Nat.le_refl _, hp, by simp⟩
section TY
variable {w par par1 : Nat → Int32} {L : Nat} {mn : Bool} {n : Nat} {tk : Nat → Int32} {mk : Bool}
set_option maxHeartbeats 400000 in
theorem tyFuns (ht : ∀ p, n ≤ p → tk p = -1) (hL31 : L < 2 ^ 31) : ∀ k par1 p b p2 l s par2 fs, p ≤ n → cFuns n tk mk k par1 p b = .ok (p2, l, s, par2, fs) → (∀ f, f < 8 → par1 f ≠ -1 → 0 ≤ par1 f ∧ par1 f ≤ 3) → (∀ f, f < 8 → par2 f ≠ -1 → par f = par2 f ∧ 0 ≤ par f ∧ par f ≤ 3) → Seg w b l → b + l.length ≤ L → ∀ f a t, (f, a, t) ∈ fs → tyA w par L false a [] := by
  intro k
  induction k with
  | zero =>
    intro par1 p b p2 l s par2 fs hp h hr hs2 hs hL f a t hm
    simp only [cFuns, Except.ok.injEq, Prod.mk.injEq] at h
    obtain ⟨rfl, rfl, rfl, rfl, rfl⟩ := h
    simp at hm
  | succ k ih =>
    intro par1 p b p2 l s par2 fs hp h hr hs2 hs hL f a t hm
    by_cases t10 : tk p = 10
    · rw [cFuns_s t10] at h
      obtain ⟨p1, l1, s1, l2, s2, f2, a1, a2, rfl, rfl, rfl⟩ := cRest_ok h
      have q := cFun1_ok ht a1
      obtain ⟨j, hj, e⟩ := nI_of (Int32.not_lt.mpr q.2.2.2.2.1)
      have hj8 : j < 8 := by
        have := q.2.2.2.2.2.1
        rw [e] at this
        exact (nI_ltI (b := 8) hj (by decide)).mp this
      have ej : (tk (p + 1)).toNatClampNeg = j := by rw [e, nI_clamp hj]
      have hx : 0 ≤ tk (p + 2) ∧ tk (p + 2) ≤ 3 ∧ ∃ l0, cEnd tk (cBlk n tk (upd par1 j (tk (p + 2))) mk false 16 (p + 3) b) = .ok (p1, l0, s1) ∧ l1 = l0 ++ [1, 0, 17] := by
        unfold cFun1 at a1
        rw [if_neg q.2.2.2.1] at a1
        match h1 : cBare n tk 8 (p + 1), a1 with
        | .error e1, a1 => cases a1
        | .ok _, a1 =>
          simp only at a1
          match h2 : cBare n tk 4 (p + 2), a1 with
          | .error e1, a1 => cases a1
          | .ok _, a1 =>
            have := (cBare_ok h2).2.2
            refine ⟨this.1, (lePred (k := 4) (by decide) (by decide)).mpr this.2, ?_⟩
            rw [ej] at a1
            exact cApp_ok a1
      rw [ej] at a2 hm
      obtain ⟨x1, x2, l0, x3, rfl⟩ := hx
      have hr' : ∀ f, f < 8 → upd par1 j (tk (p + 2)) f ≠ -1 → 0 ≤ upd par1 j (tk (p + 2)) f ∧ upd par1 j (tk (p + 2)) f ≤ 3 := by
        intro f hf z
        by_cases c : f = j
        · subst c; rw [pk_us]; exact ⟨x1, x2⟩
        · rw [pk_un c] at z ⊢; exact hr f hf z
      have ff := cFuns_facts ht k (upd par1 j (tk (p + 2))) p1 _ p2 l2 s2 par2 f2 q.2.1 a2 hr'
      obtain ⟨g1, g2⟩ := Seg_app hs
      rw [List.length_append] at hL
      rcases List.mem_cons.mp hm with hm1 | hm1
      · simp only [Prod.mk.injEq] at hm1
        obtain ⟨rfl, rfl, rfl⟩ := hm1
        obtain ⟨g3, g4⟩ := Seg_app g1
        obtain ⟨k1, k2⟩ := Seg_cons g4
        obtain ⟨k3, k4⟩ := Seg_cons k2
        obtain ⟨k5, _⟩ := Seg_cons k4
        rw [List.length_append] at hL
        have h3 : [(1 : Int32), 0, 17].length = 3 := rfl
        unfold cBlk at x3
        obtain ⟨p3, x4, x5, _⟩ := cEnd_ok x3
        have hsub2 : ∀ g, g < 8 → upd par1 f (tk (t + 2)) g ≠ -1 → par g = upd par1 f (tk (t + 2)) g ∧ 0 ≤ par g ∧ par g ≤ 3 := by
          intro g hg z
          have e1 := ff.1 g z
          have := hs2 g hg (by rw [e1]; exact z)
          rw [e1] at this
          exact this
        intro m
        have stm := tyStm_all (w := w) (L := L) (mn := false) (mk := mk) ht hsub2 hL31 16 (Nat.le_refl _)
        have zE : tyN w par L false m (a + l0.length) [] := by
          refine tyN_j (mkI_1 k1 (by decide) (by decide) ⟨by omega, ?_⟩)
          exact tyN_j (mkI_17 k5 (by decide) (by decide) ⟨by omega, rfl, rfl⟩)
        exact tyBlk ht stm 700 (t + 3) a [] p3 l0 s1 x4 g3 (by omega) rfl (by decide) m zE m (Nat.le_refl _)
      · exact ih (upd par1 j (tk (p + 2))) p1 _ p2 l2 s2 par2 f2 q.2.1 a2 hr' hs2 g2 (by omega) f a t hm1
    · rw [cFuns, if_neg t10] at h
      simp only [Except.ok.injEq, Prod.mk.injEq] at h
      obtain ⟨rfl, rfl, rfl, rfl, rfl⟩ := h
      simp at hm
set_option maxHeartbeats 400000 in
theorem cAll_ok {l s par fs mw mt} (h : cAll n tk mk = .ok (l, s, par, fs, mw, mt)) : ∃ p l0 s0 p1 l1 s1, cFuns n tk mk 9 (fun _ => -1) 0 0 = .ok (p, l0, s0, par, fs) ∧ tk p = 11 ∧ cLoop tk (cStm n tk par mk true 16) 700 (p + 1) l0.length = .ok (p1, l1, s1) ∧ tk p1 = 0 ∧ ¬ p1 + 1 < n ∧ l = l0 ++ (l1 ++ [0]) ∧ s = s0 ++ s1 ∧ mw = l0.length ∧ mt = p := by
  unfold cAll at h
  match h1 : cFuns n tk mk 9 (fun _ => -1) 0 0, h with
  | .error e, h => cases h
  | .ok (p, l0, s0, par0, fs0), h =>
    simp only at h
    split at h
    · rename_i t
      match h2 : cBlk n tk par0 mk true 16 (p + 1) l0.length, h with
      | .error e, h => cases h
      | .ok (p1, l1, s1), h =>
        simp only at h
        split at h
        · rename_i t0
          split at h
          · cases h
          · rename_i c
            simp only [Except.ok.injEq, Prod.mk.injEq] at h
            obtain ⟨rfl, rfl, rfl, rfl, rfl, rfl⟩ := h
            unfold cBlk at h2
            exact ⟨_, l0, s0, p1, l1, s1, rfl, t, h2, t0, c, rfl, rfl, rfl, rfl⟩
        · cases h
    · cases h
set_option maxHeartbeats 400000 in
theorem tyAll (ht : ∀ p, n ≤ p → tk p = -1) {l s fs mw mt} (h : cAll n tk mk = .ok (l, s, par, fs, mw, mt)) (hs : Seg w 0 l) (hL : l.length = L) (hL31 : L < 2 ^ 31) : tyA w par L true mw [] ∧ (∀ f a t, (f, a, t) ∈ fs → tyA w par L false a []) ∧ (∀ f, f < 8 → par f ≠ -1 → 0 ≤ par f ∧ par f ≤ 3) ∧ (∀ f, f < 8 → par f ≠ -1 → ∃ a t, (f, a, t) ∈ fs) ∧ mt < n ∧ tk mt = 11 ∧ l.length ≤ (8 + mk.toNat) * n := by
  obtain ⟨p, l0, s0, p1, l1, s1, h1, t, h2, t0, c, rfl, rfl, rfl, rfl⟩ := cAll_ok h
  have ff := cFuns_facts ht 9 (fun _ => -1) 0 0 mt l0 s0 par fs (Nat.zero_le _) h1 (fun f _ z => absurd rfl z)
  obtain ⟨g1, g2⟩ := Seg_app hs
  obtain ⟨g3, g4⟩ := Seg_app g2
  obtain ⟨g5, _⟩ := Seg_cons g4
  have hp : mt < n := tk_in ht (by rw [t]; decide)
  have e1 : (l0 ++ (l1 ++ [0])).length = l0.length + l1.length + 1 := by simp; omega
  rw [e1] at hL
  have hsub : ∀ g, g < 8 → par g ≠ -1 → par g = par g ∧ 0 ≤ par g ∧ par g ≤ 3 := fun g hg z => ⟨rfl, ff.2.1 g hg z⟩
  have stm := tyStm_all (w := w) (L := L) (mn := true) (mk := mk) ht hsub hL31 16 (Nat.le_refl _)
  have hl := cBlk_ln (mn := true) ht hp 700 _ _ _ h2
  have hp1 : p1 < n := tk_in ht (by rw [t0]; decide)
  refine ⟨fun m => ?_, tyFuns ht hL31 9 (fun _ => -1) 0 0 mt l0 s0 par fs (Nat.zero_le _) h1 (fun f _ z => absurd rfl z) hsub g1 (by omega), ff.2.1, fun f hf z => ?_, hp, t, ?_⟩
  · rw [Nat.zero_add] at g3 g5
    have zE : tyN w par L true m (l0.length + l1.length) [] := tyN_j (mkI_0 g5 (by decide) (by decide) (by omega))
    exact tyBlk ht stm 700 (mt + 1) l0.length [] p1 l1 s1 h2 g3 (by omega) rfl (by decide) m zE m (Nat.le_refl _)
  · rcases ff.2.2.1 f hf z with y | y
    · exact absurd rfl y
    · exact y
  · rw [e1]
    have m1 : (8 + mk.toNat) * (mt + 1) = (8 + mk.toNat) * mt + (8 + mk.toNat) := Nat.mul_succ _ _
    have m2 : (8 + mk.toNat) * (p1 + 1) = (8 + mk.toNat) * p1 + (8 + mk.toNat) := Nat.mul_succ _ _
    have m3 : (8 + mk.toNat) * (p1 + 1) ≤ (8 + mk.toNat) * n := Nat.mul_le_mul_left _ hp1
    have h4 : l1.length + (8 + mk.toNat) * (mt + 1) ≤ (8 + mk.toNat) * p1 := hl.2.2
    have h5 := ff.2.2.2.2.2
    omega
end TY

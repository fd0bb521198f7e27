/-! THE CODE IS TYPED: what the function lays for E and M -/
def Seg (w : Nat → Int32) (b : Nat) (l : List Int32) : Prop := ∀ i x, l[i]? = some x → w (b + i) = x
theorem Seg_app {w : Nat → Int32} {b : Nat} {l1 l2 : List Int32} (h : Seg w b (l1 ++ l2)) : Seg w b l1 ∧ Seg w (b + l1.length) l2 := by
  refine ⟨fun i x hx => h i x ?_, fun i x hx => ?_⟩
  · have := (List.getElem?_eq_some_iff.mp hx).1
    rw [List.getElem?_append_left this]; exact hx
  · have := h (l1.length + i) x (by rw [List.getElem?_append_right (by omega)]; rw [show l1.length + i - l1.length = i by omega]; exact hx)
    rw [Nat.add_assoc]; exact this
theorem Seg_cons {w : Nat → Int32} {b : Nat} {y : Int32} {l : List Int32} (h : Seg w b (y :: l)) : w b = y ∧ Seg w (b + 1) l := by
  refine ⟨h 0 y rfl, fun i x hx => ?_⟩
  have := h (i + 1) x (by simpa using hx)
  rw [show b + 1 + i = b + (i + 1) by omega]; exact this
theorem shN_f (sh : shT) : shN (false :: sh) = shN sh + 1 := by simp [shN]
theorem shN_t (sh : shT) : shN (true :: sh) = shN sh := by simp [shN]
theorem shM_f (sh : shT) : shM (false :: sh) = shM sh := by simp [shM]
theorem shM_t (sh : shT) : shM (true :: sh) = shM sh + 1 := by simp [shM]
section TY
variable {w par par1 : Nat → Int32} {L : Nat} {mn : Bool} {n : Nat} {tk : Nat → Int32} {mk : Bool}
/-- E (m false) or M at level r is typed -/
def tyEM (w par : Nat → Int32) (L : Nat) (mn : Bool) (n : Nat) (tk par1 : Nat → Int32) (mk : Bool) (r : Nat) : Prop :=
  ∀ m p b sh p1 l s, cEM n tk par1 mk r m p b = .ok (p1, l, s) → Seg w b l → b + l.length ≤ L → shN sh ≤ 2 * (16 - r) → shM sh ≤ 16 - r → ∀ N, tyN w par L mn N (b + l.length) (m :: sh) → tyN w par L mn N b sh
theorem tyMany {r : Nat} (hE : tyEM w par L mn n tk par1 mk r) (m : Bool) : ∀ k p b sh p1 l s, cMany (cEM n tk par1 mk r m) k p b = .ok (p1, l, s) → Seg w b l → b + l.length ≤ L → (m = false → shN sh + k ≤ 2 * (16 - r) + 1 ∧ shM sh ≤ 16 - r) → (m = true → shM sh + k ≤ 16 - r + 1 ∧ shN sh ≤ 2 * (16 - r)) → ∀ N, tyN w par L mn N (b + l.length) (List.replicate k m ++ sh) → tyN w par L mn N b sh := by
  intro k
  induction k with
  | zero =>
    intro p b sh p1 l s h _ _ _ _ N z
    simp only [cMany, Except.ok.injEq, Prod.mk.injEq] at h
    obtain ⟨_, rfl, _⟩ := h
    simpa using z
  | succ k ih =>
    intro p b sh p1 l s h hs hL h1 h2 N z
    rw [cMany] at h
    obtain ⟨p2, l1, s1, l2, s2, a1, a2, rfl, rfl⟩ := cThen_ok h
    obtain ⟨g1, g2⟩ := Seg_app hs
    rw [List.length_append] at hL z
    have b0 : shN sh ≤ 2 * (16 - r) ∧ shM sh ≤ 16 - r := by
      cases m
      · have := h1 rfl; omega
      · have := h2 rfl; omega
    refine hE m p b sh p2 l1 s1 a1 g1 (by omega) b0.1 b0.2 N ?_
    refine ih p2 (b + l1.length) (m :: sh) p1 l2 s2 a2 g2 (by omega) (fun e => ?_) (fun e => ?_) N ?_
    · subst e
      have := h1 rfl
      rw [shN_f, shM_f]; omega
    · subst e
      have := h2 rfl
      rw [shN_t, shM_t]; omega
    · rw [show List.replicate k m ++ m :: sh = List.replicate (k + 1) m ++ sh by rw [List.replicate_succ']; simp, Nat.add_assoc]
      exact z
theorem tyParts {r : Nat} (hE : tyEM w par L mn n tk par1 mk r) {M K p b : Nat} {sh : shT} {p1 : Nat} {l s} (h : cParts (cEM n tk par1 mk r) M K p b = .ok (p1, l, s)) (hs : Seg w b l) (hL : b + l.length ≤ L) (h1 : shN sh + K ≤ 2 * (16 - r) + 1) (h2 : shM sh + M ≤ 16 - r + 1) (h3 : shN sh ≤ 2 * (16 - r)) (h4 : K = 0 ∨ shM sh + M ≤ 16 - r) {N : Nat} (z : tyN w par L mn N (b + l.length) (List.replicate K false ++ (List.replicate M true ++ sh))) : tyN w par L mn N b sh := by
  unfold cParts at h
  obtain ⟨p2, l1, s1, l2, s2, a1, a2, rfl, rfl⟩ := cThen_ok h
  obtain ⟨g1, g2⟩ := Seg_app hs
  rw [List.length_append] at hL z
  refine tyMany hE true M p b sh p2 l1 s1 a1 g1 (by omega) (fun e => by cases e) (fun _ => ⟨h2, h3⟩) N ?_
  have e1 : shN (List.replicate M true ++ sh) = shN sh := by simp [shN, List.count_append, List.count_replicate]
  have e2 : shM (List.replicate M true ++ sh) = shM sh + M := by simp [shM, List.count_append, List.count_replicate]; omega
  rcases h4 with rfl | h4
  · simp only [cMany, Except.ok.injEq, Prod.mk.injEq] at a2
    obtain ⟨_, rfl, _⟩ := a2
    simpa using z
  · refine tyMany hE false K p2 (b + l1.length) (List.replicate M true ++ sh) p1 l2 s2 a2 g2 (by omega) (fun _ => by rw [e1, e2]; omega) (fun e => by cases e) N ?_
    rw [Nat.add_assoc]; exact z
end TY

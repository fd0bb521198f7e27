/-! THE COMPILER AS A FUNCTION: where its notes are of -/
def cNt (p : Nat) (a : cRes) : Prop := ∀ p1 l s, a = .ok (p1, l, s) → ∀ g q e, (g, q, e) ∈ s → p ≤ q
theorem cNt_then {n W p : Nat} {a : cRes} {f : Nat → Nat → cRes} (ha : cLn n W p a) (hna : cNt p a) (hf : ∀ p1 w, p ≤ p1 → p1 ≤ n → cNt p1 (f p1 w)) : cNt p (cThen a f) := by
  intro p2 l s h g q e hm
  obtain ⟨p1, l1, s1, l2, s2, h1, h2, rfl, rfl⟩ := cThen_ok h
  have a1 := ha _ _ _ h1
  rcases List.mem_append.mp hm with hm | hm
  · exact hna _ _ _ h1 g q e hm
  · have := hf p1 _ a1.1 a1.2.1 _ _ _ h2 g q e hm
    omega
theorem cNt_many {n W : Nat} {rec : Nat → Nat → cRes} (hr : ∀ p b, p ≤ n → cLn n W p (rec p b)) (hn : ∀ p b, p ≤ n → cNt p (rec p b)) : ∀ k p b, p ≤ n → cNt p (cMany rec k p b) := by
  intro k
  induction k with
  | zero =>
    intro p b hp p1 l s h g q e hm
    simp only [cMany, Except.ok.injEq, Prod.mk.injEq] at h
    obtain ⟨rfl, rfl, rfl⟩ := h
    simp at hm
  | succ k ih =>
    intro p b hp
    exact cNt_then (hr p b hp) (hn p b hp) (fun p1 w _ h2 => ih p1 (b + w) h2)
theorem cParts_nt {n W : Nat} {rec : Bool → Nat → Nat → cRes} (hr : ∀ m p b, p ≤ n → cLn n W p (rec m p b)) (hn : ∀ m p b, p ≤ n → cNt p (rec m p b)) {m k p b : Nat} (hp : p ≤ n) : cNt p (cParts rec m k p b) :=
  cNt_then (cLn_many (hr true) m p b hp) (cNt_many (hr true) (hn true) m p b hp) (fun p1 w _ h2 => cNt_many (hr false) (hn false) k p1 (b + w) h2)
theorem cPlain_nt {n W : Nat} {tk par : Nat → Int32} {rec : Bool → Nat → Nat → cRes} (ht : ∀ p, n ≤ p → tk p = -1) (hr : ∀ m p b, p ≤ n → cLn n W p (rec m p b)) (hn : ∀ m p b, p ≤ n → cNt p (rec m p b)) {p b : Nat} (hp : p < n) : cNt (p + 1) (cPlain n tk par rec p b) := by
  intro p1 l s h g q e hm
  obtain ⟨p0, l0, h1, h2, rfl⟩ := cPlain_ok h
  have h3 := cArg_ok ht h1
  have hq : p + 1 ≤ p0 ∧ p0 ≤ n := by rcases h3 with ⟨_, rfl⟩ | ⟨_, rfl, h4, _⟩ <;> omega
  have := cParts_nt hr hn hq.2 _ _ _ h2 g q e hm
  omega
theorem cEither_nt {n W : Nat} {rec : Bool → Nat → Nat → cRes} (hr : ∀ m p b, p ≤ n → cLn n W p (rec m p b)) (hn : ∀ m p b, p ≤ n → cNt p (rec m p b)) {t : Int32} {p b : Nat} (hp : p < n) : cNt (p + 1) (cEither rec t p b) := by
  intro p1 l s h g q e hm
  obtain ⟨p2, l1, s1, l2, s2, h1, h2, rfl, rfl⟩ := cEither_ok h
  have a1 := hr false (p + 1) b hp _ _ _ h1
  rcases List.mem_append.mp hm with hm | hm
  · exact hn false (p + 1) b hp _ _ _ h1 g q e hm
  · have := hn false p2 _ a1.2.1 _ _ _ h2 g q e hm
    omega
theorem cEM_nt {n : Nat} {tk par : Nat → Int32} {mk : Bool} (ht : ∀ p, n ≤ p → tk p = -1) : ∀ r m p b, cNt p (cEM n tk par mk r m p b) := by
  intro r
  induction r with
  | zero =>
    intro m p b p1 l s h
    unfold cEM at h
    split at h <;> cases h
  | succ r ih =>
    intro m p b p1 l s h g q e hm
    unfold cEM at h
    have hr : ∀ m p b, p ≤ n → cLn n (8 + mk.toNat) p (cEM n tk par mk r m p b) := fun m p b _ => cLs_ln (cEM_ls ht r m p b)
    have hn : ∀ m p b, p ≤ n → cNt p (cEM n tk par mk r m p b) := fun m p b _ => ih m p b
    split at h
    · rename_i hk
      have hp := cKind_in ht hk
      obtain ⟨l0, s0, h1, rfl, rfl⟩ := cMark_ok h
      rcases List.mem_append.mp hm with hm | hm
      · split at h1
        · have := cEither_nt hr hn hp _ _ _ h1 g q e hm
          omega
        · have := cPlain_nt ht hr hn hp _ _ _ h1 g q e hm
          omega
      · cases m
        · simp only [Bool.false_eq_true, if_false, List.mem_singleton, Prod.mk.injEq] at hm
          omega
        · simp at hm
    · cases h
/-- what a statement's inner part notes of its own place is its turn only -/
def cNi (p : Nat) (a : cRes) : Prop := ∀ p1 l s, a = .ok (p1, l, s) → ∀ g q e, (g, q, e) ∈ s → p ≤ q ∧ (g = false → p + 1 ≤ q)
theorem cIf_ni {n W : Nat} {tk : Nat → Int32} (ht : ∀ p, n ≤ p → tk p = -1) {rec : Bool → Nat → Nat → cRes} {blk : Nat → Nat → cRes} (hr : ∀ m p b, p ≤ n → cLn n W p (rec m p b)) (hb : ∀ p b, p ≤ n → cLn n W p (blk p b)) (hn : ∀ m p b, p ≤ n → cNt p (rec m p b)) (hbn : ∀ p b, p ≤ n → cNt p (blk p b)) {p b : Nat} (hp : p < n) : cNi p (cIf tk rec blk p b) := by
  intro p1 l s h g q e hm
  obtain ⟨p2, l1, s1, p3, l2, s2, h1, h2, h3⟩ := cIf_ok h
  have a1 := hr false (p + 1) b hp _ _ _ h1
  have a2 := hb p2 _ a1.2.1 _ _ _ h2
  have n1 := hn false (p + 1) b hp _ _ _ h1
  have n2 := hbn p2 _ a1.2.1 _ _ _ h2
  rcases h3 with ⟨h4, p4, l3, s3, h5, h0, rfl, rfl, rfl⟩ | ⟨h0, rfl, rfl, rfl⟩
  · have hn4 : p3 < n := tk_in ht (by rw [h4]; decide)
    have n3 := hbn (p3 + 1) _ hn4 _ _ _ h5
    simp only [List.mem_append, List.mem_cons, Prod.mk.injEq] at hm
    rcases hm with hm | hm | hm | hm
    · have := n1 g q e hm; omega
    · have := n2 g q e hm; omega
    · obtain ⟨rfl, rfl, rfl⟩ := hm; exact ⟨Nat.le_refl _, fun z => by cases z⟩
    · have := n3 g q e hm; omega
  · simp only [List.mem_append, List.mem_cons, Prod.mk.injEq, List.not_mem_nil, or_false] at hm
    rcases hm with hm | hm | hm
    · have := n1 g q e hm; omega
    · have := n2 g q e hm; omega
    · obtain ⟨rfl, rfl, rfl⟩ := hm; exact ⟨Nat.le_refl _, fun z => by cases z⟩
theorem cWhile_ni {n W : Nat} {tk : Nat → Int32} {rec : Bool → Nat → Nat → cRes} {blk : Nat → Nat → cRes} (hr : ∀ m p b, p ≤ n → cLn n W p (rec m p b)) (hn : ∀ m p b, p ≤ n → cNt p (rec m p b)) (hbn : ∀ p b, p ≤ n → cNt p (blk p b)) {p b : Nat} (hp : p < n) : cNi p (cWhile tk rec blk p b) := by
  intro p1 l s h g q e hm
  obtain ⟨p2, l1, s1, p3, l2, s2, h1, h2, h0, rfl, rfl, rfl⟩ := cWhile_ok h
  have a1 := hr false (p + 1) b hp _ _ _ h1
  rcases List.mem_append.mp hm with hm | hm
  · have := hn false (p + 1) b hp _ _ _ h1 g q e hm; omega
  · have := hbn p2 _ a1.2.1 _ _ _ h2 g q e hm; omega
theorem cEach_ni {n : Nat} {tk : Nat → Int32} {blk : Nat → Nat → cRes} (hbn : ∀ p b, p ≤ n → cNt p (blk p b)) {p b : Nat} : cNi p (cEach n tk blk p b) := by
  intro p1 l s h g q e hm
  obtain ⟨p2, l2, h1, h2, h3, h4, h0, rfl, rfl⟩ := cEach_ok h
  have := hbn (p + 4) _ (cBare_ok h3).2.1 _ _ _ h4 g q e hm
  omega
theorem cAnswer_ni {n : Nat} {mn : Bool} {rec : Bool → Nat → Nat → cRes} (hn : ∀ m p b, p ≤ n → cNt p (rec m p b)) {p b : Nat} (hp : p < n) : cNi p (cAnswer mn rec p b) := by
  intro p1 l s h g q e hm
  obtain ⟨l1, h2, rfl⟩ := cAnswer_ok h
  have := hn false (p + 1) b hp _ _ _ h2 g q e hm
  omega
theorem cPlain_ni {n W : Nat} {tk par : Nat → Int32} {rec : Bool → Nat → Nat → cRes} (ht : ∀ p, n ≤ p → tk p = -1) (hr : ∀ m p b, p ≤ n → cLn n W p (rec m p b)) (hn : ∀ m p b, p ≤ n → cNt p (rec m p b)) {p b : Nat} (hp : p < n) : cNi p (cPlain n tk par rec p b) := by
  intro p1 l s h g q e hm
  have := cPlain_nt ht hr hn hp p1 l s h g q e hm
  omega
theorem cCallS_ni {p : Nat} {a : cRes} (h : cNi p a) : cNi p (cCallS a) := by
  intro p1 l s e
  obtain ⟨l1, h2, rfl⟩ := cCallS_ok e
  exact h p1 l1 s h2
theorem cStm_nt {n : Nat} {tk par : Nat → Int32} {mk mn : Bool} (ht : ∀ p, n ≤ p → tk p = -1) : ∀ r, (∀ p b, p < n → cNt p (cStm n tk par mk mn r p b)) ∧ (∀ k p b, p ≤ n → cNt p (cLoop tk (cStm n tk par mk mn r) k p b)) := by
  intro r
  have loop : (∀ p b, p < n → cNt p (cStm n tk par mk mn r p b)) → ∀ k p b, p ≤ n → cNt p (cLoop tk (cStm n tk par mk mn r) k p b) := by
    intro hs k
    induction k with
    | zero =>
      intro p b hp p1 l s h g q e hm
      simp only [cLoop, Except.ok.injEq, Prod.mk.injEq] at h
      obtain ⟨rfl, rfl, rfl⟩ := h
      simp at hm
    | succ k ih =>
      intro p b hp p1 l s h g q e hm
      unfold cLoop at h
      split at h
      · rename_i hc
        have hp := cIsS_in ht hc
        exact cNt_then (cLs_ln (cStm_ls ht r p b hp)) (hs p b hp) (fun p1 w _ h2 => ih p1 (b + w) h2) _ _ _ h g q e hm
      · simp only [Except.ok.injEq, Prod.mk.injEq] at h
        obtain ⟨rfl, rfl, rfl⟩ := h
        simp at hm
  induction r with
  | zero =>
    refine ⟨?_, loop ?_⟩ <;>
    · intro p b _ p1 l s h
      unfold cStm at h
      cases h
  | succ r ih =>
    have ihl : ∀ k p b, p ≤ n → cNt p (cLoop tk (cStm n tk par mk mn r) k p b) := (ih (fun hs k => by
      induction k with
      | zero =>
        intro p b hp p1 l s h g q e hm
        simp only [cLoop, Except.ok.injEq, Prod.mk.injEq] at h
        obtain ⟨rfl, rfl, rfl⟩ := h
        simp at hm
      | succ k ih =>
        intro p b hp p1 l s h g q e hm
        unfold cLoop at h
        split at h
        · rename_i hc
          have hp := cIsS_in ht hc
          exact cNt_then (cLs_ln (cStm_ls ht r p b hp)) (hs p b hp) (fun p1 w _ h2 => ih p1 (b + w) h2) _ _ _ h g q e hm
        · simp only [Except.ok.injEq, Prod.mk.injEq] at h
          obtain ⟨rfl, rfl, rfl⟩ := h
          simp at hm)).2
    have main : ∀ p b, p < n → cNt p (cStm n tk par mk mn (r + 1) p b) := by
      intro p b hp p1 l s h g q e hm
      unfold cStm at h
      have hr : ∀ m p b, p ≤ n → cLn n (8 + mk.toNat) p (cEM n tk par mk r m p b) := fun m p b _ => cLs_ln (cEM_ls ht r m p b)
      have hn : ∀ m p b, p ≤ n → cNt p (cEM n tk par mk r m p b) := fun m p b _ => cEM_nt ht r m p b
      have hb : ∀ p b, p ≤ n → cLn n (8 + mk.toNat) p (cLoop tk (cStm n tk par mk mn r) 700 p b) := fun p b h => cBlk_ln ht h 700
      obtain ⟨l0, s0, h1, rfl, rfl⟩ := cMark_ok h
      rcases List.mem_append.mp hm with hm | hm
      · split at h1
        · exact (cIf_ni ht hr hb hn (ihl 700) hp _ _ _ h1 g q e hm).1
        · split at h1
          · exact (cWhile_ni hr hn (ihl 700) hp _ _ _ h1 g q e hm).1
          · split at h1
            · exact (cEach_ni (ihl 700) _ _ _ h1 g q e hm).1
            · split at h1
              · exact (cAnswer_ni hn hp _ _ _ h1 g q e hm).1
              · split at h1
                · exact (cCallS_ni (cPlain_ni ht hr hn hp) _ _ _ h1 g q e hm).1
                · exact (cPlain_ni ht hr hn hp _ _ _ h1 g q e hm).1
      · simp only [List.mem_singleton, Prod.mk.injEq] at hm
        omega
    exact ⟨main, loop main⟩

/-! THE CLASS'S COMPILER GOES ON: from store S at place p with b words to S' at p' with the words l more and the notes s -/
theorem pf_get (S : mv_S) (q k : Nat) (x : Int32) (o f : Nat) : (mv_pf S q k x).1 o f = if o = q ∧ f = k then x else S.1 o f := by
  unfold mv_pf
  by_cases h : o = q
  · subst h
    by_cases h2 : f = k
    · subst h2; simp [va_up, upd]
    · simp [va_up, upd, h2]
  · simp [va_up, h]
theorem pr_get (S : mv_S) (q k : Nat) (x : Int32) (o f : Nat) : (mv_pr S q k x).2.1 o f = if o = q ∧ f = k then x else S.2.1 o f := by
  unfold mv_pr
  by_cases h : o = q
  · subst h
    by_cases h2 : f = k
    · subst h2; simp [va_up, upd]
    · simp [va_up, upd, h2]
  · simp [va_up, h]
theorem sR_nI {S : mv_S} {q n i : Nat} {x : Int32} (hi : i < n) (hn : n < 2 ^ 31) : sR S q n (nI i) x = mv_pr S q i x := by
  rw [sR_in ⟨nI_pos' (by omega), nI_lt hi hn⟩, nI_clamp (by omega)]
theorem sR_nO {S : mv_S} {q n i : Nat} {x : Int32} (hi : n ≤ i) (hn : i < 2 ^ 31) : sR S q n (nI i) x = S := sR_out (fun h => nI_nlt hi hn h.2)
def xKp (S S' : mv_S) : Prop := (∀ o f, (o = 2 → f ≠ 1 ∧ f ≠ 2) → (o = 1 → f ≠ 10) → S'.1 o f = S.1 o f) ∧ (∀ o i, o ≠ 9 → o ≠ 10 → o ≠ 11 → S'.2.1 o i = S.2.1 o i) ∧ S'.2.2 = S.2.2
def xGo (S S' : mv_S) (p b p' : Nat) (l : List Int32) (s : List (Bool × Nat × Nat)) : Prop :=
  xKp S S' ∧ S'.1 2 1 = nI p' ∧ S'.1 1 10 = nI (b + l.length) ∧ (∀ i, i < b → S'.2.1 11 i = S.2.1 11 i) ∧ (∀ i x, l[i]? = some x → b + i < 1500 → S'.2.1 11 (b + i) = x) ∧ (∀ (g : Bool) i, i < p → S'.2.1 (if g then 10 else 9) i = S.2.1 (if g then 10 else 9) i) ∧ (∀ g q e, (g, q, e) ∈ s → p ≤ q ∧ q < p' ∧ S'.2.1 (if g then 10 else 9) q = nI e)
/-- the class's store stands at place p with b words; n tokens tk, parameters par, mn: in the main part -/
def xAt (S : mv_S) (n : Nat) (tk par : Nat → Int32) (mn : Bool) (p b : Nat) : Prop :=
  S.1 1 9 = nI n ∧ n ≤ 700 ∧ (∀ i, i < n → S.2.1 8 i = tk i) ∧ (∀ i, n ≤ i → tk i = -1) ∧ (∀ i, i < 8 → S.2.1 12 i = par i) ∧ S.1 2 3 = (if mn then 1 else 0) ∧ S.1 2 1 = nI p ∧ p ≤ n ∧ S.1 1 10 = nI b ∧ b ≤ 8 * p
theorem xKp_refl (S : mv_S) : xKp S S := ⟨fun _ _ _ _ => rfl, fun _ _ _ _ _ => rfl, rfl⟩
theorem xKp_trans {S T U : mv_S} (h : xKp S T) (g : xKp T U) : xKp S U := ⟨fun o f a b => (g.1 o f a b).trans (h.1 o f a b), fun o i a b c => (g.2.1 o i a b c).trans (h.2.1 o i a b c), g.2.2.trans h.2.2⟩
theorem xKp_next (S : mv_S) (x : Int32) : xKp S (mv_pf S 2 1 x) := ⟨fun o f a _ => by rw [pf_get, if_neg (fun h => (a h.1).1 h.2)], fun _ _ _ _ _ => rfl, rfl⟩
theorem xKp_fault (S : mv_S) (x : Int32) : xKp S (mv_pf S 2 2 x) := ⟨fun o f a _ => by rw [pf_get, if_neg (fun h => (a h.1).2 h.2)], fun _ _ _ _ _ => rfl, rfl⟩
theorem xKp_pf (S : mv_S) (x : Int32) : xKp S (mv_pf S 1 10 x) := ⟨fun o f _ a => by rw [pf_get, if_neg (fun h => a h.1 h.2)], fun _ _ _ _ _ => rfl, rfl⟩
theorem xKp_sR (S : mv_S) {q : Nat} (hq : q = 9 ∨ q = 10 ∨ q = 11) (n : Nat) (i x : Int32) : xKp S (sR S q n i x) := by
  unfold sR
  split
  · refine ⟨fun _ _ _ _ => rfl, fun o k a b c => ?_, rfl⟩
    rw [pr_get, if_neg (fun h => by omega)]
  · exact xKp_refl S
theorem xGo_trans {S T U : mv_S} {p b p1 p2 : Nat} {l1 l2 : List Int32} {s1 s2} (h : xGo S T p b p1 l1 s1) (g : xGo T U p1 (b + l1.length) p2 l2 s2) (hp : p ≤ p1) (hp2 : p1 ≤ p2) : xGo S U p b p2 (l1 ++ l2) (s1 ++ s2) := by
  obtain ⟨h1, h2, h3, h4, h5, h6, h7⟩ := h
  obtain ⟨g1, g2, g3, g4, g5, g6, g7⟩ := g
  refine ⟨xKp_trans h1 g1, g2, by rw [g3, List.length_append, Nat.add_assoc], fun i hi => (g4 i (by omega)).trans (h4 i hi), fun i x hx hb => ?_, fun q i hi => (g6 q i (by omega)).trans (h6 q i hi), fun q i e he => ?_⟩
  · by_cases hi : i < l1.length
    · rw [List.getElem?_append_left hi] at hx
      rw [g4 (b + i) (by omega)]
      exact h5 i x hx hb
    · rw [List.getElem?_append_right (by omega)] at hx
      have := g5 (i - l1.length) x hx (by omega)
      rw [show b + l1.length + (i - l1.length) = b + i by omega] at this
      exact this
  · rcases List.mem_append.mp he with he | he
    · have := h7 q i e he
      exact ⟨this.1, by omega, by rw [g6 q i this.2.1]; exact this.2.2⟩
    · have := g7 q i e he
      exact ⟨by omega, this.2.1, this.2.2⟩
theorem xGo_refl {S : mv_S} {p b : Nat} (hp : S.1 2 1 = nI p) (hb : S.1 1 10 = nI b) : xGo S S p b p [] [] := ⟨xKp_refl S, hp, by simpa using hb, fun _ _ => rfl, fun i x h => by simp at h, fun _ _ _ => rfl, fun _ _ _ h => by simp at h⟩
theorem xGo_next {S : mv_S} {p b : Nat} (hp : S.1 2 1 = nI p) (hb : S.1 1 10 = nI b) : xGo S (xNx S) p b (p + 1) [] [] := by
  refine ⟨xKp_next S _, ?_, ?_, fun _ _ => rfl, fun i x h => by simp at h, fun _ _ _ => rfl, fun _ _ _ h => by simp at h⟩
  · show (mv_pf S 2 1 (S.1 2 1 + 1)).1 2 1 = _
    rw [pf_get, if_pos ⟨rfl, rfl⟩, hp, nI_1]
  · show (mv_pf S 2 1 (S.1 2 1 + 1)).1 1 10 = _
    rw [pf_get, if_neg (by decide), hb]; rfl
theorem xGo_emit {S : mv_S} {p b : Nat} {w : Int32} (hp : S.1 2 1 = nI p) (hb : S.1 1 10 = nI b) (hb2 : b < 2 ^ 30) : xGo S (xE S w) p b p [w] [] := by
  have hk : xKp S (xE S w) := xKp_trans (xKp_sR S (Or.inr (Or.inr rfl)) 1500 _ w) (xKp_pf _ _)
  have hw : ∀ i, (xE S w).2.1 11 i = if i = b ∧ b < 1500 then w else S.2.1 11 i := by
    intro i
    show (sR S 11 1500 (S.1 1 10) w).2.1 11 i = _
    rw [hb]
    by_cases h : b < 1500
    · rw [sR_nI h (by decide), pr_get]
      by_cases e : i = b <;> simp [e, h]
    · rw [sR_nO (by omega) (by omega), if_neg (fun z => h z.2)]
  refine ⟨hk, ?_, ?_, fun i hi => ?_, fun i x hx h15 => ?_, fun g i _ => ?_, fun _ _ _ h => by simp at h⟩
  · rw [← hp]
    show (mv_pf (sR S 11 1500 (S.1 1 10) w) 1 10 (S.1 1 10 + 1)).1 2 1 = _
    rw [pf_get, if_neg (by decide), sR_1]
  · show (mv_pf (sR S 11 1500 (S.1 1 10) w) 1 10 (S.1 1 10 + 1)).1 1 10 = _
    rw [pf_get, if_pos ⟨rfl, rfl⟩, hb, nI_1]; rfl
  · rw [hw, if_neg (by omega)]
  · match i, hx with
    | 0, hx =>
      simp only [List.getElem?_cons_zero, Option.some.injEq] at hx
      subst hx
      rw [hw, if_pos ⟨rfl, h15⟩]
  · show (sR S 11 1500 (S.1 1 10) w).2.1 _ i = _
    unfold sR
    split
    · rw [pr_get, if_neg]
      cases g <;> intro h <;> exact absurd h.1 (by decide)
    · rfl
/-- a hole filled -/
theorem xGo_fill {S T : mv_S} {p b p1 k : Nat} {l : List Int32} {s} (h : xGo S T p b p1 l s) (hk : k < l.length) (hb : b + l.length < 2 ^ 30) : xGo S (xF T (nI (b + k))) p b p1 (l.set k (nI (b + l.length))) s := by
  obtain ⟨h1, h2, h3, h4, h5, h6, h7⟩ := h
  have hw : ∀ o i, (xF T (nI (b + k))).2.1 o i = if o = 11 ∧ i = b + k ∧ b + k < 1500 then nI (b + l.length) else T.2.1 o i := by
    intro o i
    show (sR T 11 1500 (nI (b + k)) (T.1 1 10)).2.1 o i = _
    rw [h3]
    by_cases h : b + k < 1500
    · rw [sR_nI h (by decide), pr_get]
      by_cases e : o = 11 ∧ i = b + k
      · rw [if_pos e, if_pos ⟨e.1, e.2, h⟩]
      · rw [if_neg e, if_neg (fun z => e ⟨z.1, z.2.1⟩)]
    · rw [sR_nO (by omega) (by omega), if_neg (fun z => h z.2.2)]
  have h1' : ∀ o f, (xF T (nI (b + k))).1 o f = T.1 o f := fun o f => by
    show (sR T 11 1500 (nI (b + k)) (T.1 1 10)).1 o f = _
    rw [sR_1]
  refine ⟨xKp_trans h1 (xKp_sR T (Or.inr (Or.inr rfl)) 1500 _ _), by rw [h1']; exact h2, by rw [h1', List.length_set]; exact h3, fun i hi => ?_, fun i x hx h15 => ?_, fun g i hi => ?_, fun g q e he => ?_⟩
  · rw [hw, if_neg (by omega)]; exact h4 i hi
  · rw [List.getElem?_set] at hx
    rw [hw]
    by_cases e : k = i
    · subst e
      rw [if_pos rfl, if_pos hk, Option.some.injEq] at hx
      rw [if_pos ⟨rfl, rfl, h15⟩, hx]
    · rw [if_neg e] at hx
      rw [if_neg (by omega)]
      exact h5 i x hx h15
  · rw [hw, if_neg (fun z => by cases g <;> exact absurd z.1 (by decide))]; exact h6 g i hi
  · rw [hw, if_neg (fun z => by cases g <;> exact absurd z.1 (by decide))]; exact h7 g q e he
/-- a note of the place p itself -/
theorem xGo_note {S T : mv_S} {p b p1 : Nat} {l : List Int32} {s} (g : Bool) (h : xGo S T p b p1 l s) (hn : ∀ e, (g, p, e) ∉ s) (hp : p < 700) (hp1 : p < p1) : xGo S (sR T (if g then 10 else 9) 700 (nI p) (nI p1)) p b p1 l (s ++ [(g, p, p1)]) := by
  obtain ⟨h1, h2, h3, h4, h5, h6, h7⟩ := h
  rw [sR_nI hp (by decide)]
  have hw : ∀ o i, (mv_pr T (if g then 10 else 9) p (nI p1)).2.1 o i = if o = (if g then 10 else 9) ∧ i = p then nI p1 else T.2.1 o i := fun o i => pr_get _ _ _ _ _ _
  refine ⟨xKp_trans h1 ?_, h2, h3, fun i hi => ?_, fun i x hx h15 => ?_, fun g' i hi => ?_, fun g' q e he => ?_⟩
  · have := xKp_sR T (q := if g then 10 else 9) (by cases g <;> simp) 700 (nI p) (nI p1)
    rw [sR_nI hp (by decide)] at this
    exact this
  · rw [hw, if_neg (fun z => by cases g <;> exact absurd z.1 (by decide))]; exact h4 i hi
  · rw [hw, if_neg (fun z => by cases g <;> exact absurd z.1 (by decide))]; exact h5 i x hx h15
  · rw [hw, if_neg (fun z => by omega)]; exact h6 g' i hi
  · rcases List.mem_append.mp he with he1 | he1
    · have := h7 g' q e he1
      refine ⟨this.1, this.2.1, ?_⟩
      rw [hw, if_neg]
      · exact this.2.2
      · rintro ⟨z1, rfl⟩
        have : g' = g := by cases g <;> cases g' <;> simp at z1 <;> rfl
        subst this
        exact hn e he1
    · simp only [List.mem_singleton, Prod.mk.injEq] at he1
      obtain ⟨rfl, rfl, rfl⟩ := he1
      exact ⟨Nat.le_refl _, hp1, by rw [hw, if_pos ⟨rfl, rfl⟩]⟩
theorem xAt_go {S T : mv_S} {n : Nat} {tk par : Nat → Int32} {mn : Bool} {p b p1 : Nat} {l s} (h : xAt S n tk par mn p b) (g : xGo S T p b p1 l s) (hp : p1 ≤ n) (hb : b + l.length ≤ 8 * p1) : xAt T n tk par mn p1 (b + l.length) := by
  obtain ⟨h1, h2, h3, h4, h5, h6, h7, h8, h9, h10⟩ := h
  obtain ⟨g1, g2, g3, _⟩ := g
  refine ⟨?_, h2, fun i hi => ?_, h4, fun i hi => ?_, ?_, g2, hp, g3, hb⟩
  · rw [g1.1 1 9 (by decide) (by decide)]; exact h1
  · rw [g1.2.1 8 i (by decide) (by decide) (by decide)]; exact h3 i hi
  · rw [g1.2.1 12 i (by decide) (by decide) (by decide)]; exact h5 i hi
  · rw [g1.1 2 3 (by decide) (by decide)]; exact h6
theorem xAt_tok {S : mv_S} {n : Nat} {tk par : Nat → Int32} {mn : Bool} {p b : Nat} (h : xAt S n tk par mn p b) {q : Nat} (hq : q < 2 ^ 31) : xTok S (nI q) = tk q := by
  obtain ⟨h1, h2, h3, h4, _⟩ := h
  unfold xTok
  rw [h1]
  by_cases hn : q < n
  · rw [if_pos ⟨nI_pos' hq, nI_lt hn (by omega), nI_lt (b := 700) (by omega) (by decide)⟩, nI_clamp hq]
    exact h3 q hn
  · rw [if_neg (fun z => nI_nlt (by omega) hq z.2.1)]
    exact (h4 q (by omega)).symm
theorem xAt_has {S : mv_S} {n : Nat} {tk par : Nat → Int32} {mn : Bool} {p b : Nat} (h : xAt S n tk par mn p b) : xHas S ↔ p < n := by
  obtain ⟨h1, h2, _, _, _, _, h7, h8, _⟩ := h
  unfold xHas
  rw [h1, h7]
  constructor
  · intro z
    exact (nI_ltI (by omega) (by omega)).mp z.2
  · intro z
    exact ⟨nI_pos' (by omega), nI_lt z (by omega)⟩
theorem xAt_hasF {S : mv_S} {n : Nat} {tk par : Nat → Int32} {mn : Bool} {p b : Nat} (h : xAt S n tk par mn p b) {f : Int32} : xHasF S f ↔ cHasF par f := by
  unfold xHasF
  constructor
  · rintro ⟨a, b, c⟩
    obtain ⟨j, hj, rfl⟩ := nI_of (Int32.not_lt.mpr a)
    have : j < 8 := (nI_ltI (b := 8) hj (by decide)).mp b
    refine ⟨a, b, ?_⟩
    rw [nI_clamp hj] at c ⊢
    rw [← h.2.2.2.2.1 j this]; exact c
  · rintro ⟨a, b, c⟩
    obtain ⟨j, hj, rfl⟩ := nI_of (Int32.not_lt.mpr a)
    have : j < 8 := (nI_ltI (b := 8) hj (by decide)).mp b
    refine ⟨a, b, ?_⟩
    rw [nI_clamp hj] at c ⊢
    rw [h.2.2.2.2.1 j this]; exact c

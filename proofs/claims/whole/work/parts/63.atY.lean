/-! THE REFERENCE READS: its store by lists. Fault w at place fp, next place p, words ws, marked words ms, to do td (top first), holes hs; the rest is as in S0 -/
def yTd (S : mv_S) : List (Int32 × Int32 × Int32) → Prop
  | [] => True
  | (a, b, c) :: t => S.2.1 8 t.length = a ∧ S.2.1 9 t.length = b ∧ S.2.1 10 t.length = c ∧ yTd S t
def yKp (S0 S : mv_S) : Prop := (∀ o f, (o = 0 → f ≠ 2 ∧ f ≠ 3 ∧ f ≠ 4 ∧ f ≠ 7 ∧ f ≠ 9 ∧ f ≠ 20 ∧ f ≠ 23) → S.1 o f = S0.1 o f) ∧ (∀ o i, o ≠ 2 → o ≠ 3 → ¬ (8 ≤ o ∧ o ≤ 12) → S.2.1 o i = S0.2.1 o i) ∧ S.2.2 = S0.2.2
def yAt (S0 S : mv_S) (w fp : Int32) (p : Nat) (ws ms : List Int32) (td : List (Int32 × Int32 × Int32)) (hs : List (Option (Nat × Nat))) : Prop :=
  S.1 0 3 = w ∧ S.1 0 4 = fp ∧ S.1 0 2 = nI p ∧ (S.1 0 7 = nI ws.length ∧ ∀ i x, ws[i]? = some x → S.2.1 2 i = x) ∧ (S.1 0 9 = nI ms.length ∧ ∀ i x, ms[i]? = some x → S.2.1 3 i = x) ∧ (S.1 0 20 = nI td.length ∧ yTd S td) ∧ (S.1 0 23 = nI hs.length ∧ ∀ i a c, hs[i]? = some (some (a, c)) → S.2.1 11 i = nI a ∧ S.2.1 12 i = nI c) ∧ yKp S0 S
theorem yTd_congr {S S' : mv_S} : ∀ {td : List (Int32 × Int32 × Int32)}, (∀ i, i < td.length → S'.2.1 8 i = S.2.1 8 i ∧ S'.2.1 9 i = S.2.1 9 i ∧ S'.2.1 10 i = S.2.1 10 i) → yTd S td → yTd S' td
  | [], _, _ => trivial
  | (a, b, c) :: t, h, g => by
    obtain ⟨g1, g2, g3, g4⟩ := g
    have := h t.length (by simp)
    exact ⟨this.1.trans g1, this.2.1.trans g2, this.2.2.trans g3, yTd_congr (fun i hi => h i (by simp; omega)) g4⟩
theorem yKp_pf {S0 S : mv_S} {k : Nat} {x : Int32} (h : yKp S0 S) (hk : k = 2 ∨ k = 3 ∨ k = 4 ∨ k = 7 ∨ k = 9 ∨ k = 20 ∨ k = 23) : yKp S0 (mv_pf S 0 k x) := by
  refine ⟨fun o f a => ?_, h.2.1, h.2.2⟩
  rw [pf_get, if_neg (fun z => by have := a z.1; omega)]
  exact h.1 o f a
theorem yKp_pr {S0 S : mv_S} {q k : Nat} {x : Int32} (h : yKp S0 S) (hk : q = 2 ∨ q = 3 ∨ 8 ≤ q ∧ q ≤ 12) : yKp S0 (mv_pr S q k x) := by
  refine ⟨h.1, fun o i a b c => ?_, h.2.2⟩
  rw [pr_get, if_neg (fun z => by omega)]
  exact h.2.1 o i a b c
theorem snoc_row {ws : List Int32} {R : Nat → Int32} {x : Int32} (h : ∀ i y, ws[i]? = some y → R i = y) : ∀ i y, (ws ++ [x])[i]? = some y → (if i = ws.length then x else R i) = y := by
  intro i y hy
  by_cases hi : i < ws.length
  · rw [List.getElem?_append_left hi] at hy
    rw [if_neg (by omega)]
    exact h i y hy
  · by_cases he : i = ws.length
    · subst he
      rw [if_pos rfl]
      simpa using hy
    · rw [List.getElem?_append_right (by omega)] at hy
      obtain ⟨z, -⟩ := List.getElem?_eq_some_iff.mp hy
      simp at z
      omega
theorem set_row {ws : List Int32} {R : Nat → Int32} {x : Int32} {a : Nat} (h : ∀ i y, ws[i]? = some y → R i = y) : ∀ i y, (ws.set a x)[i]? = some y → (if i = a then x else R i) = y := by
  intro i y hy
  rw [List.getElem?_set] at hy
  by_cases hi : i = a
  · subst hi
    rw [if_pos rfl] at hy
    split at hy
    · rw [if_pos rfl]; exact Option.some.inj hy
    · cases hy
  · rw [if_neg (fun z => hi z.symm)] at hy
    rw [if_neg hi]
    exact h i y hy
section YA
variable {S0 S : mv_S} {w fp : Int32} {p : Nat} {ws ms : List Int32} {td : List (Int32 × Int32 × Int32)} {hs : List (Option (Nat × Nat))}
theorem yAt_lay (h : yAt S0 S w fp p ws ms td hs) (x y : Int32) : yAt S0 (mv_pf (mv_pr (mv_pf (mv_pr S 2 ws.length x) 0 7 (nI (ws.length + 1))) 3 ms.length y) 0 9 (nI (ms.length + 1))) w fp p (ws ++ [x]) (ms ++ [y]) td hs := by
  obtain ⟨h1, h2, h3, ⟨h4, h4'⟩, ⟨h5, h5'⟩, ⟨h6, h6'⟩, ⟨h7, h7'⟩, h8⟩ := h
  have f : ∀ k, (mv_pf (mv_pr (mv_pf (mv_pr S 2 ws.length x) 0 7 (nI (ws.length + 1))) 3 ms.length y) 0 9 (nI (ms.length + 1))).1 0 k = if k = 9 then nI (ms.length + 1) else if k = 7 then nI (ws.length + 1) else S.1 0 k := by
    intro k
    rw [pf_get]
    show (if _ then _ else (mv_pf (mv_pr S 2 ws.length x) 0 7 (nI (ws.length + 1))).1 0 k) = _
    rw [pf_get]
    simp only [true_and]
    rfl
  have r : ∀ o i, (mv_pf (mv_pr (mv_pf (mv_pr S 2 ws.length x) 0 7 (nI (ws.length + 1))) 3 ms.length y) 0 9 (nI (ms.length + 1))).2.1 o i = if o = 3 ∧ i = ms.length then y else if o = 2 ∧ i = ws.length then x else S.2.1 o i := by
    intro o i
    show (mv_pr (mv_pf (mv_pr S 2 ws.length x) 0 7 (nI (ws.length + 1))) 3 ms.length y).2.1 o i = _
    rw [pr_get]
    show (if _ then _ else (mv_pr S 2 ws.length x).2.1 o i) = _
    rw [pr_get]
  refine ⟨by rw [f]; exact h1, by rw [f]; exact h2, by rw [f]; exact h3, ⟨by rw [f, List.length_append]; rfl, fun i z hz => ?_⟩, ⟨by rw [f, List.length_append]; rfl, fun i z hz => ?_⟩, ⟨by rw [f]; exact h6, yTd_congr (fun i _ => ?_) h6'⟩, ⟨by rw [f]; exact h7, fun i a c hz => ?_⟩, yKp_pf (yKp_pr (yKp_pf (yKp_pr h8 (by omega)) (by omega)) (by omega)) (by omega)⟩
  · rw [r, if_neg (by omega)]
    have := snoc_row h4' i z hz
    simpa using this
  · rw [r]
    have := snoc_row h5' i z hz
    by_cases e : i = ms.length
    · rw [if_pos ⟨rfl, e⟩]; rw [if_pos e] at this; exact this
    · rw [if_neg (by omega), if_neg (by omega)]; rw [if_neg e] at this; exact this
  · rw [r, r, r, if_neg (by omega), if_neg (by omega), if_neg (by omega), if_neg (by omega), if_neg (by omega), if_neg (by omega)]
    exact ⟨rfl, rfl, rfl⟩
  · rw [r, r, if_neg (by omega), if_neg (by omega), if_neg (by omega), if_neg (by omega)]
    exact h7' i a c hz
theorem yAt_mark (h : yAt S0 S w fp p ws ms td hs) : yAt S0 (yMark S ms.length) w fp p ws (ms ++ [30]) td hs := by
  obtain ⟨h1, h2, h3, ⟨h4, h4'⟩, ⟨h5, h5'⟩, ⟨h6, h6'⟩, ⟨h7, h7'⟩, h8⟩ := h
  have f : ∀ k, (yMark S ms.length).1 0 k = if k = 9 then nI (ms.length + 1) else S.1 0 k := by
    intro k
    unfold yMark
    rw [pf_get]
    simp only [true_and]
    rfl
  have r : ∀ o i, (yMark S ms.length).2.1 o i = if o = 3 ∧ i = ms.length then 30 else S.2.1 o i := by
    intro o i
    show (mv_pr S 3 ms.length 30).2.1 o i = _
    rw [pr_get]
  refine ⟨by rw [f]; exact h1, by rw [f]; exact h2, by rw [f]; exact h3, ⟨by rw [f]; exact h4, fun i z hz => ?_⟩, ⟨by rw [f, List.length_append]; rfl, fun i z hz => ?_⟩, ⟨by rw [f]; exact h6, yTd_congr (fun i _ => ?_) h6'⟩, ⟨by rw [f]; exact h7, fun i a c hz => ?_⟩, yKp_pf (yKp_pr h8 (by omega)) (by omega)⟩
  · rw [r, if_neg (by omega)]
    exact h4' i z hz
  · rw [r]
    have := snoc_row h5' i z hz
    by_cases e : i = ms.length
    · rw [if_pos ⟨rfl, e⟩]; rw [if_pos e] at this; exact this
    · rw [if_neg (by omega)]; rw [if_neg e] at this; exact this
  · rw [r, r, r, if_neg (by omega), if_neg (by omega), if_neg (by omega)]
    exact ⟨rfl, rfl, rfl⟩
  · rw [r, r, if_neg (by omega), if_neg (by omega)]
    exact h7' i a c hz
theorem yAt_later (h : yAt S0 S w fp p ws ms td hs) (a b c : Int32) : yAt S0 (yLater S td.length a b c) w fp p ws ms ((a, b, c) :: td) hs := by
  obtain ⟨h1, h2, h3, ⟨h4, h4'⟩, ⟨h5, h5'⟩, ⟨h6, h6'⟩, ⟨h7, h7'⟩, h8⟩ := h
  have f : ∀ k, (yLater S td.length a b c).1 0 k = if k = 20 then nI (td.length + 1) else S.1 0 k := by
    intro k
    unfold yLater
    rw [pf_get]
    simp only [true_and]
    rfl
  have r : ∀ o i, (yLater S td.length a b c).2.1 o i = if o = 10 ∧ i = td.length then c else if o = 9 ∧ i = td.length then b else if o = 8 ∧ i = td.length then a else S.2.1 o i := by
    intro o i
    show (mv_pr (mv_pr (mv_pr S 8 td.length a) 9 td.length b) 10 td.length c).2.1 o i = _
    rw [pr_get, pr_get, pr_get]
  refine ⟨by rw [f]; exact h1, by rw [f]; exact h2, by rw [f]; exact h3, ⟨by rw [f]; exact h4, fun i z hz => ?_⟩, ⟨by rw [f]; exact h5, fun i z hz => ?_⟩, ⟨by rw [f]; rfl, ?_, ?_, ?_, yTd_congr (fun i hi => ?_) h6'⟩, ⟨by rw [f]; exact h7, fun i a c hz => ?_⟩, yKp_pf (yKp_pr (yKp_pr (yKp_pr h8 (by omega)) (by omega)) (by omega)) (by omega)⟩
  · rw [r, if_neg (by omega), if_neg (by omega), if_neg (by omega)]; exact h4' i z hz
  · rw [r, if_neg (by omega), if_neg (by omega), if_neg (by omega)]; exact h5' i z hz
  · rw [r, if_neg (by omega), if_neg (by omega), if_pos ⟨rfl, rfl⟩]
  · rw [r, if_neg (by omega), if_pos ⟨rfl, rfl⟩]
  · rw [r, if_pos ⟨rfl, rfl⟩]
  · rw [r, r, r, if_neg (by omega), if_neg (by omega), if_neg (by omega), if_neg (by omega), if_neg (by omega), if_neg (by omega), if_neg (by omega), if_neg (by omega), if_neg (by omega)]
    exact ⟨rfl, rfl, rfl⟩
  · rw [r, r, if_neg (by omega), if_neg (by omega), if_neg (by omega), if_neg (by omega), if_neg (by omega), if_neg (by omega)]
    exact h7' i _ _ hz
theorem yAt_hole (h : yAt S0 S w fp p ws ms td hs) : yAt S0 (mv_pf S 0 23 (nI (hs.length + 1))) w fp p ws ms td (hs ++ [none]) := by
  obtain ⟨h1, h2, h3, ⟨h4, h4'⟩, ⟨h5, h5'⟩, ⟨h6, h6'⟩, ⟨h7, h7'⟩, h8⟩ := h
  have f : ∀ k, (mv_pf S 0 23 (nI (hs.length + 1))).1 0 k = if k = 23 then nI (hs.length + 1) else S.1 0 k := by
    intro k
    rw [pf_get]
    simp only [true_and]
  refine ⟨by rw [f]; exact h1, by rw [f]; exact h2, by rw [f]; exact h3, ⟨by rw [f]; exact h4, h4'⟩, ⟨by rw [f]; exact h5, h5'⟩, ⟨by rw [f]; exact h6, yTd_congr (S := S) (fun _ _ => ⟨rfl, rfl, rfl⟩) h6'⟩, ⟨by rw [f, List.length_append]; rfl, fun i a c hz => ?_⟩, yKp_pf h8 (by omega)⟩
  by_cases hi : i < hs.length
  · rw [List.getElem?_append_left hi] at hz
    exact h7' i a c hz
  · rw [List.getElem?_append_right (by omega)] at hz
    obtain ⟨z, hz2⟩ := List.getElem?_eq_some_iff.mp hz
    simp at hz2
theorem yAt_rem (h : yAt S0 S w fp p ws ms td hs) (q : Nat) : yAt S0 (yRem S q ws.length ms.length) w fp p ws ms td (hs.set q (some (ws.length, ms.length))) := by
  obtain ⟨h1, h2, h3, ⟨h4, h4'⟩, ⟨h5, h5'⟩, ⟨h6, h6'⟩, ⟨h7, h7'⟩, h8⟩ := h
  have r : ∀ o i, (yRem S q ws.length ms.length).2.1 o i = if o = 12 ∧ i = q then nI ms.length else if o = 11 ∧ i = q then nI ws.length else S.2.1 o i := by
    intro o i
    show (mv_pr (mv_pr S 11 q (nI ws.length)) 12 q (nI ms.length)).2.1 o i = _
    rw [pr_get, pr_get]
  refine ⟨h1, h2, h3, ⟨h4, fun i z hz => ?_⟩, ⟨h5, fun i z hz => ?_⟩, ⟨h6, yTd_congr (fun i _ => ?_) h6'⟩, ⟨by rw [List.length_set]; exact h7, fun i a c hz => ?_⟩, yKp_pr (yKp_pr h8 (by omega)) (by omega)⟩
  · rw [r, if_neg (by omega), if_neg (by omega)]; exact h4' i z hz
  · rw [r, if_neg (by omega), if_neg (by omega)]; exact h5' i z hz
  · rw [r, r, r, if_neg (by omega), if_neg (by omega), if_neg (by omega), if_neg (by omega), if_neg (by omega), if_neg (by omega)]
    exact ⟨rfl, rfl, rfl⟩
  · rw [List.getElem?_set] at hz
    rw [r, r]
    by_cases e : q = i
    · subst e
      rw [if_pos rfl] at hz
      split at hz
      · simp only [Option.some.injEq, Prod.mk.injEq] at hz
        obtain ⟨rfl, rfl⟩ := hz
        rw [if_neg (by omega), if_pos ⟨rfl, rfl⟩, if_pos ⟨rfl, rfl⟩]
        exact ⟨rfl, rfl⟩
      · cases hz
    · rw [if_neg e] at hz
      rw [if_neg (by omega), if_neg (by omega), if_neg (by omega), if_neg (by omega)]
      exact h7' i a c hz
theorem yAt_fill (h : yAt S0 S w fp p ws ms td hs) (a c : Nat) : yAt S0 (yFill S a c ws.length ms.length) w fp p (ws.set a (nI ws.length)) (ms.set c (nI ms.length)) td hs := by
  obtain ⟨h1, h2, h3, ⟨h4, h4'⟩, ⟨h5, h5'⟩, ⟨h6, h6'⟩, ⟨h7, h7'⟩, h8⟩ := h
  have r : ∀ o i, (yFill S a c ws.length ms.length).2.1 o i = if o = 3 ∧ i = c then nI ms.length else if o = 2 ∧ i = a then nI ws.length else S.2.1 o i := by
    intro o i
    show (mv_pr (mv_pr S 2 a (nI ws.length)) 3 c (nI ms.length)).2.1 o i = _
    rw [pr_get, pr_get]
  refine ⟨h1, h2, h3, ⟨by rw [List.length_set]; exact h4, fun i z hz => ?_⟩, ⟨by rw [List.length_set]; exact h5, fun i z hz => ?_⟩, ⟨h6, yTd_congr (fun i _ => ?_) h6'⟩, ⟨h7, fun i a c hz => ?_⟩, yKp_pr (yKp_pr h8 (by omega)) (by omega)⟩
  · rw [r, if_neg (by omega)]
    have := set_row h4' i z hz
    simpa using this
  · rw [r]
    have := set_row h5' i z hz
    by_cases e : i = c
    · rw [if_pos ⟨rfl, e⟩]; rw [if_pos e] at this; exact this
    · rw [if_neg (by omega), if_neg (by omega)]; rw [if_neg e] at this; exact this
  · rw [r, r, r, if_neg (by omega), if_neg (by omega), if_neg (by omega), if_neg (by omega), if_neg (by omega), if_neg (by omega)]
    exact ⟨rfl, rfl, rfl⟩
  · rw [r, r, if_neg (by omega), if_neg (by omega), if_neg (by omega), if_neg (by omega)]
    exact h7' i _ _ hz
theorem yAt_next (h : yAt S0 S w fp p ws ms td hs) : yAt S0 (mv_pf S 0 2 (S.1 0 2 + 1)) w fp (p + 1) ws ms td hs := by
  obtain ⟨h1, h2, h3, ⟨h4, h4'⟩, ⟨h5, h5'⟩, ⟨h6, h6'⟩, ⟨h7, h7'⟩, h8⟩ := h
  have f : ∀ k, (mv_pf S 0 2 (S.1 0 2 + 1)).1 0 k = if k = 2 then nI (p + 1) else S.1 0 k := by
    intro k
    rw [pf_get, h3, nI_1]
    simp only [true_and]
  exact ⟨by rw [f]; exact h1, by rw [f]; exact h2, by rw [f]; rfl, ⟨by rw [f]; exact h4, h4'⟩, ⟨by rw [f]; exact h5, h5'⟩, ⟨by rw [f]; exact h6, yTd_congr (S := S) (fun _ _ => ⟨rfl, rfl, rfl⟩) h6'⟩, ⟨by rw [f]; exact h7, h7'⟩, yKp_pf h8 (by omega)⟩
theorem yAt_pop {a b c : Int32} (h : yAt S0 S w fp p ws ms ((a, b, c) :: td) hs) : yAt S0 (mv_pf S 0 20 (S.1 0 20 - 1)) w fp p ws ms td hs := by
  obtain ⟨h1, h2, h3, ⟨h4, h4'⟩, ⟨h5, h5'⟩, ⟨h6, h6'⟩, ⟨h7, h7'⟩, h8⟩ := h
  have f : ∀ k, (mv_pf S 0 20 (S.1 0 20 - 1)).1 0 k = if k = 20 then nI td.length else S.1 0 k := by
    intro k
    rw [pf_get, h6, List.length_cons, nI_pred]
    simp only [true_and]
  exact ⟨by rw [f]; exact h1, by rw [f]; exact h2, by rw [f]; exact h3, ⟨by rw [f]; exact h4, h4'⟩, ⟨by rw [f]; exact h5, h5'⟩, ⟨by rw [f]; rfl, yTd_congr (S := S) (fun _ _ => ⟨rfl, rfl, rfl⟩) h6'.2.2.2⟩, ⟨by rw [f]; exact h7, h7'⟩, yKp_pf h8 (by omega)⟩
theorem yAt_wrong (h : yAt S0 S w fp p ws ms td hs) (v : Int32) : yAt S0 (mv_pf (mv_pf S 0 3 v) 0 4 (S.1 0 2)) v (nI p) p ws ms td hs := by
  obtain ⟨h1, h2, h3, ⟨h4, h4'⟩, ⟨h5, h5'⟩, ⟨h6, h6'⟩, ⟨h7, h7'⟩, h8⟩ := h
  have f : ∀ k, (mv_pf (mv_pf S 0 3 v) 0 4 (S.1 0 2)).1 0 k = if k = 4 then nI p else if k = 3 then v else S.1 0 k := by
    intro k
    rw [pf_get, pf_get, h3]
    simp only [true_and]
  exact ⟨by rw [f]; rfl, by rw [f]; rfl, by rw [f]; exact h3, ⟨by rw [f]; exact h4, h4'⟩, ⟨by rw [f]; exact h5, h5'⟩, ⟨by rw [f]; exact h6, yTd_congr (S := S) (fun _ _ => ⟨rfl, rfl, rfl⟩) h6'⟩, ⟨by rw [f]; exact h7, h7'⟩, yKp_pf (yKp_pf h8 (by omega)) (by omega)⟩
end YA

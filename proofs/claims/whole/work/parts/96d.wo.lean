/-! JOINS: the way of a join, and its steps up -/
def tJPr (R : Int32 → Int32) (kl : Int32) (L : tT) (f : tT → List (Bool × tT)) : tT → List (Bool × tT)
  | .leaf => []
  | .inner t kr vr rl rr => if R kr < R kl then (true, L) :: f (.inner t kr vr rl rr) else (false, .inner t kr vr rl rr) :: tJPr R kl L f rl
def tJP (R : Int32 → Int32) : tT → tT → List (Bool × tT)
  | .leaf => fun _ => []
  | .inner t k v l g => tJPr R k (.inner t k v l g) (tJP R g)
def tJEr (R : Int32 → Int32) (kl : Int32) (L : tT) (f : tT → tT) : tT → tT
  | .leaf => L
  | .inner t kr vr rl rr => if R kr < R kl then f (.inner t kr vr rl rr) else tJEr R kl L f rl
def tJE (R : Int32 → Int32) : tT → tT → tT
  | .leaf => fun r => r
  | .inner t k v l g => tJEr R k (.inner t k v l g) (tJE R g)
def tJst (s : Nat) (x : Bool × tT) (t : tT) : tT :=
  match x.2 with
  | .leaf => t
  | .inner _ k v l r => if x.1 then .inner s k v l t else .inner s k v t r
theorem tJr_fold {R : Int32 → Int32} {s t0 : Nat} {kl vl : Int32} {ll g : tT} {f : tT → tT} {fe : tT → tT} {fp : tT → List (Bool × tT)} (hf : ∀ r, f r = List.foldr (tJst s) (fe r) (fp r)) : ∀ T : tT, tJr R s kl vl ll (.inner t0 kl vl ll g) f T = List.foldr (tJst s) (tJEr R kl (.inner t0 kl vl ll g) fe T) (tJPr R kl (.inner t0 kl vl ll g) fp T)
  | .leaf => rfl
  | .inner t kr vr rl rr => by
    unfold tJr tJEr tJPr
    by_cases c : R kr < R kl
    · rw [if_pos c, if_pos c, if_pos c, List.foldr_cons, hf]
      simp [tJst]
    · rw [if_neg c, if_neg c, if_neg c, List.foldr_cons, tJr_fold hf rl]
      simp [tJst]
theorem tJn_fold (R : Int32 → Int32) (s : Nat) : ∀ (A B : tT), tJn R s A B = List.foldr (tJst s) (tJE R A B) (tJP R A B)
  | .leaf, _ => rfl
  | .inner t k v l g, B => tJr_fold (fun r => tJn_fold R s g r) B
theorem tJr_len {R : Int32 → Int32} {kl : Int32} {L : tT} {f : tT → Nat} {fp : tT → List (Bool × tT)} (hf : ∀ r, f r = (fp r).length) : ∀ T : tT, tJrN R kl f T = (tJPr R kl L fp T).length
  | .leaf => rfl
  | .inner t kr vr rl rr => by
    unfold tJrN tJPr
    by_cases c : R kr < R kl
    · rw [if_pos c, if_pos c, List.length_cons, hf]
    · rw [if_neg c, if_neg c, List.length_cons, tJr_len hf rl]
theorem tJn_len (R : Int32 → Int32) : ∀ (A B : tT), tJnN R A B = (tJP R A B).length
  | .leaf, _ => rfl
  | .inner t k v l g, B => tJr_len (fun r => tJn_len R g r) B
/-- each round of a join's loop -/
theorem tJP_s {R : Int32 → Int32} {t t' : Nat} {k v k' v' : Int32} {l g l' g' : tT} : tJP R (.inner t k v l g) (.inner t' k' v' l' g') = (if R k' < R k then (true, .inner t k v l g) :: tJP R g (.inner t' k' v' l' g') else (false, .inner t' k' v' l' g') :: tJP R (.inner t k v l g) l') ∧ tJE R (.inner t k v l g) (.inner t' k' v' l' g') = (if R k' < R k then tJE R g (.inner t' k' v' l' g') else tJE R (.inner t k v l g) l') := ⟨rfl, rfl⟩
theorem tJP_r {R : Int32 → Int32} : ∀ A : tT, tJP R A .leaf = [] ∧ tJE R A .leaf = A
  | .leaf => ⟨rfl, rfl⟩
  | .inner _ _ _ _ _ => ⟨rfl, rfl⟩
theorem tJPr_le {R : Int32 → Int32} {kl : Int32} {L : tT} {n : Nat} {fp : tT → List (Bool × tT)} (hf : ∀ r, (fp r).length ≤ n + tN r) : ∀ T : tT, (tJPr R kl L fp T).length ≤ n + tN T + 1
  | .leaf => by simp [tJPr]
  | .inner t kr vr rl rr => by
    unfold tJPr
    by_cases c : R kr < R kl
    · rw [if_pos c, List.length_cons]
      have := hf (.inner t kr vr rl rr)
      omega
    · rw [if_neg c, List.length_cons]
      have := tJPr_le (R := R) (kl := kl) (L := L) hf rl
      simp only [tN]; omega
theorem tJP_le (R : Int32 → Int32) : ∀ (A B : tT), (tJP R A B).length ≤ tN A + tN B
  | .leaf, _ => by simp [tJP]
  | .inner t k v l g, B => by
    have := tJPr_le (R := R) (kl := k) (L := .inner t k v l g) (n := tN g) (fun r => tJP_le R g r) B
    simp only [tJP, tN]; omega
theorem tWo_fold (R : Int32 → Int32) (s : Nat) (k : Int32) : ∀ T : tT, ¬ tFnd k T = .leaf → tWo R s k T = List.foldr (tClm s k) (tJn R s (tL (tFnd k T)) (tR (tFnd k T))) (tPth k T)
  | .leaf, h => absurd rfl h
  | .inner t k' v' l r, h => by
    unfold tWo
    by_cases e : k' = k
    · have e1 : tFnd k (.inner t k' v' l r : tT) = .inner t k' v' l r := by rw [tFnd, if_pos e]
      rw [e1, if_pos e, tPth, if_pos e]; rfl
    · rw [tFnd, if_neg e] at h ⊢
      rw [if_neg e, tPth, if_neg e, List.foldr_cons]
      by_cases c : k < k'
      · rw [if_pos c] at h ⊢
        rw [if_pos c, if_pos c, ← tWo_fold R s k l h]
        simp only [tClm]
        rw [if_pos c]
      · rw [if_neg c] at h ⊢
        rw [if_neg c, if_neg c, ← tWo_fold R s k r h]
        simp only [tClm]
        rw [if_neg c]
theorem tWo_len (R : Int32 → Int32) (k : Int32) : ∀ T : tT, ¬ tFnd k T = .leaf → tWoN R k T = (tPth k T).length + (tJP R (tL (tFnd k T)) (tR (tFnd k T))).length
  | .leaf, h => absurd rfl h
  | .inner t k' v' l r, h => by
    unfold tWoN
    by_cases e : k' = k
    · have e1 : tFnd k (.inner t k' v' l r : tT) = .inner t k' v' l r := by rw [tFnd, if_pos e]
      rw [e1, if_pos e, tPth, if_pos e, tJn_len]; simp [tL, tR]
    · rw [tFnd, if_neg e] at h ⊢
      rw [if_neg e, tPth, if_neg e, List.length_cons]
      by_cases c : k < k'
      · rw [if_pos c] at h ⊢
        rw [if_pos c, if_pos c, tWo_len R k l h]; omega
      · rw [if_neg c] at h ⊢
        rw [if_neg c, if_neg c, tWo_len R k r h]; omega

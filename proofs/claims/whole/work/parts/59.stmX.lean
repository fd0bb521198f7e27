/-! THE CLASS'S COMPILER DOES WHAT THE FUNCTION SAYS: statements -/
def cFin (mn : Bool) (t : Int32) : List Int32 := if t = 8 then [18] else if t = 9 then (if mn then [18, 0] else [17]) else []
section LX
variable {d : Nat} {S T : mv_S} {P : Option Value → mv_S → Prop} {n : Nat} {tk par : Nat → Int32} {mn : Bool} {p b p1 : Nat} {l : List Int32} {s : List (Bool × Nat × Nat)}
theorem x_passEndA (hA : xAt S n tk par mn p b) (he : ∀ S', ¬ tk p = 0 → xKp S S' → S'.1 2 1 = nI p → S'.1 2 2 = -11 → P (some (.int 0)) S') (ho : tk p = 0 → P (some (.int 1)) (xNx S)) : mv_big layX sysX (d + 2) 30 [.ref 2] S P := by
  have ht : xTok S (S.1 2 1) = tk p := by rw [xAt_p hA]; exact xAt_tok hA (by have := xAt_pn hA; omega)
  refine x_passEnd (fun c => ?_) (fun c => ?_)
  · rw [ht] at c
    exact he _ c (xKp_fault S _) ((xFl_1 S _).trans (xAt_p hA)) (xFl_2 S _)
  · rw [ht] at c
    exact ho c
theorem x_emittedA {i : Int32} (h : S.1 1 10 = i → P (some (.int i)) S) (hi : S.1 1 10 = i) : mv_big layX sysX (d + 1) 74 [.ref 1] S P := by
  subst hi
  exact ⟨20, h rfl⟩
theorem x_loopRest {D : Nat} {blk : Nat → Nat → cRes} {k again hole x : Int32} {a c : List Int32} (hB : xDoes D 35 [.ref 2, .int (k + 1)] n tk par mn (fun _ => True) blk) (hbl : ∀ p b, p ≤ n → cLn n 8 p (blk p b)) (hA : xAt S n tk par mn p b) (g : xGo S T p b p1 (a ++ x :: c) s) (hp : p ≤ p1) (hp1 : p1 ≤ n) (hb : b + (a ++ x :: c).length ≤ 8 * p1) (hi : hole = nI (b + a.length))
    (he1 : ∀ w q S', blk p1 (b + (a ++ x :: c).length) = .error (w, q) → xKp S S' → S'.1 2 1 = nI q → S'.1 2 2 = w → P (some (.int 0)) S')
    (he2 : ∀ p2 l2 s2 S', blk p1 (b + (a ++ x :: c).length) = .ok (p2, l2, s2) → ¬ tk p2 = 0 → xKp S S' → S'.1 2 1 = nI p2 → S'.1 2 2 = -11 → P (some (.int 0)) S')
    (ho : ∀ p2 l2 s2 S', blk p1 (b + (a ++ x :: c).length) = .ok (p2, l2, s2) → tk p2 = 0 → p1 ≤ p2 → p2 < n → xGo S S' p b (p2 + 1) (a ++ nI (b + (a ++ x :: c).length + l2.length + 2) :: (c ++ (l2 ++ [12, again]))) (s ++ s2) → P (some (.int 1)) S') : mv_big layX sysX (D + 3) 41 [.ref 2, .int k, .int again, .int hole] T P := by
  have hpn := xAt_pn hA
  have hA1 := xAt_go hA g hp1 hb
  refine ⟨80, ?_⟩
  refine mv_deep (d := D) (by omega) (hB T _ p1 _ trivial hA1 (fun w q S1 e k1 k2 k3 => ?_) (fun p2 l2 s2 S1 e g1 => ?_))
  · exact ⟨fun _ => ⟨Or.inl rfl, he1 w q S1 e (xKp_trans g.1 k1) k2 k3⟩, fun z => absurd rfl z⟩
  · refine ⟨fun z => absurd (show (1 : Int32) = 0 from z) (by decide), fun _ => ?_⟩
    have hl := hbl p1 _ hp1 _ _ _ e
    have g2 := xGo_trans g g1 hp hl.1
    have hA2 := xAt_go hA1 g1 hl.2.1 (by omega)
    refine x_passEndA hA2 (fun S2 z0 k1 k2 k3 => ?_) (fun z0 => ?_)
    · exact ⟨fun z => absurd rfl z, fun _ => ⟨Or.inl rfl, he2 p2 l2 s2 S2 e z0 (xKp_trans g2.1 k1) k2 k3⟩⟩
    · refine ⟨fun _ => ?_, fun z => absurd (show (1 : Int32) = 0 from z) (by decide)⟩
      have hn2 : p2 < n := tk_in (xAt_tk hA) (by rw [z0]; decide)
      have g3 := xGo_n g2 (by omega)
      have en : (a ++ x :: c ++ l2).length = (a ++ x :: c).length + l2.length := List.length_append
      refine x_emitA (w := 12) g3 (by rw [en]; omega) (by omega) (fun S3 g4 => ?_)
      refine x_emitA (w := again) g4 (by rw [List.length_append, en, List.length_singleton]; omega) (by omega) (fun S4 g5 => ?_)
      have g6 : xGo S S4 p b (p2 + 1) (a ++ x :: (c ++ (l2 ++ [12, again]))) (s ++ s2) := by simpa using g5
      have em : b + (a ++ x :: (c ++ (l2 ++ [12, again]))).length = b + (a ++ x :: c).length + l2.length + 2 := by simp; omega
      refine x_fillA g6 hi (by rw [em]; omega) (fun S5 g7 => ?_)
      rw [em] at g7
      exact ⟨Or.inr rfl, ho p2 l2 s2 S5 e z0 hl.1 hn2 g7⟩
theorem x_repetition {D : Nat} {rec : Bool → Nat → Nat → cRes} {blk : Nat → Nat → cRes} {k : Int32} (hN : xDoes D 42 [.ref 2, .int (k + 1)] n tk par mn (fun _ => True) (rec false)) (hr : ∀ m p b, p ≤ n → cLn n 8 p (rec m p b)) (hB : xDoes D 35 [.ref 2, .int (k + 1)] n tk par mn (fun _ => True) blk) (hbl : ∀ p b, p ≤ n → cLn n 8 p (blk p b)) : xDoes (D + 4) 39 [.ref 2, .int k] n tk par mn (fun p => p < n) (cWhile tk rec blk) := by
  intro S P p b hp hA he ho
  have hpn := xAt_pn hA
  have hA1 := xAt_next hA hp
  have g0 := xGo_next (xAt_p hA) (xAt_b hA)
  refine ⟨80, ?_⟩
  refine x_emittedA (i := nI b) (fun _ => ?_) (xAt_b hA1)
  refine mv_deep (d := D) (by omega) (hN (xNx S) _ (p + 1) b trivial hA1 (fun w q S1 e k1 k2 k3 => ?_) (fun p1 l1 s1 S1 e g1 => ?_))
  · refine ⟨fun z => absurd rfl z, fun _ => ⟨Or.inl rfl, he w q S1 ?_ (xKp_trans g0.1 k1) k2 k3⟩⟩
    unfold cWhile; rw [e]
  · refine ⟨fun _ => ?_, fun z => absurd (show (1 : Int32) = 0 from z) (by decide)⟩
    have hl := hr false (p + 1) b hp _ _ _ e
    have g2 : xGo S S1 p b p1 l1 s1 := xGo_t0 g0 g1 (Nat.le_succ p) hl.1
    refine x_emitA (w := 13) g2 (by omega) (by omega) (fun S2 g3 => ?_)
    refine x_holeA g3 (by simp; omega) (by omega) (fun S3 g4 => ?_)
    have g5 : xGo S S3 p b p1 ((l1 ++ [13]) ++ 0 :: []) s1 := g4
    have eb : b + ((l1 ++ [13]) ++ 0 :: []).length = b + l1.length + 2 := by simp; omega
    refine x_loopRest hB hbl hA g5 (by omega) hl.2.1 (by rw [eb]; omega) rfl (fun w q S4 e2 k1 k2 k3 => ?_) (fun p2 l2 s2 S4 e2 c k1 k2 k3 => ?_) (fun p2 l2 s2 S4 e2 c c1 c2 g6 => ?_)
    all_goals rw [eb] at e2
    · refine ⟨Or.inl rfl, he w q S4 ?_ k1 k2 k3⟩
      unfold cWhile; rw [e]; simp only; rw [e2]
    · refine ⟨Or.inl rfl, he (-11) p2 S4 ?_ k1 k2 k3⟩
      unfold cWhile; rw [e]; simp only; rw [e2]; simp only; rw [if_neg c]
    · refine ⟨Or.inr rfl, ho (p2 + 1) _ _ S4 ?_ g6⟩
      unfold cWhile; rw [e]; simp only; rw [e2]; simp only; rw [if_pos c, eb]
      simp
theorem x_eachKey {D : Nat} {blk : Nat → Nat → cRes} {k : Int32} (hB : xDoes D 35 [.ref 2, .int (k + 1)] n tk par mn (fun _ => True) blk) (hbl : ∀ p b, p ≤ n → cLn n 8 p (blk p b)) : xDoes (D + 4) 40 [.ref 2, .int k] n tk par mn (fun p => p < n) (cEach n tk blk) := by
  intro S P p b hp hA he ho
  have hpn := xAt_pn hA
  have hA1 := xAt_next hA hp
  have g0 := xGo_next (xAt_p hA) (xAt_b hA)
  refine ⟨160, ?_⟩
  refine x_bareA (lim := 6) hA1 (fun w q S1 e k1 k2 k3 => ?_) (fun e1 => ?_)
  · refine ⟨fun _ => ⟨Or.inl rfl, he w q S1 ?_ (xKp_trans g0.1 k1) k2 k3⟩, fun z => absurd rfl z⟩
    unfold cEach; rw [e]
  refine ⟨fun z => absurd (show (1 : Int32) = 0 from z) (by decide), fun _ => ?_⟩
  have g1 := xGo_n g0 (by omega)
  have hA2 := xAt_next hA1 (cBare_ok e1).2.1
  refine x_bareA (lim := 14) hA2 (fun w q S1 e k1 k2 k3 => ?_) (fun e2 => ?_)
  · refine ⟨fun _ => ⟨Or.inl rfl, he w q S1 ?_ (xKp_trans g1.1 k1) k2 k3⟩, fun z => absurd rfl z⟩
    unfold cEach; rw [e1]; simp only; rw [e]
  refine ⟨fun z => absurd (show (1 : Int32) = 0 from z) (by decide), fun _ => ?_⟩
  have g2 := xGo_n g1 (by omega)
  have hA3 := xAt_next hA2 (cBare_ok e2).2.1
  refine x_bareA (lim := 14) hA3 (fun w q S1 e k1 k2 k3 => ?_) (fun e3 => ?_)
  · refine ⟨fun z => absurd rfl z, fun _ => ⟨Or.inl rfl, he w q S1 ?_ (xKp_trans g2.1 k1) k2 k3⟩⟩
    unfold cEach; rw [e1]; simp only; rw [e2]; simp only; rw [e]
  refine ⟨fun _ => ?_, fun z => absurd (show (1 : Int32) = 0 from z) (by decide)⟩
  have hp4 := (cBare_ok e3).2.1
  have g3 := xGo_n g2 (by omega)
  have bb : b + 8 ≤ 8 * (p + 1) := by omega
  refine x_emitA (w := 19) g3 (by simp; omega) (by omega) (fun S1 g4 => ?_)
  have hB1 := xAt_go hA g4 (by omega) (by simp; omega)
  refine x_tokA hB1 (q := p + 1) (show S.1 2 1 + 1 = _ by rw [xAt_p hA, nI_1]) (by omega) ?_
  refine x_emitA (w := tk (p + 1)) g4 (by simp; omega) (by omega) (fun S2 g5 => ?_)
  refine x_emittedA (i := nI (b + 2)) (fun _ => ?_) (by rw [g5.2.2.1]; simp)
  refine x_emitA (w := 29) g5 (by simp; omega) (by omega) (fun S3 g6 => ?_)
  have hB2 := xAt_go hA g6 (by omega) (by simp; omega)
  refine x_tokA hB2 (q := p + 2) (show S.1 2 1 + 2 = _ by rw [xAt_p hA, show (2 : Int32) = nI 2 from rfl, nI_add]) (by omega) ?_
  refine x_emitA (w := tk (p + 2)) g6 (by simp; omega) (by omega) (fun S4 g7 => ?_)
  have hB3 := xAt_go hA g7 (by omega) (by simp; omega)
  refine x_tokA hB3 (q := p + 3) (show S.1 2 1 + 3 = _ by rw [xAt_p hA, show (3 : Int32) = nI 3 from rfl, nI_add]) (by omega) ?_
  refine x_emitA (w := tk (p + 3)) g7 (by simp; omega) (by omega) (fun S5 g8 => ?_)
  refine x_holeA g8 (by simp; omega) (by omega) (fun S6 g9 => ?_)
  have g10 : xGo S S6 p b (p + 4) ([19, tk (p + 1), 29, tk (p + 2), tk (p + 3)] ++ 0 :: []) [] := by simpa using g9
  have eb : b + ([19, tk (p + 1), 29, tk (p + 2), tk (p + 3)] ++ 0 :: []).length = b + 6 := by simp
  refine x_loopRest hB hbl hA g10 (by omega) hp4 (by rw [eb]; omega) (by congr 1) (fun w q S4 e k1 k2 k3 => ?_) (fun p2 l2 s2 S4 e c k1 k2 k3 => ?_) (fun p2 l2 s2 S4 e c c1 c2 g11 => ?_)
  all_goals rw [eb] at e
  · refine ⟨Or.inl rfl, he w q S4 ?_ k1 k2 k3⟩
    unfold cEach; rw [e1]; simp only; rw [e2]; simp only; rw [e3]; simp only; rw [e]
  · refine ⟨Or.inl rfl, he (-11) p2 S4 ?_ k1 k2 k3⟩
    unfold cEach; rw [e1]; simp only; rw [e2]; simp only; rw [e3]; simp only; rw [e]; simp only; rw [if_neg c]
  · refine ⟨Or.inr rfl, ho (p2 + 1) _ _ S4 ?_ g11⟩
    unfold cEach; rw [e1]; simp only; rw [e2]; simp only; rw [e3]; simp only; rw [e]; simp only; rw [if_pos c, eb]
    simp
theorem x_finish (hA : xAt S n tk par mn p b) (g : xGo S T p b p1 l s) (hn : ∀ e, (false, p, e) ∉ s) (hp : p < n) (hp1 : p < p1) (hp2 : p1 ≤ n) (hb : b + l.length ≤ 8 * p1) (h : ∀ T', xGo S T' p b p1 (l ++ cFin mn (tk p)) (s ++ [(false, p, p1)]) → P none T') : mv_big layX sysX (d + 3) 37 [.ref 2, .int (S.1 2 1)] T P := by
  have hpn := xAt_pn hA
  refine ⟨60, ?_⟩
  refine x_behindA g (xAt_p hA) g.2.1 hn (by omega) hp1 (fun S1 g1 => ?_)
  have hA1 := xAt_go hA g1 hp2 hb
  refine x_tokA hA1 (q := p) (xAt_p hA) (by omega) ?_
  refine ⟨fun c8 => ⟨fun c9 => ⟨fun _ => ?_, fun z => absurd z c9⟩, fun c9 => ⟨fun m0 => ⟨fun z => absurd c9 z, fun _ => ?_⟩, fun m0 => ?_⟩⟩, fun c8 => ?_⟩
  · have c8 : ¬ tk p = 8 := c8
    have c9 : ¬ tk p = 9 := c9
    refine h S1 ?_
    unfold cFin
    rw [if_neg c8, if_neg c9, List.append_nil]
    exact g1
  · have c8 : ¬ tk p = 8 := c8
    have c9 : tk p = 9 := c9
    have m0 : S1.1 2 3 = 0 := m0
    refine x_emitA (w := 17) g1 (by omega) (by omega) (fun S2 g2 => h S2 ?_)
    have hm : mn = false := by
      have := hA1.2.2.2.2.2.1
      rw [m0] at this
      cases mn
      · rfl
      · exact absurd this (by decide)
    unfold cFin
    rw [if_neg c8, if_pos c9, hm]
    exact g2
  · have c8 : ¬ tk p = 8 := c8
    have c9 : tk p = 9 := c9
    have m0 : ¬ S1.1 2 3 = 0 := m0
    refine x_emitA (w := 18) g1 (by omega) (by omega) (fun S2 g2 => ?_)
    refine x_emitA (w := 0) g2 (by simp; omega) (by omega) (fun S3 g3 => h S3 ?_)
    have hm : mn = true := by
      have := hA1.2.2.2.2.2.1
      cases mn
      · exact absurd this m0
      · rfl
    unfold cFin
    rw [if_neg c8, if_pos c9, hm]
    simpa using g3
  · have c8 : tk p = 8 := c8
    refine x_emitA (w := 18) g1 (by omega) (by omega) (fun S2 g2 => h S2 ?_)
    unfold cFin
    rw [if_pos c8]
    exact g2
end LX

/-! THE CLASS'S COMPILER DOES WHAT THE FUNCTION SAYS: words laid, holes, notes; a plain token; AND and OR -/
theorem set_mid {α : Type} (a c : List α) (x v : α) : (a ++ x :: c).set a.length v = a ++ v :: c := by
  induction a with
  | nil => rfl
  | cons y a ih => simp [ih]
section LX
variable {d : Nat} {S T : mv_S} {P : Option Value → mv_S → Prop} {n : Nat} {tk par : Nat → Int32} {mn : Bool} {p b p1 : Nat} {l : List Int32} {s : List (Bool × Nat × Nat)}
theorem x_emitA {w : Int32} (g : xGo S T p b p1 l s) (hb : b + l.length < 2 ^ 30) (hp : p ≤ p1) (h : ∀ T', xGo S T' p b p1 (l ++ [w]) s → P none T') : mv_big layX sysX (d + 2) 71 [.ref 1, .int w] T P := x_emit (h _ (xGo_e g hb hp))
theorem x_holeA (g : xGo S T p b p1 l s) (hb : b + l.length < 2 ^ 30) (hp : p ≤ p1) (h : ∀ T', xGo S T' p b p1 (l ++ [0]) s → P (some (.int (nI (b + l.length)))) T') : mv_big layX sysX (d + 3) 72 [.ref 1] T P := by
  refine x_emitHole ?_
  rw [g.2.2.1]
  exact h _ (xGo_e g hb hp)
theorem x_fillA {a c : List Int32} {x i : Int32} (g : xGo S T p b p1 (a ++ x :: c) s) (hi : i = nI (b + a.length)) (hb : b + (a ++ x :: c).length < 2 ^ 30) (h : ∀ T', xGo S T' p b p1 (a ++ nI (b + (a ++ x :: c).length) :: c) s → P none T') : mv_big layX sysX (d + 2) 73 [.ref 1, .int i] T P := by
  subst hi
  refine x_fillHole (h _ ?_)
  have := xGo_fill g (k := a.length) (by simp) hb
  rw [set_mid] at this
  exact this
theorem x_behindA {i j : Int32} (g : xGo S T p b p1 l s) (hi : i = nI p) (hj : j = nI p1) (hn : ∀ e, (false, p, e) ∉ s) (hp : p < 700) (hp1 : p < p1) (h : ∀ T', xGo S T' p b p1 l (s ++ [(false, p, p1)]) → P none T') : mv_big layX sysX (d + 2) 59 [.ref 1, .int i, .int j] T P := by
  subst hi; subst hj
  exact x_setBehind (h _ (xGo_note false g hn hp hp1))
theorem x_turnA {i j : Int32} (g : xGo S T p b p1 l s) (hi : i = nI p) (hj : j = nI p1) (hn : ∀ e, (true, p, e) ∉ s) (hp : p < 700) (hp1 : p < p1) (h : ∀ T', xGo S T' p b p1 l (s ++ [(true, p, p1)]) → P none T') : mv_big layX sysX (d + 2) 61 [.ref 1, .int i, .int j] T P := by
  subst hi; subst hj
  exact x_setTurn (h _ (xGo_note true g hn hp hp1))
theorem x_plain {D : Nat} {rec : Bool → Nat → Nat → cRes} {k : Int32} (hM : xDoes D 43 [.ref 2, .int (k + 1)] n tk par mn (fun _ => True) (rec true)) (hN : xDoes D 42 [.ref 2, .int (k + 1)] n tk par mn (fun _ => True) (rec false)) (hr : ∀ m p b, p ≤ n → cLn n 8 p (rec m p b)) : xDoes (D + 5) 45 [.ref 2, .int k] n tk par mn (fun p => p < n) (cPlain n tk par rec) := by
  intro S P p b hp hA he ho
  have hpn := xAt_pn hA
  have hA1 := xAt_next hA hp
  have g0 := xGo_next (xAt_p hA) (xAt_b hA)
  have ht := xAt_tk hA
  refine ⟨120, ?_⟩
  refine x_tokN hA ?_
  refine x_argument (S := xNx S) hA1 (fun w q S1 e k1 k2 k3 => ?_) (fun q S1 e g1 => ?_)
  · refine ⟨fun _ => ⟨Or.inl rfl, he w q S1 ?_ (xKp_trans g0.1 k1) k2 k3⟩, fun z => absurd rfl z⟩
    unfold cPlain; rw [e]
  · refine ⟨fun z => absurd (show (1 : Int32) = 0 from z) (by decide), fun _ => ?_⟩
    have hq : p + 1 ≤ q ∧ q ≤ n := by
      rcases cArg_ok ht e with ⟨_, rfl⟩ | ⟨_, rfl, h4, _⟩ <;> omega
    have hA2 : xAt S1 n tk par mn q b := xAt_go hA1 g1 hq.2 (by simp; omega)
    refine x_parts (S := S1) (q := p) hM hN hr (xAt_p hA) (by omega) hA2 (fun w q' S2 e2 k1 k2 k3 => ?_) (fun p3 l s S2 e2 g2 => ?_)
    · refine ⟨fun z => absurd rfl z, fun _ => ⟨Or.inl rfl, he w q' S2 ?_ (xKp_trans g0.1 (xKp_trans g1.1 k1)) k2 k3⟩⟩
      unfold cPlain; rw [e]; simp only; rw [e2]
    · refine ⟨fun _ => ?_, fun z => absurd (show (1 : Int32) = 0 from z) (by decide)⟩
      have hl := cParts_ln hr hq.2 _ _ _ e2
      have g3 : xGo S S2 p b p3 l s := xGo_t0 g0 (xGo_t0 g1 g2 hq.1 hl.1) (Nat.le_succ p) (by omega)
      have spec : cPlain n tk par rec p b = .ok (p3, l ++ tkWord (tk p) :: (if 0 < tkArg (tk p) then [tk (p + 1)] else []), s) := by
        unfold cPlain; rw [e]; simp only; rw [e2]
      refine x_wordT ?_
      refine x_emitA g3 (by omega) (by omega) (fun S3 g4 => ?_)
      refine x_arguments ?_
      refine ⟨fun c => ⟨Or.inr rfl, ho _ _ _ S3 spec ?_⟩, fun c => ?_⟩
      · have c : tkArg (tk p) ≤ 0 := c
        rw [if_neg (Int32.not_lt.mpr c)]
        exact g4
      · have c : ¬ tkArg (tk p) ≤ 0 := c
        have hA3 : xAt S3 n tk par mn p3 (b + (l ++ [tkWord (tk p)]).length) := xAt_go hA g4 hl.2.1 (by simp; omega)
        refine x_tokA hA3 (q := p + 1) (show S.1 2 1 + 1 = _ by rw [xAt_p hA, nI_1]) (by omega) ?_
        refine x_emitA g4 (by simp; omega) (by omega) (fun S4 g5 => ?_)
        refine ⟨Or.inr rfl, ho _ _ _ S4 spec ?_⟩
        rw [if_pos (Int32.not_le.mp c)]
        simpa using g5
theorem x_shortcut1 {D : Nat} {rec : Bool → Nat → Nat → cRes} {k : Int32} (hN : xDoes D 42 [.ref 2, .int (k + 1)] n tk par mn (fun _ => True) (rec false)) (hr : ∀ m p b, p ≤ n → cLn n 8 p (rec m p b)) : xDoes (D + 4) 44 [.ref 2, .int k] n tk par mn (fun p => p < n ∧ tk p = 30) (fun p b => cEither rec (tk p) p b) := by
  intro S P p b hpq hA he ho
  have hp := hpq.1
  have h30 := hpq.2
  have hpn := xAt_pn hA
  have hA1 := xAt_next hA hp
  have g0 := xGo_next (xAt_p hA) (xAt_b hA)
  have ht := xAt_tk hA
  refine ⟨200, ?_⟩
  refine x_tokN hA ?_
  refine ⟨fun z => absurd h30 z, fun z => ?_⟩
  refine mv_deep (d := D) (by omega) (hN (xNx S) _ (p + 1) b trivial hA1 (fun w q S1 e k1 k2 k3 => ?_) (fun p1 l1 s1 S1 e g1 => ?_))
  · refine ⟨fun z => absurd rfl z, fun _ => ⟨Or.inl rfl, he w q S1 ?_ (xKp_trans g0.1 k1) k2 k3⟩⟩
    show cEither rec (tk p) p b = _
    unfold cEither; rw [e]
  · refine ⟨fun _ => ?_, fun z => absurd (show (1 : Int32) = 0 from z) (by decide)⟩
    refine ⟨fun z => absurd (show (1 : Int32) = 0 from z) (by decide), fun z => ?_⟩
    have hl := hr false (p + 1) b hp _ _ _ e
    have g2 : xGo S S1 p b p1 l1 s1 := xGo_t0 g0 g1 (Nat.le_succ p) hl.1
    refine x_emitA (w := 13) g2 (by omega) (by omega) (fun S2 g3 => ?_)
    refine x_holeA g3 (by simp; omega) (by omega) (fun S3 g4 => ?_)
    have eb : b + (l1 ++ [13] ++ [0]).length = b + l1.length + 2 := by simp; omega
    have hA2 : xAt S3 n tk par mn p1 (b + l1.length + 2) := by
      have := xAt_go hA g4 hl.2.1 (by rw [eb]; omega)
      rw [eb] at this; exact this
    refine mv_deep (d := D) (by omega) (hN S3 _ p1 (b + l1.length + 2) trivial hA2 (fun w q S4 e2 k1 k2 k3 => ?_) (fun p2 l2 s2 S4 e2 g5 => ?_))
    · refine ⟨fun z => absurd rfl z, fun _ => ⟨Or.inl rfl, he w q S4 ?_ (xKp_trans g4.1 k1) k2 k3⟩⟩
      show cEither rec (tk p) p b = _
      unfold cEither; rw [e]; simp only; rw [e2]
    · refine ⟨fun _ => ?_, fun z => absurd (show (1 : Int32) = 0 from z) (by decide)⟩
      have hl2 := hr false p1 _ hl.2.1 _ _ _ e2
      rw [← eb] at g5
      have g6 := xGo_trans g4 g5 (by omega) hl2.1
      have en : (l1 ++ [13] ++ [0] ++ l2).length = l1.length + 2 + l2.length := by simp; omega
      refine x_emitA (w := 11) g6 (by rw [en]; omega) (by omega) (fun S5 g7 => ?_)
      refine x_emitA (w := 11) g7 (by simp; omega) (by omega) (fun S6 g8 => ?_)
      refine x_emitA (w := 12) g8 (by simp; omega) (by omega) (fun S7 g9 => ?_)
      refine x_holeA g9 (by simp; omega) (by omega) (fun S8 g10 => ?_)
      have g11 : xGo S S8 p b p2 ((l1 ++ [13]) ++ 0 :: (l2 ++ [11, 11, 12, 0])) (s1 ++ s2) := by simpa using g10
      refine x_fillA g11 rfl (by simp; omega) (fun S9 g12 => ?_)
      refine x_emitA (w := 1) g12 (by simp; omega) (by omega) (fun S10 g13 => ?_)
      refine ⟨fun z => absurd (show (1 : Int32) = 0 from z) (by decide), fun z => ?_⟩
      refine x_emitA (w := 0) g13 (by simp; omega) (by omega) (fun S11 g14 => ?_)
      have ew : b + ((l1 ++ [13]) ++ 0 :: (l2 ++ [11, 11, 12, 0])).length = b + l1.length + 2 + l2.length + 4 := by simp; omega
      rw [ew] at g14
      have g15 : xGo S S11 p b p2 ((l1 ++ [13] ++ nI (b + l1.length + 2 + l2.length + 4) :: (l2 ++ [11, 11, 12])) ++ 0 :: [1, 0]) (s1 ++ s2) := by simpa using g14
      refine x_fillA g15 (by congr 1; simp) (by simp; omega) (fun S12 g16 => ?_)
      refine ⟨Or.inr rfl, ho p2 _ (s1 ++ s2) S12 ?_ g16⟩
      have ev : b + ((l1 ++ [13] ++ nI (b + l1.length + 2 + l2.length + 4) :: (l2 ++ [11, 11, 12])) ++ 0 :: [1, 0]).length = b + l1.length + 2 + l2.length + 6 := by simp; omega
      rw [ev]
      show cEither rec (tk p) p b = _
      unfold cEither; rw [e]; simp only; rw [e2]
      simp [h30]
theorem x_shortcut2 {D : Nat} {rec : Bool → Nat → Nat → cRes} {k : Int32} (hN : xDoes D 42 [.ref 2, .int (k + 1)] n tk par mn (fun _ => True) (rec false)) (hr : ∀ m p b, p ≤ n → cLn n 8 p (rec m p b)) : xDoes (D + 4) 44 [.ref 2, .int k] n tk par mn (fun p => p < n ∧ ¬ tk p = 30) (fun p b => cEither rec (tk p) p b) := by
  intro S P p b hpq hA he ho
  have hp := hpq.1
  have h30 := hpq.2
  have hpn := xAt_pn hA
  have hA1 := xAt_next hA hp
  have g0 := xGo_next (xAt_p hA) (xAt_b hA)
  have ht := xAt_tk hA
  refine ⟨200, ?_⟩
  refine x_tokN hA ?_
  refine ⟨fun z => ?_, fun z => absurd z h30⟩
  refine mv_deep (d := D) (by omega) (hN (xNx S) _ (p + 1) b trivial hA1 (fun w q S1 e k1 k2 k3 => ?_) (fun p1 l1 s1 S1 e g1 => ?_))
  · refine ⟨fun z => absurd rfl z, fun _ => ⟨Or.inl rfl, he w q S1 ?_ (xKp_trans g0.1 k1) k2 k3⟩⟩
    show cEither rec (tk p) p b = _
    unfold cEither; rw [e]
  · refine ⟨fun _ => ?_, fun z => absurd (show (1 : Int32) = 0 from z) (by decide)⟩
    refine ⟨fun z => ?_, fun z => absurd rfl z⟩
    have hl := hr false (p + 1) b hp _ _ _ e
    have g2 : xGo S S1 p b p1 l1 s1 := xGo_t0 g0 g1 (Nat.le_succ p) hl.1
    refine x_emitA (w := 14) g2 (by omega) (by omega) (fun S2 g3 => ?_)
    refine x_holeA g3 (by simp; omega) (by omega) (fun S3 g4 => ?_)
    have eb : b + (l1 ++ [14] ++ [0]).length = b + l1.length + 2 := by simp; omega
    have hA2 : xAt S3 n tk par mn p1 (b + l1.length + 2) := by
      have := xAt_go hA g4 hl.2.1 (by rw [eb]; omega)
      rw [eb] at this; exact this
    refine mv_deep (d := D) (by omega) (hN S3 _ p1 (b + l1.length + 2) trivial hA2 (fun w q S4 e2 k1 k2 k3 => ?_) (fun p2 l2 s2 S4 e2 g5 => ?_))
    · refine ⟨fun z => absurd rfl z, fun _ => ⟨Or.inl rfl, he w q S4 ?_ (xKp_trans g4.1 k1) k2 k3⟩⟩
      show cEither rec (tk p) p b = _
      unfold cEither; rw [e]; simp only; rw [e2]
    · refine ⟨fun _ => ?_, fun z => absurd (show (1 : Int32) = 0 from z) (by decide)⟩
      have hl2 := hr false p1 _ hl.2.1 _ _ _ e2
      rw [← eb] at g5
      have g6 := xGo_trans g4 g5 (by omega) hl2.1
      have en : (l1 ++ [14] ++ [0] ++ l2).length = l1.length + 2 + l2.length := by simp; omega
      refine x_emitA (w := 11) g6 (by rw [en]; omega) (by omega) (fun S5 g7 => ?_)
      refine x_emitA (w := 11) g7 (by simp; omega) (by omega) (fun S6 g8 => ?_)
      refine x_emitA (w := 12) g8 (by simp; omega) (by omega) (fun S7 g9 => ?_)
      refine x_holeA g9 (by simp; omega) (by omega) (fun S8 g10 => ?_)
      have g11 : xGo S S8 p b p2 ((l1 ++ [14]) ++ 0 :: (l2 ++ [11, 11, 12, 0])) (s1 ++ s2) := by simpa using g10
      refine x_fillA g11 rfl (by simp; omega) (fun S9 g12 => ?_)
      refine x_emitA (w := 1) g12 (by simp; omega) (by omega) (fun S10 g13 => ?_)
      refine ⟨fun z => ?_, fun z => absurd rfl z⟩
      refine x_emitA (w := 1) g13 (by simp; omega) (by omega) (fun S11 g14 => ?_)
      have ew : b + ((l1 ++ [14]) ++ 0 :: (l2 ++ [11, 11, 12, 0])).length = b + l1.length + 2 + l2.length + 4 := by simp; omega
      rw [ew] at g14
      have g15 : xGo S S11 p b p2 ((l1 ++ [14] ++ nI (b + l1.length + 2 + l2.length + 4) :: (l2 ++ [11, 11, 12])) ++ 0 :: [1, 1]) (s1 ++ s2) := by simpa using g14
      refine x_fillA g15 (by congr 1; simp) (by simp; omega) (fun S12 g16 => ?_)
      refine ⟨Or.inr rfl, ho p2 _ (s1 ++ s2) S12 ?_ g16⟩
      have ev : b + ((l1 ++ [14] ++ nI (b + l1.length + 2 + l2.length + 4) :: (l2 ++ [11, 11, 12])) ++ 0 :: [1, 1]).length = b + l1.length + 2 + l2.length + 6 := by simp; omega
      rw [ev]
      show cEither rec (tk p) p b = _
      unfold cEither; rw [e]; simp only; rw [e2]
      simp [h30]
end LX

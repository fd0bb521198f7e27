/-! THE CLASS'S COMPILER DOES WHAT THE FUNCTION SAYS: IF, a statement, a block -/
section LX
variable {d : Nat} {S T : mv_S} {P : Option Value → mv_S → Prop} {n : Nat} {tk par : Nat → Int32} {mn : Bool} {p b p1 : Nat} {l : List Int32} {s : List (Bool × Nat × Nat)}
theorem x_choice {D : Nat} {rec : Bool → Nat → Nat → cRes} {blk : Nat → Nat → cRes} {k : Int32} (hN : xDoes D 42 [.ref 2, .int (k + 1)] n tk par mn (fun _ => True) (rec false)) (hr : ∀ m p b, p ≤ n → cLn n 8 p (rec m p b)) (hnt : ∀ m p b, p ≤ n → cNt p (rec m p b)) (hB : xDoes D 35 [.ref 2, .int (k + 1)] n tk par mn (fun _ => True) blk) (hbl : ∀ p b, p ≤ n → cLn n 8 p (blk p b)) (hbn : ∀ p b, p ≤ n → cNt p (blk p b)) : xDoes (D + 4) 38 [.ref 2, .int k] n tk par mn (fun p => p < n) (cIf tk rec blk) := by
  intro S P p b hp hA he ho
  have hpn := xAt_pn hA
  have hA1 := xAt_next hA hp
  have g0 := xGo_next (xAt_p hA) (xAt_b hA)
  refine ⟨160, ?_⟩
  refine mv_deep (d := D) (by omega) (hN (xNx S) _ (p + 1) b trivial hA1 (fun w q S1 e k1 k2 k3 => ?_) (fun p1 l1 s1 S1 e g1 => ?_))
  · refine ⟨fun z => absurd rfl z, fun _ => ⟨Or.inl rfl, he w q S1 ?_ (xKp_trans g0.1 k1) k2 k3⟩⟩
    unfold cIf; rw [e]
  refine ⟨fun _ => ?_, fun z => absurd (show (1 : Int32) = 0 from z) (by decide)⟩
  have hl := hr false (p + 1) b hp _ _ _ e
  have g2 : xGo S S1 p b p1 l1 s1 := xGo_t0 g0 g1 (Nat.le_succ p) hl.1
  refine x_emitA (w := 13) g2 (by omega) (by omega) (fun S2 g3 => ?_)
  refine x_holeA g3 (by simp; omega) (by omega) (fun S3 g4 => ?_)
  have eb : b + (l1 ++ [13] ++ [0]).length = b + l1.length + 2 := by simp; omega
  have hA2 : xAt S3 n tk par mn p1 (b + l1.length + 2) := by
    have := xAt_go hA g4 hl.2.1 (by rw [eb]; omega)
    rw [eb] at this; exact this
  refine mv_deep (d := D) (by omega) (hB S3 _ p1 (b + l1.length + 2) trivial hA2 (fun w q S4 e2 k1 k2 k3 => ?_) (fun p2 l2 s2 S4 e2 g5 => ?_))
  · refine ⟨fun z => absurd rfl z, fun _ => ⟨Or.inl rfl, he w q S4 ?_ (xKp_trans g4.1 k1) k2 k3⟩⟩
    unfold cIf; rw [e]; simp only; rw [e2]
  refine ⟨fun _ => ?_, fun z => absurd (show (1 : Int32) = 0 from z) (by decide)⟩
  have hl2 := hbl p1 _ hl.2.1 _ _ _ e2
  rw [← eb] at g5
  have g6 := xGo_trans g4 g5 (by omega) hl2.1
  have en : (l1 ++ [13] ++ [0] ++ l2).length = l1.length + 2 + l2.length := by simp; omega
  refine x_turnA g6 (xAt_p hA) g6.2.1 (fun z hz => ?_) (by omega) (by omega) (fun S5 g7 => ?_)
  · rcases List.mem_append.mp hz with hz | hz
    · have := hnt false (p + 1) b hp _ _ _ e true p z hz
      omega
    · have := hbn p1 _ hl.2.1 _ _ _ e2 true p z hz
      omega
  have hA3 := xAt_go hA g7 hl2.2.1 (by rw [en]; omega)
  refine x_tokN hA3 ?_
  refine ⟨fun c4 => ?_, fun c4 => ?_⟩
  · have c4 : ¬ tk p2 = 4 := c4
    have g8 : xGo S S5 p b p2 ((l1 ++ [13]) ++ 0 :: l2) (s1 ++ s2 ++ [(true, p, p2)]) := by simpa using g7
    have em : b + ((l1 ++ [13]) ++ 0 :: l2).length = b + l1.length + 2 + l2.length := by simp; omega
    refine x_fillA g8 rfl (by rw [em]; omega) (fun S6 g9 => ?_)
    rw [em] at g9
    have hA4 := xAt_go hA g9 hl2.2.1 (by simp; omega)
    refine x_passEndA hA4 (fun S7 c k1 k2 k3 => ?_) (fun c => ?_)
    · refine ⟨Or.inl rfl, he (-11) p2 S7 ?_ (xKp_trans g9.1 k1) k2 k3⟩
      unfold cIf; rw [e]; simp only; rw [e2]; simp only; rw [if_neg c4, if_neg c]
    · refine ⟨Or.inr rfl, ho (p2 + 1) _ _ _ ?_ (xGo_n g9 (by omega))⟩
      unfold cIf; rw [e]; simp only; rw [e2]; simp only; rw [if_neg c4, if_pos c]
      simp
  · have c4 : tk p2 = 4 := c4
    have hn2 : p2 < n := tk_in (xAt_tk hA) (by rw [c4]; decide)
    have g8 := xGo_n g7 (by omega)
    refine x_emitA (w := 12) g8 (by rw [en]; omega) (by omega) (fun S6 g9 => ?_)
    refine x_holeA g9 (by simp; omega) (by omega) (fun S7 g10 => ?_)
    have g11 : xGo S S7 p b (p2 + 1) ((l1 ++ [13]) ++ 0 :: (l2 ++ [12, 0])) (s1 ++ s2 ++ [(true, p, p2)]) := by simpa using g10
    have em : b + ((l1 ++ [13]) ++ 0 :: (l2 ++ [12, 0])).length = b + l1.length + 2 + l2.length + 2 := by simp; omega
    refine x_fillA g11 rfl (by rw [em]; omega) (fun S8 g12 => ?_)
    rw [em] at g12
    have eo : b + ((l1 ++ [13]) ++ nI (b + l1.length + 2 + l2.length + 2) :: (l2 ++ [12, 0])).length = b + l1.length + 2 + l2.length + 2 := by simp; omega
    have hA4 : xAt S8 n tk par mn (p2 + 1) (b + l1.length + 2 + l2.length + 2) := by
      have := xAt_go hA g12 (by omega) (by rw [eo]; omega)
      rw [eo] at this; exact this
    refine mv_deep (d := D) (by omega) (hB S8 _ (p2 + 1) _ trivial hA4 (fun w q S9 e3 k1 k2 k3 => ?_) (fun p3 l3 s3 S9 e3 g13 => ?_))
    · refine ⟨fun z => absurd rfl z, fun _ => ⟨Or.inl rfl, he w q S9 ?_ (xKp_trans g12.1 k1) k2 k3⟩⟩
      unfold cIf; rw [e]; simp only; rw [e2]; simp only; rw [if_pos c4, e3]
    refine ⟨fun _ => ?_, fun z => absurd (show (1 : Int32) = 0 from z) (by decide)⟩
    have hl3 := hbl (p2 + 1) _ hn2 _ _ _ e3
    rw [← eo] at g13
    have g14 := xGo_trans g12 g13 (by omega) hl3.1
    have g15 : xGo S S9 p b p3 ((l1 ++ 13 :: nI (b + l1.length + 2 + l2.length + 2) :: (l2 ++ [12])) ++ 0 :: l3) (s1 ++ (s2 ++ (true, p, p2) :: s3)) := by simpa using g14
    have ep : b + ((l1 ++ 13 :: nI (b + l1.length + 2 + l2.length + 2) :: (l2 ++ [12])) ++ 0 :: l3).length = b + l1.length + 2 + l2.length + 2 + l3.length := by simp; omega
    refine x_fillA g15 (by congr 1; simp) (by rw [ep]; omega) (fun S10 g16 => ?_)
    rw [ep] at g16
    have hA5 := xAt_go hA g16 hl3.2.1 (by simp; omega)
    refine x_passEndA hA5 (fun S11 c k1 k2 k3 => ?_) (fun c => ?_)
    · refine ⟨Or.inl rfl, he (-11) p3 S11 ?_ (xKp_trans g16.1 k1) k2 k3⟩
      unfold cIf; rw [e]; simp only; rw [e2]; simp only; rw [if_pos c4, e3]; simp only; rw [if_neg c]
    · refine ⟨Or.inr rfl, ho (p3 + 1) _ _ _ ?_ (xGo_n g16 (by omega))⟩
      unfold cIf; rw [e]; simp only; rw [e2]; simp only; rw [if_pos c4, e3]; simp only; rw [if_pos c]
      simp
theorem x_statement0 : xDoes 10 36 [.ref 2, .int 16] n tk par mn (fun p => cIsS (tk p)) (cStm n tk par false mn 0) := by
  intro S P p b _ hA he ho
  refine ⟨40, ?_⟩
  refine ⟨fun z => absurd (show (16 : Int32) < 16 from z) (by decide), fun _ => ?_⟩
  exact x_fail ⟨Or.inl rfl, he (-15) p _ rfl (xKp_fault S _) ((xFl_1 S _).trans (xAt_p hA)) (xFl_2 S _)⟩
theorem x_statementS {D r : Nat} {k : Int32} (ht : ∀ p, n ≤ p → tk p = -1) (hk : k < 16)
    (hI : xDoes D 38 [.ref 2, .int k] n tk par mn (fun p => p < n) (cIf tk (cEM n tk par false r) (cLoop tk (cStm n tk par false mn r) 700)))
    (hW : xDoes D 39 [.ref 2, .int k] n tk par mn (fun p => p < n) (cWhile tk (cEM n tk par false r) (cLoop tk (cStm n tk par false mn r) 700)))
    (hE : xDoes D 40 [.ref 2, .int k] n tk par mn (fun p => p < n) (cEach n tk (cLoop tk (cStm n tk par false mn r) 700)))
    (hN : xDoes D 42 [.ref 2, .int (k + 1)] n tk par mn (fun _ => True) (cEM n tk par false r false))
    (hP : xDoes D 45 [.ref 2, .int k] n tk par mn (fun p => p < n) (cPlain n tk par (cEM n tk par false r))) : xDoes (D + 4) 36 [.ref 2, .int k] n tk par mn (fun p => cIsS (tk p)) (cStm n tk par false mn (r + 1)) := by
  intro S P p b hs hA he ho
  have hp := cIsS_in ht hs
  have hpn := xAt_pn hA
  have hr : ∀ m p b, p ≤ n → cLn n 8 p (cEM n tk par false r m p b) := fun m p b _ => cLs_ln (cEM_ls (mk := false) ht r m p b)
  have hnt : ∀ m p b, p ≤ n → cNt p (cEM n tk par false r m p b) := fun m p b _ => cEM_nt ht r m p b
  have hbl : ∀ p b, p ≤ n → cLn n 8 p (cLoop tk (cStm n tk par false mn r) 700 p b) := fun p b h => cBlk_ln (mk := false) ht h 700
  have hbn : ∀ p b, p ≤ n → cNt p (cLoop tk (cStm n tk par false mn r) 700 p b) := fun p b h => (cStm_nt ht r).2 700 p b h
  refine ⟨80, ?_⟩
  refine ⟨fun _ => ?_, fun z => absurd hk z⟩
  refine x_tokN hA ?_
  refine ⟨fun c => ?_, fun c3 => ⟨fun c => ?_, fun c4 => ⟨fun c => ?_, fun c5 => ⟨fun c => ?_, fun c6 => ⟨fun c => ?_, fun c7 => ⟨fun c => ?_, fun c8 => ⟨fun c => ?_, fun c9 => ?_⟩⟩⟩⟩⟩⟩⟩
  · have c : tk p = 3 := c
    have h8 : ¬ tk p = 8 := by rw [c]; decide
    have h9 : ¬ tk p = 9 := by rw [c]; decide
    have spec : cStm n tk par false mn (r + 1) p b = cMark false (fun p1 => [(false, p, p1)]) (cIf tk (cEM n tk par false r) (cLoop tk (cStm n tk par false mn r) 700) p b) := by
      rw [cStm]
      rw [if_pos c]
      rfl
    rw [spec] at he ho
    refine mv_deep (d := D) (by omega) (hI S _ p b hp hA (fun w q S1 e k1 k2 k3 => ⟨fun _ => ⟨Or.inl rfl, he w q S1 (cMark_err e) k1 k2 k3⟩, fun z => absurd rfl z⟩) (fun p1 l s S1 e g1 => ⟨fun z => absurd (show (1 : Int32) = 0 from z) (by decide), fun _ => ?_⟩))
    have g := g1
    have hl := cIf_ls ht (by decide) hr hbl hp e
    refine x_finish hA g (fun z hz => ?_) hp hl.1 hl.2.1 (by omega) (fun S2 g2 => ⟨Or.inr rfl, ho p1 _ _ S2 ?_ g2⟩)
    · have := (cIf_ni ht hr hbl hnt hbn hp _ _ _ e false p z hz).2 rfl
      omega
    · rw [cMark_f e]; simp only [cFin, if_neg h8, if_neg h9, List.append_nil]
  · have c : tk p = 4 := c
    exact absurd c hs.2.2
  · have c : tk p = 5 := c
    have h3 : ¬ tk p = 3 := c3
    have h8 : ¬ tk p = 8 := by rw [c]; decide
    have h9 : ¬ tk p = 9 := by rw [c]; decide
    have spec : cStm n tk par false mn (r + 1) p b = cMark false (fun p1 => [(false, p, p1)]) (cWhile tk (cEM n tk par false r) (cLoop tk (cStm n tk par false mn r) 700) p b) := by
      rw [cStm]
      rw [if_neg h3, if_pos c]
      rfl
    rw [spec] at he ho
    refine mv_deep (d := D) (by omega) (hW S _ p b hp hA (fun w q S1 e k1 k2 k3 => ⟨fun _ => ⟨Or.inl rfl, he w q S1 (cMark_err e) k1 k2 k3⟩, fun z => absurd rfl z⟩) (fun p1 l s S1 e g1 => ⟨fun z => absurd (show (1 : Int32) = 0 from z) (by decide), fun _ => ?_⟩))
    have g := g1
    have hl := cWhile_ls ht (by decide) hr hbl hp e
    refine x_finish hA g (fun z hz => ?_) hp hl.1 hl.2.1 (by omega) (fun S2 g2 => ⟨Or.inr rfl, ho p1 _ _ S2 ?_ g2⟩)
    · have := (cWhile_ni hr hnt hbn hp _ _ _ e false p z hz).2 rfl
      omega
    · rw [cMark_f e]; simp only [cFin, if_neg h8, if_neg h9, List.append_nil]
  · have c : tk p = 6 := c
    have h3 : ¬ tk p = 3 := c3
    have h5 : ¬ tk p = 5 := c5
    have h8 : ¬ tk p = 8 := by rw [c]; decide
    have h9 : ¬ tk p = 9 := by rw [c]; decide
    have spec : cStm n tk par false mn (r + 1) p b = cMark false (fun p1 => [(false, p, p1)]) (cEach n tk (cLoop tk (cStm n tk par false mn r) 700) p b) := by
      rw [cStm]
      rw [if_neg h3, if_neg h5, if_pos c]
      rfl
    rw [spec] at he ho
    refine mv_deep (d := D) (by omega) (hE S _ p b hp hA (fun w q S1 e k1 k2 k3 => ⟨fun _ => ⟨Or.inl rfl, he w q S1 (cMark_err e) k1 k2 k3⟩, fun z => absurd rfl z⟩) (fun p1 l s S1 e g1 => ⟨fun z => absurd (show (1 : Int32) = 0 from z) (by decide), fun _ => ?_⟩))
    have g := g1
    have hl := cEach_ls ht (by decide) hbl e
    refine x_finish hA g (fun z hz => ?_) hp hl.1 hl.2.1 (by omega) (fun S2 g2 => ⟨Or.inr rfl, ho p1 _ _ S2 ?_ g2⟩)
    · have := (cEach_ni hbn _ _ _ e false p z hz).2 rfl
      omega
    · rw [cMark_f e]; simp only [cFin, if_neg h8, if_neg h9, List.append_nil]
  · have c : tk p = 7 := c
    have h3 : ¬ tk p = 3 := by rw [c]; decide
    have h5 : ¬ tk p = 5 := by rw [c]; decide
    have h6 : ¬ tk p = 6 := by rw [c]; decide
    have h8 : ¬ tk p = 8 := by rw [c]; decide
    have h9 : ¬ tk p = 9 := by rw [c]; decide
    have spec : cStm n tk par false mn (r + 1) p b = cMark false (fun p1 => [(false, p, p1)]) (cPlain n tk par (cEM n tk par false r) p b) := by
      rw [cStm]
      rw [if_neg h3, if_neg h5, if_neg h6, if_neg h9, if_neg h8]
      rfl
    rw [spec] at he ho
    refine mv_deep (d := D) (by omega) (hP S _ p b hp hA (fun w q S1 e k1 k2 k3 => ⟨fun _ => ⟨Or.inl rfl, he w q S1 (cMark_err e) k1 k2 k3⟩, fun z => absurd rfl z⟩) (fun p1 l s S1 e g1 => ⟨fun z => absurd (show (1 : Int32) = 0 from z) (by decide), fun _ => ?_⟩))
    have g := g1
    have hl := cPlain_ls ht (by decide) hr hp e
    refine x_finish hA g (fun z hz => ?_) hp hl.1 hl.2.1 (by omega) (fun S2 g2 => ⟨Or.inr rfl, ho p1 _ _ S2 ?_ g2⟩)
    · have := (cPlain_ni ht hr hnt hp _ _ _ e false p z hz).2 rfl
      omega
    · rw [cMark_f e]; simp only [cFin, if_neg h8, if_neg h9, List.append_nil]
  · have c : tk p = 8 := c
    have h3 : ¬ tk p = 3 := c3
    have h5 : ¬ tk p = 5 := c5
    have h6 : ¬ tk p = 6 := c6
    have h9 : ¬ tk p = 9 := by rw [c]; decide
    have spec : cStm n tk par false mn (r + 1) p b = cMark false (fun p1 => [(false, p, p1)]) (cCallS (cPlain n tk par (cEM n tk par false r) p b)) := by
      rw [cStm]
      rw [if_neg h3, if_neg h5, if_neg h6, if_neg h9, if_pos c]
      rfl
    rw [spec] at he ho
    refine mv_deep (d := D) (by omega) (hP S _ p b hp hA (fun w q S1 e k1 k2 k3 => ⟨fun _ => ⟨Or.inl rfl, he w q S1 (cMark_err (show cCallS _ = _ by rw [e]; rfl)) k1 k2 k3⟩, fun z => absurd rfl z⟩) (fun p1 l s S1 e g1 => ⟨fun z => absurd (show (1 : Int32) = 0 from z) (by decide), fun _ => ?_⟩))
    have g := g1
    have hl := cPlain_ls ht (by decide) hr hp e
    refine x_finish hA g (fun z hz => ?_) hp hl.1 hl.2.1 (by omega) (fun S2 g2 => ⟨Or.inr rfl, ho p1 _ _ S2 ?_ g2⟩)
    · have := (cPlain_ni ht hr hnt hp _ _ _ e false p z hz).2 rfl
      omega
    · rw [e]
      simp only [cCallS, cFin, if_pos c]
      rfl
  · have c : tk p = 9 := c
    have h3 : ¬ tk p = 3 := c3
    have h5 : ¬ tk p = 5 := c5
    have h6 : ¬ tk p = 6 := c6
    have h8 : ¬ tk p = 8 := c8
    have g0 := xGo_next (xAt_p hA) (xAt_b hA)
    have spec : cStm n tk par false mn (r + 1) p b = cMark false (fun p1 => [(false, p, p1)]) (cAnswer mn (cEM n tk par false r) p b) := by
      rw [cStm]
      rw [if_neg h3, if_neg h5, if_neg h6, if_pos c]
      rfl
    rw [spec] at he ho
    refine mv_deep (d := D) (by omega) (hN (xNx S) _ (p + 1) b trivial (xAt_next hA hp) (fun w q S1 e k1 k2 k3 => ⟨fun _ => ⟨Or.inl rfl, he w q S1 (cMark_err (show cAnswer mn _ p b = _ by unfold cAnswer; rw [e])) (xKp_trans g0.1 k1) k2 k3⟩, fun z => absurd rfl z⟩) (fun p1 l s S1 e g1 => ⟨fun z => absurd (show (1 : Int32) = 0 from z) (by decide), fun _ => ?_⟩))
    have hl0 := hr false (p + 1) b hp _ _ _ e
    have g := xGo_t0 g0 g1 (Nat.le_succ p) hl0.1
    have hl : p < p1 ∧ p1 ≤ n := by omega
    refine x_finish hA g (fun z hz => ?_) hp hl.1 hl.2 (by omega) (fun S2 g2 => ⟨Or.inr rfl, ho p1 _ _ S2 ?_ g2⟩)
    · have := hnt false (p + 1) b hp _ _ _ e false p z hz
      omega
    · unfold cAnswer
      rw [e]
      simp only [cFin, if_neg h8, if_pos c]
      rfl
  · have h3 : ¬ tk p = 3 := c3
    have h5 : ¬ tk p = 5 := c5
    have h6 : ¬ tk p = 6 := c6
    have h8 : ¬ tk p = 8 := c8
    have h9 : ¬ tk p = 9 := c9
    have spec : cStm n tk par false mn (r + 1) p b = cMark false (fun p1 => [(false, p, p1)]) (cPlain n tk par (cEM n tk par false r) p b) := by
      rw [cStm]
      rw [if_neg h3, if_neg h5, if_neg h6, if_neg h9, if_neg h8]
      rfl
    rw [spec] at he ho
    refine mv_deep (d := D) (by omega) (hP S _ p b hp hA (fun w q S1 e k1 k2 k3 => ⟨fun _ => ⟨Or.inl rfl, he w q S1 (cMark_err e) k1 k2 k3⟩, fun z => absurd rfl z⟩) (fun p1 l s S1 e g1 => ⟨fun z => absurd (show (1 : Int32) = 0 from z) (by decide), fun _ => ?_⟩))
    have g := g1
    have hl := cPlain_ls ht (by decide) hr hp e
    refine x_finish hA g (fun z hz => ?_) hp hl.1 hl.2.1 (by omega) (fun S2 g2 => ⟨Or.inr rfl, ho p1 _ _ S2 ?_ g2⟩)
    · have := (cPlain_ni ht hr hnt hp _ _ _ e false p z hz).2 rfl
      omega
    · rw [cMark_f e]; simp only [cFin, if_neg h8, if_neg h9, List.append_nil]
theorem x_block {D r : Nat} {k : Int32} (ht : ∀ p, n ≤ p → tk p = -1) (hS : xDoes D 36 [.ref 2, .int k] n tk par mn (fun p => cIsS (tk p)) (cStm n tk par false mn r)) : xDoes (D + 2) 35 [.ref 2, .int k] n tk par mn (fun _ => True) (cLoop tk (cStm n tk par false mn r) 700) := by
  intro S P p b _ hA he ho
  have hpn := xAt_pn hA
  obtain ⟨R, hR⟩ : ∃ R, R = cLoop tk (cStm n tk par false mn r) 700 p b := ⟨_, rfl⟩
  rw [← hR] at he ho
  have kk := mv_loop (T := tT1) (nL := 3) (z := some .boolean) (il := mX1_block.2.2.2.2.2.2.2) (lay := layX) (sys := sysX) (d := D + 1) (P := P) (pc := 2) 60 (fun k' lv st S' => ∃ i p1 l1 s1, i + k' = 700 ∧ lv = [(2, .int (nI i)), (0, .ref 2), (1, .int k)] ∧ st = [] ∧ xGo S S' p b p1 l1 s1 ∧ p ≤ p1 ∧ p1 ≤ n ∧ b + l1.length ≤ 8 * p1 ∧ R = cPre l1 s1 (cLoop tk (cStm n tk par false mn r) k' p1 (b + l1.length))) (by
      rintro f lv st S' ⟨i, p1, l1, s1, hk, rfl, rfl, g, h1, h2, h3, h4⟩
      obtain rfl : i = 700 := hk
      refine ⟨fun _ => ⟨Or.inr rfl, ho p1 l1 s1 S' ?_ g⟩, fun z => absurd (show nI 700 ≤ nI 700 by decide) z⟩
      rw [h4, cLoop, cPre, List.append_nil, List.append_nil]) (by
      rintro k' f lv st S' ⟨i, p1, l1, s1, hk, rfl, rfl, g, h1, h2, h3, h4⟩ ih
      refine ⟨fun z => absurd ((nI_leI (by omega) (by omega)).mp (show nI 700 ≤ nI i from z)) (by omega), fun _ => ?_⟩
      have hA1 := xAt_go hA g h2 h3
      refine x_tokN hA1 ?_
      refine x_isStatement (fun c => ?_) (fun c => ?_)
      · refine ⟨fun _ => ⟨Or.inr rfl, ho p1 l1 s1 S' ?_ g⟩, fun z => absurd rfl z⟩
        rw [h4, cLoop, if_neg (show ¬ cIsS (tk p1) from c), cPre, List.append_nil, List.append_nil]
      · have c : cIsS (tk p1) := c
        refine ⟨fun z => absurd (show (1 : Int32) = 0 from z) (by decide), fun _ => ?_⟩
        refine mv_deep (d := D) (by omega) (hS S' _ p1 (b + l1.length) c hA1 (fun w q' S2 e k1 k2 k3 => ?_) (fun p2 l2 s2 S2 e g2 => ?_))
        · refine ⟨fun z => absurd rfl z, fun _ => ⟨Or.inl rfl, he w q' S2 ?_ (xKp_trans g.1 k1) k2 k3⟩⟩
          rw [h4, cLoop, if_pos c]
          exact cPre_err (cThen_err e)
        · refine ⟨fun _ => ?_, fun z => absurd (show (1 : Int32) = 0 from z) (by decide)⟩
          have hl := cStm_ls (mk := false) ht r p1 _ (cIsS_in ht c) _ _ _ e
          have hl3 : l2.length + 8 * p1 ≤ 8 * p2 := hl.2.2
          refine ws_iinc (y := nI (i + 1)) rfl rfl rfl (nI_succ i).symm rfl rfl (ws_goto (t := 2) rfl (by decide) (ih _ [(2, .int (nI (i + 1))), (0, .ref 2), (1, .int k)] [] S2 (by omega) ⟨i + 1, p2, l1 ++ l2, s1 ++ s2, by omega, rfl, rfl, xGo_trans g g2 h1 (by omega), by omega, hl.2.1, by rw [List.length_append]; omega, ?_⟩))
          rw [h4, cLoop, if_pos c, cThen_pre e, cPre_pre, List.length_append, Nat.add_assoc])
  refine ⟨60 * 701 + 2, ?_⟩
  refine ws_iconst (x := nI 0) rfl rfl rfl (ws_istore_n rfl rfl rfl rfl (kk 700 _ [(2, .int (nI 0)), (0, .ref 2), (1, .int k)] [] S (by omega) ⟨0, p, [], [], by omega, rfl, rfl, xGo_refl (xAt_p hA) (xAt_b hA), Nat.le_refl _, hpn.1, hpn.2.2, ?_⟩))
  rw [hR, cPre_nil]; rfl
theorem x_blk (ht : ∀ p, n ≤ p → tk p = -1) : ∀ r, r ≤ 16 → xDoes (20 * r + 40) 35 [.ref 2, .int (nI (16 - r))] n tk par mn (fun _ => True) (cLoop tk (cStm n tk par false mn r) 700) := by
  intro r
  induction r with
  | zero => exact fun _ => xDoes_deep (by decide) (x_block ht x_statement0)
  | succ r ih =>
    intro hr16
    have iB := ih (by omega)
    have iE := x_EM (mn := mn) (par := par) ht r (by omega)
    have iN := iE.2
    have iM := iE.1
    have ek : nI (16 - (r + 1)) + 1 = nI (16 - r) := by rw [nI_1]; congr 1; omega
    rw [← ek] at iB iN iM
    have hr : ∀ m p b, p ≤ n → cLn n 8 p (cEM n tk par false r m p b) := fun m p b _ => cLs_ln (cEM_ls (mk := false) ht r m p b)
    have hnt : ∀ m p b, p ≤ n → cNt p (cEM n tk par false r m p b) := fun m p b _ => cEM_nt ht r m p b
    have hbl : ∀ p b, p ≤ n → cLn n 8 p (cLoop tk (cStm n tk par false mn r) 700 p b) := fun p b h => cBlk_ln (mk := false) ht h 700
    have hbn : ∀ p b, p ≤ n → cNt p (cLoop tk (cStm n tk par false mn r) 700 p b) := fun p b h => (cStm_nt ht r).2 700 p b h
    have hk : nI (16 - (r + 1)) < 16 := nI_lt (b := 16) (by omega) (by decide)
    have iN2 : xDoes (20 * r + 40) 42 [.ref 2, .int (nI (16 - (r + 1)) + 1)] n tk par mn (fun _ => True) (cEM n tk par false r false) := xDoes_deep (by omega) iN
    have iM2 : xDoes (20 * r + 40) 43 [.ref 2, .int (nI (16 - (r + 1)) + 1)] n tk par mn (fun _ => True) (cEM n tk par false r true) := xDoes_deep (by omega) iM
    have hP := x_plain iM2 iN2 hr
    have hI := x_choice iN2 hr hnt iB hbl hbn
    have hW := x_repetition iN2 hr iB hbl
    have hE := x_eachKey iB hbl
    exact xDoes_deep (by omega) (x_block ht (x_statementS (D := 20 * r + 45) ht hk (xDoes_deep (by omega) hI) (xDoes_deep (by omega) hW) (xDoes_deep (by omega) hE) (xDoes_deep (by omega) iN2) hP))
end LX

/-! THE REFERENCE READS WHAT THE FUNCTION SAYS: WHILE, EACH, IF -/
/-- a block ends where no statement stands: there are rounds enough -/
theorem cLoop_out {n : Nat} {tk par : Nat → Int32} {mk mn : Bool} (ht : ∀ p, n ≤ p → tk p = -1) {r : Nat} : ∀ {k p b p2 : Nat} {l s}, n ≤ p + k → cLoop tk (cStm n tk par mk mn r) k p b = .ok (p2, l, s) → ¬ cIsS (tk p2) := by
  intro k
  induction k with
  | zero =>
    intro p b p2 l s h e
    simp only [cLoop, Except.ok.injEq, Prod.mk.injEq] at e
    obtain ⟨rfl, _⟩ := e
    intro z
    have := cIsS_in ht z
    omega
  | succ k ih =>
    intro p b p2 l s h e
    unfold cLoop at e
    split at e
    · rename_i c
      obtain ⟨p1, l1, s1, l2, s2, a1, a2, rfl, rfl⟩ := cThen_ok e
      have := cStm_ls ht r p _ (cIsS_in ht c) _ _ _ a1
      exact ih (by omega) a2
    · rename_i c
      simp only [Except.ok.injEq, Prod.mk.injEq] at e
      obtain ⟨rfl, _⟩ := e
      exact c
section YA
variable {P : Option Value → mv_S → Prop} {S0 : mv_S} {fp : Int32} {n : Nat} {tk par : Nat → Int32} {mn : Bool} {p : Nat} {ws ms : List Int32} {hs : List (Option (Nat × Nat))} {td : List (Int32 × Int32 × Int32)} {R R' : cRes} {B : Prop}
theorem yRun_back' {c : Int32} {q x y : Nat} (hb : td.length < 4000) (b3 : q < 2000) (hq : hs[q]? = some (some (x, y))) (b1 : ws.length < 6000) (b2 : ms.length < 8000) (h : yRun P S0 0 fp p (ws ++ [nI x]) (ms ++ [nI y]) td hs) : yRun P S0 0 fp p ws ms ((7, nI q, c) :: td) hs := yRun_back (b := 0) hb b3 hq b1 b2 h
theorem yDn_le {p' : Nat} (h : yDn P S0 fp R R' p' ws ms hs td B) (hp : p ≤ p') : yDn P S0 fp R R' p ws ms hs td B :=
  ⟨h.1, fun p1 l s l' s' e e' => by
    obtain ⟨h', hh, go⟩ := h.2 p1 l s l' s' e e'
    exact ⟨h', by omega, go⟩⟩
theorem yWhile {r : Nat} (hr16 : r ≤ 16) (hT : yTk S0 n tk par mn) (hE : yEM P S0 fp n tk par r) (hS : ySP P S0 fp n tk par mn r) (h1 : p < n) (h2 : ws.length ≤ 8 * p) (h3 : ms.length ≤ 9 * p + 1) (h4 : hs.length ≤ 2 * p) (h5 : td.length + 13 + 13 * r ≤ 2900) : yDn P S0 fp (cWhile tk (cEM n tk par false r) (cLoop tk (cStm n tk par false mn r) 700) p ws.length) (cWhile tk (cEM n tk par true r) (cLoop tk (cStm n tk par true mn r) 700) p ms.length) p ws ms hs td (yRun P S0 0 fp (p + 1) ws ms ((2, 0, nI (16 - r)) :: (4, 13, 0) :: (5, nI (hs.length + 1), 0) :: (0, 0, nI (16 - r)) :: (4, 12, 0) :: (7, nI hs.length, 0) :: (6, nI (hs.length + 1), 0) :: td) (hs ++ some (ws.length, ms.length) :: none :: [])) := by
  have hn := hT.2.1
  have ht := hT.2.2.2.1
  have hr : ∀ m p b, p ≤ n → cLn n 8 p (cEM n tk par false r m p b) := fun m p b _ => cLs_ln (cEM_ls (mk := false) ht r m p b)
  have hr' : ∀ m p b, p ≤ n → cLn n 9 p (cEM n tk par true r m p b) := fun m p b _ => cLs_ln (cEM_ls (mk := true) ht r m p b)
  have hl : ∀ p b, p ≤ n → cLn n 8 p (cLoop tk (cStm n tk par false mn r) 700 p b) := fun p b h => cBlk_ln (mk := false) ht h 700
  have hl' : ∀ p b, p ≤ n → cLn n 9 p (cLoop tk (cStm n tk par true mn r) 700 p b) := fun p b h => cBlk_ln (mk := true) ht h 700
  have hb0 : yBd n (p + 1) ws ms (hs ++ some (ws.length, ms.length) :: none :: []) := ⟨h1, by omega, by omega, by simp; omega⟩
  have e0 := hE false (p + 1) ws ms ((4, 13, 0) :: (5, nI (hs.length + 1), 0) :: (0, 0, nI (16 - r)) :: (4, 12, 0) :: (7, nI hs.length, 0) :: (6, nI (hs.length + 1), 0) :: td) (hs ++ some (ws.length, ms.length) :: none :: []) 0 hb0 (by simp; omega)
  rcases cSh_2 (cSh_EM (n := n) (tk := tk) (par := par) (mk := false) (mk' := true) r false (p + 1) ws.length ms.length) with ⟨⟨v, q⟩, a1, a1'⟩ | ⟨p1, l1, s1, l1', s1', a1, a1'⟩
  · refine yDn_err (v := v) (q := q) ?_ (fun he => e0.1 v q a1 he)
    unfold cWhile; rw [a1]
  have q1 := hr false _ _ h1 _ _ _ a1
  have q1' := hr' false _ _ h1 _ _ _ a1'
  obtain ⟨k1, hk1, go1⟩ := e0.2 _ _ _ _ _ a1 a1'
  have W1 : (ws ++ l1 ++ [13]).length = ws.length + l1.length + 1 := by simp; omega
  have M1 : (ms ++ l1' ++ [13]).length = ms.length + l1'.length + 1 := by simp; omega
  have W2 : (ws ++ l1 ++ [13] ++ [0]).length = ws.length + l1.length + 2 := by simp; omega
  have M2 : (ms ++ l1' ++ [13] ++ [0]).length = ms.length + l1'.length + 2 := by simp; omega
  have hb1 : yBd n p1 (ws ++ l1 ++ [13] ++ [0]) (ms ++ l1' ++ [13] ++ [0]) (hs ++ some (ws.length, ms.length) :: some (ws.length + l1.length + 1, ms.length + l1'.length + 1) :: k1) := ⟨q1.2.1, by rw [W2]; omega, by rw [M2]; omega, by simp; omega⟩
  have e1 := yBlk0 hr16 hT hS 700 p1 (ws ++ l1 ++ [13] ++ [0]) (ms ++ l1' ++ [13] ++ [0]) ((4, 12, 0) :: (7, nI hs.length, 0) :: (6, nI (hs.length + 1), 0) :: td) (hs ++ some (ws.length, ms.length) :: some (ws.length + l1.length + 1, ms.length + l1'.length + 1) :: k1) 0 (by omega) hb1 (by simp; omega)
  rw [W2, M2] at e1
  have go2 : yRun P S0 0 fp p1 (ws ++ l1 ++ [13] ++ [0]) (ms ++ l1' ++ [13] ++ [0]) ((0, 0, nI (16 - r)) :: (4, 12, 0) :: (7, nI hs.length, 0) :: (6, nI (hs.length + 1), 0) :: td) (hs ++ some (ws.length, ms.length) :: some (ws.length + l1.length + 1, ms.length + l1'.length + 1) :: k1) → yRun P S0 0 fp (p + 1) ws ms ((2, 0, nI (16 - r)) :: (4, 13, 0) :: (5, nI (hs.length + 1), 0) :: (0, 0, nI (16 - r)) :: (4, 12, 0) :: (7, nI hs.length, 0) :: (6, nI (hs.length + 1), 0) :: td) (hs ++ some (ws.length, ms.length) :: none :: []) := by
    intro z
    refine go1 (yRun_word (by simp; omega) (by simp; omega) (by simp; omega) ?_)
    refine yRun_hole' (by simp; omega) (by rw [W1]; omega) (by rw [M1]; omega) (by omega) ?_ z
    rw [W1, M1, show hs ++ some (ws.length, ms.length) :: some (ws.length + l1.length + 1, ms.length + l1'.length + 1) :: k1 = (hs ++ [some (ws.length, ms.length)]) ++ some (ws.length + l1.length + 1, ms.length + l1'.length + 1) :: k1 by simp]
    exact set_eq (y := none) (by simp) (by simp)
  rcases cSh_2 (cSh_blk (n := n) (tk := tk) (par := par) (mn := mn) (mk := false) (mk' := true) r 700 p1 (ws.length + l1.length + 2) (ms.length + l1'.length + 2)) with ⟨⟨v, q⟩, a2, a2'⟩ | ⟨p2, l2, s2, l2', s2', a2, a2'⟩
  · refine yDn_err (v := v) (q := q) ?_ (fun he => go2 (e1.1 v q (by rw [a2]; rfl) he))
    unfold cWhile; rw [a1]; simp only; rw [a2]
  have q2 := hl _ _ q1.2.1 _ _ _ a2
  have q2' := hl' _ _ q1'.2.1 _ _ _ a2'
  by_cases t0 : tk p2 = 0
  · have hp2 : p2 < n := tk_in ht (by rw [t0]; decide)
    obtain ⟨k2, hk2, go3⟩ := e1.2 (p2 + 1) l2 s2 l2' s2' (by rw [a2]; simp only [cEnd]; rw [if_pos t0]) (by rw [a2']; simp only [cEnd]; rw [if_pos t0])
    have spec : cWhile tk (cEM n tk par false r) (cLoop tk (cStm n tk par false mn r) 700) p ws.length = .ok (p2 + 1, l1 ++ 13 :: nI (ws.length + l1.length + 2 + l2.length + 2) :: (l2 ++ [12, nI ws.length]), s1 ++ s2) := by
      unfold cWhile; rw [a1]; simp only; rw [a2]; simp only; rw [if_pos t0]
    have spec' : cWhile tk (cEM n tk par true r) (cLoop tk (cStm n tk par true mn r) 700) p ms.length = .ok (p2 + 1, l1' ++ 13 :: nI (ms.length + l1'.length + 2 + l2'.length + 2) :: (l2' ++ [12, nI ms.length]), s1' ++ s2') := by
      unfold cWhile; rw [a1']; simp only; rw [a2']; simp only; rw [if_pos t0]
    refine yDn_ok spec spec' (some (ws.length, ms.length) :: some (ws.length + l1.length + 1, ms.length + l1'.length + 1) :: (k1 ++ k2)) (by simp; omega) (fun z => go2 (go3 ?_))
    refine yRun_word (by simp; omega) (by simp; omega) (by simp; omega) ?_
    refine yRun_back' (x := ws.length) (y := ms.length) (by simp; omega) (by omega) ?_ (by simp; omega) (by simp; omega) ?_
    · exact get_eq (a := hs) (c := some (ws.length + l1.length + 1, ms.length + l1'.length + 1) :: (k1 ++ k2)) (by simp) rfl
    refine yRun_target' (x := ws.length + l1.length + 1) (y := ms.length + l1'.length + 1) (ws' := ws ++ l1 ++ [13] ++ nI (ws.length + l1.length + 2 + l2.length + 2) :: (l2 ++ [12, nI ws.length])) (ms' := ms ++ l1' ++ [13] ++ nI (ms.length + l1'.length + 2 + l2'.length + 2) :: (l2' ++ [12, nI ms.length])) (by omega) (by omega) ?_ (by omega) (by omega) ?_ ?_ ?_
    · exact get_eq (a := hs ++ [some (ws.length, ms.length)]) (c := k1 ++ k2) (by simp) (by simp)
    · have eL : (ws ++ l1 ++ [13] ++ [0] ++ l2 ++ [12] ++ [nI ws.length]).length = ws.length + l1.length + 2 + l2.length + 2 := by simp; omega
      rw [eL]
      exact set_eq (y := 0) (by simp) (by simp; omega)
    · have eL : (ms ++ l1' ++ [13] ++ [0] ++ l2' ++ [12] ++ [nI ms.length]).length = ms.length + l1'.length + 2 + l2'.length + 2 := by simp; omega
      rw [eL]
      exact set_eq (y := 0) (by simp) (by simp; omega)
    simpa using z
  · refine yDn_err (v := -11) (q := p2) ?_ (fun he => go2 (e1.1 (-11) p2 (by rw [a2]; simp only [cEnd]; rw [if_neg t0]) he))
    unfold cWhile; rw [a1]; simp only; rw [a2]; simp only; rw [if_neg t0]
theorem yEach {r : Nat} (hr16 : r ≤ 16) (hT : yTk S0 n tk par mn) (hS : ySP P S0 fp n tk par mn r) (h2 : ws.length ≤ 8 * p) (h3 : ms.length ≤ 9 * p + 1) (h4 : hs.length ≤ 2 * p) (h5 : td.length + 13 + 13 * r ≤ 2900) (c1 : cBare n tk 6 (p + 1) = .ok (p + 2)) (c2 : cBare n tk 14 (p + 2) = .ok (p + 3)) (c3 : cBare n tk 14 (p + 3) = .ok (p + 4)) : yDn P S0 fp (cEach n tk (cLoop tk (cStm n tk par false mn r) 700) p ws.length) (cEach n tk (cLoop tk (cStm n tk par true mn r) 700) p ms.length) p ws ms hs td (yRun P S0 0 fp (p + 4) (ws ++ [19] ++ [tk (p + 1)] ++ [29] ++ [tk (p + 2)] ++ [tk (p + 3)] ++ [0]) (ms ++ [19] ++ [tk (p + 1)] ++ [29] ++ [tk (p + 2)] ++ [tk (p + 3)] ++ [0]) ((0, 0, nI (16 - r)) :: (4, 12, 0) :: (7, nI hs.length, 0) :: (6, nI (hs.length + 1), 0) :: td) (hs ++ some (ws.length + 2, ms.length + 2) :: some (ws.length + 5, ms.length + 5) :: [])) := by
  have hn := hT.2.1
  have ht := hT.2.2.2.1
  have hl : ∀ p b, p ≤ n → cLn n 8 p (cLoop tk (cStm n tk par false mn r) 700 p b) := fun p b h => cBlk_ln (mk := false) ht h 700
  have hl' : ∀ p b, p ≤ n → cLn n 9 p (cLoop tk (cStm n tk par true mn r) 700 p b) := fun p b h => cBlk_ln (mk := true) ht h 700
  have hp4 : p + 4 ≤ n := (cBare_ok c3).2.1
  have W2 : (ws ++ [19] ++ [tk (p + 1)] ++ [29] ++ [tk (p + 2)] ++ [tk (p + 3)] ++ [0]).length = ws.length + 6 := by simp
  have M2 : (ms ++ [19] ++ [tk (p + 1)] ++ [29] ++ [tk (p + 2)] ++ [tk (p + 3)] ++ [0]).length = ms.length + 6 := by simp
  have hb1 : yBd n (p + 4) (ws ++ [19] ++ [tk (p + 1)] ++ [29] ++ [tk (p + 2)] ++ [tk (p + 3)] ++ [0]) (ms ++ [19] ++ [tk (p + 1)] ++ [29] ++ [tk (p + 2)] ++ [tk (p + 3)] ++ [0]) (hs ++ some (ws.length + 2, ms.length + 2) :: some (ws.length + 5, ms.length + 5) :: []) := ⟨hp4, by rw [W2]; omega, by rw [M2]; omega, by simp; omega⟩
  have e1 := yBlk0 hr16 hT hS 700 (p + 4) (ws ++ [19] ++ [tk (p + 1)] ++ [29] ++ [tk (p + 2)] ++ [tk (p + 3)] ++ [0]) (ms ++ [19] ++ [tk (p + 1)] ++ [29] ++ [tk (p + 2)] ++ [tk (p + 3)] ++ [0]) ((4, 12, 0) :: (7, nI hs.length, 0) :: (6, nI (hs.length + 1), 0) :: td) (hs ++ some (ws.length + 2, ms.length + 2) :: some (ws.length + 5, ms.length + 5) :: []) 0 (by omega) hb1 (by simp; omega)
  rw [W2, M2] at e1
  rcases cSh_2 (cSh_blk (n := n) (tk := tk) (par := par) (mn := mn) (mk := false) (mk' := true) r 700 (p + 4) (ws.length + 6) (ms.length + 6)) with ⟨⟨v, q⟩, a2, a2'⟩ | ⟨p2, l2, s2, l2', s2', a2, a2'⟩
  · refine yDn_err (v := v) (q := q) ?_ (fun he => e1.1 v q (by rw [a2]; rfl) he)
    unfold cEach; rw [c1]; simp only; rw [c2]; simp only; rw [c3]; simp only; rw [a2]
  have q2 := hl _ _ hp4 _ _ _ a2
  have q2' := hl' _ _ hp4 _ _ _ a2'
  by_cases t0 : tk p2 = 0
  · have hp2 : p2 < n := tk_in ht (by rw [t0]; decide)
    obtain ⟨k2, hk2, go3⟩ := e1.2 (p2 + 1) l2 s2 l2' s2' (by rw [a2]; simp only [cEnd]; rw [if_pos t0]) (by rw [a2']; simp only [cEnd]; rw [if_pos t0])
    have spec : cEach n tk (cLoop tk (cStm n tk par false mn r) 700) p ws.length = .ok (p2 + 1, 19 :: tk (p + 1) :: 29 :: tk (p + 2) :: tk (p + 3) :: nI (ws.length + 6 + l2.length + 2) :: (l2 ++ [12, nI (ws.length + 2)]), s2) := by
      unfold cEach; rw [c1]; simp only; rw [c2]; simp only; rw [c3]; simp only; rw [a2]; simp only; rw [if_pos t0]
    have spec' : cEach n tk (cLoop tk (cStm n tk par true mn r) 700) p ms.length = .ok (p2 + 1, 19 :: tk (p + 1) :: 29 :: tk (p + 2) :: tk (p + 3) :: nI (ms.length + 6 + l2'.length + 2) :: (l2' ++ [12, nI (ms.length + 2)]), s2') := by
      unfold cEach; rw [c1]; simp only; rw [c2]; simp only; rw [c3]; simp only; rw [a2']; simp only; rw [if_pos t0]
    refine yDn_ok spec spec' (some (ws.length + 2, ms.length + 2) :: some (ws.length + 5, ms.length + 5) :: k2) (by simp; omega) (fun z => go3 ?_)
    refine yRun_word (by simp; omega) (by simp; omega) (by simp; omega) ?_
    refine yRun_back' (x := ws.length + 2) (y := ms.length + 2) (by simp; omega) (by omega) ?_ (by simp; omega) (by simp; omega) ?_
    · exact get_eq (a := hs) (c := some (ws.length + 5, ms.length + 5) :: k2) (by simp) rfl
    refine yRun_target' (x := ws.length + 5) (y := ms.length + 5) (ws' := (ws ++ [19, tk (p + 1), 29, tk (p + 2), tk (p + 3)]) ++ nI (ws.length + 6 + l2.length + 2) :: (l2 ++ [12, nI (ws.length + 2)])) (ms' := (ms ++ [19, tk (p + 1), 29, tk (p + 2), tk (p + 3)]) ++ nI (ms.length + 6 + l2'.length + 2) :: (l2' ++ [12, nI (ms.length + 2)])) (by omega) (by omega) ?_ (by omega) (by omega) ?_ ?_ ?_
    · exact get_eq (a := hs ++ [some (ws.length + 2, ms.length + 2)]) (c := k2) (by simp) (by simp)
    · have eL : (ws ++ [19] ++ [tk (p + 1)] ++ [29] ++ [tk (p + 2)] ++ [tk (p + 3)] ++ [0] ++ l2 ++ [12] ++ [nI (ws.length + 2)]).length = ws.length + 6 + l2.length + 2 := by simp; omega
      rw [eL]
      exact set_eq (y := 0) (by simp) (by simp)
    · have eL : (ms ++ [19] ++ [tk (p + 1)] ++ [29] ++ [tk (p + 2)] ++ [tk (p + 3)] ++ [0] ++ l2' ++ [12] ++ [nI (ms.length + 2)]).length = ms.length + 6 + l2'.length + 2 := by simp; omega
      rw [eL]
      exact set_eq (y := 0) (by simp) (by simp)
    simpa using z
  · refine yDn_err (v := -11) (q := p2) ?_ (fun he => e1.1 (-11) p2 (by rw [a2]; simp only [cEnd]; rw [if_neg t0]) he)
    unfold cEach; rw [c1]; simp only; rw [c2]; simp only; rw [c3]; simp only; rw [a2]; simp only; rw [if_neg t0]
theorem yIf {r : Nat} (hr16 : r ≤ 16) (hT : yTk S0 n tk par mn) (hE : yEM P S0 fp n tk par r) (hS : ySP P S0 fp n tk par mn r) (h1 : p < n) (h2 : ws.length ≤ 8 * p) (h3 : ms.length ≤ 9 * p + 1) (h4 : hs.length ≤ 2 * p) (h5 : td.length + 13 + 13 * r ≤ 2900) : yDn P S0 fp (cIf tk (cEM n tk par false r) (cLoop tk (cStm n tk par false mn r) 700) p ws.length) (cIf tk (cEM n tk par true r) (cLoop tk (cStm n tk par true mn r) 700) p ms.length) p ws ms hs td (yRun P S0 0 fp (p + 1) ws ms ((2, 0, nI (16 - r)) :: (4, 13, 0) :: (5, nI hs.length, 0) :: (1, nI hs.length, nI (16 - r)) :: td) (hs ++ [none])) := by
  have hn := hT.2.1
  have ht := hT.2.2.2.1
  have hr : ∀ m p b, p ≤ n → cLn n 8 p (cEM n tk par false r m p b) := fun m p b _ => cLs_ln (cEM_ls (mk := false) ht r m p b)
  have hr' : ∀ m p b, p ≤ n → cLn n 9 p (cEM n tk par true r m p b) := fun m p b _ => cLs_ln (cEM_ls (mk := true) ht r m p b)
  have hl : ∀ p b, p ≤ n → cLn n 8 p (cLoop tk (cStm n tk par false mn r) 700 p b) := fun p b h => cBlk_ln (mk := false) ht h 700
  have hl' : ∀ p b, p ≤ n → cLn n 9 p (cLoop tk (cStm n tk par true mn r) 700 p b) := fun p b h => cBlk_ln (mk := true) ht h 700
  have hb0 : yBd n (p + 1) ws ms (hs ++ [none]) := ⟨h1, by omega, by omega, by simp; omega⟩
  have e0 := hE false (p + 1) ws ms ((4, 13, 0) :: (5, nI hs.length, 0) :: (1, nI hs.length, nI (16 - r)) :: td) (hs ++ [none]) 0 hb0 (by simp; omega)
  rcases cSh_2 (cSh_EM (n := n) (tk := tk) (par := par) (mk := false) (mk' := true) r false (p + 1) ws.length ms.length) with ⟨⟨v, q⟩, a1, a1'⟩ | ⟨p1, l1, s1, l1', s1', a1, a1'⟩
  · refine yDn_err (v := v) (q := q) ?_ (fun he => e0.1 v q a1 he)
    unfold cIf; rw [a1]
  have q1 := hr false _ _ h1 _ _ _ a1
  have q1' := hr' false _ _ h1 _ _ _ a1'
  obtain ⟨k1, hk1, go1⟩ := e0.2 _ _ _ _ _ a1 a1'
  have W1 : (ws ++ l1 ++ [13]).length = ws.length + l1.length + 1 := by simp; omega
  have M1 : (ms ++ l1' ++ [13]).length = ms.length + l1'.length + 1 := by simp; omega
  have W2 : (ws ++ l1 ++ [13] ++ [0]).length = ws.length + l1.length + 2 := by simp; omega
  have M2 : (ms ++ l1' ++ [13] ++ [0]).length = ms.length + l1'.length + 2 := by simp; omega
  have hb1 : yBd n p1 (ws ++ l1 ++ [13] ++ [0]) (ms ++ l1' ++ [13] ++ [0]) (hs ++ some (ws.length + l1.length + 1, ms.length + l1'.length + 1) :: k1) := ⟨q1.2.1, by rw [W2]; omega, by rw [M2]; omega, by simp; omega⟩
  have e1 := yLoop1 (q := hs.length) (a := ws.length + l1.length + 1) (c := ms.length + l1'.length + 1) hr16 hT hS (by omega) (by omega) 700 p1 (ws ++ l1 ++ [13] ++ [0]) (ms ++ l1' ++ [13] ++ [0]) td (hs ++ some (ws.length + l1.length + 1, ms.length + l1'.length + 1) :: k1) (get_eq rfl rfl) hb1 (by omega)
  rw [W2, M2] at e1
  have go2 : yRun P S0 0 fp p1 (ws ++ l1 ++ [13] ++ [0]) (ms ++ l1' ++ [13] ++ [0]) ((1, nI hs.length, nI (16 - r)) :: td) (hs ++ some (ws.length + l1.length + 1, ms.length + l1'.length + 1) :: k1) → yRun P S0 0 fp (p + 1) ws ms ((2, 0, nI (16 - r)) :: (4, 13, 0) :: (5, nI hs.length, 0) :: (1, nI hs.length, nI (16 - r)) :: td) (hs ++ [none]) := by
    intro z
    refine go1 (yRun_word (by simp; omega) (by simp; omega) (by simp; omega) ?_)
    refine yRun_hole' (by simp; omega) (by rw [W1]; omega) (by rw [M1]; omega) (by omega) ?_ z
    rw [W1, M1]
    exact set_eq (y := none) (by simp) rfl
  rcases cSh_2 (cSh_blk (n := n) (tk := tk) (par := par) (mn := mn) (mk := false) (mk' := true) r 700 p1 (ws.length + l1.length + 2) (ms.length + l1'.length + 2)) with ⟨⟨v, q⟩, a2, a2'⟩ | ⟨p2, l2, s2, l2', s2', a2, a2'⟩
  · refine yDn_err (v := v) (q := q) ?_ (fun he => go2 (e1.1 v q a2 he))
    unfold cIf; rw [a1]; simp only; rw [a2]
  have q2 := hl _ _ q1.2.1 _ _ _ a2
  have q2' := hl' _ _ q1'.2.1 _ _ _ a2'
  obtain ⟨k2, hk2, go3⟩ := e1.2 p2 l2 s2 l2' s2' a2 a2'
  have hq2 : (hs ++ some (ws.length + l1.length + 1, ms.length + l1'.length + 1) :: k1 ++ k2)[hs.length]? = some (some (ws.length + l1.length + 1, ms.length + l1'.length + 1)) := get_eq (a := hs) (c := k1 ++ k2) (by simp) rfl
  have W3 : (ws ++ l1 ++ [13] ++ [0] ++ l2).length = ws.length + l1.length + 2 + l2.length := by simp; omega
  have M3 : (ms ++ l1' ++ [13] ++ [0] ++ l2').length = ms.length + l1'.length + 2 + l2'.length := by simp; omega
  have H3 : (hs ++ some (ws.length + l1.length + 1, ms.length + l1'.length + 1) :: k1 ++ k2).length = hs.length + 1 + k1.length + k2.length := by simp; omega
  by_cases t4 : tk p2 = 4
  · have hp2 : p2 < n := tk_in ht (by rw [t4]; decide)
    have W4 : (ws ++ l1 ++ [13] ++ [0] ++ l2 ++ [12] ++ [0]).length = ws.length + l1.length + 2 + l2.length + 2 := by simp; omega
    have M4 : (ms ++ l1' ++ [13] ++ [0] ++ l2' ++ [12] ++ [0]).length = ms.length + l1'.length + 2 + l2'.length + 2 := by simp; omega
    have go4 : yRun P S0 0 fp (p2 + 1) (ws ++ l1 ++ [13] ++ nI (ws.length + l1.length + 2 + l2.length + 2) :: (l2 ++ [12, 0])) (ms ++ l1' ++ [13] ++ nI (ms.length + l1'.length + 2 + l2'.length + 2) :: (l2' ++ [12, 0])) ((0, 0, nI (16 - r)) :: (6, nI (hs.length + 1 + k1.length + k2.length), 0) :: td) (hs ++ some (ws.length + l1.length + 1, ms.length + l1'.length + 1) :: k1 ++ k2 ++ [some (ws.length + l1.length + 2 + l2.length + 1, ms.length + l1'.length + 2 + l2'.length + 1)]) → yRun P S0 0 fp (p + 1) ws ms ((2, 0, nI (16 - r)) :: (4, 13, 0) :: (5, nI hs.length, 0) :: (1, nI hs.length, nI (16 - r)) :: td) (hs ++ [none]) := by
      intro z
      refine go2 (go3 (yRun_41 hT q2.2.1 (by omega) (by rw [W3]; omega) (by rw [M3]; omega) (by omega) (by rw [H3]; omega) hq2 (by omega) (by omega) t4 ?_))
      rw [W4, M4, H3, W3, M3, ← set_eq (X := ws ++ l1 ++ [13] ++ [0] ++ l2 ++ [12] ++ [0]) (a := ws ++ l1 ++ [13]) (c := l2 ++ [12, 0]) (y := 0) (by simp) (by simp; omega), ← set_eq (X := ms ++ l1' ++ [13] ++ [0] ++ l2' ++ [12] ++ [0]) (a := ms ++ l1' ++ [13]) (c := l2' ++ [12, 0]) (y := 0) (by simp) (by simp; omega)]
      exact z
    have W5 : (ws ++ l1 ++ [13] ++ nI (ws.length + l1.length + 2 + l2.length + 2) :: (l2 ++ [12, 0])).length = ws.length + l1.length + 2 + l2.length + 2 := by simp; omega
    have M5 : (ms ++ l1' ++ [13] ++ nI (ms.length + l1'.length + 2 + l2'.length + 2) :: (l2' ++ [12, 0])).length = ms.length + l1'.length + 2 + l2'.length + 2 := by simp; omega
    have hb2 : yBd n (p2 + 1) (ws ++ l1 ++ [13] ++ nI (ws.length + l1.length + 2 + l2.length + 2) :: (l2 ++ [12, 0])) (ms ++ l1' ++ [13] ++ nI (ms.length + l1'.length + 2 + l2'.length + 2) :: (l2' ++ [12, 0])) (hs ++ some (ws.length + l1.length + 1, ms.length + l1'.length + 1) :: k1 ++ k2 ++ [some (ws.length + l1.length + 2 + l2.length + 1, ms.length + l1'.length + 2 + l2'.length + 1)]) := ⟨hp2, by rw [W5]; omega, by rw [M5]; omega, by rw [List.length_append, H3, List.length_singleton]; omega⟩
    have e3 := yBlk0 hr16 hT hS 700 (p2 + 1) _ _ ((6, nI (hs.length + 1 + k1.length + k2.length), 0) :: td) _ 0 (by omega) hb2 (by simp; omega)
    rw [W5, M5] at e3
    rcases cSh_2 (cSh_blk (n := n) (tk := tk) (par := par) (mn := mn) (mk := false) (mk' := true) r 700 (p2 + 1) (ws.length + l1.length + 2 + l2.length + 2) (ms.length + l1'.length + 2 + l2'.length + 2)) with ⟨⟨v, q⟩, a3, a3'⟩ | ⟨p3, l3, s3, l3', s3', a3, a3'⟩
    · refine yDn_err (v := v) (q := q) ?_ (fun he => go4 (e3.1 v q (by rw [a3]; rfl) he))
      unfold cIf; rw [a1]; simp only; rw [a2]; simp only; rw [if_pos t4, a3]
    have q3 := hl _ _ hp2 _ _ _ a3
    have q3' := hl' _ _ hp2 _ _ _ a3'
    by_cases t0 : tk p3 = 0
    · have hp3 : p3 < n := tk_in ht (by rw [t0]; decide)
      obtain ⟨k3, hk3, go5⟩ := e3.2 (p3 + 1) l3 s3 l3' s3' (by rw [a3]; simp only [cEnd]; rw [if_pos t0]) (by rw [a3']; simp only [cEnd]; rw [if_pos t0])
      have spec : cIf tk (cEM n tk par false r) (cLoop tk (cStm n tk par false mn r) 700) p ws.length = .ok (p3 + 1, l1 ++ 13 :: nI (ws.length + l1.length + 2 + l2.length + 2) :: (l2 ++ 12 :: nI (ws.length + l1.length + 2 + l2.length + 2 + l3.length) :: l3), s1 ++ (s2 ++ (true, p, p2) :: s3)) := by
        unfold cIf; rw [a1]; simp only; rw [a2]; simp only; rw [if_pos t4, a3]; simp only; rw [if_pos t0]
      have spec' : cIf tk (cEM n tk par true r) (cLoop tk (cStm n tk par true mn r) 700) p ms.length = .ok (p3 + 1, l1' ++ 13 :: nI (ms.length + l1'.length + 2 + l2'.length + 2) :: (l2' ++ 12 :: nI (ms.length + l1'.length + 2 + l2'.length + 2 + l3'.length) :: l3'), s1' ++ (s2' ++ (true, p, p2) :: s3')) := by
        unfold cIf; rw [a1']; simp only; rw [a2']; simp only; rw [if_pos t4, a3']; simp only; rw [if_pos t0]
      refine yDn_ok spec spec' (some (ws.length + l1.length + 1, ms.length + l1'.length + 1) :: (k1 ++ k2 ++ some (ws.length + l1.length + 2 + l2.length + 1, ms.length + l1'.length + 2 + l2'.length + 1) :: k3)) (by simp; omega) (fun z => go4 (go5 ?_))
      refine yRun_target' (x := ws.length + l1.length + 2 + l2.length + 1) (y := ms.length + l1'.length + 2 + l2'.length + 1) (ws' := (ws ++ l1 ++ [13] ++ nI (ws.length + l1.length + 2 + l2.length + 2) :: (l2 ++ [12])) ++ nI (ws.length + l1.length + 2 + l2.length + 2 + l3.length) :: l3) (ms' := (ms ++ l1' ++ [13] ++ nI (ms.length + l1'.length + 2 + l2'.length + 2) :: (l2' ++ [12])) ++ nI (ms.length + l1'.length + 2 + l2'.length + 2 + l3'.length) :: l3') (by omega) (by omega) ?_ (by omega) (by omega) ?_ ?_ ?_
      · exact get_eq (a := hs ++ some (ws.length + l1.length + 1, ms.length + l1'.length + 1) :: k1 ++ k2) (c := k3) (by simp) H3.symm
      · have eL : (ws ++ l1 ++ [13] ++ nI (ws.length + l1.length + 2 + l2.length + 2) :: (l2 ++ [12, 0]) ++ l3).length = ws.length + l1.length + 2 + l2.length + 2 + l3.length := by rw [List.length_append, W5]
        rw [eL]
        exact set_eq (y := 0) (by simp) (by simp; omega)
      · have eL : (ms ++ l1' ++ [13] ++ nI (ms.length + l1'.length + 2 + l2'.length + 2) :: (l2' ++ [12, 0]) ++ l3').length = ms.length + l1'.length + 2 + l2'.length + 2 + l3'.length := by rw [List.length_append, M5]
        rw [eL]
        exact set_eq (y := 0) (by simp) (by simp; omega)
      simpa using z
    · refine yDn_err (v := -11) (q := p3) ?_ (fun he => go4 (e3.1 (-11) p3 (by rw [a3]; simp only [cEnd]; rw [if_neg t0]) he))
      unfold cIf; rw [a1]; simp only; rw [a2]; simp only; rw [if_pos t4, a3]; simp only; rw [if_neg t0]
  · by_cases t0 : tk p2 = 0
    · have hp2 : p2 < n := tk_in ht (by rw [t0]; decide)
      have spec : cIf tk (cEM n tk par false r) (cLoop tk (cStm n tk par false mn r) 700) p ws.length = .ok (p2 + 1, l1 ++ 13 :: nI (ws.length + l1.length + 2 + l2.length) :: l2, s1 ++ (s2 ++ [(true, p, p2)])) := by
        unfold cIf; rw [a1]; simp only; rw [a2]; simp only; rw [if_neg t4, if_pos t0]
      have spec' : cIf tk (cEM n tk par true r) (cLoop tk (cStm n tk par true mn r) 700) p ms.length = .ok (p2 + 1, l1' ++ 13 :: nI (ms.length + l1'.length + 2 + l2'.length) :: l2', s1' ++ (s2' ++ [(true, p, p2)])) := by
        unfold cIf; rw [a1']; simp only; rw [a2']; simp only; rw [if_neg t4, if_pos t0]
      refine yDn_ok spec spec' (some (ws.length + l1.length + 1, ms.length + l1'.length + 1) :: (k1 ++ k2)) (by simp; omega) (fun z => go2 (go3 (yRun_z1 hT q2.2.1 (by omega) (by rw [W3]; omega) (by rw [M3]; omega) (by omega) (by rw [H3]; omega) hq2 (by omega) (by omega) t0 ?_)))
      rw [W3, M3, ← set_eq (X := ws ++ l1 ++ [13] ++ [0] ++ l2) (a := ws ++ l1 ++ [13]) (c := l2) (y := 0) (by simp) (by simp; omega), ← set_eq (X := ms ++ l1' ++ [13] ++ [0] ++ l2') (a := ms ++ l1' ++ [13]) (c := l2') (y := 0) (by simp) (by simp; omega)]
      simpa using z
    · by_cases ns : cIsS (tk p2)
      · -- the loop's rounds are enough
        have := cLoop_out ht (r := r) (par := par) (mn := mn) (mk := false) (b := ws.length + l1.length + 2) (by omega) a2
        exact absurd ns this
      · refine yDn_err (v := -11) (q := p2) ?_ (fun he => go2 (go3 (yRun_sW1 hT q2.2.1 (by omega) (by rw [W3]; omega) (by rw [M3]; omega) (by omega) (by rw [H3]; omega) hq2 (by omega) (by omega) t0 t4 ns he)))
        unfold cIf; rw [a1]; simp only; rw [a2]; simp only; rw [if_neg t4, if_neg t0]
end YA

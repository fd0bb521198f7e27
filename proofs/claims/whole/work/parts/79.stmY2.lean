/-! THE REFERENCE READS WHAT THE FUNCTION SAYS: statements, all levels -/
section YA
variable {P : Option Value → mv_S → Prop} {S0 : mv_S} {fp : Int32} {n : Nat} {tk par : Nat → Int32} {mn : Bool} {p : Nat} {ws ms : List Int32} {hs : List (Option (Nat × Nat))} {td : List (Int32 × Int32 × Int32)} {R R' : cRes} {B : Prop}
theorem ySP_0 : ySP P S0 fp n tk par mn 0 := by
  intro p ws ms td hs B c hb htd hD hS
  exact yDn_err (v := -15) (q := p) rfl (fun he => hD rfl he)
theorem cCallS_app (a : cRes) : cCallS a = cApp [18] a := by
  match a with
  | .error e => rfl
  | .ok (p, l, s) => rfl
theorem yDn_words {w1 w2 : Int32} (h : yDn P S0 fp R R' p ws ms hs ((4, w1, 0) :: (4, w2, 0) :: td) B) (hb : td.length + 1 < 4000) (hl : ∀ p1 l s, R = .ok (p1, l, s) → ws.length + l.length + 1 < 6000) (hl' : ∀ p1 l s, R' = .ok (p1, l, s) → ms.length + l.length + 1 < 8000) : yDn P S0 fp (cApp [w1, w2] R) (cApp [w1, w2] R') p ws ms hs td B := by
  have a := yDn_word h (by simp; omega) (fun p1 l s e => by have := hl p1 l s e; omega) (fun p1 l s e => by have := hl' p1 l s e; omega)
  have b := yDn_word a (by omega) (fun p1 l s e => by
    obtain ⟨l0, e0, rfl⟩ := cApp_ok e
    have := hl p1 l0 s e0
    simp; omega) (fun p1 l s e => by
    obtain ⟨l0, e0, rfl⟩ := cApp_ok e
    have := hl' p1 l0 s e0
    simp; omega)
  rw [cApp_app, cApp_app] at b
  exact b
theorem ySP_s {r : Nat} (hr : r < 16) (hT : yTk S0 n tk par mn) (hE : yEM P S0 fp n tk par r) (hS : ySP P S0 fp n tk par mn r) : ySP P S0 fp n tk par mn (r + 1) := by
  intro p ws ms td hs B c hb htd hD hSt
  have hn := hT.2.1
  have ht := hT.2.2.2.1
  have hp := cIsS_in ht c
  obtain ⟨hb1, hb2, hb3, hb4⟩ := id hb
  have ek : nI (16 - (r + 1)) + 1 = nI (16 - r) := by rw [nI_1]; congr 1; omega
  have hst := hSt (by omega)
  rw [ek] at hst
  have hl : ∀ m p b, p ≤ n → cLn n 8 p (cEM n tk par false r m p b) := fun m p b _ => cLs_ln (cEM_ls (mk := false) ht r m p b)
  have hl' : ∀ m p b, p ≤ n → cLn n 9 p (cEM n tk par true r m p b) := fun m p b _ => cLs_ln (cEM_ls (mk := true) ht r m p b)
  have M1 : (ms ++ [(30 : Int32)]).length = ms.length + 1 := by simp
  rw [cStm, cStm]
  refine yDn_mark ?_
  show yDn P S0 fp (if tk p = 3 then cIf tk (cEM n tk par false r) (cLoop tk (cStm n tk par false mn r) 700) p ws.length else if tk p = 5 then cWhile tk (cEM n tk par false r) (cLoop tk (cStm n tk par false mn r) 700) p ws.length else if tk p = 6 then cEach n tk (cLoop tk (cStm n tk par false mn r) 700) p ws.length else if tk p = 9 then cAnswer mn (cEM n tk par false r) p ws.length else if tk p = 8 then cCallS (cPlain n tk par (cEM n tk par false r) p ws.length) else cPlain n tk par (cEM n tk par false r) p ws.length) (if tk p = 3 then cIf tk (cEM n tk par true r) (cLoop tk (cStm n tk par true mn r) 700) p (ms.length + 1) else if tk p = 5 then cWhile tk (cEM n tk par true r) (cLoop tk (cStm n tk par true mn r) 700) p (ms.length + 1) else if tk p = 6 then cEach n tk (cLoop tk (cStm n tk par true mn r) 700) p (ms.length + 1) else if tk p = 9 then cAnswer mn (cEM n tk par true r) p (ms.length + 1) else if tk p = 8 then cCallS (cPlain n tk par (cEM n tk par true r) p (ms.length + 1)) else cPlain n tk par (cEM n tk par true r) p (ms.length + 1)) p ws (ms ++ [30]) hs td B
  rw [← M1]
  have c1 : (ws).length + 6 ≤ 6000 := by omega
  have c2 : (ms ++ [(30 : Int32)]).length + 6 ≤ 8000 := by rw [M1]; omega
  have hb' : yBd n (p + 1) ws (ms ++ [30]) hs := ⟨hp, by omega, by rw [M1]; omega, by omega⟩
  by_cases t3 : tk p = 3
  · rw [if_pos t3, if_pos t3]
    refine yDn_imp (yIf (by omega) hT hE hS hp hb2 (by rw [M1]; omega) hb4 (by omega)) (fun z => hst ?_)
    rw [t3]
    exact ySt_3 hT hp c1 c2 (by omega) (by omega) z
  rw [if_neg t3, if_neg t3]
  by_cases t5 : tk p = 5
  · rw [if_pos t5, if_pos t5]
    refine yDn_imp (yWhile (by omega) hT hE hS hp hb2 (by rw [M1]; omega) hb4 (by omega)) (fun z => hst ?_)
    rw [t5]
    exact ySt_5 hT hp c1 c2 (by omega) (by omega) z
  rw [if_neg t5, if_neg t5]
  by_cases t6 : tk p = 6
  · rw [if_pos t6, if_pos t6]
    rw [t6] at hst
    match g1 : cBare n tk 6 (p + 1) with
    | .error (v, q) =>
      refine yDn_err (v := v) (q := q) ?_ (fun he => hst (ySt_f6a hT hp c1 c2 (by omega) (by omega) g1 (cBare_er g1) he))
      unfold cEach; rw [g1]
    | .ok q1 =>
      obtain rfl := (cBare_ok g1).1
      match g2 : cBare n tk 14 (p + 2) with
      | .error (v, q) =>
        refine yDn_err (v := v) (q := q) ?_ (fun he => hst (ySt_f6b hT hp c1 c2 (by omega) (by omega) g1 g2 (cBare_er g2) he))
        unfold cEach; rw [g1]; simp only; rw [g2]
      | .ok q2 =>
        obtain rfl := (cBare_ok g2).1
        match g3 : cBare n tk 14 (p + 3) with
        | .error (v, q) =>
          refine yDn_err (v := v) (q := q) ?_ (fun he => hst (ySt_f6c hT hp c1 c2 (by omega) (by omega) g1 g2 g3 (cBare_er g3) he))
          unfold cEach; rw [g1]; simp only; rw [g2]; simp only; rw [g3]
        | .ok q3 =>
          obtain rfl := (cBare_ok g3).1
          exact yDn_imp (yEach (by omega) hT hS hb2 (by rw [M1]; omega) hb4 (by omega) g1 g2 g3) (fun z => hst (ySt_6 hT hp c1 c2 (by omega) (by omega) g1 g2 g3 z))
  rw [if_neg t6, if_neg t6]
  by_cases t9 : tk p = 9
  · rw [if_pos t9, if_pos t9]
    rw [t9] at hst
    cases mn
    · have a := hE false (p + 1) ws (ms ++ [30]) ((4, 17, 0) :: td) hs 0 hb' (by simp; omega)
      have a2 := yDn_word a (by omega) (fun p1 l s e => by have := hl false _ _ hp _ _ _ e; omega) (fun p1 l s e => by have := hl' false _ _ hp _ _ _ e; rw [M1]; omega)
      exact yDn_le (yDn_imp a2 (fun z => hst (ySt_9 hT hp c1 c2 (by omega) (by omega) z))) (Nat.le_succ p)
    · have a := hE false (p + 1) ws (ms ++ [30]) ((4, 18, 0) :: (4, 0, 0) :: td) hs 0 hb' (by simp; omega)
      have a2 := yDn_words a (by omega) (fun p1 l s e => by have := hl false _ _ hp _ _ _ e; omega) (fun p1 l s e => by have := hl' false _ _ hp _ _ _ e; rw [M1]; omega)
      exact yDn_le (yDn_imp a2 (fun z => hst (ySt_9 hT hp c1 c2 (by omega) (by omega) z))) (Nat.le_succ p)
  rw [if_neg t9, if_neg t9]
  by_cases t8 : tk p = 8
  · rw [if_pos t8, if_pos t8, cCallS_app, cCallS_app, cPlain_call (Or.inl t8), cPlain_call (Or.inl t8)]
    rw [t8] at hst
    match hq : cKnown n tk par (p + 1) with
    | .error (v, q) => exact yDn_err rfl (fun he => hst (ySt_f8 hT hp c1 c2 (by omega) (by omega) hq (cKnown_er hq) he))
    | .ok q =>
      have hq2 := cKnown_ok ht hq
      obtain rfl := hq2.1
      have hK : (cPar par (tk (p + 1))).toNatClampNeg ≤ 3 := by
        unfold cPar
        rw [if_pos hq2.2.2]
        obtain ⟨f, hf, e⟩ := nI_of (Int32.not_lt.mpr hq2.2.2.1)
        have hf8 : f < 8 := by
          have := hq2.2.2.2.1
          rw [e] at this
          exact (nI_ltI (b := 8) hf (by decide)).mp this
        have ef : (tk (p + 1)).toNatClampNeg = f := by rw [e, nI_clamp hf]
        have hpf := hq2.2.2.2.2
        rw [ef] at hpf ⊢
        have := ((hT.2.2.2.2.1 f hf8).2 hpf).2.2.2
        exact (clampI (i := 3) (by decide)).mp this
      have hb2' : yBd n (p + 2) ws (ms ++ [30]) hs := ⟨by omega, by omega, by rw [M1]; omega, by omega⟩
      have a := yMany (x := 0) ht hE false (cPar par (tk (p + 1))).toNatClampNeg (p + 2) ws (ms ++ [30]) ((4, 16, 0) :: (4, tk (p + 1), 0) :: (4, 18, 0) :: td) hs hb2' (by simp; omega)
      have a2 := yDn_words a (by simp; omega) (fun p1 l s e => by have := cLn_many (hl false) _ (p + 2) _ (by omega) _ _ _ e; omega) (fun p1 l s e => by have := cLn_many (hl' false) _ (p + 2) _ (by omega) _ _ _ e; rw [M1]; omega)
      have a3 := yDn_word a2 (by omega) (fun p1 l s e => by
        obtain ⟨l0, e0, rfl⟩ := cApp_ok e
        have := cLn_many (hl false) _ (p + 2) _ (by omega) _ _ _ e0
        simp; omega) (fun p1 l s e => by
        obtain ⟨l0, e0, rfl⟩ := cApp_ok e
        have := cLn_many (hl' false) _ (p + 2) _ (by omega) _ _ _ e0
        simp; omega)
      exact yDn_le (yDn_imp a3 (fun z => hst (ySt_8 hT hp c1 c2 (by omega) (by omega) hq z))) (by omega)
  rw [if_neg t8, if_neg t8]
  by_cases t7 : tk p = 7
  · rw [cPlain_7 t7, cPlain_7 t7]
    rw [t7] at hst
    have a := hE false (p + 1) ws (ms ++ [30]) ((4, 15, 0) :: td) hs 0 hb' (by simp; omega)
    have a2 := yDn_word a (by omega) (fun p1 l s e => by have := hl false _ _ hp _ _ _ e; omega) (fun p1 l s e => by have := hl' false _ _ hp _ _ _ e; rw [M1]; omega)
    exact yDn_le (yDn_imp a2 (fun z => hst (ySt_7 hT hp c1 c2 (by omega) (by omega) z))) (Nat.le_succ p)
  by_cases t1 : tk p = 1
  · rw [cPlain_1 t1, cPlain_1 t1]
    rw [t1] at hst
    match hq : cBare n tk 14 (p + 1) with
    | .error (v, q) => exact yDn_err rfl (fun he => hst (ySt_f1 hT hp c1 c2 (by omega) (by omega) hq (cBare_er hq) he))
    | .ok q =>
      have hq2 := cBare_ok hq
      obtain rfl := hq2.1
      have hb2' : yBd n (p + 2) ws (ms ++ [30]) hs := ⟨by omega, by omega, by rw [M1]; omega, by omega⟩
      have a := hE false (p + 2) ws (ms ++ [30]) ((4, 3, 0) :: (4, tk (p + 1), 0) :: td) hs 0 hb2' (by simp; omega)
      have a2 := yDn_words a (by omega) (fun p1 l s e => by have := hl false (p + 2) _ (by omega) _ _ _ e; omega) (fun p1 l s e => by have := hl' false (p + 2) _ (by omega) _ _ _ e; rw [M1]; omega)
      exact yDn_le (yDn_imp a2 (fun z => hst (ySt_1 hT hp c1 c2 (by omega) (by omega) hq z))) (by omega)
  have t2 : tk p = 2 := by
    obtain ⟨j, ja, jb, e⟩ := tk_rng (a := 1) (b := 9) (by decide) (by decide) c.1 c.2.1
    have t4 := c.2.2
    have : j = 1 ∨ j = 2 ∨ j = 3 ∨ j = 4 ∨ j = 5 ∨ j = 6 ∨ j = 7 ∨ j = 8 ∨ j = 9 := by omega
    rcases this with rfl | rfl | rfl | rfl | rfl | rfl | rfl | rfl | rfl
    · exact absurd e t1
    · exact e
    · exact absurd e t3
    · exact absurd e t4
    · exact absurd e t5
    · exact absurd e t6
    · exact absurd e t7
    · exact absurd e t8
    · exact absurd e t9
  rw [cPlain_2 t2, cPlain_2 t2]
  rw [t2] at hst
  match hq : cBare n tk 6 (p + 1) with
  | .error (v, q) => exact yDn_err rfl (fun he => hst (ySt_f2 hT hp c1 c2 (by omega) (by omega) hq (cBare_er hq) he))
  | .ok q =>
    have hq2 := cBare_ok hq
    obtain rfl := hq2.1
    have hb2' : yBd n (p + 2) ws (ms ++ [30]) hs := ⟨by omega, by omega, by rw [M1]; omega, by omega⟩
    have a := hE true (p + 2) ws (ms ++ [30]) ((4, 20, 0) :: (4, tk (p + 1), 0) :: td) hs 0 hb2' (by simp; omega)
    have a2 := yDn_words a (by omega) (fun p1 l s e => by have := hl true (p + 2) _ (by omega) _ _ _ e; omega) (fun p1 l s e => by have := hl' true (p + 2) _ (by omega) _ _ _ e; rw [M1]; omega)
    exact yDn_le (yDn_imp a2 (fun z => hst (ySt_2 hT hp c1 c2 (by omega) (by omega) hq z))) (by omega)
theorem ySP_all (hT : yTk S0 n tk par mn) : ∀ r, r ≤ 16 → ySP P S0 fp n tk par mn r := by
  intro r
  induction r with
  | zero => exact fun _ => ySP_0
  | succ r ih => exact fun h => ySP_s (by omega) hT (yEM_all hT r (by omega)) (ih (by omega))
/-- a whole block, its END too -/
theorem yBlock (hT : yTk S0 n tk par mn) (hb : yBd n p ws ms hs) (htd : td.length + 300 ≤ 2900) (x : Int32) : yDn P S0 fp (cEnd tk (cLoop tk (cStm n tk par false mn 16) 700 p ws.length)) (cEnd tk (cLoop tk (cStm n tk par true mn 16) 700 p ms.length)) p ws ms hs td (yRun P S0 0 fp p ws ms ((0, x, 0) :: td) hs) := by
  have := hT.2.1
  exact yBlk0 (Nat.le_refl _) hT (ySP_all hT 16 (Nat.le_refl _)) 700 p ws ms td hs x (by omega) hb (by omega)
end YA

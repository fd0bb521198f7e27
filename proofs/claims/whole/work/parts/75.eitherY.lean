/-! THE REFERENCE READS WHAT THE FUNCTION SAYS: AND, OR; E and M -/
theorem set_eq {α : Type} {X a c : List α} {y v : α} {i : Nat} (h : X = a ++ y :: c) (hi : i = a.length) : a ++ v :: c = X.set i v := by
  subst h; subst hi
  rw [set_mid]
theorem get_eq {α : Type} {X a c : List α} {y : α} {i : Nat} (h : X = a ++ y :: c) (hi : i = a.length) : X[i]? = some y := by
  subst h; subst hi
  simp
section YA
variable {P : Option Value → mv_S → Prop} {S0 : mv_S} {fp : Int32} {n : Nat} {tk par : Nat → Int32} {mn : Bool} {p : Nat} {ws ms : List Int32} {hs : List (Option (Nat × Nat))} {td : List (Int32 × Int32 × Int32)}
theorem yRun_hole' {c : Int32} {q : Nat} {hs' : List (Option (Nat × Nat))} (hb : td.length < 4000) (b1 : ws.length < 6000) (b2 : ms.length < 8000) (b3 : q < 2000) (e : hs' = hs.set q (some (ws.length, ms.length))) (h : yRun P S0 0 fp p (ws ++ [0]) (ms ++ [0]) td hs') : yRun P S0 0 fp p ws ms ((5, nI q, c) :: td) hs := by
  subst e
  exact yRun_hole (b := 0) hb b1 b2 b3 h
theorem yRun_target' {c : Int32} {q x y : Nat} {ws' ms' : List Int32} (hb : td.length < 4000) (b3 : q < 2000) (hq : hs[q]? = some (some (x, y))) (b1 : x < 6000) (b2 : y < 8000) (e1 : ws' = ws.set x (nI ws.length)) (e2 : ms' = ms.set y (nI ms.length)) (h : yRun P S0 0 fp p ws' ms' td hs) : yRun P S0 0 fp p ws ms ((6, nI q, c) :: td) hs := by
  subst e1; subst e2
  exact yRun_target (b := 0) hb b3 hq b1 b2 h
theorem yEither {r : Nat} (ht : ∀ p, n ≤ p → tk p = -1) (hn : n ≤ 700) (hE : yEM P S0 fp n tk par r) {t : Int32} (h1 : p < n) (h2 : ws.length ≤ 8 * p) (h3 : ms.length ≤ 9 * p + 1) (h4 : hs.length ≤ 2 * p) (h5 : td.length + 13 + 13 * r ≤ 3000) : yDn P S0 fp (cEither (cEM n tk par false r) t p ws.length) (cEither (cEM n tk par true r) t p ms.length) p ws ms hs td (yRun P S0 0 fp (p + 1) ws ms (yEiT t (nI (16 - r)) hs.length td) (hs ++ [none] ++ [none])) := by
  have hr : ∀ m p b, p ≤ n → cLn n 8 p (cEM n tk par false r m p b) := fun m p b _ => cLs_ln (cEM_ls (mk := false) ht r m p b)
  have hr' : ∀ m p b, p ≤ n → cLn n 9 p (cEM n tk par true r m p b) := fun m p b _ => cLs_ln (cEM_ls (mk := true) ht r m p b)
  obtain ⟨w, hw⟩ : ∃ w : Int32, w = if t = 30 then 13 else 14 := ⟨_, rfl⟩
  obtain ⟨cc, hcc⟩ : ∃ cc : Int32, cc = if t = 30 then 0 else 1 := ⟨_, rfl⟩
  have eT : yEiT t (nI (16 - r)) hs.length td = (2, 0, nI (16 - r)) :: (4, w, 0) :: (5, nI hs.length, 0) :: (2, 0, nI (16 - r)) :: (4, 11, 0) :: (4, 11, 0) :: (4, 12, 0) :: (5, nI (hs.length + 1), 0) :: (6, nI hs.length, 0) :: (4, 1, 0) :: (4, cc, 0) :: (6, nI (hs.length + 1), 0) :: td := by
    rw [hw, hcc]; rfl
  rw [eT]
  have hb0 : yBd n (p + 1) ws ms (hs ++ [none] ++ [none]) := ⟨h1, by omega, by omega, by simp; omega⟩
  have e0 := hE false (p + 1) ws ms ((4, w, 0) :: (5, nI hs.length, 0) :: (2, 0, nI (16 - r)) :: (4, 11, 0) :: (4, 11, 0) :: (4, 12, 0) :: (5, nI (hs.length + 1), 0) :: (6, nI hs.length, 0) :: (4, 1, 0) :: (4, cc, 0) :: (6, nI (hs.length + 1), 0) :: td) (hs ++ [none] ++ [none]) 0 hb0 (by simp; omega)
  rcases cSh_2 (cSh_EM (n := n) (tk := tk) (par := par) (mk := false) (mk' := true) r false (p + 1) ws.length ms.length) with ⟨⟨v, q⟩, a1, a1'⟩ | ⟨p1, l1, s1, l1', s1', a1, a1'⟩
  · refine yDn_err (v := v) (q := q) ?_ (fun he => e0.1 v q a1 he)
    unfold cEither; rw [a1]
  have q1 := hr false _ _ h1 _ _ _ a1
  have q1' := hr' false _ _ h1 _ _ _ a1'
  obtain ⟨k1, hk1, go1⟩ := e0.2 _ _ _ _ _ a1 a1'
  have W1 : (ws ++ l1 ++ [w]).length = ws.length + l1.length + 1 := by simp; omega
  have M1 : (ms ++ l1' ++ [w]).length = ms.length + l1'.length + 1 := by simp; omega
  have hb1 : yBd n p1 (ws ++ l1 ++ [w] ++ [0]) (ms ++ l1' ++ [w] ++ [0]) (hs ++ some (ws.length + l1.length + 1, ms.length + l1'.length + 1) :: none :: k1) := ⟨q1.2.1, by simp; omega, by simp; omega, by simp; omega⟩
  have e1 := hE false p1 (ws ++ l1 ++ [w] ++ [0]) (ms ++ l1' ++ [w] ++ [0]) ((4, 11, 0) :: (4, 11, 0) :: (4, 12, 0) :: (5, nI (hs.length + 1), 0) :: (6, nI hs.length, 0) :: (4, 1, 0) :: (4, cc, 0) :: (6, nI (hs.length + 1), 0) :: td) (hs ++ some (ws.length + l1.length + 1, ms.length + l1'.length + 1) :: none :: k1) 0 hb1 (by simp; omega)
  have W2 : (ws ++ l1 ++ [w] ++ [0]).length = ws.length + l1.length + 2 := by simp; omega
  have M2 : (ms ++ l1' ++ [w] ++ [0]).length = ms.length + l1'.length + 2 := by simp; omega
  rw [W2, M2] at e1
  have go2 : yRun P S0 0 fp p1 (ws ++ l1 ++ [w] ++ [0]) (ms ++ l1' ++ [w] ++ [0]) ((2, 0, nI (16 - r)) :: (4, 11, 0) :: (4, 11, 0) :: (4, 12, 0) :: (5, nI (hs.length + 1), 0) :: (6, nI hs.length, 0) :: (4, 1, 0) :: (4, cc, 0) :: (6, nI (hs.length + 1), 0) :: td) (hs ++ some (ws.length + l1.length + 1, ms.length + l1'.length + 1) :: none :: k1) → yRun P S0 0 fp (p + 1) ws ms ((2, 0, nI (16 - r)) :: (4, w, 0) :: (5, nI hs.length, 0) :: (2, 0, nI (16 - r)) :: (4, 11, 0) :: (4, 11, 0) :: (4, 12, 0) :: (5, nI (hs.length + 1), 0) :: (6, nI hs.length, 0) :: (4, 1, 0) :: (4, cc, 0) :: (6, nI (hs.length + 1), 0) :: td) (hs ++ [none] ++ [none]) := by
    intro z
    refine go1 (yRun_word (by simp; omega) (by simp; omega) (by simp; omega) ?_)
    refine yRun_hole' (by simp; omega) (by rw [W1]; omega) (by rw [M1]; omega) (by omega) ?_ z
    rw [W1, M1]
    exact set_eq (by simp; rfl) rfl
  rcases cSh_2 (cSh_EM (n := n) (tk := tk) (par := par) (mk := false) (mk' := true) r false p1 (ws.length + l1.length + 2) (ms.length + l1'.length + 2)) with ⟨⟨v, q⟩, a2, a2'⟩ | ⟨p2, l2, s2, l2', s2', a2, a2'⟩
  · refine yDn_err (v := v) (q := q) ?_ (fun he => go2 (e1.1 v q a2 he))
    unfold cEither; rw [a1]; simp only; rw [a2]
  have q2 := hr false _ _ q1.2.1 _ _ _ a2
  have q2' := hr' false _ _ q1'.2.1 _ _ _ a2'
  obtain ⟨k2, hk2, go3⟩ := e1.2 _ _ _ _ _ a2 a2'
  have spec : cEither (cEM n tk par false r) t p ws.length = .ok (p2, l1 ++ w :: nI (ws.length + l1.length + 2 + l2.length + 4) :: (l2 ++ [11, 11, 12, nI (ws.length + l1.length + 2 + l2.length + 6), 1, cc]), s1 ++ s2) := by
    unfold cEither; rw [a1]; simp only; rw [a2, hw, hcc]
  have spec' : cEither (cEM n tk par true r) t p ms.length = .ok (p2, l1' ++ w :: nI (ms.length + l1'.length + 2 + l2'.length + 4) :: (l2' ++ [11, 11, 12, nI (ms.length + l1'.length + 2 + l2'.length + 6), 1, cc]), s1' ++ s2') := by
    unfold cEither; rw [a1']; simp only; rw [a2', hw, hcc]
  refine yDn_ok spec spec' (some (ws.length + l1.length + 1, ms.length + l1'.length + 1) :: some (ws.length + l1.length + 2 + l2.length + 3, ms.length + l1'.length + 2 + l2'.length + 3) :: (k1 ++ k2)) (by simp; omega) (fun z => go2 (go3 ?_))
  refine yRun_word (by simp; omega) (by simp; omega) (by simp; omega) ?_
  refine yRun_word (by simp; omega) (by simp; omega) (by simp; omega) ?_
  refine yRun_word (by simp; omega) (by simp; omega) (by simp; omega) ?_
  refine yRun_hole' (hs' := hs ++ some (ws.length + l1.length + 1, ms.length + l1'.length + 1) :: some (ws.length + l1.length + 2 + l2.length + 3, ms.length + l1'.length + 2 + l2'.length + 3) :: (k1 ++ k2)) (by simp; omega) (by simp; omega) (by simp; omega) (by omega) ?_ ?_
  · have eL : (ws ++ l1 ++ [w] ++ [0] ++ l2 ++ [11] ++ [11] ++ [12]).length = ws.length + l1.length + 2 + l2.length + 3 := by simp; omega
    have eL' : (ms ++ l1' ++ [w] ++ [0] ++ l2' ++ [11] ++ [11] ++ [12]).length = ms.length + l1'.length + 2 + l2'.length + 3 := by simp; omega
    rw [eL, eL', show hs ++ some (ws.length + l1.length + 1, ms.length + l1'.length + 1) :: some (ws.length + l1.length + 2 + l2.length + 3, ms.length + l1'.length + 2 + l2'.length + 3) :: (k1 ++ k2) = (hs ++ [some (ws.length + l1.length + 1, ms.length + l1'.length + 1)]) ++ some (ws.length + l1.length + 2 + l2.length + 3, ms.length + l1'.length + 2 + l2'.length + 3) :: (k1 ++ k2) by simp]
    exact set_eq (y := none) (by simp) (by simp)
  refine yRun_target' (x := ws.length + l1.length + 1) (y := ms.length + l1'.length + 1) (ws' := ws ++ l1 ++ [w] ++ nI (ws.length + l1.length + 2 + l2.length + 4) :: (l2 ++ [11, 11, 12, 0])) (ms' := ms ++ l1' ++ [w] ++ nI (ms.length + l1'.length + 2 + l2'.length + 4) :: (l2' ++ [11, 11, 12, 0])) (by simp; omega) (by omega) (get_eq rfl rfl) (by omega) (by omega) ?_ ?_ ?_
  · have eL : (ws ++ l1 ++ [w] ++ [0] ++ l2 ++ [11] ++ [11] ++ [12] ++ [0]).length = ws.length + l1.length + 2 + l2.length + 4 := by simp; omega
    rw [eL]
    exact set_eq (y := 0) (by simp) (by simp; omega)
  · have eL : (ms ++ l1' ++ [w] ++ [0] ++ l2' ++ [11] ++ [11] ++ [12] ++ [0]).length = ms.length + l1'.length + 2 + l2'.length + 4 := by simp; omega
    rw [eL]
    exact set_eq (y := 0) (by simp) (by simp; omega)
  refine yRun_word (by simp; omega) (by simp; omega) (by simp; omega) ?_
  refine yRun_word (by simp; omega) (by simp; omega) (by simp; omega) ?_
  refine yRun_target' (x := ws.length + l1.length + 2 + l2.length + 3) (y := ms.length + l1'.length + 2 + l2'.length + 3) (ws' := (ws ++ l1 ++ [w] ++ nI (ws.length + l1.length + 2 + l2.length + 4) :: (l2 ++ [11, 11, 12])) ++ nI (ws.length + l1.length + 2 + l2.length + 6) :: [1, cc]) (ms' := (ms ++ l1' ++ [w] ++ nI (ms.length + l1'.length + 2 + l2'.length + 4) :: (l2' ++ [11, 11, 12])) ++ nI (ms.length + l1'.length + 2 + l2'.length + 6) :: [1, cc]) (by omega) (by omega) ?_ (by omega) (by omega) ?_ ?_ ?_
  · exact get_eq (a := hs ++ [some (ws.length + l1.length + 1, ms.length + l1'.length + 1)]) (c := k1 ++ k2) (by simp) (by simp)
  · have eL : (ws ++ l1 ++ [w] ++ nI (ws.length + l1.length + 2 + l2.length + 4) :: (l2 ++ [11, 11, 12, 0]) ++ [1] ++ [cc]).length = ws.length + l1.length + 2 + l2.length + 6 := by simp; omega
    rw [eL]
    exact set_eq (y := 0) (by simp) (by simp; omega)
  · have eL : (ms ++ l1' ++ [w] ++ nI (ms.length + l1'.length + 2 + l2'.length + 4) :: (l2' ++ [11, 11, 12, 0]) ++ [1] ++ [cc]).length = ms.length + l1'.length + 2 + l2'.length + 6 := by simp; omega
    rw [eL]
    exact set_eq (y := 0) (by simp) (by simp; omega)
  simpa using z
end YA

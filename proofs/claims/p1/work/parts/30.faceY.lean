/-! THE REFERENCE'S METHODS: what needs no tree and no program -/
section LY
variable {d : Nat} {S : mv_S} {P : Option Value → mv_S → Prop}
theorem y_in {v a b : Int32} (h1 : ¬ (a ≤ v ∧ v ≤ b) → P (some (.int 0)) S) (h2 : a ≤ v ∧ v ≤ b → P (some (.int 1)) S) : mv_big layY sysY (d + 1) 0 [.int v, .int a, .int b] S P := by
  refine ⟨20, ?_⟩
  refine ⟨fun c => ⟨Or.inl rfl, h1 (fun q => absurd q.1 (Int32.not_le.mpr c))⟩, fun c => ⟨fun c2 => ⟨Or.inl rfl, h1 (fun q => absurd q.2 (Int32.not_le.mpr c2))⟩, fun c2 => ⟨Or.inr rfl, h2 ⟨Int32.not_lt.mp c, Int32.not_lt.mp c2⟩⟩⟩⟩
/-- what clearOwn leaves, c calls deep -/
def yCO (S : mv_S) (c : Nat) : mv_S := mv_pr (mv_pr (mv_pr (stR S 21 (rFill (S.2.1 21) (6 * c) (6 * c + 6) 0)) 22 (2 * c) 0) 22 (2 * c + 1) 0) 24 c (S.1 0 48)
theorem y_clearOwn {c : Nat} (hc : S.1 0 43 = nI c) (hc2 : c < 25) (h : P none (yCO S c)) : mv_big layY sysY (d + 1) 45 [.ref 0] S P := by
  have key := mv_loop (T := tT11) (nL := 2) (z := none) (il := mX11_clearOwn.2.2.2.2.2.2.2) (lay := layY) (sys := sysY) (d := d) (P := P) (pc := 2) 40 (fun k lv st S' => ∃ i, i + k = 6 ∧ lv = [(1, .int (nI i)), (0, .ref 0)] ∧ st = [] ∧ S' = stR S 21 (rFill (S.2.1 21) (6 * c) (6 * c + i) 0)) (by
      rintro n lv st S' ⟨i, hk, rfl, rfl, rfl⟩
      obtain rfl : i = 6 := hk
      have e0 : (2 : Int32) * S.1 0 43 = nI (2 * c) := by rw [hc]; exact pk_mul 2 c
      have e1 : (2 : Int32) * S.1 0 43 + 1 = nI (2 * c + 1) := by rw [e0]; exact nI_1 _
      refine ⟨fun _ => ⟨?_, ?_, ?_, ?_⟩, fun z => absurd (show nI 6 ≤ nI 6 by decide) z⟩
      · show vp_in ((2 : Int32) * S.1 0 43) 50
        rw [e0]; exact vp_in_nI (by omega) (by omega)
      · show vp_in ((2 : Int32) * S.1 0 43 + 1) 50
        rw [e1]; exact vp_in_nI (by omega) (by omega)
      · show vp_in (S.1 0 43) 25
        rw [hc]; exact vp_in_nI (by omega) (by omega)
      · show P none (mv_pr (mv_pr (mv_pr (stR S 21 (rFill (S.2.1 21) (6 * c) (6 * c + 6) 0)) 22 ((2 : Int32) * S.1 0 43).toNatClampNeg 0) 22 ((2 : Int32) * S.1 0 43 + 1).toNatClampNeg 0) 24 (S.1 0 43).toNatClampNeg (S.1 0 48))
        rw [e1, e0, hc, nI_clamp (by omega), nI_clamp (by omega), nI_clamp (by omega)]
        exact h) (by
      rintro k n lv st S' ⟨i, hk, rfl, rfl, rfl⟩ ih
      have e0 : (6 : Int32) * S.1 0 43 + nI i = nI (6 * c + i) := by rw [hc, show (6 : Int32) * nI c = nI (6 * c) from pk_mul 6 c, nI_add]
      refine ⟨fun z => ?_, fun z => ⟨?_, ?_⟩⟩
      · have c' : nI 6 ≤ nI i := z
        exact absurd ((nI_leI (by omega) (by omega)).mp c') (by omega)
      · show vp_in ((6 : Int32) * S.1 0 43 + nI i) 150
        rw [e0]; exact vp_in_nI (by omega) (by omega)
      · have hi := ih (n + 25) [(1, .int (nI (i + 1))), (0, .ref 0)] [] (stR S 21 (rFill (S.2.1 21) (6 * c) (6 * c + (i + 1)) 0)) (by omega) ⟨i + 1, by omega, rfl, rfl, rfl⟩
        rw [show 6 * c + (i + 1) = (6 * c + i) + 1 by omega, ← stR_fill S 21 _ (Nat.le_add_right _ _) (by omega) 0, ← e0] at hi
        exact ws_iinc (y := nI (i + 1)) rfl rfl rfl (nI_succ i).symm rfl rfl (ws_goto (t := 2) rfl (by decide) hi))
  refine ⟨402, ?_⟩
  refine ws_iconst (x := nI 0) rfl rfl rfl (ws_istore_n rfl rfl rfl rfl ?_)
  exact key 6 400 [(1, .int (nI 0)), (0, .ref 0)] [] S (by omega) ⟨0, rfl, rfl, rfl, by rw [Nat.add_zero, rFill_0, stR_self]⟩
/-- what clear leaves -/
def yCL (S : mv_S) (a : Int32) : mv_S := yCO (mv_pf (mv_pf (mv_pf (stR (mv_pr (stR S 19 (rFill (S.2.1 19) 0 8 0)) 19 0 a) 20 (rFill (S.2.1 20) 0 4 0)) 0 43 0) 0 48 0) 0 50 0) 0
theorem y_clear {a : Int32} (h : P none (yCL S a)) : mv_big layY sysY (d + 2) 44 [.ref 0, .int a] S P := by
  obtain ⟨S1, hS1⟩ : ∃ S1, S1 = mv_pr (stR S 19 (rFill (S.2.1 19) 0 8 0)) 19 0 a := ⟨_, rfl⟩
  have key2 := mv_loop (T := tT11) (nL := 3) (z := none) (il := mX11_clear.2.2.2.2.2.2.2) (lay := layY) (sys := sysY) (d := d + 1) (P := P) (pc := 30) 40 (fun k lv st S' => ∃ i, i + k = 4 ∧ lv = [(2, .int (nI i)), (0, .ref 0), (1, .int a)] ∧ st = [] ∧ S' = stR S1 20 (rFill (S1.2.1 20) 0 i 0)) (by
      rintro n lv st S' ⟨i, hk, rfl, rfl, rfl⟩
      obtain rfl : i = 4 := hk
      refine ⟨fun _ => ?_, fun z => absurd (show nI 4 ≤ nI 4 by decide) z⟩
      refine y_clearOwn (c := 0) rfl (by omega) ?_
      subst hS1
      exact h) (by
      rintro k n lv st S' ⟨i, hk, rfl, rfl, rfl⟩ ih
      refine ⟨fun z => ?_, fun z => ⟨vp_in_nI (by omega) (by omega), ?_⟩⟩
      · have c' : nI 4 ≤ nI i := z
        exact absurd ((nI_leI (by omega) (by omega)).mp c') (by omega)
      · have hi := ih (n + 30) [(2, .int (nI (i + 1))), (0, .ref 0), (1, .int a)] [] (stR S1 20 (rFill (S1.2.1 20) 0 (i + 1) 0)) (by omega) ⟨i + 1, by omega, rfl, rfl, rfl⟩
        rw [← stR_fill S1 20 _ (Nat.zero_le i) (by omega) 0] at hi
        exact ws_iinc (y := nI (i + 1)) rfl rfl rfl (nI_succ i).symm rfl rfl (ws_goto (t := 30) rfl (by decide) hi))
  have key1 := mv_loop (T := tT11) (nL := 3) (z := none) (il := mX11_clear.2.2.2.2.2.2.2) (lay := layY) (sys := sysY) (d := d + 1) (P := P) (pc := 2) 300 (fun k lv st S' => ∃ i, i + k = 8 ∧ lv = [(2, .int (nI i)), (0, .ref 0), (1, .int a)] ∧ st = [] ∧ S' = stR S 19 (rFill (S.2.1 19) 0 i 0)) (by
      rintro n lv st S' ⟨i, hk, rfl, rfl, rfl⟩
      obtain rfl : i = 8 := hk
      refine ⟨fun _ => ⟨vp_in_nI (n := 0) (by omega) (by omega), ?_⟩, fun z => absurd (show nI 8 ≤ nI 8 by decide) z⟩
      refine ws_iconst (x := nI 0) rfl rfl rfl (ws_istore_n rfl rfl rfl rfl ?_)
      have hk2 := key2 4 (n + 290) [(2, .int (nI 0)), (0, .ref 0), (1, .int a)] [] S1 (by omega) ⟨0, rfl, rfl, rfl, by rw [rFill_0, stR_self]⟩
      rw [hS1] at hk2
      exact hk2) (by
      rintro k n lv st S' ⟨i, hk, rfl, rfl, rfl⟩ ih
      refine ⟨fun z => ?_, fun z => ⟨vp_in_nI (by omega) (by omega), ?_⟩⟩
      · have c' : nI 8 ≤ nI i := z
        exact absurd ((nI_leI (by omega) (by omega)).mp c') (by omega)
      · have hi := ih (n + 290) [(2, .int (nI (i + 1))), (0, .ref 0), (1, .int a)] [] (stR S 19 (rFill (S.2.1 19) 0 (i + 1) 0)) (by omega) ⟨i + 1, by omega, rfl, rfl, rfl⟩
        rw [← stR_fill S 19 _ (Nat.zero_le i) (by omega) 0] at hi
        exact ws_iinc (y := nI (i + 1)) rfl rfl rfl (nI_succ i).symm rfl rfl (ws_goto (t := 2) rfl (by decide) hi))
  refine ⟨3002, ?_⟩
  refine ws_iconst (x := nI 0) rfl rfl rfl (ws_istore_n rfl rfl rfl rfl ?_)
  exact key1 8 3000 [(2, .int (nI 0)), (0, .ref 0), (1, .int a)] [] S (by omega) ⟨0, rfl, rfl, rfl, by rw [rFill_0, stR_self]⟩
end LY

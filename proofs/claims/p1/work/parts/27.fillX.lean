/-! THE CLASS'S METHODS: program, store, refusals -/
theorem sR_1 (S : mv_S) (q n : Nat) (i x : Int32) : (sR S q n i x).1 = S.1 := by unfold sR; split <;> rfl
theorem stR_1 (S : mv_S) (q : Nat) (r : Nat → Int32) : (stR S q r).1 = S.1 := rfl
/-- what forgetCode leaves -/
def xFC (S : mv_S) : mv_S := stR (mv_pf (mv_pf (mv_pf S 1 11 0) 1 10 0) 1 12 (-1)) 12 (rFill (S.2.1 12) 0 8 (-1))
/-- what forgetCalls leaves -/
def xFK (S : mv_S) : mv_S := stR (mv_pf (mv_pf (mv_pf S 4 13 0) 4 11 0) 4 12 0) 24 (rFill (S.2.1 24) 4 54 0)
section LX
variable {d : Nat} {S : mv_S} {P : Option Value → mv_S → Prop}
theorem x_zero_24 (h : P none (stR S 24 (rFill (S.2.1 24) 0 54 0))) : mv_big layX sysX (d + 1) 81 [.ref 24] S P := by
  have key := mv_loop (T := tT3) (nL := 2) (z := none) (il := mX3_zero.2.2.2.2.2.2.2) (lay := layX) (sys := sysX) (d := d) (P := P) (pc := 2) 20 (fun k lv st S' => ∃ i, i + k = 54 ∧ lv = [(1, .int (nI i)), (0, .ref 24)] ∧ st = [] ∧ S' = stR S 24 (rFill (S.2.1 24) 0 i 0)) (by
      rintro n lv st S' ⟨i, hk, rfl, rfl, rfl⟩
      obtain rfl : i = 54 := hk
      exact ⟨fun _ => h, fun c => absurd (by decide) c⟩) (by
      rintro k n lv st S' ⟨i, hk, rfl, rfl, rfl⟩ ih
      refine ⟨fun c => ?_, fun c => ⟨vp_in_nI (by omega) (by omega), ?_⟩⟩
      · exact absurd ((nI_leI (by omega) (by omega)).mp c) (by omega)
      · have hi := ih (n + 10) [(1, .int (nI (i + 1))), (0, .ref 24)] [] (stR S 24 (rFill (S.2.1 24) 0 (i + 1) 0)) (by omega) ⟨i + 1, by omega, rfl, rfl, rfl⟩
        rw [← stR_fill S 24 _ (Nat.zero_le i) (by omega) 0] at hi
        exact ws_iinc (y := nI (i + 1)) rfl rfl rfl (nI_succ i).symm rfl rfl (ws_goto (t := 2) rfl (by decide) hi))
  refine ⟨1202, ?_⟩
  refine ws_iconst (x := nI 0) rfl rfl rfl (ws_istore_n rfl rfl rfl rfl ?_)
  exact key 54 1200 [(1, .int (nI 0)), (0, .ref 24)] [] S (by omega) ⟨0, rfl, rfl, rfl, by rw [rFill_0, stR_self]⟩
theorem x_forgetCode (h : P none (xFC S)) : mv_big layX sysX (d + 1) 50 [.ref 1] S P := by
  obtain ⟨S1, hS1⟩ : ∃ S1, S1 = mv_pf (mv_pf (mv_pf S 1 11 0) 1 10 0) 1 12 (-1) := ⟨_, rfl⟩
  have key := mv_loop (T := tT2) (nL := 2) (z := none) (il := mX2_forgetCode.2.2.2.2.2.2.2) (lay := layX) (sys := sysX) (d := d) (P := P) (pc := 17) 20 (fun k lv st S' => ∃ i, i + k = 8 ∧ lv = [(1, .int (nI i)), (0, .ref 1)] ∧ st = [] ∧ S' = stR S1 12 (rFill (S1.2.1 12) 0 i (-1))) (by
      rintro n lv st S' ⟨i, hk, rfl, rfl, rfl⟩
      obtain rfl : i = 8 := hk
      exact ⟨fun _ => by rw [hS1]; exact h, fun c => absurd (by decide) c⟩) (by
      rintro k n lv st S' ⟨i, hk, rfl, rfl, rfl⟩ ih
      refine ⟨fun c => ?_, fun c => ⟨vp_in_nI (by omega) (by omega), ?_⟩⟩
      · have c' : nI 8 ≤ nI i := c
        exact absurd ((nI_leI (by omega) (by omega)).mp c') (by omega)
      · have hi := ih (n + 10) [(1, .int (nI (i + 1))), (0, .ref 1)] [] (stR S1 12 (rFill (S1.2.1 12) 0 (i + 1) (-1))) (by omega) ⟨i + 1, by omega, rfl, rfl, rfl⟩
        rw [← stR_fill S1 12 _ (Nat.zero_le i) (by omega) (-1)] at hi
        exact ws_iinc (y := nI (i + 1)) rfl rfl rfl (nI_succ i).symm rfl rfl (ws_goto (t := 17) rfl (by decide) hi))
  refine ⟨411, ?_⟩
  refine ws_aload_n rfl rfl rfl (ws_iconst (x := 0) rfl rfl rfl (ws_putz rfl rfl (Or.inl rfl) rfl ?_))
  refine ws_aload_n rfl rfl rfl (ws_iconst (x := 0) rfl rfl rfl (ws_puti rfl rfl rfl ?_))
  refine ws_aload_n rfl rfl rfl (ws_iconst (x := -1) rfl rfl rfl (ws_puti rfl rfl rfl ?_))
  refine ws_iconst (x := nI 0) rfl rfl rfl (ws_istore_n rfl rfl rfl rfl ?_)
  rw [← hS1]
  exact key 8 400 [(1, .int (nI 0)), (0, .ref 1)] [] S1 (by omega) ⟨0, rfl, rfl, rfl, by rw [rFill_0, stR_self]⟩
theorem x_forgetCalls (h : P none (xFK S)) : mv_big layX sysX (d + 1) 94 [.ref 4] S P := by
  obtain ⟨S1, hS1⟩ : ∃ S1, S1 = mv_pf (mv_pf (mv_pf S 4 13 0) 4 11 0) 4 12 0 := ⟨_, rfl⟩
  have key := mv_loop (T := tT5) (nL := 2) (z := none) (il := mX5_forgetCalls.2.2.2.2.2.2.2) (lay := layX) (sys := sysX) (d := d) (P := P) (pc := 17) 20 (fun k lv st S' => ∃ i, 4 ≤ i ∧ i + k = 54 ∧ lv = [(1, .int (nI i)), (0, .ref 4)] ∧ st = [] ∧ S' = stR S1 24 (rFill (S1.2.1 24) 4 i 0)) (by
      rintro n lv st S' ⟨i, h4, hk, rfl, rfl, rfl⟩
      obtain rfl : i = 54 := hk
      exact ⟨fun _ => by rw [hS1]; exact h, fun c => absurd (by decide) c⟩) (by
      rintro k n lv st S' ⟨i, h4, hk, rfl, rfl, rfl⟩ ih
      refine ⟨fun c => ?_, fun c => ⟨vp_in_nI (by omega) (by omega), ?_⟩⟩
      · have c' : nI 54 ≤ nI i := c
        exact absurd ((nI_leI (by omega) (by omega)).mp c') (by omega)
      · have hi := ih (n + 8) [(1, .int (nI (i + 1))), (0, .ref 4)] [] (stR S1 24 (rFill (S1.2.1 24) 4 (i + 1) 0)) (by omega) ⟨i + 1, by omega, by omega, rfl, rfl, rfl⟩
        rw [← stR_fill S1 24 _ h4 (by omega) 0] at hi
        exact ws_iinc (y := nI (i + 1)) rfl rfl rfl (nI_succ i).symm rfl rfl (ws_goto (t := 17) rfl (by decide) hi))
  refine ⟨1111, ?_⟩
  refine ws_aload_n rfl rfl rfl (ws_iconst (x := 0) rfl rfl rfl (ws_puti rfl rfl rfl ?_))
  refine ws_aload_n rfl rfl rfl (ws_iconst (x := 0) rfl rfl rfl (ws_puti rfl rfl rfl ?_))
  refine ws_aload_n rfl rfl rfl (ws_iconst (x := 0) rfl rfl rfl (ws_puti rfl rfl rfl ?_))
  refine ws_iconst (x := nI 4) rfl rfl rfl (ws_istore_n rfl rfl rfl rfl ?_)
  rw [← hS1]
  exact key 50 1100 [(1, .int (nI 4)), (0, .ref 4)] [] S1 (by omega) ⟨4, by omega, rfl, rfl, rfl, by rw [rFill_0, stR_self]⟩
end LX

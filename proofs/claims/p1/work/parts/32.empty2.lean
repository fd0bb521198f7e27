/-! BOTH: counts, maps, a compile, where nothing is there -/
section LX
variable {d : Nat} {S : mv_S} {P : Option Value → mv_S → Prop}
theorem x_reachAll0 (hc : S.1 4 13 = 0) (ht : S.1 4 12 = 0) (hm : ∀ j, rAt 54 (S.2.1 24) j = 0) (h : P none (xBR S)) : mv_big layX sysX (d + 2) 123 [.ref 4] S P := by
  have key := mv_loop (T := tT5) (nL := 3) (z := none) (il := mX5_reachAll.2.2.2.2.2.2.2) (lay := layX) (sys := sysX) (d := d + 1) (P := P) (pc := 20) 40 (fun k lv st S' => ∃ i, i + k = 6 ∧ lv = [(2, .int (nI i)), (1, .int (nI 6)), (0, .ref 4)] ∧ st = [] ∧ S' = xBR S) (by
      rintro n lv st S' ⟨i, hk, rfl, rfl, rfl⟩
      obtain rfl : i = 6 := hk
      refine ⟨fun _ => ?_, fun z => absurd (show nI 6 ≤ nI 6 by decide) z⟩
      refine ⟨fun _ => h, fun z => absurd (show S.1 4 12 ≤ 0 by rw [ht]; decide) z⟩) (by
      rintro k n lv st S' ⟨i, hk, rfl, rfl, rfl⟩ ih
      refine ⟨fun z => absurd ((nI_leI (by omega) (by omega)).mp (show nI 6 ≤ nI i from z)) (by omega), fun z => ?_⟩
      refine x_at_24 ?_
      have e : rAt 54 ((xBR S).2.1 24) (nI i) = 0 := hm _
      rw [e]
      refine x_reach0 ?_
      have hi := ih (n + 28) [(2, .int (nI (i + 1))), (1, .int (nI 6)), (0, .ref 4)] [] (xBR S) (by omega) ⟨i + 1, by omega, rfl, rfl, rfl⟩
      exact ws_iinc (y := nI (i + 1)) rfl rfl rfl (nI_succ i).symm rfl rfl (ws_goto (t := 20) rfl (by decide) hi))
  refine ⟨414, ?_⟩
  refine ws_aload_n rfl rfl rfl (ws_getr rfl rfl rfl (ws_iv rfl rfl rfl ?_))
  refine x_beginReaching ?_
  refine ws_iconst (x := 4) rfl rfl rfl (ws_aload_n rfl rfl rfl (ws_geti (x := 0) rfl rfl hc rfl (ws_iconst (x := 1) rfl rfl rfl (ws_iadd (w := 1) rfl rfl rfl (ws_iconst (x := 2) rfl rfl rfl (ws_imul (w := 2) rfl rfl rfl (ws_iadd (w := nI 6) rfl rfl rfl (ws_istore_n rfl rfl rfl rfl (ws_iconst (x := nI 0) rfl rfl rfl (ws_istore_n rfl rfl rfl rfl ?_))))))))))
  exact key 6 400 [(2, .int (nI 0)), (1, .int (nI 6)), (0, .ref 4)] [] (xBR S) (by omega) ⟨0, rfl, rfl, rfl, rfl⟩
theorem x_live0 (hc : S.1 4 13 = 0) (ht : S.1 4 12 = 0) (hm : ∀ j, rAt 54 (S.2.1 24) j = 0) (h : P (some (.int 0)) (xBR S)) : mv_big layX sysX (d + 3) 122 [.ref 4] S P := by
  refine ⟨20, ?_⟩
  refine x_reachAll0 hc ht hm ?_
  refine x_reached ?_
  exact h
/-- count() where nothing is there -/
theorem x_count0 {w : Int32} (h0 : S.1 1 9 = 0) (h1 : S.1 1 11 = 0) (h2 : S.1 4 15 = 0) (hc : S.1 4 13 = 0) (ht : S.1 4 12 = 0) (hm : ∀ j, rAt 54 (S.2.1 24) j = 0) (h4 : S.1 4 16 = 0) (h6 : S.1 6 2 = 0)
    (k0 : 0 ≤ w ∧ w < 6 → ∀ S', P (some (.int 0)) S') (k6 : w = 6 → P (some (.int (-1))) S) (k7 : w = 7 → P (some (.int 6)) S) (k8 : ¬ (0 ≤ w ∧ w < 8) → P (some (.int (-2))) S) : mv_big layX sysX (d + 4) 170 [.ref 0, .int w] S P := by
  refine ⟨60, ?_⟩
  refine ⟨fun e => ?_, fun e0 => ⟨fun e => ?_, fun e1 => ⟨fun e => ?_, fun e2 => ⟨fun e => ?_, fun e3 => ⟨fun e => ?_, fun e4 => ⟨fun e => ?_, fun e5 => ⟨fun e => ?_, fun e6 => ⟨fun e => ?_, fun e7 => ?_⟩⟩⟩⟩⟩⟩⟩⟩
  · have e : w = 0 := e
    refine x_size ?_
    rw [h0]; exact k0 (by rw [e]; decide) _
  · have e : w = 1 := e
    refine x_wordCount ?_
    rw [if_pos h1]; exact k0 (by rw [e]; decide) _
  · have e : w = 2 := e
    refine x_steps ?_
    rw [h2]; exact k0 (by rw [e]; decide) _
  · have e : w = 3 := e
    refine x_live0 hc ht hm ?_
    exact k0 (by rw [e]; decide) _
  · have e : w = 4 := e
    refine x_mostMade ?_
    rw [h4]; exact k0 (by rw [e]; decide) _
  · have e : w = 5 := e
    refine x_calls ?_
    rw [hc]; exact k0 (by rw [e]; decide) _
  · have e : w = 6 := e
    refine x_there (Or.inl h6) ?_
    exact ⟨fun _ => k6 e, fun z => absurd h6 z⟩
  · have e : w = 7 := e
    refine x_there (Or.inl h6) ?_
    exact ⟨fun _ => k7 e, fun z => absurd h6 z⟩
  · refine k8 (fun q => ?_)
    obtain ⟨j, hj, rfl⟩ := vp_in_of (rIn_vp (n := 8) (by decide) q) (by decide)
    match j, hj with
    | 0, _ => exact e0 rfl
    | 1, _ => exact e1 rfl
    | 2, _ => exact e2 rfl
    | 3, _ => exact e3 rfl
    | 4, _ => exact e4 rfl
    | 5, _ => exact e5 rfl
    | 6, _ => exact e6 rfl
    | 7, _ => exact e7 rfl
end LX
section LY
variable {d : Nat} {S : mv_S} {P : Option Value → mv_S → Prop}
theorem y_mark0 (h : P none S) : mv_big layY sysY (d + 1) 30 [.ref 0, .int 0] S P := by
  refine ⟨60, ?_⟩
  exact ⟨fun _ => ⟨fun _ => h, fun z => absurd (show (0 : Int32) ≤ 0 by decide) z⟩, fun z => absurd (show (0 : Int32) ≤ 0 by decide) z⟩
theorem y_findLive0 (hm : ∀ j, j < 4 → S.2.1 20 j = 0) (hh : S.1 0 48 = 0) (h : ∀ S', S'.1 = (mv_pf S 0 30 0).1 → P none S') : mv_big layY sysY (d + 2) 31 [.ref 0, .int 0] S P := by
  obtain ⟨S1, hS1⟩ : ∃ S1, S1 = mv_pf S 0 30 0 := ⟨_, rfl⟩
  have key2 := mv_loop (T := tT11) (nL := 3) (z := none) (il := mX11_findLive.2.2.2.2.2.2.2) (lay := layY) (sys := sysY) (d := d + 1) (P := P) (pc := 29) 80 (fun k lv st S' => ∃ i, i + k = 4 ∧ lv = [(2, .int (nI i)), (0, .ref 0), (1, .int 0)] ∧ st = [] ∧ S' = stR S1 17 (rFill (S1.2.1 17) 0 900 0)) (by
      rintro n lv st S' ⟨i, hk, rfl, rfl, rfl⟩
      obtain rfl : i = 4 := hk
      refine ⟨fun _ => ?_, fun z => absurd (show nI 4 ≤ nI 4 by decide) z⟩
      have h' := h (stR S1 17 (rFill (S1.2.1 17) 0 900 0)) (by rw [hS1]; rfl)
      have hh' : (stR S1 17 (rFill (S1.2.1 17) 0 900 0)).1 0 48 = 0 := by rw [hS1]; exact hh
      have fin : (S1.1 0 48 ≤ 0 → P none (stR S1 17 (rFill (S1.2.1 17) 0 900 0))) := fun _ => h'
      refine ⟨fun _ => ⟨fun _ => h', fun z => absurd (show (stR S1 17 (rFill (S1.2.1 17) 0 900 0)).1 0 48 ≤ 0 by rw [hh']; decide) z⟩, fun _ => ⟨fun _ => ⟨fun _ => h', fun z => absurd (show (stR S1 17 (rFill (S1.2.1 17) 0 900 0)).1 0 48 ≤ 0 by rw [hh']; decide) z⟩, fun z => absurd rfl z⟩⟩) (by
      rintro k n lv st S' ⟨i, hk, rfl, rfl, rfl⟩ ih
      refine ⟨fun z => absurd ((nI_leI (by omega) (by omega)).mp (show nI 4 ≤ nI i from z)) (by omega), fun z => ⟨vp_in_nI (by omega) (by omega), ?_⟩⟩
      have e : (stR S1 17 (rFill (S1.2.1 17) 0 900 0)).2.1 20 (nI i).toNatClampNeg = 0 := by rw [nI_clamp (by omega), hS1]; exact hm i (by omega)
      rw [e]
      refine y_mark0 ?_
      have hi := ih (n + 69) [(2, .int (nI (i + 1))), (0, .ref 0), (1, .int 0)] [] (stR S1 17 (rFill (S1.2.1 17) 0 900 0)) (by omega) ⟨i + 1, by omega, rfl, rfl, rfl⟩
      exact ws_iinc (y := nI (i + 1)) rfl rfl rfl (nI_succ i).symm rfl rfl (ws_goto (t := 29) rfl (by decide) hi))
  have key1 := mv_loop (T := tT11) (nL := 3) (z := none) (il := mX11_findLive.2.2.2.2.2.2.2) (lay := layY) (sys := sysY) (d := d + 1) (P := P) (pc := 7) 500 (fun k lv st S' => ∃ i, i + k = 900 ∧ lv = [(2, .int (nI i)), (0, .ref 0), (1, .int 0)] ∧ st = [] ∧ S' = stR S1 17 (rFill (S1.2.1 17) 0 i 0)) (by
      rintro n lv st S' ⟨i, hk, rfl, rfl, rfl⟩
      obtain rfl : i = 900 := hk
      refine ws_iload_n rfl rfl rfl (ws_sipush (x := nI 900) rfl rfl rfl (ws_i rfl ⟨fun _ => ?_, fun z => absurd (show nI 900 ≤ nI 900 by decide) z⟩))
      refine ws_iconst (x := nI 0) rfl rfl rfl (ws_istore_n rfl rfl rfl rfl ?_)
      exact key2 4 (n + 495) [(2, .int (nI 0)), (0, .ref 0), (1, .int 0)] [] (stR S1 17 (rFill (S1.2.1 17) 0 900 0)) (by omega) ⟨0, rfl, rfl, rfl, rfl⟩) (by
      rintro k n lv st S' ⟨i, hk, rfl, rfl, rfl⟩ ih
      refine ⟨fun z => ?_, fun z => ⟨Or.inl rfl, vp_in_nI (by omega) (by omega), ?_⟩⟩
      · have c' : nI 900 ≤ nI i := z
        exact absurd ((nI_leI (by omega) (by omega)).mp c') (by omega)
      · have hi := ih (n + 490) [(2, .int (nI (i + 1))), (0, .ref 0), (1, .int 0)] [] (stR S1 17 (rFill (S1.2.1 17) 0 (i + 1) 0)) (by omega) ⟨i + 1, by omega, rfl, rfl, rfl⟩
        rw [← stR_fill S1 17 _ (Nat.zero_le i) (by omega) 0] at hi
        exact ws_iinc (y := nI (i + 1)) rfl rfl rfl (nI_succ i).symm rfl rfl (ws_goto (t := 7) rfl (by decide) hi))
  refine ⟨500005, ?_⟩
  refine ws_aload_n rfl rfl rfl (ws_iconst (x := 0) rfl rfl rfl (ws_puti rfl rfl rfl ?_))
  refine ws_iconst (x := nI 0) rfl rfl rfl (ws_istore_n rfl rfl rfl rfl ?_)
  rw [← hS1]
  exact key1 900 500000 [(2, .int (nI 0)), (0, .ref 0), (1, .int 0)] [] S1 (by omega) ⟨0, rfl, rfl, rfl, by rw [rFill_0, stR_self]⟩
end LY

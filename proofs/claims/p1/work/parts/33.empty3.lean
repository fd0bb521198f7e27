/-! THE REFERENCE: counts, maps, a compile, where nothing is there -/
section LY
variable {d : Nat} {S : mv_S} {P : Option Value → mv_S → Prop}
theorem y_count0 {w : Int32} (h0 : S.1 0 1 = 0) (h1 : S.1 0 5 = 0) (h2 : S.1 0 52 = 0) (hm : ∀ j, j < 4 → S.2.1 20 j = 0) (hh : S.1 0 48 = 0) (h4 : S.1 0 33 = 0) (h6 : S.1 0 54 = 0)
    (k0 : 0 ≤ w ∧ w < 6 → ∀ S', P (some (.int 0)) S') (k6 : w = 6 → P (some (.int (-1))) S) (k7 : w = 7 → P (some (.int 6)) S) (k8 : ¬ (0 ≤ w ∧ w < 8) → P (some (.int (-2))) S) : mv_big layY sysY (d + 3) 73 [.ref 0, .int w] S P := by
  refine ⟨60, ?_⟩
  refine ⟨fun e => ?_, fun e0 => ⟨fun e => ?_, fun e1 => ⟨fun e => ?_, fun e2 => ⟨fun e => ?_, fun e3 => ⟨fun e => ?_, fun e4 => ⟨fun e => ?_, fun e5 => ⟨fun e => ?_, fun e6 => ⟨fun e => ?_, fun e7 => ?_⟩⟩⟩⟩⟩⟩⟩⟩
  · have e : w = 0 := e
    have h := k0 (by rw [e]; decide) S
    rw [← h0] at h; exact h
  · have e : w = 1 := e
    exact ⟨fun _ => k0 (by rw [e]; decide) S, fun z => absurd h1 z⟩
  · have e : w = 2 := e
    have h := k0 (by rw [e]; decide) S
    rw [← h2] at h; exact h
  · have e : w = 3 := e
    have e6 : S.1 0 54 = 0 := h6
    show mv_wp layY sysY _ _ _ _ _ _ _ _ _ _ _
    refine ws_aload_n rfl rfl rfl (ws_aload_n rfl rfl rfl (ws_getz (x := 0) rfl rfl h6 rfl (ws_iv rfl rfl rfl ?_)))
    refine y_findLive0 hm hh (fun S' hS' => ?_)
    have e30 : S'.1 0 30 = 0 := by rw [hS']; rfl
    have h := k0 (by rw [e]; decide) S'
    rw [← e30] at h; exact h
  · have e : w = 4 := e
    have h := k0 (by rw [e]; decide) S
    rw [← h4] at h; exact h
  · have e : w = 5 := e
    exact ⟨fun _ => k0 (by rw [e]; decide) S, fun z => absurd h6 z⟩
  · have e : w = 6 := e
    exact ⟨fun _ => k6 e, fun z => absurd h6 z⟩
  · have e : w = 7 := e
    exact ⟨fun _ => k7 e, fun z => absurd h6 z⟩
  · refine k8 (fun q => ?_)
    obtain ⟨j, hj, rfl⟩ := vp_in_of (rIn_vp (n := 8) (by decide) q) (by decide)
    match j, hj with
    | 0, _ => exact e0 rfl
    | 1, _ => exact e1 rfl
    | 2, _ => exact e2 rfl
    | 3, _ => exact e3 rfl
    | 4, _ => exact e4 rfl
    | 5, _ => exact e5 rfl
    | 6, _ => exact e6 rfl
    | 7, _ => exact e7 rfl
theorem y_size0 (h : P (some (.int 0)) S) : mv_big layY sysY (d + 1) 41 [.ref 0, .int 0] S P := by
  refine ⟨60, ?_⟩
  exact ⟨fun _ => ⟨fun _ => h, fun z => absurd (show (0 : Int32) ≤ 0 by decide) z⟩, fun z => absurd (show (0 : Int32) ≤ 0 by decide) z⟩
theorem y_above0 {k z : Int32} (h : P (some (.int 0)) S) : mv_big layY sysY (d + 1) 42 [.ref 0, .int 0, .int k, .int z] S P := by
  refine ⟨60, ?_⟩
  exact ⟨fun _ => h, fun z => absurd (show (0 : Int32) ≤ 0 by decide) z⟩
theorem le3_iff {v : Int32} : (0 ≤ v ∧ v ≤ 3) ↔ (0 ≤ v ∧ v < 4) := by
  have e1 : (3 : Int32).toInt = 3 := by decide
  have e2 : (4 : Int32).toInt = 4 := by decide
  constructor
  · rintro ⟨a, b⟩
    refine ⟨a, ?_⟩
    rw [Int32.le_iff_toInt_le] at b
    rw [Int32.lt_iff_toInt_lt]
    omega
  · rintro ⟨a, b⟩
    refine ⟨a, ?_⟩
    rw [Int32.lt_iff_toInt_lt] at b
    rw [Int32.le_iff_toInt_le]
    omega
theorem y_map0 {m w i : Int32} (hm : ∀ j, j < 4 → S.2.1 20 j = 0) (h1 : (0 ≤ m ∧ m < 4) ∧ (0 ≤ w ∧ w < 4) → P (some (.int 0)) S) (h2 : ¬ ((0 ≤ m ∧ m < 4) ∧ (0 ≤ w ∧ w < 4)) → P (some (.int (-2))) S) : mv_big layY sysY (d + 2) 72 [.ref 0, .int m, .int w, .int i] S P := by
  refine ⟨90, ?_⟩
  refine y_in (fun c => ?_) (fun c => ?_)
  · exact ⟨fun _ => h2 (fun q => c (le3_iff.mpr q.1)), fun z => absurd rfl z⟩
  · refine ⟨fun z => absurd (show (1 : Int32) = 0 from z) (by decide), fun _ => ?_⟩
    refine y_in (fun c2 => ?_) (fun c2 => ?_)
    · exact ⟨fun z => absurd rfl z, fun _ => h2 (fun q => c2 (le3_iff.mpr q.2))⟩
    · refine ⟨fun _ => ?_, fun z => absurd (show (1 : Int32) = 0 from z) (by decide)⟩
      have c' := le3_iff.mp c
      have h := h1 ⟨c', le3_iff.mp c2⟩
      obtain ⟨j, hj, rfl⟩ := vp_in_of (rIn_vp (n := 4) (by decide) c') (by decide)
      refine ⟨vp_in_nI hj (by decide), ?_⟩
      have e : S.2.1 20 (nI j).toNatClampNeg = 0 := by rw [nI_clamp (by omega)]; exact hm j hj
      rw [e]
      refine ⟨fun _ => ⟨fun _ => ⟨fun _ => y_above0 ⟨fun _ => ⟨fun z => absurd rfl z, fun _ => h⟩, fun _ => ⟨fun _ => ⟨fun z => absurd rfl z, fun _ => h⟩, fun z => absurd (show (0 : Int32) ≤ 0 by decide) z⟩⟩, fun _ => ⟨fun _ => ⟨fun z => absurd rfl z, fun _ => h⟩, fun _ => ⟨fun _ => ⟨fun z => absurd rfl z, fun _ => h⟩, fun z => absurd (show (0 : Int32) ≤ 0 by decide) z⟩⟩⟩, fun _ => ⟨fun _ => h, fun z => absurd (show (0 : Int32) ≤ 0 by decide) z⟩⟩, fun _ => y_size0 h⟩
/-- what a compile begins with -/
def yC0 (S : mv_S) : mv_S := mv_pf (mv_pf (mv_pf (mv_pf (mv_pf (mv_pf (mv_pf (mv_pf (mv_pf (mv_pf S 0 5 0) 0 54 0) 0 53 6) 0 2 0) 0 3 0) 0 4 (-1)) 0 7 0) 0 9 0) 0 20 0) 0 23 0
theorem y_compile0 (h0 : S.1 0 1 = 0) (h : ∀ S', P (some (.int (-11))) S') : mv_big layY sysY (d + 2) 25 [.ref 0] S P := by
  obtain ⟨S1, hS1⟩ : ∃ S1, S1 = yC0 S := ⟨_, rfl⟩
  have key := mv_loop (T := tT11) (nL := 2) (z := some .int) (il := mX11_compile.2.2.2.2.2.2.2) (lay := layY) (sys := sysY) (d := d + 1) (P := P) (pc := 53) 100 (fun k lv st S' => ∃ i, i + k = 8 ∧ lv = [(1, .int (nI i)), (0, .ref 0)] ∧ st = [] ∧ S' = stR S1 4 (rFill (S1.2.1 4) 0 i 0)) (by
      rintro n lv st S' ⟨i, hk, rfl, rfl, rfl⟩
      obtain rfl : i = 8 := hk
      obtain ⟨S2, hS2⟩ : ∃ S2, S2 = stR S1 4 (rFill (S1.2.1 4) 0 8 0) := ⟨_, rfl⟩
      rw [← hS2]
      have f3 : S2.1 0 3 = 0 := by rw [hS2, hS1]; rfl
      have f2 : S2.1 0 2 = 0 := by rw [hS2, hS1]; rfl
      have f1 : S2.1 0 1 = 0 := by rw [hS2, hS1]; exact h0
      refine ⟨fun _ => ⟨fun z => absurd f3 z, fun _ => ?_⟩, fun z => absurd (show nI 8 ≤ nI 8 by decide) z⟩
      refine y_token (a := 0) (k := 0) f2 f1 (by omega) (by decide) ?_
      rw [if_neg (by omega)]
      refine ⟨fun _ => ⟨fun z => absurd f3 z, fun _ => ⟨fun _ => ?_, fun z => absurd (show S2.1 0 2 = S2.1 0 1 by rw [f2, f1]) z⟩⟩, fun z => absurd (show (-1 : Int32) = 10 from z) (by decide)⟩
      refine y_wrong (fun _ => ?_) (fun z => absurd f3 z)
      have g3 : ∀ q, (mv_pf (mv_pf S2 0 3 (-11)) 0 4 q).1 0 3 = -11 := fun _ => rfl
      exact ⟨fun _ => ⟨fun _ => ⟨fun z => absurd (show (-11 : Int32) = 0 from z) (by decide), fun _ => h _⟩, fun z => absurd (show (-11 : Int32) = 0 from z) (by decide)⟩, fun z => absurd (show (-11 : Int32) = 0 from z) (by decide)⟩) (by
      rintro k n lv st S' ⟨i, hk, rfl, rfl, rfl⟩ ih
      refine ⟨fun z => ?_, fun z => ⟨Or.inl rfl, vp_in_nI (by omega) (by omega), ?_⟩⟩
      · have c' : nI 8 ≤ nI i := z
        exact absurd ((nI_leI (by omega) (by omega)).mp c') (by omega)
      · have hi := fun n' hn => ih n' [(1, .int (nI (i + 1))), (0, .ref 0)] [] (stR S1 4 (rFill (S1.2.1 4) 0 (i + 1) 0)) hn ⟨i + 1, by omega, rfl, rfl, rfl⟩
        rw [← stR_fill S1 4 _ (Nat.zero_le i) (by omega) 0] at hi
        exact ws_iinc (y := nI (i + 1)) rfl rfl rfl (nI_succ i).symm rfl rfl (ws_goto (t := 53) rfl (by decide) (hi (n + 90) (by omega))))
  refine ⟨1032, ?_⟩
  refine ws_aload_n rfl rfl rfl (ws_iconst (x := 0) rfl rfl rfl (ws_putz rfl rfl (Or.inl rfl) rfl ?_))
  refine ws_aload_n rfl rfl rfl (ws_iconst (x := 0) rfl rfl rfl (ws_putz rfl rfl (Or.inl rfl) rfl ?_))
  refine ws_aload_n rfl rfl rfl (ws_bipush (x := 6) rfl rfl rfl (ws_puti rfl rfl rfl ?_))
  refine ws_aload_n rfl rfl rfl (ws_iconst (x := 0) rfl rfl rfl (ws_puti rfl rfl rfl ?_))
  refine ws_aload_n rfl rfl rfl (ws_iconst (x := 0) rfl rfl rfl (ws_puti rfl rfl rfl ?_))
  refine ws_aload_n rfl rfl rfl (ws_iconst (x := -1) rfl rfl rfl (ws_puti rfl rfl rfl ?_))
  refine ws_aload_n rfl rfl rfl (ws_iconst (x := 0) rfl rfl rfl (ws_puti rfl rfl rfl ?_))
  refine ws_aload_n rfl rfl rfl (ws_iconst (x := 0) rfl rfl rfl (ws_puti rfl rfl rfl ?_))
  refine ws_aload_n rfl rfl rfl (ws_iconst (x := 0) rfl rfl rfl (ws_puti rfl rfl rfl ?_))
  refine ws_aload_n rfl rfl rfl (ws_iconst (x := 0) rfl rfl rfl (ws_puti rfl rfl rfl ?_))
  refine ws_iconst (x := nI 0) rfl rfl rfl (ws_istore_n rfl rfl rfl rfl ?_)
  have hk := key 8 1000 [(1, .int (nI 0)), (0, .ref 0)] [] S1 (by omega) ⟨0, rfl, rfl, rfl, by rw [rFill_0, stR_self]⟩
  rw [hS1] at hk
  exact hk
end LY

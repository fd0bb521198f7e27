/-! THE CLASS WALKS: the loop -/
theorem ws_ldc {lay : List mv_D} {sys : List mv_M} {T : mv_T} {nL : Nat} {z : Option FieldType} {il : List (Nat × Instr)} {Call : mv_Call} {P : Option Value → mv_S → Prop} {n pc : Nat} {lv : List (Nat × Value)} {st : List Value} {S : mv_S} {k : Nat} {x : Int32} {t : Nat} (hi : mv_at pc il = some (.ldc k)) (hx : mv_at k T.2.1 = some x) (ht : pc + 2 = t) (h : mv_wp lay sys T nL z il Call P n t lv (.int x :: st) S) : mv_wp lay sys T nL z il Call P (n + 1) pc lv st S := by
  refine ws_i hi ?_
  show (match mv_at k T.2.1 with | some x => mv_wp lay sys T nL z il Call P n (pc + 2) lv (.int x :: st) S | none => False)
  rw [hx, ht]; exact h
abbrev xLw (P : Option Value → mv_S → Prop) (d F pc : Nat) (l : List (Nat × Value)) (st : List Value) (S : mv_S) : Prop := mv_wp layX sysX tT8 5 (some .int) mX8_walk.2.2.2.2.2.2.2 (mv_big layX sysX (d + 7)) P F pc l st S
/-- the loop, with k turns left -/
def xLp (P : Option Value → mv_S → Prop) (d k : Nat) (S : mv_S) : Prop := ∀ l, mv_at 0 l = some (.ref 7) → mv_at 2 l = some (.int (nI (1000000 - k))) → xLw P d (80 * k + 80) 46 l [] S
section XL
variable {d k : Nat} {P : Option Value → mv_S → Prop} {Sp S S' : mv_S} {sd x c : Int32} {rm B n : Nat} {oc : List Nat} {D : aDt} {R : List (Nat × Nat)} {nx gr st p g : Nat} {tk par : Nat → Int32}
theorem x_lpS (h : xWs Sp S sd rm B D st c) (hk : k ≤ 1000000) (hP : P (some (.int c)) S) : xLp P d k S := by
  intro l z0 z2
  have e8 := h.2.2.2.1
  refine mv_fuel (n := 40) (by omega) ?_
  by_cases ck : k = 0
  · refine ws_iload_n rfl (z2) rfl (ws_ldc (x := nI 1000000) rfl rfl rfl (ws_i rfl ⟨fun _ => ?_, fun z => absurd (nI_le (show 1000000 ≤ 1000000 - k by omega) (by omega)) z⟩))
    refine ws_aload_n rfl (z0) rfl (ws_geti rfl rfl (e8) rfl (ws_i rfl ?_))
    exact hP
  · refine ws_iload_n rfl (z2) rfl (ws_ldc (x := nI 1000000) rfl rfl rfl (ws_i rfl ⟨fun z => absurd z (nI_ge (show 1000000 - k < 1000000 by omega) (by decide)), fun _ => ?_⟩))
    by_cases c1 : c = 1
    · refine ws_aload_n rfl (z0) rfl (ws_geti rfl rfl (e8) rfl (ws_iconst (x := 1) rfl rfl rfl (ws_i rfl ⟨fun z => absurd c1 z, fun _ => ?_⟩)))
      refine ws_aload_n rfl (z0) rfl (ws_getz rfl rfl (rfl) rfl (ws_i rfl ⟨fun _ => ?_, fun z => absurd z (h.2.2.2.2 c1)⟩))
      refine ws_aload_n rfl (z0) rfl (ws_geti rfl rfl (e8) rfl (ws_i rfl ?_))
      exact hP
    · refine ws_aload_n rfl (z0) rfl (ws_geti rfl rfl (e8) rfl (ws_iconst (x := 1) rfl rfl rfl (ws_i rfl ⟨fun _ => ?_, fun z => absurd z c1⟩)))
      refine ws_aload_n rfl (z0) rfl (ws_geti rfl rfl (e8) rfl (ws_i rfl ?_))
      exact hP
set_option maxHeartbeats 1000000 in
set_option maxRecDepth 8000 in
theorem x_lpH (hT : xTg Sp n tk par) (h : xWk Sp S sd rm B oc D ((p, g) :: R) nx gr st) (hk : k + 1 ≤ 1000000) (hp : p < 700) (hK : ∀ l, mv_at 0 l = some (.ref 7) → mv_at 2 l = some (.int (nI (1000000 - (k + 1)))) → mv_at 3 l = some (.int (nI p)) → mv_at 4 l = some (.int (nI g)) → xLw P d (80 * k + 120) 104 l [.int (tk p)] S) : xLp P d (k + 1) S := by
  intro l z0 z2
  obtain ⟨f, hD, c1, c2, c3, c4, c5, c6, c7, c8⟩ := h
  have l1 : R.length + 1 ≤ 425 := c2
  have e4 : S.1 7 4 = nI (R.length + 1) := c1
  have e8 := c7
  refine mv_fuel (n := 80 * k + 120 + 30) (by omega) ?_
  refine ws_iload_n rfl (z2) rfl (ws_ldc (x := nI 1000000) rfl rfl rfl (ws_i rfl ⟨fun z => absurd z (nI_ge (show 1000000 - (k + 1) < 1000000 by omega) (by decide)), fun _ => ?_⟩))
  refine ws_aload_n rfl (z0) rfl (ws_geti rfl rfl (e8) rfl (ws_iconst (x := 1) rfl rfl rfl (ws_i rfl ⟨fun z => absurd rfl z, fun _ => ?_⟩)))
  refine ws_aload_n rfl (z0) rfl (ws_getz rfl rfl (rfl) rfl (ws_i rfl ⟨fun z => absurd c6 z, fun _ => ?_⟩))
  refine ws_aload_n rfl (z0) rfl (ws_getr rfl rfl rfl (ws_aload_n rfl (z0) rfl (ws_geti rfl rfl (e4) rfl (ws_iconst (x := 1) rfl rfl rfl (ws_isub rfl (nI_pred _) rfl (ws_is rfl rfl rfl ?_))))))
  refine mv_deep (d := d + 1) (by omega) (x_at_35 ?_)
  rw [rAt_nI (by omega) (by decide), c3.1.1]
  refine ws_istore_n rfl rfl rfl rfl (ws_aload_n rfl (mv_at_sr (by decide) (z0)) rfl (ws_getr rfl rfl rfl (ws_aload_n rfl (mv_at_sr (by decide) (z0)) rfl (ws_geti rfl rfl (e4) rfl (ws_iconst (x := 1) rfl rfl rfl (ws_isub rfl (nI_pred _) rfl (ws_is rfl rfl rfl ?_)))))))
  refine mv_deep (d := d + 1) (by omega) (x_at_36 ?_)
  rw [rAt_nI (by omega) (by decide), c3.1.2]
  refine ws_istore rfl rfl rfl rfl (ws_aload_n rfl (mv_at_sr (by decide) (mv_at_sr (by decide) (z0))) rfl (ws_getr rfl rfl rfl (ws_iload_n rfl (mv_at_sv (by decide) (mv_at_me)) rfl (ws_iv rfl rfl rfl ?_))))
  refine mv_deep (d := d + 1) (by omega) (x_tokW hT f rfl (by omega) ?_)
  exact mv_fuel (n := 80 * k + 120) (by omega) (hK _ (mv_at_sr (by decide) (mv_at_sr (by decide) (z0))) (mv_at_sv (by decide) (mv_at_sv (by decide) (z2))) (mv_at_sv (by decide) (mv_at_me)) (mv_at_me))
set_option maxHeartbeats 1000000 in
set_option maxRecDepth 8000 in
theorem x_lpZ {l : List (Nat × Value)} (hk : k + 1 ≤ 1000000) (z0 : mv_at 0 l = some (.ref 7)) (z2 : mv_at 2 l = some (.int (nI (1000000 - (k + 1))))) (h : xLp P d k S) : xLw P d (80 * k + 90) 329 l [] S := by
  have e : nI (1000000 - (k + 1)) + 1 = nI (1000000 - k) := by rw [nI_1]; congr 1; omega
  refine mv_fuel (n := 80 * k + 80 + 2) (by omega) ?_
  refine ws_iinc (y := nI (1000000 - k)) rfl (z2) rfl (by rw [← e]; rfl) rfl rfl (ws_goto (t := 46) rfl (by decide) ?_)
  exact h _ (mv_at_sr (by decide) (z0)) (mv_at_me)
set_option maxHeartbeats 1000000 in
set_option maxRecDepth 8000 in
theorem x_lp10 (hT : xTg Sp n tk par) (h : xWk Sp S sd rm B oc D ((p, g) :: R) nx gr st) (hk : k + 1 ≤ 1000000) (hp : p < 700) (ht : tk p = 10) (hM : mv_big layX sysX (d + 7) 145 [.ref 7] S (fun r S' => r = none ∧ xLp P d k S')) : xLp P d (k + 1) S := by
  refine x_lpH hT h hk hp (fun l z0 z2 z3 z4 => ?_)
  rw [ht]
  refine ws_tab (t := 256) rfl rfl (by decide) (ws_aload_n rfl (z0) rfl (ws_iv rfl rfl rfl ?_))
  refine mv_big_mono _ _ (Nat.le_refl _) _ _ _ _ _ (fun r S1 z => ?_) hM
  obtain ⟨rfl, z⟩ := z
  refine ws_goto (t := 329) rfl (by decide) ?_
  exact mv_fuel (n := 80 * k + 90) (by omega) (x_lpZ hk z0 z2 z)
set_option maxHeartbeats 1000000 in
set_option maxRecDepth 8000 in
theorem x_lp11 (hT : xTg Sp n tk par) (h : xWk Sp S sd rm B oc D ((p, g) :: R) nx gr st) (hk : k + 1 ≤ 1000000) (hp : p < 700) (ht : tk p = 11) (hM : mv_big layX sysX (d + 7) 145 [.ref 7] S (fun r S' => r = none ∧ xLp P d k S')) : xLp P d (k + 1) S := by
  refine x_lpH hT h hk hp (fun l z0 z2 z3 z4 => ?_)
  rw [ht]
  refine ws_tab (t := 256) rfl rfl (by decide) (ws_aload_n rfl (z0) rfl (ws_iv rfl rfl rfl ?_))
  refine mv_big_mono _ _ (Nat.le_refl _) _ _ _ _ _ (fun r S1 z => ?_) hM
  obtain ⟨rfl, z⟩ := z
  refine ws_goto (t := 329) rfl (by decide) ?_
  exact mv_fuel (n := 80 * k + 90) (by omega) (x_lpZ hk z0 z2 z)
set_option maxHeartbeats 1000000 in
set_option maxRecDepth 8000 in
theorem x_lp3 (hT : xTg Sp n tk par) (h : xWk Sp S sd rm B oc D ((p, g) :: R) nx gr st) (hk : k + 1 ≤ 1000000) (hp : p < 700) (ht : tk p = 3) (hM : mv_big layX sysX (d + 7) 148 [.ref 7, .int (nI p), .int (nI g)] S (fun r S' => r = none ∧ xLp P d k S')) : xLp P d (k + 1) S := by
  refine x_lpH hT h hk hp (fun l z0 z2 z3 z4 => ?_)
  rw [ht]
  refine ws_tab (t := 263) rfl rfl (by decide) (ws_aload_n rfl (z0) rfl (ws_iload_n rfl (z3) rfl (ws_iload rfl (z4) rfl (ws_iv rfl rfl rfl ?_))))
  refine mv_big_mono _ _ (Nat.le_refl _) _ _ _ _ _ (fun r S1 z => ?_) hM
  obtain ⟨rfl, z⟩ := z
  refine ws_goto (t := 329) rfl (by decide) ?_
  exact mv_fuel (n := 80 * k + 90) (by omega) (x_lpZ hk z0 z2 z)
set_option maxHeartbeats 1000000 in
set_option maxRecDepth 8000 in
theorem x_lp5 (hT : xTg Sp n tk par) (h : xWk Sp S sd rm B oc D ((p, g) :: R) nx gr st) (hk : k + 1 ≤ 1000000) (hp : p < 700) (ht : tk p = 5) (hM : mv_big layX sysX (d + 7) 149 [.ref 7, .int (nI p), .int (nI g)] S (fun r S' => r = none ∧ xLp P d k S')) : xLp P d (k + 1) S := by
  refine x_lpH hT h hk hp (fun l z0 z2 z3 z4 => ?_)
  rw [ht]
  refine ws_tab (t := 273) rfl rfl (by decide) (ws_aload_n rfl (z0) rfl (ws_iload_n rfl (z3) rfl (ws_iload rfl (z4) rfl (ws_iv rfl rfl rfl ?_))))
  refine mv_big_mono _ _ (Nat.le_refl _) _ _ _ _ _ (fun r S1 z => ?_) hM
  obtain ⟨rfl, z⟩ := z
  refine ws_goto (t := 329) rfl (by decide) ?_
  exact mv_fuel (n := 80 * k + 90) (by omega) (x_lpZ hk z0 z2 z)
set_option maxHeartbeats 1000000 in
set_option maxRecDepth 8000 in
theorem x_lp6 (hT : xTg Sp n tk par) (h : xWk Sp S sd rm B oc D ((p, g) :: R) nx gr st) (hk : k + 1 ≤ 1000000) (hp : p < 700) (ht : tk p = 6) (hM : mv_big layX sysX (d + 7) 150 [.ref 7, .int (nI p), .int (nI g)] S (fun r S' => r = none ∧ xLp P d k S')) : xLp P d (k + 1) S := by
  refine x_lpH hT h hk hp (fun l z0 z2 z3 z4 => ?_)
  rw [ht]
  refine ws_tab (t := 283) rfl rfl (by decide) (ws_aload_n rfl (z0) rfl (ws_iload_n rfl (z3) rfl (ws_iload rfl (z4) rfl (ws_iv rfl rfl rfl ?_))))
  refine mv_big_mono _ _ (Nat.le_refl _) _ _ _ _ _ (fun r S1 z => ?_) hM
  obtain ⟨rfl, z⟩ := z
  refine ws_goto (t := 329) rfl (by decide) ?_
  exact mv_fuel (n := 80 * k + 90) (by omega) (x_lpZ hk z0 z2 z)
set_option maxHeartbeats 1000000 in
set_option maxRecDepth 8000 in
theorem x_lp9 (hT : xTg Sp n tk par) (h : xWk Sp S sd rm B oc D ((p, g) :: R) nx gr st) (hk : k + 1 ≤ 1000000) (hp : p < 700) (ht : tk p = 9) (hM : mv_big layX sysX (d + 7) 152 [.ref 7, .int (nI g)] S (fun r S' => r = none ∧ xLp P d k S')) : xLp P d (k + 1) S := by
  refine x_lpH hT h hk hp (fun l z0 z2 z3 z4 => ?_)
  rw [ht]
  refine ws_tab (t := 293) rfl rfl (by decide) (ws_aload_n rfl (z0) rfl (ws_iload rfl (z4) rfl (ws_iv rfl rfl rfl ?_)))
  refine mv_big_mono _ _ (Nat.le_refl _) _ _ _ _ _ (fun r S1 z => ?_) hM
  obtain ⟨rfl, z⟩ := z
  refine ws_goto (t := 329) rfl (by decide) ?_
  exact mv_fuel (n := 80 * k + 90) (by omega) (x_lpZ hk z0 z2 z)
set_option maxHeartbeats 1000000 in
set_option maxRecDepth 8000 in
theorem x_lp8 (hT : xTg Sp n tk par) (h : xWk Sp S sd rm B oc D ((p, g) :: R) nx gr st) (hk : k + 1 ≤ 1000000) (hp : p < 700) (ht : tk p = 8) (hM : mv_big layX sysX (d + 7) 153 [.ref 7, .int (nI p), .int (nI g)] S (fun r S' => r = none ∧ xLp P d k S')) : xLp P d (k + 1) S := by
  refine x_lpH hT h hk hp (fun l z0 z2 z3 z4 => ?_)
  rw [ht]
  refine ws_tab (t := 302) rfl rfl (by decide) (ws_aload_n rfl (z0) rfl (ws_iload_n rfl (z3) rfl (ws_iload rfl (z4) rfl (ws_iv rfl rfl rfl ?_))))
  refine mv_big_mono _ _ (Nat.le_refl _) _ _ _ _ _ (fun r S1 z => ?_) hM
  obtain ⟨rfl, z⟩ := z
  refine ws_goto (t := 329) rfl (by decide) ?_
  exact mv_fuel (n := 80 * k + 90) (by omega) (x_lpZ hk z0 z2 z)
set_option maxHeartbeats 1000000 in
set_option maxRecDepth 8000 in
theorem x_lp36 (hT : xTg Sp n tk par) (h : xWk Sp S sd rm B oc D ((p, g) :: R) nx gr st) (hk : k + 1 ≤ 1000000) (hp : p < 700) (ht : tk p = 36) (hM : mv_big layX sysX (d + 7) 153 [.ref 7, .int (nI p), .int (nI g)] S (fun r S' => r = none ∧ xLp P d k S')) : xLp P d (k + 1) S := by
  refine x_lpH hT h hk hp (fun l z0 z2 z3 z4 => ?_)
  rw [ht]
  refine ws_tab (t := 302) rfl rfl (by decide) (ws_aload_n rfl (z0) rfl (ws_iload_n rfl (z3) rfl (ws_iload rfl (z4) rfl (ws_iv rfl rfl rfl ?_))))
  refine mv_big_mono _ _ (Nat.le_refl _) _ _ _ _ _ (fun r S1 z => ?_) hM
  obtain ⟨rfl, z⟩ := z
  refine ws_goto (t := 329) rfl (by decide) ?_
  exact mv_fuel (n := 80 * k + 90) (by omega) (x_lpZ hk z0 z2 z)
set_option maxHeartbeats 1000000 in
set_option maxRecDepth 8000 in
theorem x_lp30 (hT : xTg Sp n tk par) (h : xWk Sp S sd rm B oc D ((p, g) :: R) nx gr st) (hk : k + 1 ≤ 1000000) (hp : p < 700) (ht : tk p = 30) (hM : mv_big layX sysX (d + 7) 155 [.ref 7, .int (nI p), .int (nI g)] S (fun r S' => r = none ∧ xLp P d k S')) : xLp P d (k + 1) S := by
  refine x_lpH hT h hk hp (fun l z0 z2 z3 z4 => ?_)
  rw [ht]
  refine ws_tab (t := 312) rfl rfl (by decide) (ws_aload_n rfl (z0) rfl (ws_iload_n rfl (z3) rfl (ws_iload rfl (z4) rfl (ws_iv rfl rfl rfl ?_))))
  refine mv_big_mono _ _ (Nat.le_refl _) _ _ _ _ _ (fun r S1 z => ?_) hM
  obtain ⟨rfl, z⟩ := z
  refine ws_goto (t := 329) rfl (by decide) ?_
  exact mv_fuel (n := 80 * k + 90) (by omega) (x_lpZ hk z0 z2 z)
set_option maxHeartbeats 1000000 in
set_option maxRecDepth 8000 in
theorem x_lp31 (hT : xTg Sp n tk par) (h : xWk Sp S sd rm B oc D ((p, g) :: R) nx gr st) (hk : k + 1 ≤ 1000000) (hp : p < 700) (ht : tk p = 31) (hM : mv_big layX sysX (d + 7) 155 [.ref 7, .int (nI p), .int (nI g)] S (fun r S' => r = none ∧ xLp P d k S')) : xLp P d (k + 1) S := by
  refine x_lpH hT h hk hp (fun l z0 z2 z3 z4 => ?_)
  rw [ht]
  refine ws_tab (t := 312) rfl rfl (by decide) (ws_aload_n rfl (z0) rfl (ws_iload_n rfl (z3) rfl (ws_iload rfl (z4) rfl (ws_iv rfl rfl rfl ?_))))
  refine mv_big_mono _ _ (Nat.le_refl _) _ _ _ _ _ (fun r S1 z => ?_) hM
  obtain ⟨rfl, z⟩ := z
  refine ws_goto (t := 329) rfl (by decide) ?_
  exact mv_fuel (n := 80 * k + 90) (by omega) (x_lpZ hk z0 z2 z)
def tkPl (t : Int32) : Prop := t = 1 ∨ t = 2 ∨ t = 7 ∨ (20 ≤ t ∧ t ≤ 29) ∨ (32 ≤ t ∧ t ≤ 35) ∨ (40 ≤ t ∧ t ≤ 44)
theorem pick_pl : ∀ t, t < 45 → (t = 1 ∨ t = 2 ∨ t = 7 ∨ (20 ≤ t ∧ t ≤ 29) ∨ (32 ≤ t ∧ t ≤ 35) ∨ (40 ≤ t ∧ t ≤ 44)) → (104 : Int) + mv_pick (nI t) 218 (mv_tb 3 [159, 218, 169, 179, 218, 198, 189, 152, 152, 218, 218, 218, 218, 218, 218, 218, 218, 218, 218, 218, 218, 218, 218, 218, 218, 218, 218, 208, 208, 218, 218, 218, 218, 198]) = 322 := by decide
theorem tkPl_n {t : Int32} (h : tkPl t) : ∃ k, t = nI k ∧ k < 45 ∧ (k = 1 ∨ k = 2 ∨ k = 7 ∨ (20 ≤ k ∧ k ≤ 29) ∨ (32 ≤ k ∧ k ≤ 35) ∨ (40 ≤ k ∧ k ≤ 44)) := by
  unfold tkPl at h
  have ex : ∀ a b : Nat, a < 2 ^ 31 → b < 2 ^ 31 → nI a ≤ t → t ≤ nI b → ∃ k, t = nI k ∧ a ≤ k ∧ k ≤ b := by
    intro a b ha hb h1 h2
    have h0 : ¬ t < 0 := Int32.not_lt.mpr (Int32.le_trans (nI_pos' ha) h1)
    obtain ⟨j, hj, rfl⟩ := nI_of h0
    exact ⟨j, rfl, (nI_leI ha hj).mp h1, (nI_leI hj hb).mp h2⟩
  rcases h with e | e | e | e | e | e
  · exact ⟨1, e, by omega, by omega⟩
  · exact ⟨2, e, by omega, by omega⟩
  · exact ⟨7, e, by omega, by omega⟩
  · obtain ⟨k, a, b, c⟩ := ex 20 29 (by decide) (by decide) e.1 e.2
    exact ⟨k, a, by omega, by omega⟩
  · obtain ⟨k, a, b, c⟩ := ex 32 35 (by decide) (by decide) e.1 e.2
    exact ⟨k, a, by omega, by omega⟩
  · obtain ⟨k, a, b, c⟩ := ex 40 44 (by decide) (by decide) e.1 e.2
    exact ⟨k, a, by omega, by omega⟩
set_option maxHeartbeats 1000000 in
set_option maxRecDepth 8000 in
theorem x_lpP (hT : xTg Sp n tk par) (h : xWk Sp S sd rm B oc D ((p, g) :: R) nx gr st) (hk : k + 1 ≤ 1000000) (hp : p < 700) (ht : tkPl (tk p)) (hM : mv_big layX sysX (d + 7) 156 [.ref 7, .int (nI p), .int (nI g)] S (fun r S' => r = none ∧ xLp P d k S')) : xLp P d (k + 1) S := by
  refine x_lpH hT h hk hp (fun l z0 z2 z3 z4 => ?_)
  obtain ⟨tt, e1, e2, e3⟩ := tkPl_n ht
  rw [e1]
  refine ws_tab (t := 322) rfl rfl (pick_pl tt e2 e3) ?_
  refine ws_aload_n rfl (z0) rfl (ws_iload_n rfl (z3) rfl (ws_iload rfl (z4) rfl (ws_iv rfl rfl rfl ?_)))
  refine mv_big_mono _ _ (Nat.le_refl _) _ _ _ _ _ (fun r S1 z => ?_) hM
  obtain ⟨rfl, z⟩ := z
  exact mv_fuel (n := 80 * k + 90) (by omega) (x_lpZ hk z0 z2 z)
end XL

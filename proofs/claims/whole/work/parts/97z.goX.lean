/-! THE CLASS RUNS -/
section XG
variable {d : Nat} {P : Option Value → mv_S → Prop} {S S' : mv_S} {sd x c : Int32} {rm B : Nat} {w par : Nat → Int32} {fa : Nat → Nat} {L : Nat} {s : aMs}
theorem xFx_15 : xFx S (mv_pf S 4 15 x) := ⟨fun o f _ a _ _ => by rw [pf_get, if_neg (fun z => a z.1)], fun _ _ _ => rfl⟩
theorem xRun_15 (h : xRun S sd rm B c s) : xRun (mv_pf S 4 15 x) sd rm B c s := by
  obtain ⟨⟨K', a, b, h⟩, e3, e4⟩ := h
  refine ⟨⟨K', a, b, xD_out h (fun f => ?_) (fun f hf => ?_) (fun _ _ _ _ => rfl) rfl⟩, ?_, ?_⟩
  · rw [pf_get, if_neg (by omega)]
  · rw [pf_get, if_neg (by omega)]
  · rw [pf_get, if_neg (by omega)]; exact e3
  · rw [pf_get, if_neg (by omega)]; exact e4
abbrev xGo2 (P : Option Value → mv_S → Prop) (d F pc : Nat) (l : List (Nat × Value)) (st : List Value) (S : mv_S) : Prop := mv_wp layX sysX tT4 3 (some .int) mX4_goOn.2.2.2.2.2.2.2 (mv_big layX sysX (d + 7)) P F pc l st S
set_option maxHeartbeats 1000000 in
set_option maxRecDepth 8000 in
theorem x_goR {n : Nat} (hn : n ≤ 5000) (hfn : ∀ f, f < 8 → ¬ par f = -1 → tyA w par L false (fa f) []) (hrm : rm ≤ 400) : ∀ (k i : Nat) (S : mv_S) (l : List (Nat × Value)) (s : aMs) (B n0 : Nat), i + k = n → xPg S w par fa L → mv_at 0 l = some (.ref 6) → mv_at 1 l = some (.int (nI n)) → mv_at 2 l = some (.int (nI i)) → aInv w par L sd rm s → xRun S sd rm B 1 s → B + k + 5 < 2 ^ 31 → S.1 4 15 = nI n0 → (∀ S', xFx S S' → xRun S' sd rm (B + k) (aRun w par fa sd rm k s).1 (aRun w par fa sd rm k s).2.2 → S'.1 4 15 = nI (n0 + (aRun w par fa sd rm k s).2.1) → ¬ (aRun w par fa sd rm k s).1 = 99 → P (some (.int (aRun w par fa sd rm k s).1)) S') → xGo2 P d (60 * k + 60) 2 l [] S := by
  intro k
  induction k with
  | zero =>
    intro i S l s B n0 hi pg z0 z1 z2 hv h hB e15 hP
    have e4 := h.2.2
    refine ws_iload_n rfl (z2) rfl (ws_iload_n rfl (z1) rfl (ws_i rfl ⟨fun _ => ?_, fun z => absurd (nI_le (show n ≤ i by omega) (by omega)) z⟩))
    refine ws_aload_n rfl (z0) rfl (ws_geti rfl rfl (e4) rfl (ws_i rfl ?_))
    exact hP S ⟨fun _ _ _ _ _ _ => rfl, fun _ _ _ => rfl⟩ h e15 (show ¬ (1 : Int32) = 99 by decide)
  | succ k ih =>
    intro i S l s B n0 hi pg z0 z1 z2 hv h hB e15 hP
    have e4 := h.2.2
    refine mv_fuel (n := (60 * k + 60) + 40) (by omega) ?_
    refine ws_iload_n rfl (z2) rfl (ws_iload_n rfl (z1) rfl (ws_i rfl ⟨fun z => absurd z (nI_ge (show i < n by omega) (by omega)), fun _ => ?_⟩))
    refine ws_aload_n rfl (z0) rfl (ws_geti rfl rfl (e4) rfl (ws_iconst (x := 1) rfl rfl rfl (ws_i rfl ⟨fun z => absurd rfl z, fun _ => ?_⟩)))
    refine ws_aload_n rfl (z0) rfl (ws_getr rfl rfl rfl (ws_iv rfl rfl rfl ?_))
    refine mv_deep (d := d + 1) (by omega) (x_addStep ?_)
    rw [e15, nI_1]
    have fx1 : xFx S (mv_pf S 4 15 (nI (n0 + 1))) := xFx_15
    have h1 := xRun_15 (x := nI (n0 + 1)) h
    have g15 : (mv_pf S 4 15 (nI (n0 + 1))).1 4 15 = nI (n0 + 1) := by rw [pf_get, if_pos ⟨rfl, rfl⟩]
    obtain ⟨S1, eS⟩ : ∃ S1, S1 = mv_pf S 4 15 (nI (n0 + 1)) := ⟨_, rfl⟩
    rw [← eS] at fx1 h1 g15 ⊢
    refine ws_aload_n rfl (z0) rfl (ws_iv rfl rfl rfl ?_)
    refine x_step (xFx_pg fx1 pg) hv (by omega) h1 (fun S2 fx2 e2 h2 h99 => ?_)
    have fx := xFx_trans fx1 fx2
    rw [aRun] at hP
    have q15 : S2.1 4 15 = nI (n0 + 1) := e2.trans g15
    refine ws_iinc (y := nI (i + 1)) rfl (z2) rfl (nI_succ i).symm rfl rfl (ws_goto (t := 2) rfl (by decide) ?_)
    by_cases c : (aSt w par fa sd rm s).1 = 1
    · rw [if_pos c] at hP
      rw [c] at h2
      refine mv_fuel (n := 60 * k + 60) (by omega) (ih (i + 1) S2 _ _ (B + 1) (n0 + 1) (by omega) (xFx_pg fx pg) (mv_at_sr (by decide) (z0)) (mv_at_sv (by decide) (z1)) (mv_at_me) (aSt_inv hfn hrm hv c) h2 (by omega) q15 (fun S3 g1 g2 g3 g4 => ?_))
      refine hP S3 (xFx_trans fx g1) ?_ ?_ g4
      · have eB : B + 1 + k = B + (k + 1) := by omega
        rw [eB] at g2
        exact g2
      · rw [g3]
        exact congrArg nI (by show n0 + 1 + (aRun w par fa sd rm k (aSt w par fa sd rm s).2).2.1 = n0 + ((aRun w par fa sd rm k (aSt w par fa sd rm s).2).2.1 + 1); omega)
    · rw [if_neg c] at hP
      have f4 := h2.2.2
      have hin : i + 1 ≤ n := by omega
      by_cases ci : i + 1 = n
      · refine ws_iload_n rfl (mv_at_me) rfl (ws_iload_n rfl (mv_at_sv (by decide) (z1)) rfl (ws_i rfl ⟨fun _ => ?_, fun z => absurd (nI_le (show n ≤ i + 1 by omega) (by omega)) z⟩))
        refine ws_aload_n rfl (mv_at_sr (by decide) (z0)) rfl (ws_geti rfl rfl (f4) rfl (ws_i rfl ?_))
        obtain ⟨⟨K', q1, q2, q3⟩, q4⟩ := h2
        exact hP S2 fx ⟨⟨K', q1, q2, xD_B q3 (by omega)⟩, q4⟩ q15 h99
      · refine ws_iload_n rfl (mv_at_me) rfl (ws_iload_n rfl (mv_at_sv (by decide) (z1)) rfl (ws_i rfl ⟨fun z => absurd z (nI_ge (show i + 1 < n by omega) (by omega)), fun _ => ?_⟩))
        refine ws_aload_n rfl (mv_at_sr (by decide) (z0)) rfl (ws_geti rfl rfl (f4) rfl (ws_iconst (x := 1) rfl rfl rfl (ws_i rfl ⟨fun _ => ?_, fun z => absurd z c⟩)))
        refine ws_aload_n rfl (mv_at_sr (by decide) (z0)) rfl (ws_geti rfl rfl (f4) rfl (ws_i rfl ?_))
        obtain ⟨⟨K', q1, q2, q3⟩, q4⟩ := h2
        exact hP S2 fx ⟨⟨K', q1, q2, xD_B q3 (by omega)⟩, q4⟩ q15 h99
set_option maxHeartbeats 1000000 in
set_option maxRecDepth 8000 in
theorem x_goOn {n : Nat} (hn : n ≤ 5000) (hfn : ∀ f, f < 8 → ¬ par f = -1 → tyA w par L false (fa f) []) (hrm : rm ≤ 400) {n0 : Nat} (pg : xPg S w par fa L) (hv : aInv w par L sd rm s) (h : xRun S sd rm B 1 s) (hB : B + n + 5 < 2 ^ 31) (e15 : S.1 4 15 = nI n0) (hP : ∀ S', xFx S S' → xRun S' sd rm (B + n) (aRun w par fa sd rm n s).1 (aRun w par fa sd rm n s).2.2 → S'.1 4 15 = nI (n0 + (aRun w par fa sd rm n s).2.1) → ¬ (aRun w par fa sd rm n s).1 = 99 → P (some (.int (aRun w par fa sd rm n s).1)) S') : mv_big layX sysX (d + 8) 87 [.ref 6, .int (nI n)] S P := by
  refine ⟨60 * n + 70, ?_⟩
  refine ws_iconst (x := nI 0) rfl rfl rfl (ws_istore_n rfl rfl rfl rfl ?_)
  exact mv_fuel (n := 60 * n + 60) (by omega) (x_goR hn hfn hrm n 0 S _ s B n0 (by omega) pg rfl rfl rfl hv h hB e15 hP)
set_option maxHeartbeats 1000000 in
set_option maxRecDepth 8000 in
theorem x_goE {n : Nat} (hn : 1 ≤ n) (hn2 : n ≤ 5000) (e4 : S.1 6 4 = c) (hc : ¬ c = 1) (hP : P (some (.int c)) S) : mv_big layX sysX (d + 8) 87 [.ref 6, .int (nI n)] S P := by
  refine ⟨40, ?_⟩
  refine ws_iconst (x := nI 0) rfl rfl rfl (ws_istore_n rfl rfl rfl rfl ?_)
  refine ws_iload_n rfl (rfl) rfl (ws_iload_n rfl (rfl) rfl (ws_i rfl ⟨fun z => absurd z (nI_ge (show 0 < n by omega) (by omega)), fun _ => ?_⟩))
  refine ws_aload_n rfl (rfl) rfl (ws_geti rfl rfl (e4) rfl (ws_iconst (x := 1) rfl rfl rfl (ws_i rfl ⟨fun _ => ?_, fun z => absurd z hc⟩)))
  refine ws_aload_n rfl (rfl) rfl (ws_geti rfl rfl (e4) rfl (ws_i rfl ?_))
  exact hP
end XG

/-! THE REFERENCE RUNS -/
/-- n steps at most: how it ended, how many steps, where it stands -/
noncomputable def aRun (w par : Nat → Int32) (fa : Nat → Nat) (sd : Int32) (rm : Nat) : Nat → aMs → Int32 × Nat × aMs
  | 0, s => (1, 0, s)
  | n + 1, s => if (aSt w par fa sd rm s).1 = 1 then ((aRun w par fa sd rm n (aSt w par fa sd rm s).2).1, (aRun w par fa sd rm n (aSt w par fa sd rm s).2).2.1 + 1, (aRun w par fa sd rm n (aSt w par fa sd rm s).2).2.2) else ((aSt w par fa sd rm s).1, 1, (aSt w par fa sd rm s).2)
/-- a step that counts, straight from the tokens -/
def aIs (w : Nat → Int32) (s : aMs) : Bool := if w s.1 = 30 then true else if w s.1 = 29 then tSel (tNx (aQ s.2.2.1) (aT s.2.2.1)) false true else false
/-- straight from the tokens: how it ended, how many steps are left, where it stands -/
noncomputable def aGo (w par : Nat → Int32) (fa : Nat → Nat) (sd : Int32) (rm : Nat) : Nat → Nat → aMs → Option (Int32 × Nat × aMs)
  | 0, _, _ => none
  | f + 1, left, s => if aIs w s = true ∧ left = 0 then some (1, 0, s) else if (aSt w par fa sd rm s).1 = 1 then aGo w par fa sd rm f (left - (aIs w s).toNat) (aSt w par fa sd rm s).2 else some ((aSt w par fa sd rm s).1, left - (aIs w s).toNat, (aSt w par fa sd rm s).2)
/-- alike but for the steps -/
def yE (T T' : mv_S) : Prop := (∀ o f, ¬ (o = 0 ∧ f = 52) → T'.1 o f = T.1 o f) ∧ T'.2 = T.2
theorem yE_refl {T : mv_S} : yE T T := ⟨fun _ _ _ => rfl, rfl⟩
theorem yE_trans {T T1 T2 : mv_S} (h : yE T T1) (g : yE T1 T2) : yE T T2 := ⟨fun o f a => (g.1 o f a).trans (h.1 o f a), g.2.trans h.2⟩
theorem yE_pf {T : mv_S} {x : Int32} : yE T (mv_pf T 0 52 x) := ⟨fun o f a => by rw [pf_get, if_neg a], rfl⟩
theorem yE_w {T T' : mv_S} (h : yE T T') : yW T' = yW T := by
  funext q
  unfold yW
  rw [h.1 0 55 (by omega), h.2]
section YG
variable {d : Nat} {P : Option Value → mv_S → Prop} {T0 T0' T T' : mv_S} {σ : Nat → Nat} {sd e x : Int32} {rm : Nat} {rets : List Nat} {K : List aI} {Ks : List (List aI)} {vs : Nat → Int32} {mp : Nat → tT} {told : List Int32} {most : Nat} {D : aDt} {par : Nat → Int32} {fa : Nat → Nat} {L : Nat} {pc : Nat} {s : aMs} {c : Int32}
theorem yA_out (h : yA T0 T σ sd rm pc e rets K Ks vs mp told most) (o : yO T0' T') (ee : T0'.1 0 35 = T0.1 0 35 ∧ T0'.1 0 36 = T0.1 0 36) (f : ∀ f, yFs f → T'.1 0 f = T.1 0 f) (r : ∀ o i, 13 ≤ o → T'.2.1 o i = T.2.1 o i) : yA T0' T' σ sd rm pc e rets K Ks vs mp told most := by
  obtain ⟨a1, a2, a3, a4, a5, a6, a7, a8, a9, a10⟩ := h
  have hs : yHs T T' := fun o i a _ => r o i a
  refine ⟨o, ⟨ee.1.trans a2.1, ee.2.trans a2.2⟩, ⟨(f 51 (by unfold yFs; omega)).trans a3.1, (f 53 (by unfold yFs; omega)).trans a3.2⟩, ⟨(f 48 (by unfold yFs; omega)).trans a4.1, yAs_go hs (fun p o _ _ _ => r o p (by omega)) a4.2⟩, ⟨(f 43 (by unfold yFs; omega)).trans a5.1, a5.2.1, yBs_go (fun o i _ _ => r o i (by omega)) a5.2.2⟩, ⟨fun i hi => (r 19 i (by decide)).trans (a6.1 i hi), fun k hk => (r 21 k (by decide)).trans (a6.2 k hk)⟩, ⟨fun i hi => by rw [r 20 i (by decide)]; exact yTr_hs hs (a7.1 i hi), fun k hk => by rw [r 22 k (by decide)]; exact yTr_hs hs (a7.2 k hk)⟩, ⟨(f 50 (by unfold yFs; omega)).trans a8.1, a8.2.1, fun p x hp => (r 29 p (by decide)).trans (a8.2.2 p x hp)⟩, (f 33 (by unfold yFs; omega)).trans a9, ?_⟩
  have e13 : T'.2.1 13 = T.2.1 13 := funext (fun i => r 13 i (by decide))
  have e15 : T'.2.1 15 = T.2.1 15 := funext (fun i => r 15 i (by decide))
  have e16 : T'.2.1 16 = T.2.1 16 := funext (fun i => r 16 i (by decide))
  rw [e13, e15, e16]
  have rt : ∀ U c, yRt T' (K ++ Ks.flatten) Ks.length mp U c → yRt T (K ++ Ks.flatten) Ks.length mp U c := fun U c z => yRt_re (fun o p a _ => r o p (by omega)) z
  intro U c U' c' i j h1 h2
  exact a10 U c U' c' i j (rt U c h1) (rt U' c' h2)
theorem yM_52 (h : yM T0 T sd rm c s) : yM (mv_pf T0 0 52 x) (mv_pf T 0 52 x) sd rm c s := by
  obtain ⟨σ, h⟩ := h
  refine ⟨σ, yA_out h ⟨fun o f a => ?_, h.1.2⟩ ⟨rfl, rfl⟩ (fun f hf => ?_) (fun _ _ _ => rfl)⟩
  · rw [pf_get, pf_get]
    split
    · rfl
    · exact h.1.1 o f a
  · rw [pf_get, if_neg (by unfold yFs at hf; omega)]
theorem yM_53 (h : yM T0 T sd rm c s) : T.1 0 53 = c := by
  obtain ⟨σ, h⟩ := h
  exact h.2.2.1.2
/-- what the reference's program holds -/
def yPg (T0 : mv_S) (par : Nat → Int32) (fa : Nat → Nat) (L : Nat) : Prop := (∀ f, f < 8 → ¬ par f = -1 → T0.2.1 5 f = par f) ∧ (∀ f, f < 8 → ¬ par f = -1 → (if T0.1 0 55 = 0 then T0.2.1 6 f else T0.2.1 7 f) = nI (fa f)) ∧ (∀ p, p < L → yIn T0 p) ∧ (∀ f, f < 8 → ¬ par f = -1 → tyA (yW T0) par L false (fa f) [])
theorem yPg_e (h : yE T0 T0') (g : yPg T0 par fa L) : yPg T0' par fa L := by
  obtain ⟨a, b, c, e⟩ := g
  have e55 := h.1 0 55 (by omega)
  refine ⟨fun f hf z => by rw [h.2]; exact a f hf z, fun f hf z => by rw [h.2, e55]; exact b f hf z, fun p hp => ?_, fun f hf z => by rw [yE_w h]; exact e f hf z⟩
  have q := c p hp
  unfold yIn at q ⊢
  rw [e55]; exact q
theorem y_isStep0 (h : T.1 0 55 = 0) (hP : P (some (.int 1)) T) : mv_big layY sysY (d + 1) 50 [.ref 0] T P := by
  refine ⟨20, ?_⟩
  refine ws_aload_n rfl (rfl) rfl (ws_getz rfl rfl (h) rfl (ws_i rfl ⟨fun z => absurd rfl z, fun _ => ?_⟩))
  refine ws_iconst (x := 1) rfl rfl rfl (ws_i rfl ?_)
  exact ⟨Or.inr rfl, hP⟩
abbrev yGw (P : Option Value → mv_S → Prop) (d F pc : Nat) (l : List (Nat × Value)) (st : List Value) (S : mv_S) : Prop := mv_wp layY sysY tT11 4 none mX11_go.2.2.2.2.2.2.2 (mv_big layY sysY (d + 7)) P F pc l st S
set_option maxHeartbeats 1000000 in
set_option maxRecDepth 8000 in
theorem y_goR (hrm : rm ≤ 400) : ∀ (k : Nat) (T0 T : mv_S) (l : List (Nat × Value)) (s : aMs) (n0 : Nat), T0.1 0 55 = 0 → yPg T0 par fa L → mv_at 0 l = some (.ref 0) → mv_at 2 l = some (.int (nI k)) → k < 2 ^ 31 → aInv (yW T0) par L sd rm s → yM T0 T sd rm 1 s → T.1 0 52 = nI n0 → ¬ (aRun (yW T0) par fa sd rm k s).1 = 99 → (∀ T0' T', yE T0 T0' → yM T0' T' sd rm (aRun (yW T0) par fa sd rm k s).1 (aRun (yW T0) par fa sd rm k s).2.2 → T'.1 0 52 = nI (n0 + (aRun (yW T0) par fa sd rm k s).2.1) → P none T') → yGw P d (60 * k + 60) 2 l [] T := by
  intro k
  induction k with
  | zero =>
    intro T0 T l s n0 h55 pg z0 z2 _ hv h e52 h99 hP
    have e53 := yM_53 h
    have e55 : T.1 0 55 = 0 := by
      obtain ⟨σ, h⟩ := h
      exact (h.1.1 0 55 (fun z => by unfold yFs at z; omega)).trans h55
    refine ws_aload_n rfl (z0) rfl (ws_geti rfl rfl (e53) rfl (ws_iconst (x := 1) rfl rfl rfl (ws_i rfl ⟨fun z => absurd rfl z, fun _ => ?_⟩)))
    refine ws_aload_n rfl (z0) rfl (ws_iv rfl rfl rfl ?_)
    refine mv_deep (d := d + 1) (by omega) (y_isStep0 e55 ?_)
    refine ws_istore_n rfl rfl rfl rfl (ws_iload_n rfl (mv_at_me) rfl (ws_i rfl ⟨fun z => absurd z (show ¬ (1 : Int32) = 0 by decide), fun _ => ?_⟩))
    refine ws_iload_n rfl (mv_at_sv (by decide) (z2)) rfl (ws_i rfl ⟨fun z => absurd rfl z, fun _ => ?_⟩)
    refine ws_i rfl ?_
    exact hP T0 T yE_refl h e52
  | succ k ih =>
    intro T0 T l s n0 h55 pg z0 z2 hk hv h e52 h99 hP
    have e53 := yM_53 h
    have e55 : T.1 0 55 = 0 := by
      obtain ⟨σ, h⟩ := h
      exact (h.1.1 0 55 (fun z => by unfold yFs at z; omega)).trans h55
    refine mv_fuel (n := (60 * k + 60) + 40) (by omega) ?_
    refine ws_aload_n rfl (z0) rfl (ws_geti rfl rfl (e53) rfl (ws_iconst (x := 1) rfl rfl rfl (ws_i rfl ⟨fun z => absurd rfl z, fun _ => ?_⟩)))
    refine ws_aload_n rfl (z0) rfl (ws_iv rfl rfl rfl ?_)
    refine mv_deep (d := d + 1) (by omega) (y_isStep0 e55 ?_)
    refine ws_istore_n rfl rfl rfl rfl (ws_iload_n rfl (mv_at_me) rfl (ws_i rfl ⟨fun z => absurd z (show ¬ (1 : Int32) = 0 by decide), fun _ => ?_⟩))
    refine ws_iload_n rfl (mv_at_sv (by decide) (z2)) rfl (ws_i rfl ⟨fun _ => ?_, fun z => absurd z (nI_ne0 (by omega) hk)⟩)
    refine ws_iload_n rfl (mv_at_sv (by decide) (z2)) rfl (ws_iload_n rfl (mv_at_me) rfl (ws_i rfl ⟨fun z => absurd z (show ¬ (1 : Int32) = 0 by decide), fun _ => ?_⟩))
    refine ws_iconst (x := 1) rfl rfl rfl (ws_goto (t := 34) rfl (by decide) (ws_isub rfl (nI_pred k) rfl (ws_istore_n rfl rfl rfl rfl (ws_aload_n rfl (mv_at_sr (by decide) (mv_at_sr (by decide) (z0))) rfl (ws_dup_r rfl rfl (ws_geti rfl rfl (e52) rfl (ws_iload_n rfl (mv_at_sv (by decide) (mv_at_me)) rfl (ws_i rfl ⟨fun z => absurd z (show ¬ (1 : Int32) = 0 by decide), fun _ => ?_⟩))))))))
    refine ws_iconst (x := 1) rfl rfl rfl (ws_goto (t := 50) rfl (by decide) (ws_iadd rfl (nI_1 n0) rfl (ws_puti rfl rfl rfl (ws_aload_n rfl (mv_at_sr (by decide) (mv_at_sr (by decide) (z0))) rfl (ws_iv rfl rfl rfl ?_)))))
    have h1 := yM_52 (x := nI (n0 + 1)) h
    have E1 : yE T0 (mv_pf T0 0 52 (nI (n0 + 1))) := yE_pf
    obtain ⟨T1, eT⟩ : ∃ T1, T1 = mv_pf T0 0 52 (nI (n0 + 1)) := ⟨_, rfl⟩
    rw [← eT] at h1 E1
    obtain ⟨T2, eT2⟩ : ∃ T2, T2 = mv_pf T 0 52 (nI (n0 + 1)) := ⟨_, rfl⟩
    rw [← eT2] at h1 ⊢
    have pg1 := yPg_e E1 pg
    have ew := yE_w E1
    have hv1 : aInv (yW T1) par L sd rm s := by rw [ew]; exact hv
    rw [← ew] at hP h99
    have f52 : T2.1 0 52 = nI (n0 + 1) := by rw [eT2, pf_get, if_pos ⟨rfl, rfl⟩]
    have t52 : T1.1 0 52 = nI (n0 + 1) := by rw [eT, pf_get, if_pos ⟨rfl, rfl⟩]
    rw [aRun] at h99 hP
    have c99 : ¬ (aSt (yW T1) par fa sd rm s).1 = 99 := by
      intro z
      rw [if_neg (by rw [z]; decide)] at h99
      exact h99 z
    refine y_perf pg1.1 pg1.2.1 pg1.2.2.1 hrm hv1 h1 c99 (fun T3 h3 => ?_)
    have g52 : T3.1 0 52 = nI (n0 + 1) := by
      obtain ⟨σ, h3⟩ := h3
      exact (h3.1.1 0 52 (fun z => by unfold yFs at z; omega)).trans t52
    by_cases c : (aSt (yW T1) par fa sd rm s).1 = 1
    · rw [if_pos c] at h99 hP
      refine ws_goto (t := 2) rfl (by decide) ?_
      rw [c] at h3
      exact mv_fuel (by omega) (ih T1 T3 _ _ (n0 + 1) ((E1.1 0 55 (by omega)).trans h55) pg1 (mv_at_sr (by decide) (mv_at_sr (by decide) (z0))) (mv_at_me) (by omega) (aSt_inv pg1.2.2.2 hrm hv1 c) h3 g52 h99 (fun T0' T' g1 g2 g3 => hP T0' T' (yE_trans E1 g1) g2 (by rw [g3]; exact congrArg nI (by show n0 + 1 + (aRun (yW T1) par fa sd rm k (aSt (yW T1) par fa sd rm s).2).2.1 = n0 + ((aRun (yW T1) par fa sd rm k (aSt (yW T1) par fa sd rm s).2).2.1 + 1); omega))))
    · rw [if_neg c] at h99 hP
      have f53 := yM_53 h3
      refine ws_goto (t := 2) rfl (by decide) ?_
      refine ws_aload_n rfl (mv_at_sr (by decide) (mv_at_sr (by decide) (z0))) rfl (ws_geti rfl rfl (f53) rfl (ws_iconst (x := 1) rfl rfl rfl (ws_i rfl ⟨fun _ => ?_, fun z => absurd z c⟩)))
      refine ws_i rfl ?_
      exact hP T1 T3 E1 h3 g52
theorem hTr_pos {K V A B : Nat → Int32} {M : Nat} (hM : M < 2 ^ 31) : ∀ {T : tT} {c : Int32}, hTr K V A B σ M T c → ¬ T = .leaf → 0 < c
  | .leaf, _, _, h => absurd rfl h
  | .inner s k v l r, c, h, _ => by
    obtain ⟨i, h1, h2, e, _⟩ := h
    rw [e]; exact nI_lt (a := 0) (by omega) (by omega)
set_option maxHeartbeats 1000000 in
set_option maxRecDepth 8000 in
theorem y_isStepS (h1 : ¬ T0.1 0 55 = 0) (hin : yIn T0 s.1) (hv : aInv (yW T0) par L sd rm s) (h : yM T0 T sd rm c s) (hP : P (some (.int (if aIs (yW T0) s = true then 1 else 0))) T) : mv_big layY sysY (d + 3) 50 [.ref 0] T P := by
  have hq := (aInv_b hv).2.2
  have i := tyA_i hv.1
  obtain ⟨pc, rets, K, Ks, vs, mp, told, most, st⟩ := s
  obtain ⟨σ, hA⟩ := h
  have hA : yA T0 T σ sd rm pc c rets K Ks vs mp told most := hA
  have e55 : T.1 0 55 = T0.1 0 55 := hA.1.1 0 55 (fun z => by unfold yFs at z; omega)
  refine ⟨60, ?_⟩
  refine ws_aload_n rfl (rfl) rfl (ws_getz rfl rfl (rfl) rfl (ws_i rfl ⟨fun _ => ?_, fun z => absurd z (fun y => h1 (e55.symm.trans y))⟩))
  refine ws_aload_n rfl (rfl) rfl (ws_iconst (x := 0) rfl rfl rfl (ws_iv rfl rfl rfl ?_))
  refine mv_deep (d := d + 1) (by omega) (y_wordA (k := 0) hA hin (by decide) ?_)
  by_cases c30 : yW T0 pc = 30
  · refine ws_istore_n rfl rfl rfl rfl (ws_iload_n rfl (rfl) rfl (ws_bipush (x := 30) rfl rfl rfl (ws_i rfl ⟨fun _ => ?_, fun z => absurd c30 z⟩)))
    refine ws_iconst (x := 1) rfl rfl rfl (ws_goto (t := 39) rfl (by decide) (ws_i rfl ?_))
    have e : aIs (yW T0) (pc, rets, K, Ks, vs, mp, told, most, st) = true := by unfold aIs; rw [if_pos c30]
    rw [e] at hP
    exact ⟨Or.inr rfl, hP⟩
  · by_cases c29 : yW T0 pc = 29
    · refine ws_istore_n rfl rfl rfl rfl (ws_iload_n rfl (rfl) rfl (ws_bipush (x := 30) rfl rfl rfl (ws_i rfl ⟨fun z => absurd z c30, fun _ => ?_⟩)))
      refine ws_iload_n rfl (rfl) rfl (ws_bipush (x := 29) rfl rfl rfl (ws_i rfl ⟨fun z => absurd c29 z, fun _ => ?_⟩))
      refine ws_aload_n rfl (rfl) rfl (ws_iv rfl rfl rfl ?_)
      obtain ⟨⟨_, _, _, _, _, _, e⟩, _⟩ := okI_29 i c29
      obtain ⟨U, q, K, rfl, e⟩ := aSh_t (K := K) e
      have hq : (K ++ Ks.flatten).length + 1 ≤ 1250 := hq
      refine mv_deep (d := d + 2) (by omega) (y_nextKeyA hA (by omega) (fun cc hc => ?_))
      have er : aIs (yW T0) (pc, rets, .inr (U, q) :: K, Ks, vs, mp, told, most, st) = tSel (tNx q U) false true := by unfold aIs; rw [if_neg c30, if_pos c29]; rfl
      have z0 := hTr_leaf (by decide) hc
      by_cases e0 : tNx q U = .leaf
      · refine ws_i rfl ⟨fun _ => ?_, fun z => absurd (Int32.le_of_eq (z0.mpr e0)) z⟩
        refine ws_iconst (x := 0) rfl rfl rfl (ws_i rfl ?_)
        rw [er, tSel_l e0] at hP
        exact ⟨Or.inl rfl, hP⟩
      · refine ws_i rfl ⟨fun z => absurd (hTr_pos (by decide) hc e0) (Int32.not_lt.mpr z), fun _ => ?_⟩
        refine ws_iconst (x := 1) rfl rfl rfl (ws_goto (t := 39) rfl (by decide) (ws_i rfl ?_))
        rw [er, tSel_n e0] at hP
        exact ⟨Or.inr rfl, hP⟩
    · refine ws_istore_n rfl rfl rfl rfl (ws_iload_n rfl (rfl) rfl (ws_bipush (x := 30) rfl rfl rfl (ws_i rfl ⟨fun z => absurd z c30, fun _ => ?_⟩)))
      refine ws_iload_n rfl (rfl) rfl (ws_bipush (x := 29) rfl rfl rfl (ws_i rfl ⟨fun _ => ?_, fun z => absurd z c29⟩))
      refine ws_iconst (x := 0) rfl rfl rfl (ws_i rfl ?_)
      have er : aIs (yW T0) (pc, rets, K, Ks, vs, mp, told, most, st) = false := by unfold aIs; rw [if_neg c30, if_neg c29]
      rw [er] at hP
      exact ⟨Or.inl rfl, hP⟩
set_option maxHeartbeats 1000000 in
set_option maxRecDepth 8000 in
theorem y_goS (hrm : rm ≤ 400) {cr : Int32} {lr : Nat} {sr : aMs} : ∀ (f : Nat) (k : Nat) (T0 T : mv_S) (l : List (Nat × Value)) (s : aMs) (n0 : Nat), ¬ T0.1 0 55 = 0 → yPg T0 par fa L → mv_at 0 l = some (.ref 0) → mv_at 2 l = some (.int (nI k)) → k < 2 ^ 31 → aInv (yW T0) par L sd rm s → yM T0 T sd rm 1 s → T.1 0 52 = nI n0 → aGo (yW T0) par fa sd rm f k s = some (cr, lr, sr) → ¬ cr = 99 → (∀ T0' T', yE T0 T0' → yM T0' T' sd rm cr sr → T'.1 0 52 = nI (n0 + k - lr) → lr ≤ k → P none T') → yGw P d (60 * f + 60) 2 l [] T := by
  intro f
  induction f with
  | zero =>
    intro k T0 T l s n0 h55 pg z0 z2 _ hv h e52 hg
    exact absurd hg (by rw [aGo]; exact nofun)
  | succ f ih =>
    intro k T0 T l s n0 h55 pg z0 z2 hk hv h e52 hg h99 hP
    have e53 := yM_53 h
    have hlt : s.1 < L := by
      obtain ⟨kk, hk1, hw1⟩ := aInv_k hv
      have := okI_len (tyA_i hv.1) hw1 hk1
      have := aWl_pos kk
      omega
    rw [aGo] at hg
    refine mv_fuel (n := (60 * f + 60) + 40) (by omega) ?_
    refine ws_aload_n rfl (z0) rfl (ws_geti rfl rfl (e53) rfl (ws_iconst (x := 1) rfl rfl rfl (ws_i rfl ⟨fun z => absurd rfl z, fun _ => ?_⟩)))
    refine ws_aload_n rfl (z0) rfl (ws_iv rfl rfl rfl ?_)
    refine mv_deep (d := d + 3) (by omega) (y_isStepS h55 (pg.2.2.1 _ hlt) hv h ?_)
    have pf0 : ∀ x : Int32, x = T.1 0 52 → mv_pf T 0 52 x = mv_pf T 0 52 (T.1 0 52) := fun x e => by rw [e]
    by_cases cs : aIs (yW T0) s = true
    · rw [if_pos cs]
      rw [cs] at hg
      by_cases ck : k = 0
      · rw [if_pos ⟨rfl, ck⟩] at hg
        simp only [Option.some.injEq, Prod.mk.injEq] at hg
        obtain ⟨rfl, rfl, rfl⟩ := hg
        refine ws_istore_n rfl rfl rfl rfl (ws_iload_n rfl (mv_at_me) rfl (ws_i rfl ⟨fun z => absurd z (show ¬ (1 : Int32) = 0 by decide), fun _ => ?_⟩))
        refine ws_iload_n rfl (mv_at_sv (by decide) (z2)) rfl (ws_i rfl ⟨fun z => absurd (by rw [ck]; rfl) z, fun _ => ?_⟩)
        refine ws_i rfl ?_
        exact hP T0 T yE_refl h (by rw [e52, ck]; rfl) (Nat.zero_le _)
      · rw [if_neg (fun z => ck z.2)] at hg
        obtain ⟨k, rfl⟩ : ∃ k', k = k' + 1 := ⟨k - 1, by omega⟩
        refine ws_istore_n rfl rfl rfl rfl (ws_iload_n rfl (mv_at_me) rfl (ws_i rfl ⟨fun z => absurd z (show ¬ (1 : Int32) = 0 by decide), fun _ => ?_⟩))
        refine ws_iload_n rfl (mv_at_sv (by decide) (z2)) rfl (ws_i rfl ⟨fun _ => ?_, fun z => absurd z (nI_ne0 (by omega) hk)⟩)
        refine ws_iload_n rfl (mv_at_sv (by decide) (z2)) rfl (ws_iload_n rfl (mv_at_me) rfl (ws_i rfl ⟨fun z => absurd z (show ¬ (1 : Int32) = 0 by decide), fun _ => ?_⟩))
        refine ws_iconst (x := 1) rfl rfl rfl (ws_goto (t := 34) rfl (by decide) (ws_isub rfl (nI_pred k) rfl (ws_istore_n rfl rfl rfl rfl (ws_aload_n rfl (mv_at_sr (by decide) (mv_at_sr (by decide) (z0))) rfl (ws_dup_r rfl rfl (ws_geti rfl rfl (e52) rfl (ws_iload_n rfl (mv_at_sv (by decide) (mv_at_me)) rfl (ws_i rfl ⟨fun z => absurd z (show ¬ (1 : Int32) = 0 by decide), fun _ => ?_⟩))))))))
        refine ws_iconst (x := 1) rfl rfl rfl (ws_goto (t := 50) rfl (by decide) (ws_iadd rfl (nI_1 n0) rfl (ws_puti rfl rfl rfl (ws_aload_n rfl (mv_at_sr (by decide) (mv_at_sr (by decide) (z0))) rfl (ws_iv rfl rfl rfl ?_)))))
        have h1 := yM_52 (x := nI (n0 + 1)) h
        have E1 : yE T0 (mv_pf T0 0 52 (nI (n0 + 1))) := yE_pf
        obtain ⟨T1, eT⟩ : ∃ T1, T1 = mv_pf T0 0 52 (nI (n0 + 1)) := ⟨_, rfl⟩
        rw [← eT] at h1 E1
        obtain ⟨T2, eT2⟩ : ∃ T2, T2 = mv_pf T 0 52 (nI (n0 + 1)) := ⟨_, rfl⟩
        rw [← eT2] at h1 ⊢
        have pg1 := yPg_e E1 pg
        have ew := yE_w E1
        have hv1 : aInv (yW T1) par L sd rm s := by rw [ew]; exact hv
        rw [← ew] at hg
        have t52 : T1.1 0 52 = nI (n0 + 1) := by rw [eT, pf_get, if_pos ⟨rfl, rfl⟩]
        have c99 : ¬ (aSt (yW T1) par fa sd rm s).1 = 99 := by
          intro z
          rw [if_neg (by rw [z]; decide)] at hg
          simp only [Option.some.injEq, Prod.mk.injEq] at hg
          exact h99 (hg.1.symm.trans z)
        refine y_perf pg1.1 pg1.2.1 pg1.2.2.1 hrm hv1 h1 c99 (fun T3 h3 => ?_)
        have g52 : T3.1 0 52 = nI (n0 + 1) := by
          obtain ⟨σ, h3⟩ := h3
          exact (h3.1.1 0 52 (fun z => by unfold yFs at z; omega)).trans t52
        by_cases c : (aSt (yW T1) par fa sd rm s).1 = 1
        · rw [if_pos c] at hg
          refine ws_goto (t := 2) rfl (by decide) ?_
          rw [c] at h3
          exact mv_fuel (by omega) (ih k T1 T3 _ _ (n0 + 1) (by rw [E1.1 0 55 (by omega)]; exact h55) pg1 (mv_at_sr (by decide) (mv_at_sr (by decide) (z0))) (mv_at_me) (by omega) (aSt_inv pg1.2.2.2 hrm hv1 c) h3 g52 hg h99 (fun T0' T' g1 g2 g3 g4 => hP T0' T' (yE_trans E1 g1) g2 (by rw [g3]; congr 1; omega) (by omega)))
        · rw [if_neg c] at hg
          simp only [Option.some.injEq, Prod.mk.injEq] at hg
          have f53 := yM_53 h3
          refine ws_goto (t := 2) rfl (by decide) ?_
          refine ws_aload_n rfl (mv_at_sr (by decide) (mv_at_sr (by decide) (z0))) rfl (ws_geti rfl rfl (f53) rfl (ws_iconst (x := 1) rfl rfl rfl (ws_i rfl ⟨fun _ => ?_, fun z => absurd z c⟩)))
          refine ws_i rfl ?_
          obtain ⟨rfl, rfl, rfl⟩ := hg
          exact hP T1 T3 E1 h3 (by rw [g52]; congr 1; show n0 + 1 = n0 + (k + 1) - (k + 1 - 1); omega) (Nat.sub_le _ _)
    · rw [if_neg cs]
      have cs : aIs (yW T0) s = false := by
        cases h : aIs (yW T0) s
        · rfl
        · exact absurd h cs
      rw [cs] at hg
      rw [if_neg (fun z => by cases z.1)] at hg
      by_cases tr : True
      · refine ws_istore_n rfl rfl rfl rfl (ws_iload_n rfl (mv_at_me) rfl (ws_i rfl ⟨fun _ => ?_, fun z => absurd rfl z⟩))
        refine ws_iload_n rfl (mv_at_sv (by decide) (z2)) rfl (ws_iload_n rfl (mv_at_me) rfl (ws_i rfl ⟨fun _ => ?_, fun z => absurd rfl z⟩))
        refine ws_iconst (x := 0) rfl rfl rfl (ws_isub rfl (Int32.sub_zero _) rfl (ws_istore_n rfl rfl rfl rfl (ws_aload_n rfl (mv_at_sr (by decide) (mv_at_sr (by decide) (z0))) rfl (ws_dup_r rfl rfl (ws_geti rfl rfl (e52) rfl (ws_iload_n rfl (mv_at_sv (by decide) (mv_at_me)) rfl (ws_i rfl ⟨fun _ => ?_, fun z => absurd rfl z⟩)))))))
        refine ws_iconst (x := 0) rfl rfl rfl (ws_iadd rfl (Int32.add_zero _) rfl (ws_puti rfl rfl rfl (ws_aload_n rfl (mv_at_sr (by decide) (mv_at_sr (by decide) (z0))) rfl (ws_iv rfl rfl rfl ?_))))
        have h1 := yM_52 (x := nI n0) h
        have E1 : yE T0 (mv_pf T0 0 52 (nI n0)) := yE_pf
        obtain ⟨T1, eT⟩ : ∃ T1, T1 = mv_pf T0 0 52 (nI n0) := ⟨_, rfl⟩
        rw [← eT] at h1 E1
        obtain ⟨T2, eT2⟩ : ∃ T2, T2 = mv_pf T 0 52 (nI n0) := ⟨_, rfl⟩
        rw [← eT2] at h1 ⊢
        have pg1 := yPg_e E1 pg
        have ew := yE_w E1
        have hv1 : aInv (yW T1) par L sd rm s := by rw [ew]; exact hv
        rw [← ew] at hg
        have t52 : T1.1 0 52 = nI n0 := by rw [eT, pf_get, if_pos ⟨rfl, rfl⟩]
        have c99 : ¬ (aSt (yW T1) par fa sd rm s).1 = 99 := by
          intro z
          rw [if_neg (by rw [z]; decide)] at hg
          simp only [Option.some.injEq, Prod.mk.injEq] at hg
          exact h99 (hg.1.symm.trans z)
        refine y_perf pg1.1 pg1.2.1 pg1.2.2.1 hrm hv1 h1 c99 (fun T3 h3 => ?_)
        have g52 : T3.1 0 52 = nI n0 := by
          obtain ⟨σ, h3⟩ := h3
          exact (h3.1.1 0 52 (fun z => by unfold yFs at z; omega)).trans t52
        by_cases c : (aSt (yW T1) par fa sd rm s).1 = 1
        · rw [if_pos c] at hg
          refine ws_goto (t := 2) rfl (by decide) ?_
          rw [c] at h3
          exact mv_fuel (by omega) (ih k T1 T3 _ _ n0 (by rw [E1.1 0 55 (by omega)]; exact h55) pg1 (mv_at_sr (by decide) (mv_at_sr (by decide) (z0))) (mv_at_me) (by omega) (aSt_inv pg1.2.2.2 hrm hv1 c) h3 g52 hg h99 (fun T0' T' g1 g2 g3 g4 => hP T0' T' (yE_trans E1 g1) g2 g3 (by omega)))
        · rw [if_neg c] at hg
          simp only [Option.some.injEq, Prod.mk.injEq] at hg
          have f53 := yM_53 h3
          refine ws_goto (t := 2) rfl (by decide) ?_
          refine ws_aload_n rfl (mv_at_sr (by decide) (mv_at_sr (by decide) (z0))) rfl (ws_geti rfl rfl (f53) rfl (ws_iconst (x := 1) rfl rfl rfl (ws_i rfl ⟨fun _ => ?_, fun z => absurd z c⟩)))
          refine ws_i rfl ?_
          obtain ⟨rfl, rfl, rfl⟩ := hg
          exact hP T1 T3 E1 h3 (by rw [g52]; congr 1; show n0 = n0 + k - (k - 0); omega) (Nat.sub_le _ _)
      · exact absurd trivial tr
end YG

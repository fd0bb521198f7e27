/-! THE CLASS'S RUNNER: a step -/
/-- what the class's program holds: words w, parameters, the functions' first words -/
def xPg (S : mv_S) (w par : Nat → Int32) (fa : Nat → Nat) (L : Nat) : Prop := ¬ S.1 1 11 = 0 ∧ S.1 1 10 = nI L ∧ L ≤ 1500 ∧ (∀ p, p < L → S.2.1 11 p = w p) ∧ (∀ f, f < 8 → S.2.1 12 f = par f) ∧ (∀ f, f < 8 → ¬ par f = -1 → S.2.1 13 f = nI (fa f))
/-- what stays while it runs -/
def xFx (S S' : mv_S) : Prop := (∀ o f, o ≠ 3 → o ≠ 4 → o ≠ 5 → ¬ (o = 6 ∧ (f = 3 ∨ f = 4)) → S'.1 o f = S.1 o f) ∧ (∀ o i, (o < 15 ∨ 35 ≤ o) → S'.2.1 o i = S.2.1 o i)
theorem xFx_trans {S S1 S2 : mv_S} (h : xFx S S1) (g : xFx S1 S2) : xFx S S2 := ⟨fun o f a b c e => (g.1 o f a b c e).trans (h.1 o f a b c e), fun o i a => (g.2 o i a).trans (h.2 o i a)⟩
theorem xFx_o {S S' : mv_S} (h : xO S S') : xFx S S' := ⟨fun o f a b c _ => h.1 o f a b c, h.2.2⟩
theorem xFx_pf {S : mv_S} {f : Nat} {x : Int32} (hf : f = 3 ∨ f = 4) : xFx S (mv_pf S 6 f x) := ⟨fun o g _ _ _ e => by rw [pf_get, if_neg (fun z => e ⟨z.1, by omega⟩)], fun _ _ _ => rfl⟩
theorem xFx_pg {S S' : mv_S} {w par : Nat → Int32} {fa : Nat → Nat} {L : Nat} (h : xFx S S') (p : xPg S w par fa L) : xPg S' w par fa L := by
  obtain ⟨a1, a2, a3, a4, a5, a6⟩ := p
  refine ⟨?_, ?_, a3, fun q hq => (h.2 11 q (by decide)).trans (a4 q hq), fun f hf => (h.2 12 f (by decide)).trans (a5 f hf), fun f hf z => (h.2 13 f (by decide)).trans (a6 f hf z)⟩
  · rw [h.1 1 11 (by decide) (by decide) (by decide) (by omega)]; exact a1
  · rw [h.1 1 10 (by decide) (by decide) (by decide) (by omega)]; exact a2
/-- the runner stands at s; c: how it ended -/
def xRun (S : mv_S) (sd : Int32) (rm B : Nat) (c : Int32) (s : aMs) : Prop := (∃ K', aMap K' = aMap s.2.2.1 ∧ (c = 1 → K' = s.2.2.1) ∧ xD S S sd rm B s.2.1 (K', s.2.2.2)) ∧ S.1 6 3 = nI s.1 ∧ S.1 6 4 = c
theorem wdLen_k : ∀ k, k < 31 → wdLen (nI k) = nI (aWl k) := by decide
theorem pick_d : ∀ k, k < 31 → ((1 ≤ k ∧ k ≤ 11) ∨ k = 15 ∨ (18 ≤ k ∧ k ≤ 28) ∨ k = 30) → (36 : Int) + mv_pick (nI k) 167 [(0, 68), (12, 76), (13, 84), (14, 107), (16, 130), (17, 138), (29, 159)] = 203 := by decide
section XR
variable {d : Nat} {P : Option Value → mv_S → Prop} {S0 S S' : mv_S} {σ : Nat → Nat} {sd x : Int32} {rm fb B : Nat} {rets : List Nat} {K : List aI} {Ks : List (List aI)} {vs : Nat → Int32} {mp : Nat → tT} {told : List Int32} {most st : Nat} {D : aDt} {w par : Nat → Int32} {fa : Nat → Nat} {L : Nat} {mn : Bool} {Q : Nat → shT → Prop} {pc k : Nat} {s : aMs}
/-- what is held hangs on the store's own fields and rows alone -/
theorem xA_out (h : xA S0 S σ sd rm fb B rets K Ks vs mp told most) (f3 : ∀ f, S'.1 3 f = S.1 3 f) (f4 : ∀ f, f ≠ 15 → S'.1 4 f = S.1 4 f) (r : ∀ o i, 15 ≤ o → o < 35 → S'.2.1 o i = S.2.1 o i) (l : S'.2.2 = S.2.2) : xA S' S' σ sd rm fb B rets K Ks vs mp told most := by
  obtain ⟨a1, a2, a3, a4, a5, a6, a7, a8, a9, a10⟩ := h
  have hs : xHs S S' := ⟨f3, fun o i a b => r o i a (by omega)⟩
  refine ⟨xO_refl, xHp_go hs a2, ⟨(f4 11 (by decide)).trans a3.1, xNs_go (fun p _ => r 25 p (by decide) (by decide)) a3.2⟩, ⟨(f4 12 (by decide)).trans a4.1, xZs_go hs (fun p _ => ⟨r 26 p (by decide) (by decide), by rw [l]⟩) a4.2⟩, ⟨(f4 13 (by decide)).trans a5.1, a5.2.1, xBs_go (fun o i _ _ => r o i (by omega) (by omega)) a5.2.2⟩, fun i hi => (r 23 i (by decide) (by decide)).trans (a6 i hi), fun i hi => by rw [r 24 i (by decide) (by decide)]; exact xCl_hs hs (a7 i hi), ⟨(f4 14 (by decide)).trans a8.1, a8.2.1, fun p x hp => (r 31 p (by decide) (by decide)).trans (a8.2.2 p x hp)⟩, (f4 16 (by decide)).trans a9, ?_⟩
  have e15 : S'.2.1 15 = S.2.1 15 := funext (fun i => r 15 i (by decide) (by decide))
  have e18 : S'.2.1 18 = S.2.1 18 := funext (fun i => r 18 i (by decide) (by decide))
  have e19 : S'.2.1 19 = S.2.1 19 := funext (fun i => r 19 i (by decide) (by decide))
  rw [e15, e18, e19]
  have rt : ∀ T c, xRt S' (aMap (K ++ Ks.flatten)) Ks.length mp T c → xRt S (aMap (K ++ Ks.flatten)) Ks.length mp T c := fun T c z => xRt_re (fun p => r 24 p (by decide) (by decide)) (fun p => r 26 p (by decide) (by decide)) z
  intro T c T' c' i j h1 h2
  exact a10 T c T' c' i j (rt T c h1) (rt T' c' h2)
theorem xD_out (h : xD S0 S sd rm B rets D) (f3 : ∀ f, S'.1 3 f = S.1 3 f) (f4 : ∀ f, f ≠ 15 → S'.1 4 f = S.1 4 f) (r : ∀ o i, 15 ≤ o → o < 35 → S'.2.1 o i = S.2.1 o i) (l : S'.2.2 = S.2.2) : xD S' S' sd rm B rets D := by
  obtain ⟨σ, fb, h⟩ := h
  exact ⟨σ, fb, xA_out h f3 f4 r l⟩
theorem xD_pf {f : Nat} (h : xD S0 S sd rm B rets D) : xD (mv_pf S 6 f x) (mv_pf S 6 f x) sd rm B rets D := xD_out h (fun g => by rw [pf_get, if_neg (by omega)]) (fun g _ => by rw [pf_get, if_neg (by omega)]) (fun _ _ _ _ => rfl) rfl
theorem xPg_w (h : xPg S w par fa L) (hp : pc < L) : xWd S (nI pc) = w pc := by
  obtain ⟨a1, a2, a3, a4, _⟩ := h
  unfold xWd
  rw [if_neg a1, a2, if_pos ⟨nI_pos' (by omega), nI_lt hp (by omega)⟩, rAt_nI (by omega) (by decide), a4 pc hp]
/-- the runner's end of a step: the end is set, the place was -/
theorem xR_end {a : Nat} {c : Int32} {K' : List aI} {S1 S2 : mv_S} {R} (fx : xFx S S1) (o : xO S1 S2) (e15 : S1.1 4 15 = S.1 4 15) (e3 : S1.1 6 3 = nI a) (h : xD S1 S2 sd rm B rets (K', R)) (hK : aMap K' = aMap K) (hc : c = 1 → K' = K) : xFx S (mv_pf S2 6 4 c) ∧ (mv_pf S2 6 4 c).1 4 15 = S.1 4 15 ∧ xRun (mv_pf S2 6 4 c) sd rm B c (a, rets, K, R) := by
  refine ⟨xFx_trans fx (xFx_trans (xFx_o o) (xFx_pf (Or.inr rfl))), ?_, ⟨K', hK, hc, xD_pf h⟩, ?_, ?_⟩
  · rw [pf_get, if_neg (by omega), o.2.1]; exact e15
  · show (mv_pf S2 6 4 c).1 6 3 = nI a
    rw [pf_get, if_neg (by omega), o.1 6 3 (by decide) (by decide) (by decide)]; exact e3
  · rw [pf_get, if_pos ⟨rfl, rfl⟩]
/-- the place is set anew -/
theorem xR_nxt {a : Nat} {S1 S2 : mv_S} (fx : xFx S S1) (o : xO S1 S2) (e15 : S1.1 4 15 = S.1 4 15) (e4 : S1.1 6 4 = 1) (h : xD S1 S2 sd rm B rets D) : xFx S (mv_pf S2 6 3 (nI a)) ∧ (mv_pf S2 6 3 (nI a)).1 4 15 = S.1 4 15 ∧ xRun (mv_pf S2 6 3 (nI a)) sd rm B 1 (a, rets, D) := by
  refine ⟨xFx_trans fx (xFx_trans (xFx_o o) (xFx_pf (Or.inl rfl))), ?_, ⟨D.1, rfl, fun _ => rfl, xD_pf h⟩, ?_, ?_⟩
  · rw [pf_get, if_neg (by omega), o.2.1]; exact e15
  · rw [pf_get, if_pos ⟨rfl, rfl⟩]
  · rw [pf_get, if_neg (by omega), o.1 6 4 (by decide) (by decide) (by decide)]; exact e4
/-- the place stays -/
theorem xR_stay {a : Nat} {S1 S2 : mv_S} (fx : xFx S S1) (o : xO S1 S2) (e15 : S1.1 4 15 = S.1 4 15) (e3 : S1.1 6 3 = nI a) (e4 : S1.1 6 4 = 1) (h : xD S1 S2 sd rm B rets D) : xFx S S2 ∧ S2.1 4 15 = S.1 4 15 ∧ xRun S2 sd rm B 1 (a, rets, D) :=
  ⟨xFx_trans fx (xFx_o o), o.2.1.trans e15, ⟨D.1, rfl, fun _ => rfl, xD_self h⟩, (o.1 6 3 (by decide) (by decide) (by decide)).trans e3, (o.1 6 4 (by decide) (by decide) (by decide)).trans e4⟩
set_option maxHeartbeats 1000000 in
set_option maxRecDepth 8000 in
theorem x_ask30 (hP : P none S) : mv_big layX sysX (d + 1) 117 [.ref 4, .int 30] S P := by
  refine ⟨20, ?_⟩
  refine ws_iload_n rfl (rfl) rfl (ws_tab (t := 116) rfl rfl (by decide) (ws_i rfl ?_))
  exact hP
set_option maxHeartbeats 1000000 in
set_option maxRecDepth 8000 in
theorem x_ap30 {y : Int32} (hP : P (some (.int 1)) S) : mv_big layX sysX (d + 2) 114 [.ref 4, .int 30, .int y] S P := by
  refine ⟨40, ?_⟩
  refine ws_iload_n rfl (rfl) rfl (ws_iconst (x := 4) rfl rfl rfl (ws_i rfl ⟨fun z => absurd z (show ¬ (30 : Int32) < 4 by decide), fun _ => ?_⟩))
  refine ws_iload_n rfl (rfl) rfl (ws_bipush (x := 10) rfl rfl rfl (ws_i rfl ⟨fun _ => ?_, fun z => absurd (show (10 : Int32) < 30 by decide) z⟩))
  refine ws_iload_n rfl (rfl) rfl (ws_bipush (x := 22) rfl rfl rfl (ws_i rfl ⟨fun z => absurd z (show ¬ (30 : Int32) < 22 by decide), fun _ => ?_⟩))
  refine ws_iload_n rfl (rfl) rfl (ws_bipush (x := 24) rfl rfl rfl (ws_i rfl ⟨fun _ => ?_, fun z => absurd (show (24 : Int32) < 30 by decide) z⟩))
  refine ws_iload_n rfl (rfl) rfl (ws_tab (t := 243) rfl rfl (by decide) (ws_aload_n rfl (rfl) rfl (ws_iload_n rfl (rfl) rfl (ws_iv rfl rfl rfl ?_))))
  refine mv_deep (d := d + 1) (by omega) (x_ask30 ?_)
  refine ws_iconst (x := 1) rfl rfl rfl (ws_i rfl ?_)
  exact hP
abbrev xCw (P : Option Value → mv_S → Prop) (d F pc : Nat) (l : List (Nat × Value)) (st : List Value) (S : mv_S) : Prop := mv_wp layX sysX tT4 2 none mX4_call.2.2.2.2.2.2.2 (mv_big layX sysX (d + 5)) P F pc l st S
set_option maxHeartbeats 1000000 in
set_option maxRecDepth 8000 in
theorem x_rcall {f : Int32} {ps : List Int32} {R : List aI} (hp : xPg S w par fa L) (hf : cHasF par f) (hpar : par f.toNatClampNeg = nI ps.length) (h3 : ps.length ≤ 3) (hA : xD S0 S sd rm B rets (ps.reverse.map Sum.inl ++ R, Ks, vs, mp, told, most, st)) (hn : (aNum R).length ≤ 33) (hm : (aMap R).length ≤ 17) (e3 : S.1 6 3 = nI pc) (hF : Ks.length = 24 → P none (mv_pf S 6 4 3)) (hP : Ks.length ≤ 23 → ∀ S', xD S S' sd rm B (pc :: rets) ([], R :: Ks, aEn Ks.length vs (aOw ps), aEm Ks.length mp, told, most, st) → P none (mv_pf S' 6 3 (nI (fa f.toNatClampNeg)))) : mv_big layX sysX (d + 6) 90 [.ref 6, .int f] S P := by
  obtain ⟨σ, fb, hA⟩ := xD_self hA
  have hA : xA S S σ sd rm fb B rets (ps.reverse.map Sum.inl ++ R) Ks vs mp told most := hA
  obtain ⟨b1, b2, b3, b4, b5, b6⟩ := hp
  obtain ⟨v1, v2⟩ := aN_of (n := 8) rfl (by decide) hf.1 hf.2.1
  have hF' : xHasF S f := ⟨hf.1, hf.2.1, by rw [b5 _ v2]; exact hf.2.2⟩
  have n24 : Ks.length ≤ 24 := hA.2.2.2.2.1.2.1
  refine ⟨60, ?_⟩
  refine ws_aload_n rfl (rfl) rfl (ws_getr rfl rfl rfl (ws_aload_n rfl (rfl) rfl (ws_getr rfl rfl rfl (ws_iload_n rfl (rfl) rfl (ws_iv rfl rfl rfl ?_)))))
  refine mv_deep (d := d + 2) (by omega) (x_parameters (fun z => absurd hF' z) (fun _ => ?_))
  rw [b5 _ v2, hpar]
  refine ws_aload_n rfl (rfl) rfl (ws_geti rfl rfl (e3) rfl (ws_iv rfl rfl rfl ?_))
  by_cases c : Ks.length = 24
  · refine mv_deep (d := d + 4) (by omega) (x_enterN hA c ?_)
    refine ws_i rfl ⟨fun _ => ?_, fun z => absurd rfl z⟩
    refine ws_aload_n rfl (rfl) rfl (ws_iconst (x := 3) rfl rfl rfl (ws_puti rfl rfl rfl (ws_i rfl ?_)))
    exact hF c
  · refine mv_deep (d := d + 4) (by omega) (x_enterA hA h3 (by omega) hn hm (fun S1 g => ?_))
    refine ws_i rfl ⟨fun z => absurd z (show ¬ (1 : Int32) = 0 by decide), fun _ => ?_⟩
    refine ws_aload_n rfl (rfl) rfl (ws_aload_n rfl (rfl) rfl (ws_getr rfl rfl rfl (ws_iload_n rfl (rfl) rfl (ws_iv rfl rfl rfl ?_))))
    refine mv_deep (d := d + 2) (by omega) (x_firstWord ?_)
    have e13 : S1.2.1 13 f.toNatClampNeg = nI (fa f.toNatClampNeg) := (g.1.2.2 13 _ (by decide)).trans (b6 _ v2 hf.2.2)
    have e8 : rAt 8 (S1.2.1 13) f = nI (fa f.toNatClampNeg) := by
      rw [show f = nI f.toNatClampNeg from v1, rAt_nI v2 (by decide), ← v1]; exact e13
    rw [e8]
    refine ws_puti rfl rfl rfl (ws_goto (t := 42) rfl (by decide) (ws_i rfl ?_))
    exact hP (by omega) S1 ⟨σ, fb, g⟩
set_option maxHeartbeats 1000000 in
set_option maxRecDepth 8000 in
theorem x_rnext {T : tT} {q : Option Int32} (hp : xPg S w par fa L) (hl : pc + 4 ≤ L) (h1 : 0 ≤ w (pc + 1)) (h2 : w (pc + 1) < 14) (h3 : 0 ≤ w (pc + 2)) (h4 : w (pc + 2) < 14) (hA : xD S0 S sd rm B rets (.inr (T, q) :: K, Ks, vs, mp, told, most, st)) (ho : tOrd T) (hm : (aMap K).length ≤ 16) (hE : tNx q T = .leaf → ∀ S', xD S S' sd rm B rets (K, Ks, vs, mp, told, most, st) → P none (mv_pf S' 6 3 (w (pc + 3)))) (hP : ¬ tNx q T = .leaf → ∀ S', xD S S' sd rm B rets (aCo (w (pc + 1)).toNatClampNeg (w (pc + 2)).toNatClampNeg (.inr (T, q) :: K, Ks, vs, mp, told, most, st)) → P none S') : mv_big layX sysX (d + 6) 91 [.ref 6, .int (nI pc)] S P := by
  obtain ⟨σ, fb, hA⟩ := xD_self hA
  have hA : xA S S σ sd rm fb B rets (.inr (T, q) :: K) Ks vs mp told most := hA
  obtain ⟨v1, v2⟩ := aN_of (n := 14) rfl (by decide) h1 h2
  obtain ⟨v3, v4⟩ := aN_of (n := 14) rfl (by decide) h3 h4
  refine ⟨80, ?_⟩
  refine ws_aload_n rfl (rfl) rfl (ws_getr rfl rfl rfl (ws_iv rfl rfl rfl ?_))
  refine mv_deep (d := d + 4) (by omega) (x_comingA hA ho hm (fun c hc => ?_))
  have z0 := hTr_leaf (by decide) hc
  by_cases e : tNx q T = .leaf
  · have e0 : c = 0 := z0.mpr e
    refine ws_istore_n rfl rfl rfl rfl (ws_iload_n rfl (rfl) rfl (ws_i rfl ⟨fun z => absurd e0 z, fun _ => ?_⟩))
    refine ws_aload_n rfl (rfl) rfl (ws_getr rfl rfl rfl (ws_iv rfl rfl rfl ?_))
    refine mv_deep (d := d + 2) (by omega) (x_popMapA hA (by omega) (fun S1 c1 g _ => ?_))
    have fx := xFx_o g.1
    refine ws_pop rfl rfl (ws_aload_n rfl (rfl) rfl (ws_aload_n rfl (rfl) rfl (ws_getr rfl rfl rfl (ws_iload_n rfl (rfl) rfl (ws_iconst (x := 3) rfl rfl rfl (ws_iadd rfl rfl rfl (ws_iv rfl rfl rfl ?_)))))))
    refine mv_deep (d := d + 2) (by omega) (x_word ?_)
    rw [show nI pc + 3 = nI (pc + 3) from nI_add pc 3, xPg_w (xFx_pg fx hp) (by omega)]
    refine ws_puti rfl rfl rfl (ws_goto (t := 65) rfl (by decide) (ws_i rfl ?_))
    exact hE e S1 ⟨σ, fb, g⟩
  · have e0 : ¬ c = 0 := fun z => e (z0.mp z)
    refine ws_istore_n rfl rfl rfl rfl (ws_iload_n rfl (rfl) rfl (ws_i rfl ⟨fun _ => ?_, fun z => absurd z e0⟩))
    refine ws_aload_n rfl (rfl) rfl (ws_getr rfl rfl rfl (ws_iload_n rfl (rfl) rfl (ws_aload_n rfl (rfl) rfl (ws_getr rfl rfl rfl (ws_iload_n rfl (rfl) rfl (ws_iconst (x := 1) rfl rfl rfl (ws_iadd rfl rfl rfl (ws_iv rfl rfl rfl ?_))))))))
    refine mv_deep (d := d + 2) (by omega) (x_word ?_)
    rw [show nI pc + 1 = nI (pc + 1) from nI_1 pc, xPg_w hp (by omega), v1]
    refine ws_aload_n rfl (rfl) rfl (ws_getr rfl rfl rfl (ws_iload_n rfl (rfl) rfl (ws_iconst (x := 2) rfl rfl rfl (ws_iadd rfl rfl rfl (ws_iv rfl rfl rfl ?_)))))
    refine mv_deep (d := d + 2) (by omega) (x_word ?_)
    rw [show nI pc + 2 = nI (pc + 2) from nI_add pc 2, xPg_w hp (by omega), v3]
    refine ws_iv rfl rfl rfl ?_
    refine mv_deep (d := d + 4) (by omega) (x_comeToA hA (by omega) v2 v4 hc (fun S1 g => ?_))
    refine ws_i rfl ?_
    exact hP e S1 ⟨σ, fb, g⟩
abbrev xSq (P : Option Value → mv_S → Prop) (d F pc : Nat) (l : List (Nat × Value)) (st : List Value) (S : mv_S) : Prop := mv_wp layX sysX tT4 4 none mX4_step.2.2.2.2.2.2.2 (mv_big layX sysX (d + 6)) P F pc l st S
def xSk (l : List (Nat × Value)) (pc k : Nat) (y : Int32) : Prop := mv_at 0 l = some (.ref 6) ∧ mv_at 1 l = some (.int (nI pc)) ∧ mv_at 2 l = some (.int (nI k)) ∧ mv_at 3 l = some (.int y)
set_option maxHeartbeats 1000000 in
set_option maxRecDepth 8000 in
theorem xS_head (hp : xPg S w par fa L) (hw : w pc = nI k) (hk : k ≤ 30) (hl : pc + aWl k ≤ L) (h1 : 1 ≤ aWl k) (e3 : S.1 6 3 = nI pc) (hK : ∀ l y, (aWl k = 2 → y = w (pc + 1)) → xSk l pc k y → xSq P d 60 35 l [] (mv_pf S 6 3 (nI (pc + aWl k)))) : mv_big layX sysX (d + 7) 88 [.ref 6] S P := by
  refine ⟨90, ?_⟩
  refine ws_aload_n rfl (rfl) rfl (ws_geti rfl rfl (e3) rfl (ws_istore_n rfl rfl rfl rfl (ws_aload_n rfl (rfl) rfl (ws_getr rfl rfl rfl (ws_iload_n rfl (rfl) rfl (ws_iv rfl rfl rfl ?_))))))
  refine mv_deep (d := d + 2) (by omega) (x_word ?_)
  rw [xPg_w hp (by omega), hw]
  refine ws_istore_n rfl rfl rfl rfl (ws_aload_n rfl (rfl) rfl (ws_getr rfl rfl rfl (ws_iload_n rfl (rfl) rfl (ws_iconst (x := 1) rfl rfl rfl (ws_iadd rfl rfl rfl (ws_iv rfl rfl rfl ?_))))))
  refine mv_deep (d := d + 2) (by omega) (x_word ?_)

  have hy : aWl k = 2 → xWd S (nI pc + 1) = w (pc + 1) := fun z => by rw [show nI pc + 1 = nI (pc + 1) from nI_1 pc, xPg_w hp (by omega)]
  obtain ⟨y, ey⟩ : ∃ y, y = xWd S (nI pc + 1) := ⟨_, rfl⟩
  rw [← ey] at hy ⊢
  refine ws_istore_n rfl rfl rfl rfl (ws_aload_n rfl (rfl) rfl (ws_iload_n rfl (rfl) rfl (ws_iload_n rfl (rfl) rfl (ws_is rfl rfl rfl ?_))))
  refine mv_deep (d := d + 1) (by omega) (x_length ?_)
  rw [wdLen_k k (by omega)]
  refine ws_iadd rfl (nI_add _ _) rfl (?_)
  refine ws_puti rfl rfl rfl ?_
  exact mv_fuel (n := 60) (by omega) (hK _ y hy ⟨rfl, rfl, rfl, rfl⟩)
/-- a step's end, as the machine of both has it -/
def xSe (P : Option Value → mv_S → Prop) (S : mv_S) (sd : Int32) (rm B : Nat) (r : Int32 × aMs) : Prop := ∀ S', xFx S S' → S'.1 4 15 = S.1 4 15 → xRun S' sd rm (B + 1) r.1 r.2 → ¬ r.1 = 99 → P none S'
set_option maxHeartbeats 1000000 in
set_option maxRecDepth 8000 in
theorem xT_d (hd : aDw k) (hk30 : k ≤ 30) (hp : xPg S w par fa L) (hk : w pc = nI k) (i : okI w par L mn Q pc (aSh D.1)) (hQ : ∀ p s, Q p s → shM s ≤ 17) (ok : aOk sd rm D) (hB : B + 5 < 2 ^ 31) (e3 : S.1 6 3 = nI pc) (e4 : S.1 6 4 = 1) (hD0 : xD S S sd rm B rets D) (hP : xSe P S sd rm B (aSw w par fa sd rm pc rets D k)) : mv_big layX sysX (d + 7) 88 [.ref 6] S P := by
  have hl := okI_len i hk hk30
  refine xS_head hp hk hk30 hl (by unfold aDw at hd; have := aWl_pos k; omega) e3 (fun l y hy zl => ?_)
  obtain ⟨z0, z1, z2, z3⟩ := zl
  obtain ⟨S1, eS⟩ : ∃ S1, S1 = mv_pf S 6 3 (nI (pc + aWl k)) := ⟨_, rfl⟩
  rw [← eS]
  have fx : xFx S S1 := by rw [eS]; exact xFx_pf (Or.inl rfl)
  have f15 : S1.1 4 15 = S.1 4 15 := by rw [eS, pf_get, if_neg (by omega)]
  have f3 : S1.1 6 3 = nI (pc + aWl k) := by rw [eS, pf_get, if_pos ⟨rfl, rfl⟩]
  have f4 : S1.1 6 4 = 1 := by rw [eS, pf_get, if_neg (by omega)]; exact e4
  have hD : xD S1 S1 sd rm B rets D := by rw [eS]; exact xD_pf hD0
  rw [aSw_d hd] at hP
  refine ws_iload_n rfl z2 rfl (ws_lku (t := 203) rfl rfl (pick_d k (by omega) (by unfold aDw at hd; omega)) ?_)
  refine ws_aload_n rfl (z0) rfl (ws_aload_n rfl (z0) rfl (ws_getr rfl rfl rfl (ws_iload_n rfl (z2) rfl (ws_iload_n rfl (z3) rfl (ws_iv rfl rfl rfl ?_)))))
  refine x_apA hd hQ i hk ok hD hB hy (fun S2 D2 er g => ?_) (fun c S2 K2 er c1 c99 em g => ?_)
  · refine ws_puti rfl rfl rfl (ws_i rfl ?_)
    rw [er] at hP
    have q := xR_end (K := D2.1) (K' := D2.1) (R := D2.2) (c := 1) fx (xD_o g) f15 f3 g rfl (fun _ => rfl)
    exact hP _ q.1 q.2.1 q.2.2 (show ¬ (1 : Int32) = 99 by decide)
  · refine ws_puti rfl rfl rfl (ws_i rfl ?_)
    rw [er] at hP
    have q := xR_end (K := D.1) (K' := K2) (R := D.2) (c := c) fx (xD_o g) f15 f3 g em (fun z => absurd z c1)
    exact hP _ q.1 q.2.1 q.2.2 c99
set_option maxHeartbeats 1000000 in
set_option maxRecDepth 8000 in
theorem xT_0 (hp : xPg S w par fa L) (hk : w pc = nI 0) (i : okI w par L mn Q pc (aSh D.1)) (hQ : ∀ p s, Q p s → shM s ≤ 17) (ok : aOk sd rm D) (hB : B + 5 < 2 ^ 31) (e3 : S.1 6 3 = nI pc) (e4 : S.1 6 4 = 1) (hD0 : xD S S sd rm B rets D) (hP : xSe P S sd rm B (aSw w par fa sd rm pc rets D 0)) : mv_big layX sysX (d + 7) 88 [.ref 6] S P := by
  have hl := okI_len i hk (by decide)
  refine xS_head hp hk (by decide) hl (by decide) e3 (fun l y hy zl => ?_)
  obtain ⟨z0, z1, z2, z3⟩ := zl
  obtain ⟨S1, eS⟩ : ∃ S1, S1 = mv_pf S 6 3 (nI (pc + aWl 0)) := ⟨_, rfl⟩
  rw [← eS]
  have fx : xFx S S1 := by rw [eS]; exact xFx_pf (Or.inl rfl)
  have f15 : S1.1 4 15 = S.1 4 15 := by rw [eS, pf_get, if_neg (by omega)]
  have f3 : S1.1 6 3 = nI (pc + aWl 0) := by rw [eS, pf_get, if_pos ⟨rfl, rfl⟩]
  have f4 : S1.1 6 4 = 1 := by rw [eS, pf_get, if_neg (by omega)]; exact e4
  have hD : xD S1 S1 sd rm B rets D := by rw [eS]; exact xD_pf hD0
  refine ws_iload_n rfl (z2) rfl (ws_lku (t := 104) rfl rfl (by decide) (ws_aload_n rfl (z0) rfl (ws_iconst (x := 0) rfl rfl rfl (ws_puti rfl rfl rfl (ws_goto (t := 216) rfl (by decide) (ws_i rfl ?_))))))
  have q := xR_end (K := D.1) (K' := D.1) (R := D.2) (c := 0) fx xO_refl f15 f3 hD rfl (fun _ => rfl)
  exact hP _ q.1 q.2.1 ⟨⟨D.1, rfl, fun _ => rfl, xD_B (xD_pf hD) (Nat.le_succ B)⟩, q.2.2.2⟩ (by decide : ¬ (0 : Int32) = 99)
set_option maxHeartbeats 1000000 in
set_option maxRecDepth 8000 in
theorem xT_12 (hp : xPg S w par fa L) (hk : w pc = nI 12) (i : okI w par L mn Q pc (aSh D.1)) (hQ : ∀ p s, Q p s → shM s ≤ 17) (ok : aOk sd rm D) (hB : B + 5 < 2 ^ 31) (e3 : S.1 6 3 = nI pc) (e4 : S.1 6 4 = 1) (hD0 : xD S S sd rm B rets D) (hP : xSe P S sd rm B (aSw w par fa sd rm pc rets D 12)) : mv_big layX sysX (d + 7) 88 [.ref 6] S P := by
  have hl := okI_len i hk (by decide)
  refine xS_head hp hk (by decide) hl (by decide) e3 (fun l y hy zl => ?_)
  obtain ⟨z0, z1, z2, z3⟩ := zl
  obtain ⟨S1, eS⟩ : ∃ S1, S1 = mv_pf S 6 3 (nI (pc + aWl 12)) := ⟨_, rfl⟩
  rw [← eS]
  have fx : xFx S S1 := by rw [eS]; exact xFx_pf (Or.inl rfl)
  have f15 : S1.1 4 15 = S.1 4 15 := by rw [eS, pf_get, if_neg (by omega)]
  have f3 : S1.1 6 3 = nI (pc + aWl 12) := by rw [eS, pf_get, if_pos ⟨rfl, rfl⟩]
  have f4 : S1.1 6 4 = 1 := by rw [eS, pf_get, if_neg (by omega)]; exact e4
  have hD : xD S1 S1 sd rm B rets D := by rw [eS]; exact xD_pf hD0
  have h0 := okI_12 i hk
  refine ws_iload_n rfl (z2) rfl (ws_lku (t := 112) rfl rfl (by decide) (ws_aload_n rfl (z0) rfl (ws_iload_n rfl (z3) rfl (ws_puti rfl rfl rfl (ws_goto (t := 216) rfl (by decide) (ws_i rfl ?_))))))
  rw [hy rfl]
  rw [aN_of0 h0.1.2]
  have q := xR_nxt (a := (w (pc + 1)).toNatClampNeg) fx xO_refl f15 f4 (xD_B hD (Nat.le_succ B))
  exact hP _ q.1 q.2.1 q.2.2 (by decide : ¬ (1 : Int32) = 99)
set_option maxHeartbeats 1000000 in
set_option maxRecDepth 8000 in
theorem xT_13 (hp : xPg S w par fa L) (hk : w pc = nI 13) (i : okI w par L mn Q pc (aSh D.1)) (hQ : ∀ p s, Q p s → shM s ≤ 17) (ok : aOk sd rm D) (hB : B + 5 < 2 ^ 31) (e3 : S.1 6 3 = nI pc) (e4 : S.1 6 4 = 1) (hD0 : xD S S sd rm B rets D) (hP : xSe P S sd rm B (aSw w par fa sd rm pc rets D 13)) : mv_big layX sysX (d + 7) 88 [.ref 6] S P := by
  have hl := okI_len i hk (by decide)
  refine xS_head hp hk (by decide) hl (by decide) e3 (fun l y hy zl => ?_)
  obtain ⟨z0, z1, z2, z3⟩ := zl
  obtain ⟨S1, eS⟩ : ∃ S1, S1 = mv_pf S 6 3 (nI (pc + aWl 13)) := ⟨_, rfl⟩
  rw [← eS]
  have fx : xFx S S1 := by rw [eS]; exact xFx_pf (Or.inl rfl)
  have f15 : S1.1 4 15 = S.1 4 15 := by rw [eS, pf_get, if_neg (by omega)]
  have f3 : S1.1 6 3 = nI (pc + aWl 13) := by rw [eS, pf_get, if_pos ⟨rfl, rfl⟩]
  have f4 : S1.1 6 4 = 1 := by rw [eS, pf_get, if_neg (by omega)]; exact e4
  have hD : xD S1 S1 sd rm B rets D := by rw [eS]; exact xD_pf hD0
  obtain ⟨⟨_, h0, e⟩, _⟩ := okI_13 i (Or.inl hk)
  have b1 : (aNum D.1).length ≤ 33 := by rw [aNum_sh]; exact i.1.1
  obtain ⟨K, Ks, vs, mp, told, most, st⟩ := D
  obtain ⟨a0, K, rfl, e⟩ := aSh_f (K := K) e
  have b1 : (aNum K).length + 1 ≤ 33 := b1
  obtain ⟨σ, fb, hA⟩ := hD
  refine ws_iload_n rfl (z2) rfl (ws_lku (t := 120) rfl rfl (by decide) (ws_aload_n rfl (z0) rfl (ws_aload_n rfl (z0) rfl (ws_getr rfl rfl rfl (ws_iv rfl rfl rfl ?_)))))
  refine mv_deep (d := d + 2) (by omega) (x_popA hA (by omega) (fun S2 g => ?_))
  by_cases c : a0 = 0
  · refine ws_i rfl ⟨fun z => absurd c z, fun _ => ?_⟩
    refine ws_iconst (x := 1) rfl rfl rfl (ws_goto (t := 136) rfl (by decide) (ws_iload_n rfl (z3) rfl (ws_iv rfl rfl rfl ?_)))
    refine mv_deep (d := d + 1) (by omega) (x_goIf1 ?_)
    refine ws_goto (t := 216) rfl (by decide) (ws_i rfl ?_)
    rw [hy rfl, aN_of0 h0]
    have q := xR_nxt (a := (w (pc + 1)).toNatClampNeg) fx g.1 f15 f4 (xD_B (D := (K, Ks, vs, mp, told, most, st)) ⟨σ, fb, g⟩ (Nat.le_succ B))
    refine hP _ q.1 q.2.1 ?_ (by decide : ¬ (1 : Int32) = 99)
    show xRun _ sd rm (B + 1) 1 ((if a0 = 0 then (w (pc + 1)).toNatClampNeg else pc + 2), rets, K, Ks, vs, mp, told, most, st)
    rw [if_pos c]; exact q.2.2
  · refine ws_i rfl ⟨fun _ => ?_, fun z => absurd z c⟩
    refine ws_iconst (x := 0) rfl rfl rfl (ws_iload_n rfl (z3) rfl (ws_iv rfl rfl rfl ?_))
    refine mv_deep (d := d + 1) (by omega) (x_goIf0 ?_)
    refine ws_goto (t := 216) rfl (by decide) (ws_i rfl ?_)
    have q := xR_stay fx g.1 f15 f3 f4 (xD_B (D := (K, Ks, vs, mp, told, most, st)) ⟨σ, fb, g⟩ (Nat.le_succ B))
    refine hP _ q.1 q.2.1 ?_ (by decide : ¬ (1 : Int32) = 99)
    show xRun _ sd rm (B + 1) 1 ((if a0 = 0 then (w (pc + 1)).toNatClampNeg else pc + 2), rets, K, Ks, vs, mp, told, most, st)
    rw [if_neg c]; exact q.2.2
set_option maxHeartbeats 1000000 in
set_option maxRecDepth 8000 in
theorem xT_14 (hp : xPg S w par fa L) (hk : w pc = nI 14) (i : okI w par L mn Q pc (aSh D.1)) (hQ : ∀ p s, Q p s → shM s ≤ 17) (ok : aOk sd rm D) (hB : B + 5 < 2 ^ 31) (e3 : S.1 6 3 = nI pc) (e4 : S.1 6 4 = 1) (hD0 : xD S S sd rm B rets D) (hP : xSe P S sd rm B (aSw w par fa sd rm pc rets D 14)) : mv_big layX sysX (d + 7) 88 [.ref 6] S P := by
  have hl := okI_len i hk (by decide)
  refine xS_head hp hk (by decide) hl (by decide) e3 (fun l y hy zl => ?_)
  obtain ⟨z0, z1, z2, z3⟩ := zl
  obtain ⟨S1, eS⟩ : ∃ S1, S1 = mv_pf S 6 3 (nI (pc + aWl 14)) := ⟨_, rfl⟩
  rw [← eS]
  have fx : xFx S S1 := by rw [eS]; exact xFx_pf (Or.inl rfl)
  have f15 : S1.1 4 15 = S.1 4 15 := by rw [eS, pf_get, if_neg (by omega)]
  have f3 : S1.1 6 3 = nI (pc + aWl 14) := by rw [eS, pf_get, if_pos ⟨rfl, rfl⟩]
  have f4 : S1.1 6 4 = 1 := by rw [eS, pf_get, if_neg (by omega)]; exact e4
  have hD : xD S1 S1 sd rm B rets D := by rw [eS]; exact xD_pf hD0
  obtain ⟨⟨_, h0, e⟩, _⟩ := okI_13 i (Or.inr hk)
  have b1 : (aNum D.1).length ≤ 33 := by rw [aNum_sh]; exact i.1.1
  obtain ⟨K, Ks, vs, mp, told, most, st⟩ := D
  obtain ⟨a0, K, rfl, e⟩ := aSh_f (K := K) e
  have b1 : (aNum K).length + 1 ≤ 33 := b1
  obtain ⟨σ, fb, hA⟩ := hD
  refine ws_iload_n rfl (z2) rfl (ws_lku (t := 143) rfl rfl (by decide) (ws_aload_n rfl (z0) rfl (ws_aload_n rfl (z0) rfl (ws_getr rfl rfl rfl (ws_iv rfl rfl rfl ?_)))))
  refine mv_deep (d := d + 2) (by omega) (x_popA hA (by omega) (fun S2 g => ?_))
  by_cases c : a0 = 0
  · refine ws_i rfl ⟨fun _ => ?_, fun z => absurd c z⟩
    refine ws_iconst (x := 0) rfl rfl rfl (ws_iload_n rfl (z3) rfl (ws_iv rfl rfl rfl ?_))
    refine mv_deep (d := d + 1) (by omega) (x_goIf0 ?_)
    refine ws_goto (t := 216) rfl (by decide) (ws_i rfl ?_)
    have q := xR_stay fx g.1 f15 f3 f4 (xD_B (D := (K, Ks, vs, mp, told, most, st)) ⟨σ, fb, g⟩ (Nat.le_succ B))
    refine hP _ q.1 q.2.1 ?_ (by decide : ¬ (1 : Int32) = 99)
    show xRun _ sd rm (B + 1) 1 ((if a0 = 0 then pc + 2 else (w (pc + 1)).toNatClampNeg), rets, K, Ks, vs, mp, told, most, st)
    rw [if_pos c]; exact q.2.2
  · refine ws_i rfl ⟨fun z => absurd z c, fun _ => ?_⟩
    refine ws_iconst (x := 1) rfl rfl rfl (ws_goto (t := 159) rfl (by decide) (ws_iload_n rfl (z3) rfl (ws_iv rfl rfl rfl ?_)))
    refine mv_deep (d := d + 1) (by omega) (x_goIf1 ?_)
    refine ws_goto (t := 216) rfl (by decide) (ws_i rfl ?_)
    rw [hy rfl, aN_of0 h0]
    have q := xR_nxt (a := (w (pc + 1)).toNatClampNeg) fx g.1 f15 f4 (xD_B (D := (K, Ks, vs, mp, told, most, st)) ⟨σ, fb, g⟩ (Nat.le_succ B))
    refine hP _ q.1 q.2.1 ?_ (by decide : ¬ (1 : Int32) = 99)
    show xRun _ sd rm (B + 1) 1 ((if a0 = 0 then pc + 2 else (w (pc + 1)).toNatClampNeg), rets, K, Ks, vs, mp, told, most, st)
    rw [if_neg c]; exact q.2.2
set_option maxHeartbeats 1000000 in
set_option maxRecDepth 8000 in
theorem xT_16 (hp : xPg S w par fa L) (hk : w pc = nI 16) (i : okI w par L mn Q pc (aSh D.1)) (hQ : ∀ p s, Q p s → shM s ≤ 17) (ok : aOk sd rm D) (hB : B + 5 < 2 ^ 31) (e3 : S.1 6 3 = nI pc) (e4 : S.1 6 4 = 1) (hD0 : xD S S sd rm B rets D) (hP : xSe P S sd rm B (aSw w par fa sd rm pc rets D 16)) : mv_big layX sysX (d + 7) 88 [.ref 6] S P := by
  have hl := okI_len i hk (by decide)
  refine xS_head hp hk (by decide) hl (by decide) e3 (fun l y hy zl => ?_)
  obtain ⟨z0, z1, z2, z3⟩ := zl
  obtain ⟨S1, eS⟩ : ∃ S1, S1 = mv_pf S 6 3 (nI (pc + aWl 16)) := ⟨_, rfl⟩
  rw [← eS]
  have fx : xFx S S1 := by rw [eS]; exact xFx_pf (Or.inl rfl)
  have f15 : S1.1 4 15 = S.1 4 15 := by rw [eS, pf_get, if_neg (by omega)]
  have f3 : S1.1 6 3 = nI (pc + aWl 16) := by rw [eS, pf_get, if_pos ⟨rfl, rfl⟩]
  have f4 : S1.1 6 4 = 1 := by rw [eS, pf_get, if_neg (by omega)]; exact e4
  have hD : xD S1 S1 sd rm B rets D := by rw [eS]; exact xD_pf hD0
  obtain ⟨⟨_, hf, p0, p3, e⟩, _⟩ := okI_16 i hk
  have b1 : (aNum D.1).length ≤ 33 := by rw [aNum_sh]; exact i.1.1
  have b2 : (aMap D.1).length ≤ 17 := by rw [aMap_sh]; exact i.1.2.1
  obtain ⟨K, Ks, vs, mp, told, most, st⟩ := D
  obtain ⟨m1, m2⟩ := aN_of (x := par (w (pc + 1)).toNatClampNeg) (c := 4) (n := 4) rfl (by decide) p0 (Int32.lt_of_le_of_lt p3 (by decide))
  obtain ⟨ps0, R, e1, rfl, e4'⟩ := aSh_n _ e
  obtain ⟨ps, rfl⟩ : ∃ ps : List Int32, ps0 = ps.reverse := ⟨ps0.reverse, by simp⟩
  rw [List.length_reverse] at e1
  obtain ⟨t1, t2⟩ := aTk (K := R) (ps := ps)
  obtain ⟨n1, n2⟩ := aNum_inl ps.reverse R
  have b1 : (aNum (ps.reverse.map Sum.inl ++ R)).length ≤ 33 := b1
  have b2 : (aMap (ps.reverse.map Sum.inl ++ R)).length ≤ 17 := b2
  rw [n1, List.length_append] at b1
  rw [n2] at b2
  have hP : xSe P S sd rm B (if Ks.length = 24 then ((3 : Int32), ((pc + 2, rets, ps.reverse.map Sum.inl ++ R, Ks, vs, mp, told, most, st) : aMs)) else (1, fa (w (pc + 1)).toNatClampNeg, (pc + 2) :: rets, aEnt (par (w (pc + 1)).toNatClampNeg).toNatClampNeg (ps.reverse.map Sum.inl ++ R, Ks, vs, mp, told, most, st))) := hP
  refine ws_iload_n rfl (z2) rfl (ws_lku (t := 166) rfl rfl (by decide) (ws_aload_n rfl (z0) rfl (ws_iload_n rfl (z3) rfl (ws_iv rfl rfl rfl ?_))))
  rw [hy rfl]
  refine x_rcall (S0 := S1) (xFx_pg fx hp) hf (by rw [m1, e1]) (by omega) hD (by omega) b2 f3 (fun z => ?_) (fun z S2 g => ?_)
  · refine ws_goto (t := 216) rfl (by decide) (ws_i rfl ?_)
    rw [if_pos z] at hP
    have q := xR_end (K := ps.reverse.map Sum.inl ++ R) (K' := ps.reverse.map Sum.inl ++ R) (R := (Ks, vs, mp, told, most, st)) (c := 3) fx xO_refl f15 f3 (xD_B hD (Nat.le_succ B)) rfl (fun _ => rfl)
    exact hP _ q.1 q.2.1 q.2.2 (by decide : ¬ (3 : Int32) = 99)
  · refine ws_goto (t := 216) rfl (by decide) (ws_i rfl ?_)
    rw [if_neg (by omega), ← e1] at hP
    have q := xR_nxt (a := fa (w (pc + 1)).toNatClampNeg) fx (xD_o g) f15 f4 (xD_B g (Nat.le_succ B))
    refine hP _ q.1 q.2.1 ?_ (by decide : ¬ (1 : Int32) = 99)
    show xRun _ sd rm (B + 1) 1 (fa (w (pc + 1)).toNatClampNeg, (pc + 2) :: rets, [], (ps.reverse.map Sum.inl ++ R).drop ps.length :: Ks, aEn Ks.length vs (aOw (aNum ((ps.reverse.map Sum.inl ++ R).take ps.length)).reverse), aEm Ks.length mp, told, most, st)
    rw [t1, t2]; exact q.2.2
set_option maxHeartbeats 1000000 in
set_option maxRecDepth 8000 in
theorem xT_17 (hp : xPg S w par fa L) (hk : w pc = nI 17) (i : okI w par L Ks.isEmpty Q pc (aSh K)) (fr : aFr w par L rets Ks) (hB : B + 5 < 2 ^ 31) (e3 : S.1 6 3 = nI pc) (e4 : S.1 6 4 = 1) (hD0 : xD S S sd rm B rets (K, Ks, vs, mp, told, most, st)) (hP : xSe P S sd rm B (aSw w par fa sd rm pc rets (K, Ks, vs, mp, told, most, st) 17)) : mv_big layX sysX (d + 7) 88 [.ref 6] S P := by
  have hl := okI_len i hk (by decide)
  refine xS_head hp hk (by decide) hl (by decide) e3 (fun l y hy zl => ?_)
  obtain ⟨z0, z1, z2, z3⟩ := zl
  obtain ⟨S1, eS⟩ : ∃ S1, S1 = mv_pf S 6 3 (nI (pc + aWl 17)) := ⟨_, rfl⟩
  rw [← eS]
  have fx : xFx S S1 := by rw [eS]; exact xFx_pf (Or.inl rfl)
  have f15 : S1.1 4 15 = S.1 4 15 := by rw [eS, pf_get, if_neg (by omega)]
  have f3 : S1.1 6 3 = nI (pc + aWl 17) := by rw [eS, pf_get, if_pos ⟨rfl, rfl⟩]
  have f4 : S1.1 6 4 = 1 := by rw [eS, pf_get, if_neg (by omega)]; exact e4
  have hD : xD S1 S1 sd rm B rets (K, Ks, vs, mp, told, most, st) := by rw [eS]; exact xD_pf hD0
  obtain ⟨_, hm, e⟩ := okI_17 i hk
  have b1 : (aNum K).length ≤ 33 := by rw [aNum_sh]; exact i.1.1
  obtain ⟨a0, K, rfl, e⟩ := aSh_f (K := K) e
  have b1 : (aNum K).length + 1 ≤ 33 := b1
  obtain ⟨σ, fb, hA⟩ := hD
  refine ws_iload_n rfl (z2) rfl (ws_lku (t := 174) rfl rfl (by decide) (ws_aload_n rfl (z0) rfl (ws_aload_n rfl (z0) rfl (ws_getr rfl rfl rfl (ws_aload_n rfl (z0) rfl (ws_getr rfl rfl rfl (ws_iv rfl rfl rfl ?_)))))))
  refine mv_deep (d := d + 2) (by omega) (x_popA hA (by omega) (fun S2 g => ?_))
  refine ws_iv rfl rfl rfl ?_
  match Ks, rets, fr, hm, g, hP with
  | K1 :: Ks, r :: rets, _, _, g, hP =>
    refine mv_deep (d := d + 4) (by omega) (x_leaveA g (fun S3 g3 => ?_))
    refine ws_puti rfl rfl rfl (ws_goto (t := 216) rfl (by decide) (ws_i rfl ?_))
    have q := xR_nxt (a := r) fx g3.1 f15 f4 (xD_B (D := (.inl a0 :: K1, Ks, vs, mp, told, most, st)) ⟨σ, fb, g3⟩ (Nat.le_succ B))
    exact hP _ q.1 q.2.1 q.2.2 (by decide : ¬ (1 : Int32) = 99)
  | [], _, _, hm, _, _ => exact absurd (show true = false from hm) (by decide)
  | _ :: _, [], fr, _, _, _ => exact fr.elim
set_option maxHeartbeats 1000000 in
set_option maxRecDepth 8000 in
theorem xT_29 (hp : xPg S w par fa L) (hk : w pc = nI 29) (i : okI w par L mn Q pc (aSh D.1)) (hQ : ∀ p s, Q p s → shM s ≤ 17) (ok : aOk sd rm D) (hB : B + 5 < 2 ^ 31) (e3 : S.1 6 3 = nI pc) (e4 : S.1 6 4 = 1) (hD0 : xD S S sd rm B rets D) (hP : xSe P S sd rm B (aSw w par fa sd rm pc rets D 29)) : mv_big layX sysX (d + 7) 88 [.ref 6] S P := by
  have hl := okI_len i hk (by decide)
  refine xS_head hp hk (by decide) hl (by decide) e3 (fun l y hy zl => ?_)
  obtain ⟨z0, z1, z2, z3⟩ := zl
  obtain ⟨S1, eS⟩ : ∃ S1, S1 = mv_pf S 6 3 (nI (pc + aWl 29)) := ⟨_, rfl⟩
  rw [← eS]
  have fx : xFx S S1 := by rw [eS]; exact xFx_pf (Or.inl rfl)
  have f15 : S1.1 4 15 = S.1 4 15 := by rw [eS, pf_get, if_neg (by omega)]
  have f3 : S1.1 6 3 = nI (pc + aWl 29) := by rw [eS, pf_get, if_pos ⟨rfl, rfl⟩]
  have f4 : S1.1 6 4 = 1 := by rw [eS, pf_get, if_neg (by omega)]; exact e4
  have hD : xD S1 S1 sd rm B rets D := by rw [eS]; exact xD_pf hD0
  obtain ⟨⟨hl4, h1, h2, h3, h4, h5, e⟩, _⟩ := okI_29 i hk
  have b2 : (aMap D.1).length ≤ 17 := by rw [aMap_sh]; exact i.1.2.1
  obtain ⟨K, Ks, vs, mp, told, most, st⟩ := D
  obtain ⟨T, q, K, rfl, e⟩ := aSh_t (K := K) e
  have b2 : (aMap K).length + 1 ≤ 17 := b2
  have hP : xSe P S sd rm B (tSel (tNx q T) ((1 : Int32), (((w (pc + 3)).toNatClampNeg, rets, K, Ks, vs, mp, told, most, st) : aMs)) (1, pc + 4, rets, aCo (w (pc + 1)).toNatClampNeg (w (pc + 2)).toNatClampNeg (.inr (T, q) :: K, Ks, vs, mp, told, most, st))) := hP
  refine ws_iload_n rfl (z2) rfl (ws_lku (t := 195) rfl rfl (by decide) (ws_aload_n rfl (z0) rfl (ws_iload_n rfl (z1) rfl (ws_iv rfl rfl rfl ?_))))
  refine x_rnext (S0 := S1) (xFx_pg fx hp) hl4 h1 h2 h3 h4 hD (ok.1 T (aHd_in (m := (T, q)) List.mem_cons_self)).1 (by omega) (fun z S2 g => ?_) (fun z S2 g => ?_)
  · refine ws_goto (t := 216) rfl (by decide) (ws_i rfl ?_)
    rw [tSel_l z] at hP
    rw [aN_of0 h5]
    have q := xR_nxt (a := (w (pc + 3)).toNatClampNeg) fx (xD_o g) f15 f4 (xD_B g (Nat.le_succ B))
    exact hP _ q.1 q.2.1 q.2.2 (by decide : ¬ (1 : Int32) = 99)
  · refine ws_goto (t := 216) rfl (by decide) (ws_i rfl ?_)
    rw [tSel_n z] at hP
    have q := xR_stay fx (xD_o g) f15 f3 f4 (xD_B g (Nat.le_succ B))
    exact hP _ q.1 q.2.1 q.2.2 (by decide : ¬ (1 : Int32) = 99)
set_option maxHeartbeats 1000000 in
set_option maxRecDepth 8000 in
theorem xT_30 (hp : xPg S w par fa L) (hk : w pc = nI 30) (i : okI w par L mn Q pc (aSh D.1)) (hQ : ∀ p s, Q p s → shM s ≤ 17) (ok : aOk sd rm D) (hB : B + 5 < 2 ^ 31) (e3 : S.1 6 3 = nI pc) (e4 : S.1 6 4 = 1) (hD0 : xD S S sd rm B rets D) (hP : xSe P S sd rm B (aSw w par fa sd rm pc rets D 30)) : mv_big layX sysX (d + 7) 88 [.ref 6] S P := by
  have hl := okI_len i hk (by decide)
  refine xS_head hp hk (by decide) hl (by decide) e3 (fun l y hy zl => ?_)
  obtain ⟨z0, z1, z2, z3⟩ := zl
  obtain ⟨S1, eS⟩ : ∃ S1, S1 = mv_pf S 6 3 (nI (pc + aWl 30)) := ⟨_, rfl⟩
  rw [← eS]
  have fx : xFx S S1 := by rw [eS]; exact xFx_pf (Or.inl rfl)
  have f15 : S1.1 4 15 = S.1 4 15 := by rw [eS, pf_get, if_neg (by omega)]
  have f3 : S1.1 6 3 = nI (pc + aWl 30) := by rw [eS, pf_get, if_pos ⟨rfl, rfl⟩]
  have f4 : S1.1 6 4 = 1 := by rw [eS, pf_get, if_neg (by omega)]; exact e4
  have hD : xD S1 S1 sd rm B rets D := by rw [eS]; exact xD_pf hD0
  refine ws_iload_n rfl z2 rfl (ws_lku (t := 203) rfl rfl (pick_d 30 (by omega) (by omega)) ?_)
  refine ws_aload_n rfl (z0) rfl (ws_aload_n rfl (z0) rfl (ws_getr rfl rfl rfl (ws_iload_n rfl (z2) rfl (ws_iload_n rfl (z3) rfl (ws_iv rfl rfl rfl ?_)))))
  refine mv_deep (d := d + 2) (by omega) (x_ap30 ?_)
  refine ws_puti rfl rfl rfl (ws_i rfl ?_)
  have q := xR_end (K := D.1) (K' := D.1) (R := D.2) (c := 1) fx xO_refl f15 f3 (xD_B hD (Nat.le_succ B)) rfl (fun _ => rfl)
  exact hP _ q.1 q.2.1 q.2.2 (by decide : ¬ (1 : Int32) = 99)
/-- a step of the class's runner -/
theorem x_step (hp : xPg S w par fa L) (hv : aInv w par L sd rm s) (hB : B + 5 < 2 ^ 31) (h : xRun S sd rm B 1 s) (hP : xSe P S sd rm B (aSt w par fa sd rm s)) : mv_big layX sysX (d + 7) 88 [.ref 6] S P := by
  obtain ⟨k, hk, hw⟩ := aInv_k hv
  rw [aSt_k hw hk] at hP
  obtain ⟨⟨K', _, eK, hD⟩, e3, e4⟩ := h
  obtain rfl := eK rfl
  obtain ⟨pc, rets, K, Ks, vs, mp, told, most, st⟩ := s
  have i := tyA_i hv.1
  have ok := hv.2.2.2
  have hQ : ∀ p s, tyA w par L Ks.isEmpty p s → shM s ≤ 17 := fun p s z => (tyA_i z).1.2.1
  by_cases hd : aDw k
  · exact xT_d hd hk hp hw i hQ ok hB e3 e4 hD hP
  · have hk' : k = 0 ∨ k = 12 ∨ k = 13 ∨ k = 14 ∨ k = 16 ∨ k = 17 ∨ k = 29 ∨ k = 30 := by unfold aDw at hd; omega
    rcases hk' with rfl | rfl | rfl | rfl | rfl | rfl | rfl | rfl
    · exact xT_0 hp hw i hQ ok hB e3 e4 hD hP
    · exact xT_12 hp hw i hQ ok hB e3 e4 hD hP
    · exact xT_13 hp hw i hQ ok hB e3 e4 hD hP
    · exact xT_14 hp hw i hQ ok hB e3 e4 hD hP
    · exact xT_16 hp hw i hQ ok hB e3 e4 hD hP
    · exact xT_17 hp hw i hv.2.1 hB e3 e4 hD hP
    · exact xT_29 hp hw i hQ ok hB e3 e4 hD hP
    · exact xT_30 hp hw i hQ ok hB e3 e4 hD hP
end XR

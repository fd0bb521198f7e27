/-! THE CLASS'S STORE: a call's beginning -/
def aOw : List Int32 → Nat → Int32
  | [], _ => 0
  | p :: _, 0 => p
  | _ :: R, k + 1 => aOw R k
/-- the variables with those of call c + 1 -/
def aEn (c : Nat) (vs : Nat → Int32) (u : Nat → Int32) : Nat → Int32 := fun i => if 8 + 6 * (c + 1) ≤ i then u (i - (8 + 6 * (c + 1))) else vs i
def aEm (c : Nat) (mp : Nat → tT) : Nat → tT := fun i => if 4 + 2 * (c + 1) ≤ i then .leaf else mp i
def xEf (S S' : mv_S) (c t : Nat) (u w : Nat → Int32) : Prop := (∀ o f, ¬ (o = 4 ∧ (f = 11 ∨ f = 13)) → S'.1 o f = S.1 o f) ∧ S'.1 4 13 = nI (c + 1) ∧ S'.1 4 11 = nI t ∧ (∀ o i, o ≠ 23 → o ≠ 24 → S'.2.1 o i = S.2.1 o i) ∧ S'.2.2 = S.2.2 ∧ (∀ i, S'.2.1 23 i = aEn c (S.2.1 23) u i) ∧ (∀ i, S'.2.1 24 i = if 4 + 2 * (c + 1) ≤ i then w (i - (4 + 2 * (c + 1))) else S.2.1 24 i)
section XE
variable {d : Nat} {P : Option Value → mv_S → Prop} {S S' : mv_S} {c t v : Nat} {u w : Nat → Int32} {x : Int32}
theorem e_set (h : xEf S S' c t u w) (hc : c ≤ 23) (hv : v < 6) (hP : ∀ S2, xEf S S2 c t (aUp u v x) w → P none S2) : mv_big layX sysX (d + 2) 104 [.ref 4, .int (nI (8 + v)), .int x] S' P := by
  obtain ⟨h1, h2, h3, h4, h5, h6, h7⟩ := h
  have lt := aVP_lt (n := c + 1) (v := 8 + v) (by omega)
  have ev : aVP (c + 1) (8 + v) = 8 + 6 * (c + 1) + v := by unfold aVP; rw [if_neg (by omega)]; omega
  refine x_setNumber ?_
  unfold xVP
  rw [h2, aVP_n (8 + v) (by omega) _ (by omega), sR_nI (by omega) (by decide), ev]
  refine hP _ ⟨h1, h2, h3, fun o i a b => by rw [pr_get, if_neg (fun z => a z.1)]; exact h4 o i a b, h5, fun i => ?_, fun i => by rw [pr_get, if_neg (by omega)]; exact h7 i⟩
  rw [pr_get]
  by_cases e : i = 8 + 6 * (c + 1) + v
  · rw [if_pos ⟨rfl, e⟩]
    unfold aEn aUp
    rw [if_pos (by omega), if_pos (by omega)]
  · rw [if_neg (fun z => e z.2), h6]
    unfold aEn aUp
    by_cases g : 8 + 6 * (c + 1) ≤ i
    · rw [if_pos g, if_pos g, if_neg (by omega)]
    · rw [if_neg g, if_neg g]
theorem e_setM (h : xEf S S' c t u w) (hc : c ≤ 23) (hv : v < 2) (hP : ∀ S2, xEf S S2 c t u (aUp w v x) → P none S2) : mv_big layX sysX (d + 1) 79 [.ref 24, .int (xMP S' (nI (4 + v))), .int x] S' P := by
  obtain ⟨h1, h2, h3, h4, h5, h6, h7⟩ := h
  have ev : aMP (c + 1) (4 + v) = 4 + 2 * (c + 1) + v := by unfold aMP; rw [if_neg (by omega)]; omega
  unfold xMP
  rw [h2, aMP_n (4 + v) (by omega) _ (by omega), ev]
  refine x_set_24 ?_
  rw [sR_nI (by omega) (by decide)]
  refine hP _ ⟨h1, h2, h3, fun o i a b => by rw [pr_get, if_neg (fun z => b z.1)]; exact h4 o i a b, h5, fun i => by rw [pr_get, if_neg (by omega)]; exact h6 i, fun i => ?_⟩
  rw [pr_get]
  by_cases e : i = 4 + 2 * (c + 1) + v
  · rw [if_pos ⟨rfl, e⟩]
    unfold aUp
    rw [if_pos (by omega), if_pos (by omega)]
  · rw [if_neg (fun z => e z.2), h7]
    unfold aUp
    by_cases g : 4 + 2 * (c + 1) ≤ i
    · rw [if_pos g, if_pos g, if_neg (by omega)]
    · rw [if_neg g, if_neg g]
theorem e_pop (h : xEf S S' c (t + 1) u w) (ht : t < 850) (hx : S.2.1 25 t = x) (hP : ∀ S2, xEf S S2 c t u w → P (some (.int x)) S2) : mv_big layX sysX (d + 2) 107 [.ref 4] S' P := by
  obtain ⟨h1, h2, h3, h4, h5, h6, h7⟩ := h
  have eS : xPopS S' = mv_pf S' 4 11 (nI t) := by
    unfold xPopS
    rw [h3, if_pos (by rw [← nI_0]; exact nI_lt (by omega) (by omega)), nI_pred]
  have eV : xPopV S' = x := by
    unfold xPopV
    rw [eS, pf_get, if_pos ⟨rfl, rfl⟩, rAt_nI ht (by decide)]
    exact (h4 25 t (by decide) (by decide)).trans hx
  refine x_pop ?_
  rw [eV, eS]
  exact hP _ ⟨fun o f a => by rw [pf_get, if_neg (by omega)]; exact h1 o f a, by rw [pf_get, if_neg (by omega)]; exact h2, by rw [pf_get, if_pos ⟨rfl, rfl⟩], h4, h5, h6, h7⟩
end XE
section XA
variable {d : Nat} {P : Option Value → mv_S → Prop} {S0 S S1 S' : mv_S} {σ : Nat → Nat} {sd : Int32} {rm fb B : Nat} {rets : List Nat} {K : List aI} {Ks : List (List aI)} {vs : Nat → Int32} {mp : Nat → tT} {told : List Int32} {most : Nat} {p0 p1 p2 : Int32} {r : Nat} {u w : Nat → Int32} {ps : List Int32}
theorem x_enterN {n : Int32} (h : xA S0 S σ sd rm fb B rets K Ks vs mp told most) (hc : Ks.length = 24) (hP : P (some (.int 0)) S) : mv_big layX sysX (d + 4) 112 [.ref 4, .int n, .int (nI r)] S P := by
  have e13 : S.1 4 13 = nI 24 := by rw [h.2.2.2.2.1.1, hc]
  refine ⟨20, ?_⟩
  refine ws_aload_n rfl (rfl) rfl (ws_geti rfl rfl (e13) rfl (ws_bipush (x := 24) rfl rfl rfl (ws_i rfl ⟨fun z => absurd z (show ¬ nI 24 < 24 by decide), fun _ => ?_⟩)))
  refine ws_iconst (x := 0) rfl rfl rfl (ws_i rfl ?_)
  exact ⟨Or.inl rfl, hP⟩
theorem xE_fin {D : List aI} {S2 : mv_S} (h : xA S0 S σ sd rm fb B rets (D ++ K) Ks vs mp told most) (hD : aMap D = []) (hc : Ks.length ≤ 23) (hn : (aNum K).length ≤ 33) (hm : (aMap K).length ≤ 17) (g : xEf S S1 Ks.length (aNum (K ++ Ks.flatten)).length u w) (hu : ∀ k, k < 6 → u k = aOw ps k) (hw : ∀ k, k < 2 → w k = 0)
    (f2 : S2.1 = S1.1) (r2 : ∀ o i, S2.2.1 o i = if o = 30 ∧ i = Ks.length + 1 then nI r else if o = 29 ∧ i = Ks.length + 1 then nI (aMap (K ++ Ks.flatten)).length else if o = 28 ∧ i = Ks.length + 1 then nI (aNum (K ++ Ks.flatten)).length else S1.2.1 o i) (l2 : S2.2.2 = S1.2.2) : xA S0 S2 σ sd rm fb B (r :: rets) [] (K :: Ks) (aEn Ks.length vs (aOw ps)) (aEm Ks.length mp) told most := by
  have h0 := h
  obtain ⟨a1, a2, a3, a4, a5, a6, a7, a8, a9, a10⟩ := h
  obtain ⟨g1, g2, g3, g4, g5, g6, g7⟩ := g
  have en : aNum (D ++ K ++ Ks.flatten) = aNum D ++ aNum (K ++ Ks.flatten) := by rw [List.append_assoc, aNum_app]
  have ez : aMap (D ++ K ++ Ks.flatten) = aMap (K ++ Ks.flatten) := by rw [List.append_assoc, aMap_app, hD, List.nil_append]
  have fl : (K :: Ks).flatten = K ++ Ks.flatten := List.flatten_cons
  have rr : ∀ o i, o ≠ 23 → o ≠ 24 → ¬ (28 ≤ o ∧ o ≤ 30) → S2.2.1 o i = S.2.1 o i := fun o i a b c => by rw [r2, if_neg (by omega), if_neg (by omega), if_neg (by omega)]; exact g4 o i a b
  have ff : ∀ o f, ¬ (o = 4 ∧ (f = 11 ∨ f = 13)) → S2.1 o f = S.1 o f := fun o f a => by rw [f2]; exact g1 o f a
  have hs : xHs S S2 := ⟨fun q => ff 3 q (by omega), fun o i _ _ => rr o i (by omega) (by omega) (by omega)⟩
  have bs : ∀ {Ls : List (List aI)} {rs : List Nat}, Ls.length ≤ Ks.length → xBs S Ls rs → xBs S2 Ls rs := by
    intro Ls
    induction Ls with
    | nil => intro rs _ z; cases rs with | nil => trivial | cons _ _ => exact z.elim
    | cons k R ih =>
      intro rs hl z
      cases rs with
      | nil => exact z.elim
      | cons q rs =>
        simp only [List.length_cons] at hl
        have e : ∀ o, 28 ≤ o → o ≤ 30 → S2.2.1 o (R.length + 1) = S.2.1 o (R.length + 1) := fun o a b => by rw [r2, if_neg (by omega), if_neg (by omega), if_neg (by omega)]; exact g4 o _ (by omega) (by omega)
        exact ⟨⟨(e 28 (by decide) (by decide)).trans z.1.1, (e 29 (by decide) (by decide)).trans z.1.2.1, (e 30 (by decide) (by decide)).trans z.1.2.2.1, z.1.2.2.2⟩, ih (by omega) z.2⟩
  rw [en] at a3
  rw [ez] at a4
  have r24 : ∀ i, S2.2.1 24 i = if 4 + 2 * (Ks.length + 1) ≤ i then w (i - (4 + 2 * (Ks.length + 1))) else S.2.1 24 i := fun i => by rw [r2, if_neg (by omega), if_neg (by omega), if_neg (by omega)]; exact g7 i
  refine xA_gen h0 ⟨fun o q a b c => ff o q (by omega), ff 4 15 (by omega), fun o i a => rr o i (by omega) (by omega) (by omega)⟩ hs ?_ ?_ ⟨by rw [f2]; exact g2, by simp only [List.length_cons]; omega, ⟨?_, ?_, ?_, hn, hm⟩, bs (Nat.le_refl _) a5.2.2⟩ (fun i hi => ?_) (fun i hi => ?_) ⟨(ff 4 14 (by omega)).trans a8.1, a8.2.1, fun p x hp => (rr 31 p (by decide) (by decide) (by omega)).trans (a8.2.2 p x hp)⟩ ((ff 4 16 (by omega)).trans a9) (fun T c z => ?_)
  · rw [List.nil_append, fl]
    exact ⟨by rw [f2]; exact g3, xNs_go (fun p _ => rr 25 p (by decide) (by decide) (by omega)) (xNs_app a3.2)⟩
  · rw [List.nil_append, fl]
    exact ⟨(ff 4 12 (by omega)).trans a4.1, xZs_go hs (fun p _ => ⟨rr 26 p (by decide) (by decide) (by omega), by rw [l2, g5]⟩) a4.2⟩
  · rw [r2, if_neg (by omega), if_neg (by omega), if_pos ⟨rfl, rfl⟩]
  · rw [r2, if_neg (by omega), if_pos ⟨rfl, rfl⟩]
  · rw [r2, if_pos ⟨rfl, rfl⟩]
  · simp only [List.length_cons] at hi
    rw [r2, if_neg (by omega), if_neg (by omega), if_neg (by omega), g6]
    unfold aEn
    by_cases c : 8 + 6 * (Ks.length + 1) ≤ i
    · rw [if_pos c, if_pos c]; exact hu _ (by omega)
    · rw [if_neg c, if_neg c]; exact a6 i (by omega)
  · simp only [List.length_cons] at hi
    rw [r24]
    unfold aEm
    by_cases c : 4 + 2 * (Ks.length + 1) ≤ i
    · rw [if_pos c, if_pos c]; exact hw _ (by omega)
    · rw [if_neg c, if_neg c]; exact xCl_hs hs (a7 i (by omega))
  · rcases z with ⟨i, i1, i2, i3⟩ | z
    · simp only [List.length_cons] at i1
      unfold aEm at i2
      rw [r24] at i3
      by_cases c : 4 + 2 * (Ks.length + 1) ≤ i
      · rw [if_pos c] at i2; exact Or.inl i2
      · rw [if_neg c] at i2 i3
        exact Or.inr (Or.inl ⟨i, by omega, i2, i3⟩)
    · rw [List.nil_append, fl] at z
      rw [ez]
      exact Or.inr (Or.inr (xZr_go (fun p _ => rr 26 p (by decide) (by decide) (by omega)) z))
theorem xNs_rev : ∀ {ps N : List Int32}, xNs S (ps.reverse ++ N) → ∀ j, j < ps.length → S.2.1 25 (N.length + j) = aOw ps j
  | [], _, _, j, hj => absurd hj (by simp)
  | p :: R, N, h, j, hj => by
    rw [List.reverse_cons, List.append_assoc] at h
    match j with
    | 0 => exact (xNs_app h).1
    | j + 1 =>
      have q := xNs_rev (ps := R) (N := p :: N) h j (by simp only [List.length_cons] at hj; omega)
      simp only [List.length_cons] at q
      rw [show N.length + (j + 1) = N.length + 1 + j by omega]
      exact q
theorem aOw_out : ∀ {ps : List Int32} {j : Nat}, ps.length ≤ j → aOw ps j = 0
  | [], _, _ => rfl
  | p :: R, 0, h => by simp at h
  | p :: R, j + 1, h => aOw_out (ps := R) (by simp only [List.length_cons] at h; omega)
theorem aNum_inl : ∀ (ps : List Int32) (A : List aI), aNum (ps.map Sum.inl ++ A) = ps ++ aNum A ∧ aMap (ps.map Sum.inl ++ A) = aMap A
  | [], _ => ⟨rfl, rfl⟩
  | p :: R, A => by
    obtain ⟨e1, e2⟩ := aNum_inl R A
    exact ⟨by show p :: aNum (R.map Sum.inl ++ A) = p :: (R ++ aNum A); rw [e1], e2⟩
abbrev xEw (P : Option Value → mv_S → Prop) (d F pc : Nat) (l : List (Nat × Value)) (st : List Value) (S : mv_S) : Prop := mv_wp layX sysX tT5 4 (some .boolean) mX5_enter.2.2.2.2.2.2.2 (mv_big layX sysX (d + 3)) P F pc l st S
def xEL (l : List (Nat × Value)) (n r x : Int32) : Prop := mv_at 0 l = some (.ref 4) ∧ mv_at 1 l = some (.int n) ∧ mv_at 2 l = some (.int r) ∧ mv_at 3 l = some (.int x)
theorem e_8 : ∀ v, v < 6 → (8 : Int32) + nI v = nI (8 + v) := by decide
theorem e_4 : ∀ v, v < 2 → (4 : Int32) + nI v = nI (4 + v) := by decide
variable {c t F : Nat} {n rr : Int32}
set_option maxHeartbeats 1000000 in
set_option maxRecDepth 8000 in
theorem xE_l1 (hc : c ≤ 23) (hK : ∀ l' S2 u', xEL l' n rr (nI 0) → xEf S S2 c t u' w → (∀ j, j < 6 → u' j = 0) → xEw P d F 46 l' [] S2) : ∀ (k v : Nat) (l : List (Nat × Value)) (S' : mv_S) (u : Nat → Int32), v + k = 6 → xEL l n rr (nI v) → xEf S S' c t u w → (∀ j, j < v → u j = 0) → xEw P d (20 * k + F + 10) 23 l [] S'
  | 0, v, l, S', u, hk, hl, h, hu => by
    obtain rfl : v = 6 := by omega
    obtain ⟨l0, l1, l2, l3⟩ := hl
    refine mv_fuel (n := F + 10) (by omega) ?_
    refine ws_iload_n rfl (l3) rfl (ws_bipush (x := 6) rfl rfl rfl (ws_i rfl ⟨fun _ => ?_, fun z => absurd (show (6 : Int32) ≤ nI 6 by decide) z⟩))
    refine ws_iconst (x := 0) rfl rfl rfl (ws_istore_n rfl rfl rfl rfl ?_)
    exact mv_fuel (n := F) (by omega) (hK _ S' u ⟨mv_at_sr (by decide) (l0), mv_at_sv (by decide) (l1), mv_at_sv (by decide) (l2), mv_at_me⟩ h hu)
  | k + 1, v, l, S', u, hk, hl, h, hu => by
    obtain ⟨l0, l1, l2, l3⟩ := hl
    refine mv_fuel (n := 20 * k + F + 10 + 20) (by omega) ?_
    refine ws_iload_n rfl (l3) rfl (ws_bipush (x := 6) rfl rfl rfl (ws_i rfl ⟨fun z => absurd z (nI_ge (b := 6) (by omega) (by decide)), fun _ => ?_⟩))
    refine ws_aload_n rfl (l0) rfl (ws_bipush (x := 8) rfl rfl rfl (ws_iload_n rfl (l3) rfl (ws_iadd rfl (e_8 v (by omega)) rfl (ws_iconst (x := 0) rfl rfl rfl (ws_iv rfl rfl rfl ?_)))))
    refine mv_deep (d := d + 2) (by omega) (e_set h hc (by omega) (fun S2 h2 => ?_))
    refine ws_iinc (y := nI (v + 1)) rfl (l3) rfl ((nI_succ v).symm) rfl rfl (ws_goto (t := 23) rfl (by decide) (?_))
    refine mv_fuel (n := 20 * k + F + 10) (by omega) (xE_l1 hc hK k (v + 1) _ S2 _ (by omega) ⟨mv_at_sr (by decide) (l0), mv_at_sv (by decide) (l1), mv_at_sv (by decide) (l2), mv_at_me⟩ h2 (fun j hj => ?_))
    unfold aUp
    by_cases e : j = v
    · rw [if_pos e]
    · rw [if_neg e]; exact hu j (by omega)
set_option maxHeartbeats 1000000 in
set_option maxRecDepth 8000 in
theorem xE_l2 (hc : c ≤ 23) (hK : ∀ l' S2 w', xEL l' n rr (nI 2) → xEf S S2 c t u w' → (∀ j, j < 2 → w' j = 0) → xEw P d F 72 l' [] S2) : ∀ (k v : Nat) (l : List (Nat × Value)) (S' : mv_S) (w : Nat → Int32), v + k = 2 → xEL l n rr (nI v) → xEf S S' c t u w → (∀ j, j < v → w j = 0) → xEw P d (20 * k + F + 10) 46 l [] S'
  | 0, v, l, S', u, hk, hl, h, hu => by
    obtain rfl : v = 2 := by omega
    obtain ⟨l0, l1, l2, l3⟩ := hl
    refine mv_fuel (n := F + 10) (by omega) ?_
    refine ws_iload_n rfl (l3) rfl (ws_iconst (x := 2) rfl rfl rfl (ws_i rfl ⟨fun _ => ?_, fun z => absurd (show (2 : Int32) ≤ nI 2 by decide) z⟩))
    exact mv_fuel (n := F) (by omega) (hK _ S' u ⟨l0, l1, l2, l3⟩ h hu)
  | k + 1, v, l, S', u, hk, hl, h, hu => by
    obtain ⟨l0, l1, l2, l3⟩ := hl
    refine mv_fuel (n := 20 * k + F + 10 + 20) (by omega) ?_
    refine ws_iload_n rfl (l3) rfl (ws_iconst (x := 2) rfl rfl rfl (ws_i rfl ⟨fun z => absurd z (nI_ge (b := 2) (by omega) (by decide)), fun _ => ?_⟩))
    refine ws_aload_n rfl (l0) rfl (ws_getr rfl rfl rfl (ws_aload_n rfl (l0) rfl (ws_iconst (x := 4) rfl rfl rfl (ws_iload_n rfl (l3) rfl (ws_iadd rfl (e_4 v (by omega)) rfl (ws_iv rfl rfl rfl ?_))))))
    refine mv_deep (d := d + 1) (by omega) (x_mplace ?_)
    refine ws_iconst (x := 0) rfl rfl rfl (ws_is rfl rfl rfl ?_)
    refine mv_deep (d := d + 1) (by omega) (e_setM h hc (by omega) (fun S2 h2 => ?_))
    refine ws_iinc (y := nI (v + 1)) rfl (l3) rfl ((nI_succ v).symm) rfl rfl (ws_goto (t := 46) rfl (by decide) (?_))
    refine mv_fuel (n := 20 * k + F + 10) (by omega) (xE_l2 hc hK k (v + 1) _ S2 _ (by omega) ⟨mv_at_sr (by decide) (l0), mv_at_sv (by decide) (l1), mv_at_sv (by decide) (l2), mv_at_me⟩ h2 (fun j hj => ?_))
    unfold aUp
    by_cases e : j = v
    · rw [if_pos e]
    · rw [if_neg e]; exact hu j (by omega)
set_option maxHeartbeats 1000000 in
set_option maxRecDepth 8000 in
theorem xE_l3 (hc : c ≤ 23) (ht : t ≤ 840) (hq : ∀ j, j < ps.length → S.2.1 25 (t + j) = aOw ps j) (hK : ∀ l' S2 u', mv_at 0 l' = some (.ref 4) → mv_at 2 l' = some (.int rr) → xEf S S2 c t u' w → (∀ j, j < 6 → u' j = aOw ps j) → xEw P d F 98 l' [] S2) : ∀ (k : Nat) (l : List (Nat × Value)) (S' : mv_S) (u : Nat → Int32), k ≤ 3 → k ≤ ps.length → xEL l n rr (nI k - 1) → xEf S S' c (t + k) u w → (∀ j, j < 6 → u j = if k ≤ j then aOw ps j else 0) → xEw P d (20 * k + F + 10) 76 l [] S'
  | 0, l, S', u, h3, hk, hl, h, hu => by
    obtain ⟨l0, l1, l2, l3⟩ := hl
    refine mv_fuel (n := F + 10) (by omega) ?_
    refine ws_iload_n rfl (l3) rfl (ws_i rfl ⟨fun _ => ?_, fun z => absurd (show nI 0 - 1 < 0 by decide) z⟩)
    exact mv_fuel (n := F) (by omega) (hK _ S' u (l0) (l2) h (fun j hj => by rw [hu j hj, if_pos (by omega)]))
  | k + 1, l, S', u, h3, hk, hl, h, hu => by
    obtain ⟨l0, l1, l2, l3⟩ := hl
    rw [nI_pred] at l3
    have ge : ¬ nI k < 0 := Int32.not_lt.mpr (nI_pos' (by omega))
    refine mv_fuel (n := 20 * k + F + 10 + 20) (by omega) ?_
    refine ws_iload_n rfl (l3) rfl (ws_i rfl ⟨fun z => absurd z ge, fun _ => ?_⟩)
    refine ws_aload_n rfl (l0) rfl (ws_bipush (x := 8) rfl rfl rfl (ws_iload_n rfl (l3) rfl (ws_iadd rfl (e_8 k (by omega)) rfl (ws_aload_n rfl (l0) rfl (ws_iv rfl rfl rfl ?_)))))
    refine mv_deep (d := d + 2) (by omega) (e_pop (t := t + k) h (by omega) (hq k (by omega)) (fun S1 h1 => ?_))
    refine ws_iv rfl rfl rfl ?_
    refine mv_deep (d := d + 2) (by omega) (e_set h1 hc (by omega) (fun S2 h2 => ?_))
    refine ws_iinc (y := (nI k - 1)) rfl (l3) rfl ((by rw [show Int32.ofInt (-1) = -1 by decide, ← Int32.sub_eq_add_neg])) rfl rfl (ws_goto (t := 76) rfl (by decide) (?_))
    refine mv_fuel (n := 20 * k + F + 10) (by omega) (xE_l3 hc ht hq hK k _ S2 _ (by omega) (by omega) ⟨mv_at_sr (by decide) (l0), mv_at_sv (by decide) (l1), mv_at_sv (by decide) (l2), mv_at_me⟩ h2 (fun j hj => ?_))
    unfold aUp
    by_cases e : j = k
    · rw [if_pos e, if_pos (by omega), e]
    · rw [if_neg e, hu j hj]
      by_cases g : k ≤ j
      · rw [if_pos g, if_pos (by omega)]
      · rw [if_neg g, if_neg (by omega)]
set_option maxHeartbeats 1000000 in
set_option maxRecDepth 8000 in
theorem x_enterA (h : xA S0 S σ sd rm fb B rets (ps.reverse.map Sum.inl ++ K) Ks vs mp told most) (h3 : ps.length ≤ 3) (hc : Ks.length ≤ 23) (hn : (aNum K).length ≤ 33) (hm : (aMap K).length ≤ 17) (hP : ∀ S', xA S0 S' σ sd rm fb B (r :: rets) [] (K :: Ks) (aEn Ks.length vs (aOw ps)) (aEm Ks.length mp) told most → P (some (.int 1)) S') : mv_big layX sysX (d + 4) 112 [.ref 4, .int (nI ps.length), .int (nI r)] S P := by
  have e13 := h.2.2.2.2.1.1
  have ln := xBs_len h.2.2.2.2.1.2.2
  have tl : (aNum (K ++ Ks.flatten)).length ≤ 825 := by rw [aNum_app, List.length_append]; omega
  have en : aNum (ps.reverse.map Sum.inl ++ K ++ Ks.flatten) = ps.reverse ++ aNum (K ++ Ks.flatten) := by rw [List.append_assoc]; exact (aNum_inl _ _).1
  have e11 : S.1 4 11 = nI ((aNum (K ++ Ks.flatten)).length + ps.length) := by
    rw [h.2.2.1.1, en, List.length_append, List.length_reverse, Nat.add_comm]
  have ns : xNs S (ps.reverse ++ aNum (K ++ Ks.flatten)) := by rw [← en]; exact h.2.2.1.2
  refine ⟨400, ?_⟩
  refine ws_aload_n rfl (rfl) rfl (ws_geti rfl rfl (e13) rfl (ws_bipush (x := 24) rfl rfl rfl (ws_i rfl ⟨fun _ => ?_, fun z => absurd (nI_lt (b := 24) (by omega) (by decide)) z⟩)))
  refine ws_aload_n rfl (rfl) rfl (ws_dup_r rfl rfl (ws_geti rfl rfl (e13) rfl (ws_iconst (x := 1) rfl rfl rfl (ws_iadd rfl (nI_1 _) rfl (?_)))))
  refine ws_puti rfl rfl rfl ?_
  obtain ⟨S1, hS1⟩ : ∃ S1, S1 = mv_pf S 4 13 (nI (Ks.length + 1)) := ⟨_, rfl⟩
  rw [← hS1]
  have g0 : xEf S S1 Ks.length ((aNum (K ++ Ks.flatten)).length + ps.length) (fun k => S.2.1 23 (8 + 6 * (Ks.length + 1) + k)) (fun k => S.2.1 24 (4 + 2 * (Ks.length + 1) + k)) := by
    refine ⟨fun o f a => by rw [hS1, pf_get, if_neg (by omega)], by rw [hS1, pf_get, if_pos ⟨rfl, rfl⟩], by rw [hS1, pf_get, if_neg (by omega)]; exact e11, fun o i _ _ => by rw [hS1]; rfl, by rw [hS1]; rfl, fun i => ?_, fun i => ?_⟩
    · rw [hS1]
      show S.2.1 23 i = _
      unfold aEn
      by_cases c : 8 + 6 * (Ks.length + 1) ≤ i
      · rw [if_pos c]
        show S.2.1 23 i = S.2.1 23 (8 + 6 * (Ks.length + 1) + (i - (8 + 6 * (Ks.length + 1))))
        rw [show 8 + 6 * (Ks.length + 1) + (i - (8 + 6 * (Ks.length + 1))) = i by omega]
      · rw [if_neg c]
    · rw [hS1]
      show S.2.1 24 i = _
      by_cases c : 4 + 2 * (Ks.length + 1) ≤ i
      · rw [if_pos c]
        show S.2.1 24 i = S.2.1 24 (4 + 2 * (Ks.length + 1) + (i - (4 + 2 * (Ks.length + 1))))
        rw [show 4 + 2 * (Ks.length + 1) + (i - (4 + 2 * (Ks.length + 1))) = i by omega]
      · rw [if_neg c]
  refine ws_iconst (x := 0) rfl rfl rfl (ws_istore_n rfl rfl rfl rfl ?_)
  refine mv_fuel (n := 20 * 6 + (20 * 2 + (20 * 3 + 40 + 10 + 10) + 10) + 10) (by omega) (xE_l1 (n := nI ps.length) (rr := nI r) hc (fun l1 T1 u1 hl1 g1 hu1 => ?_) 6 0 _ S1 _ (by omega) ⟨rfl, rfl, rfl, rfl⟩ g0 (fun j hj => absurd hj (by omega)))
  refine xE_l2 hc (fun l2 T2 w2 hl2 g2 hw2 => ?_) 2 0 l1 T1 _ (by omega) hl1 g1 (fun j hj => absurd hj (by omega))
  obtain ⟨m0, m1, m2, m3⟩ := hl2
  refine ws_iload_n rfl (m1) rfl (ws_iconst (x := 1) rfl rfl rfl (ws_isub rfl (rfl) rfl (?_)))
  refine ws_istore_n rfl rfl rfl rfl ?_
  refine mv_fuel (n := 20 * ps.length + 40 + 10) (by omega) (xE_l3 (ps := ps) (t := (aNum (K ++ Ks.flatten)).length) hc (by omega) (fun j hj => xNs_rev ns j hj) (fun l3 T3 u3 q0 q2 g3 hu3 => ?_) ps.length _ T2 u1 h3 (Nat.le_refl _) ⟨mv_at_sr (by decide) (m0), mv_at_sv (by decide) (m1), mv_at_sv (by decide) (m2), mv_at_me⟩ g2 (fun j hj => ?_))
  rotate_left 1
  · rw [hu1 j hj]
    by_cases g : ps.length ≤ j
    · rw [if_pos g, aOw_out g]
    · rw [if_neg g]
  have c13 : T3.1 4 13 = nI (Ks.length + 1) := g3.2.1
  have c11 : T3.1 4 11 = nI (aNum (K ++ Ks.flatten)).length := g3.2.2.1
  have ezz : aMap (ps.reverse.map Sum.inl ++ K ++ Ks.flatten) = aMap (K ++ Ks.flatten) := by rw [List.append_assoc]; exact (aNum_inl _ _).2
  have c12 : T3.1 4 12 = nI (aMap (K ++ Ks.flatten)).length := by rw [← ezz]; exact (g3.1 4 12 (by omega)).trans h.2.2.2.1.1
  refine ws_aload_n rfl (q0) rfl (ws_getr rfl rfl rfl (ws_aload_n rfl (q0) rfl (ws_geti rfl rfl (c13) rfl (ws_aload_n rfl (q0) rfl (ws_geti rfl rfl (c11) rfl (ws_is rfl rfl rfl ?_))))))
  refine mv_deep (d := d + 1) (by omega) (x_set_28 ?_)
  rw [sR_nI (by omega) (by decide)]
  refine ws_aload_n rfl (q0) rfl (ws_getr rfl rfl rfl (ws_aload_n rfl (q0) rfl (ws_geti rfl rfl (c13) rfl (ws_aload_n rfl (q0) rfl (ws_geti rfl rfl (c12) rfl (ws_is rfl rfl rfl ?_))))))
  refine mv_deep (d := d + 1) (by omega) (x_set_29 ?_)
  rw [sR_nI (by omega) (by decide)]
  refine ws_aload_n rfl (q0) rfl (ws_getr rfl rfl rfl (ws_aload_n rfl (q0) rfl (ws_geti rfl rfl (c13) rfl (ws_iload_n rfl (q2) rfl (ws_is rfl rfl rfl ?_)))))
  refine mv_deep (d := d + 1) (by omega) (x_set_30 ?_)
  rw [sR_nI (by omega) (by decide)]
  refine ws_iconst (x := 1) rfl rfl rfl (ws_i rfl ?_)
  exact ⟨Or.inr rfl, hP _ (xE_fin (D := ps.reverse.map Sum.inl) (ps := ps) h (by have := (aNum_inl ps.reverse []).2; rw [List.append_nil] at this; exact this) hc hn hm g3 hu3 hw2 rfl (fun o i => by rw [pr_get, pr_get, pr_get]) rfl)⟩
end XA

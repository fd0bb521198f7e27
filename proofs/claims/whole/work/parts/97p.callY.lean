/-! THE REFERENCE'S WORDS: a call -/
theorem y_6 : ∀ c, c < 25 → ∀ k, k < 3 → (6 : Int32) * nI c + nI k = nI (6 * c + k) := by decide +kernel
theorem yCO_r (S : mv_S) (c o i : Nat) : (yCO S c).2.1 o i = if o = 24 ∧ i = c then S.1 0 48 else if o = 22 ∧ i = 2 * c + 1 then 0 else if o = 22 ∧ i = 2 * c then 0 else if o = 21 ∧ 6 * c ≤ i ∧ i < 6 * c + 6 then 0 else S.2.1 o i := by
  unfold yCO
  rw [pr_get, pr_get, pr_get]
  by_cases e : o = 21
  · subst e
    rw [if_neg (by omega), if_neg (by omega), if_neg (by omega), if_neg (by omega), if_neg (by omega), if_neg (by omega)]
    simp only [stR, rFill, va_up, if_true, true_and, eq_self_iff_true]
  · rw [if_neg (c := o = 21 ∧ 6 * c ≤ i ∧ i < 6 * c + 6) (by omega)]
    simp only [stR, va_up, if_neg e]
theorem yAs_rev {T : mv_S} {σ : Nat → Nat} : ∀ {ps : List Int32} {A : List aI}, yAs T σ (ps.reverse.map Sum.inl ++ A) → ∀ j, j < ps.length → T.2.1 26 (A.length + j) = aOw ps j
  | [], _, _, j, hj => absurd hj (by simp)
  | p :: R, A, h, j, hj => by
    rw [List.reverse_cons, List.map_append, List.append_assoc] at h
    match j with
    | 0 => exact (yAs_app h).1.2
    | j + 1 =>
      have q := yAs_rev (ps := R) (A := .inl p :: A) h j (by simp only [List.length_cons] at hj; omega)
      simp only [List.length_cons] at q
      rw [show A.length + (j + 1) = A.length + 1 + j by omega]
      exact q
def yEf (T T' : mv_S) (c N : Nat) (u : Nat → Int32) : Prop := (∀ o f, ¬ (o = 0 ∧ (f = 43 ∨ f = 48)) → T'.1 o f = T.1 o f) ∧ T'.1 0 43 = nI (c + 1) ∧ T'.1 0 48 = nI N ∧ (∀ o i, T'.2.1 o i = if o = 24 ∧ i = c + 1 then nI N else if o = 22 ∧ 2 * (c + 1) ≤ i ∧ i < 2 * (c + 1) + 2 then 0 else if o = 21 ∧ 6 * (c + 1) ≤ i ∧ i < 6 * (c + 1) + 6 then u (i - 6 * (c + 1)) else T.2.1 o i)
section YB
variable {d : Nat} {P : Option Value → mv_S → Prop} {T0 T T' : mv_S} {σ : Nat → Nat} {sd : Int32} {rm pc : Nat} {e : Int32} {rets : List Nat} {K : List aI} {Ks : List (List aI)} {vs : Nat → Int32} {mp : Nat → tT} {told : List Int32} {most f a c N : Nat} {ps : List Int32}
abbrev yEw (P : Option Value → mv_S → Prop) (d F pc : Nat) (l : List (Nat × Value)) (st : List Value) (S : mv_S) : Prop := mv_wp layY sysY tT11 4 none mX11_call.2.2.2.2.2.2.2 (mv_big layY sysY (d + 3)) P F pc l st S
set_option maxHeartbeats 1000000 in
set_option maxRecDepth 8000 in
theorem yE_loop {F : Nat} (hc : c ≤ 23) (h3 : ps.length ≤ 3) (hN : N < 1990) (hs : ∀ j, j < ps.length → T.2.1 26 (N + j) = aOw ps j) (hK : ∀ l' T2 u, mv_at 0 l' = some (.ref 0) → mv_at 1 l' = some (.int (nI f)) → yEf T T2 c N u → (∀ j, j < 6 → u j = aOw ps j) → yEw P d F 84 l' [] T2) : ∀ (k v : Nat) (l : List (Nat × Value)) (T' : mv_S) (u : Nat → Int32), v + k = ps.length → mv_at 0 l = some (.ref 0) → mv_at 1 l = some (.int (nI f)) → mv_at 2 l = some (.int (nI ps.length)) → mv_at 3 l = some (.int (nI v)) → yEf T T' c N u → (∀ j, j < 6 → u j = if j < v then aOw ps j else 0) → yEw P d (30 * k + F + 10) 48 l [] T'
  | 0, v, l, T', u, hk, l0, l1, l2, l3, h, hu => by
    obtain rfl : v = ps.length := by omega
    refine mv_fuel (n := F + 10) (by omega) ?_
    refine ws_iload_n rfl (l3) rfl (ws_iload_n rfl (l2) rfl (ws_i rfl ⟨fun _ => ?_, fun z => absurd (show nI ps.length ≤ nI ps.length from Int32.le_refl _) z⟩))
    exact mv_fuel (n := F) (by omega) (hK _ T' u (l0) (l1) h (fun j hj => by
      rw [hu j hj]
      by_cases g : j < ps.length
      · rw [if_pos g]
      · rw [if_neg g, aOw_out (by omega)]))
  | k + 1, v, l, T', u, hk, l0, l1, l2, l3, h, hu => by
    obtain ⟨g1, g2, g3, g4⟩ := h
    have vo : vp_in (nI (6 * (c + 1) + v)) 150 := vp_in_nI (by omega) (by decide)
    have co : (nI (6 * (c + 1) + v)).toNatClampNeg = 6 * (c + 1) + v := nI_clamp (by omega)
    have vs : vp_in (nI (N + v)) 4000 := vp_in_nI (by omega) (by decide)
    have cs : (nI (N + v)).toNatClampNeg = N + v := nI_clamp (by omega)
    have es : T'.2.1 26 (N + v) = aOw ps v := by rw [g4, if_neg (by omega), if_neg (by omega), if_neg (by omega)]; exact hs v (by omega)
    refine mv_fuel (n := 30 * k + F + 10 + 30) (by omega) ?_
    refine ws_iload_n rfl (l3) rfl (ws_iload_n rfl (l2) rfl (ws_i rfl ⟨fun z => absurd z (nI_ge (by omega) (by omega)), fun _ => ?_⟩))
    refine ws_aload_n rfl (l0) rfl (ws_getr rfl rfl rfl (ws_bipush (x := 6) rfl rfl rfl (ws_aload_n rfl (l0) rfl (ws_geti rfl rfl (g2) rfl (ws_imul rfl (rfl) rfl (ws_iload_n rfl (l3) rfl (ws_iadd rfl (y_6 (c + 1) (by omega) v (by omega)) rfl (ws_aload_n rfl (l0) rfl (ws_getr rfl rfl rfl (ws_aload_n rfl (l0) rfl (ws_geti rfl rfl (g3) rfl (ws_iload_n rfl (l3) rfl (ws_iadd rfl (nI_addN (by omega)) rfl (ws_i rfl ⟨vs, ?_⟩))))))))))))))
    rw [cs, es]
    refine ws_i rfl ⟨vo, ?_⟩
    rw [co]
    refine ws_iinc (y := nI (v + 1)) rfl (l3) rfl ((nI_succ v).symm) rfl rfl (ws_goto (t := 48) rfl (by decide) (?_))
    refine mv_fuel (n := 30 * k + F + 10) (by omega) (yE_loop hc h3 hN hs hK k (v + 1) _ _ (aUp u v (aOw ps v)) (by omega) (mv_at_sr (by decide) (l0)) (mv_at_sv (by decide) (l1)) (mv_at_sv (by decide) (l2)) (mv_at_me) ⟨g1, g2, g3, fun o i => ?_⟩ (fun j hj => ?_))
    · rw [pr_get, g4]
      by_cases z : o = 21 ∧ i = 6 * (c + 1) + v
      · rw [if_pos z, if_neg (by omega), if_neg (by omega), if_pos (by omega)]
        unfold aUp
        rw [if_pos (by omega)]
      · rw [if_neg z]
        unfold aUp
        by_cases y : o = 21 ∧ 6 * (c + 1) ≤ i ∧ i < 6 * (c + 1) + 6
        · rw [if_neg (by omega), if_neg (by omega), if_pos y, if_neg (by omega), if_neg (by omega), if_pos y, if_neg (by omega)]
        · rw [if_neg y, if_neg y]
    · unfold aUp
      by_cases z : j = v
      · rw [if_pos z, if_pos (by omega), z]
      · rw [if_neg z, hu j hj]
        by_cases g : j < v
        · rw [if_pos g, if_pos (by omega)]
        · rw [if_neg g, if_neg (by omega)]
theorem yE_fin {T2 : mv_S} {u : Nat → Int32} (h : yA T0 T σ sd rm pc e rets (ps.reverse.map Sum.inl ++ K) Ks vs mp told most) (hc : Ks.length ≤ 23) (g : yEf T T' Ks.length (K ++ Ks.flatten).length u) (hu : ∀ j, j < 6 → u j = aOw ps j) (f2 : ∀ o f, T2.1 o f = if o = 0 ∧ f = 51 then nI a else T'.1 o f) (r2 : ∀ o i, T2.2.1 o i = if o = 23 ∧ i = Ks.length + 1 then nI (pc + 2) else T'.2.1 o i) : yA T0 T2 σ sd rm a e ((pc + 2) :: rets) [] (K :: Ks) (aEn Ks.length vs (aOw ps)) (aEm Ks.length mp) told most := by
  have h0 := h
  obtain ⟨a1, a2, a3, a4, a5, a6, a7, a8, a9, a10⟩ := h
  obtain ⟨g1, g2, g3, g4⟩ := g
  have fl : (K :: Ks).flatten = K ++ Ks.flatten := List.flatten_cons
  rw [List.append_assoc] at a4
  have rr : ∀ o i, T2.2.1 o i = if o = 23 ∧ i = Ks.length + 1 then nI (pc + 2) else if o = 24 ∧ i = Ks.length + 1 then nI (K ++ Ks.flatten).length else if o = 22 ∧ 2 * (Ks.length + 1) ≤ i ∧ i < 2 * (Ks.length + 1) + 2 then 0 else if o = 21 ∧ 6 * (Ks.length + 1) ≤ i ∧ i < 6 * (Ks.length + 1) + 6 then u (i - 6 * (Ks.length + 1)) else T.2.1 o i := fun o i => by rw [r2, g4]
  have r : ∀ o i, o ≠ 21 → o ≠ 22 → o ≠ 23 → o ≠ 24 → T2.2.1 o i = T.2.1 o i := fun o i a b c d => by rw [rr, if_neg (by omega), if_neg (by omega), if_neg (by omega), if_neg (by omega)]
  have ff : ∀ o f, ¬ (o = 0 ∧ (f = 43 ∨ f = 48 ∨ f = 51)) → T2.1 o f = T.1 o f := fun o f a => by rw [f2, if_neg (by omega)]; exact g1 o f (by omega)
  have hs : yHs T T2 := fun o i _ _ => r o i (by omega) (by omega) (by omega) (by omega)
  have bs : ∀ {Ls : List (List aI)} {rs : List Nat}, Ls.length ≤ Ks.length → yBs T Ls rs → yBs T2 Ls rs := by
    intro Ls
    induction Ls with
    | nil => intro rs _ z; cases rs with | nil => trivial | cons _ _ => exact z.elim
    | cons k R ih =>
      intro rs hl z
      cases rs with
      | nil => exact z.elim
      | cons q rs =>
        simp only [List.length_cons] at hl
        exact ⟨⟨by rw [rr, if_neg (by omega), if_neg (by omega), if_neg (by omega), if_neg (by omega)]; exact z.1.1, by rw [rr, if_neg (by omega), if_neg (by omega), if_neg (by omega), if_neg (by omega)]; exact z.1.2⟩, ih (by omega) z.2⟩
  refine yA_gen h0 ⟨fun o q a => ff o q (fun z => a ⟨z.1, by unfold yFs; omega⟩), fun o i a => r o i (by omega) (by omega) (by omega) (by omega)⟩ hs ⟨by rw [f2, if_pos ⟨rfl, rfl⟩], (ff 0 53 (by omega)).trans a3.2⟩ ?_ ⟨by rw [f2, if_neg (by omega)]; exact g2, by simp only [List.length_cons]; omega, ⟨?_, ?_⟩, bs (Nat.le_refl _) a5.2.2⟩ ⟨fun i hi => ?_, fun k hk => ?_⟩ ⟨fun i hi => ?_, fun k hk => ?_⟩ ⟨(ff 0 50 (by omega)).trans a8.1, a8.2.1, fun p x hp => (r 29 p (by decide) (by decide) (by decide) (by decide)).trans (a8.2.2 p x hp)⟩ ((ff 0 33 (by omega)).trans a9) (fun U c z => ?_)
  · rw [List.nil_append, fl]
    exact ⟨by rw [f2, if_neg (by omega)]; exact g3, yAs_go hs (fun p o _ _ _ => r o p (by omega) (by omega) (by omega) (by omega)) (yAs_app a4.2)⟩
  · rw [rr, if_neg (by omega), if_pos ⟨rfl, rfl⟩]
  · rw [rr, if_pos ⟨rfl, rfl⟩]
  · rw [r 19 i (by decide) (by decide) (by decide) (by decide)]
    unfold aEn
    rw [if_neg (by omega)]; exact a6.1 i hi
  · simp only [List.length_cons] at hk
    unfold aEn
    by_cases c : 6 * (Ks.length + 1) ≤ k
    · rw [rr, if_neg (by omega), if_neg (by omega), if_neg (by omega), if_pos (by omega), if_pos (by omega), hu _ (by omega)]
      congr 1; omega
    · rw [rr, if_neg (by omega), if_neg (by omega), if_neg (by omega), if_neg (by omega), if_neg (by omega)]; exact a6.2 k (by omega)
  · rw [r 20 i (by decide) (by decide) (by decide) (by decide)]
    unfold aEm
    rw [if_neg (by omega)]; exact yTr_hs hs (a7.1 i hi)
  · simp only [List.length_cons] at hk
    unfold aEm
    by_cases c : 2 * (Ks.length + 1) ≤ k
    · rw [if_pos (show 4 + 2 * (Ks.length + 1) ≤ 4 + k by omega), rr, if_neg (by omega), if_neg (by omega), if_pos (by omega)]; rfl
    · rw [if_neg (show ¬ 4 + 2 * (Ks.length + 1) ≤ 4 + k by omega), rr, if_neg (by omega), if_neg (by omega), if_neg (by omega), if_neg (by omega)]; exact yTr_hs hs (a7.2 k (by omega))
  · rcases z with ⟨i, i1, i2, i3⟩ | ⟨k, i1, i2, i3⟩ | z
    · unfold aEm at i2
      rw [if_neg (by omega)] at i2
      exact Or.inr (Or.inl ⟨i, i1, i2, by rw [i3]; exact r 20 i (by decide) (by decide) (by decide) (by decide)⟩)
    · simp only [List.length_cons] at i1
      unfold aEm at i2
      by_cases c : 2 * (Ks.length + 1) ≤ k
      · rw [if_pos (by omega)] at i2; exact Or.inl i2
      · rw [if_neg (by omega)] at i2
        rw [rr, if_neg (by omega), if_neg (by omega), if_neg (by omega), if_neg (by omega)] at i3
        exact Or.inr (Or.inr (Or.inl ⟨k, by omega, i2, i3⟩))
    · rw [List.nil_append, fl] at z
      rw [List.append_assoc]
      exact Or.inr (Or.inr (Or.inr (yZr_app (yZr_go (fun p _ => r 26 p (by decide) (by decide) (by decide) (by decide)) z))))
set_option maxHeartbeats 1000000 in
set_option maxRecDepth 8000 in
theorem y_pf16 (h : yA T0 T σ sd rm pc e rets (ps.reverse.map Sum.inl ++ K) Ks vs mp told most) (hi : yIn T0 pc) (hw : yW T0 pc = 16) (hx : yW T0 (pc + 1) = nI f) (hf : f < 8) (hpar : T0.2.1 5 f = nI ps.length) (h3 : ps.length ≤ 3) (ha : (if T0.1 0 55 = 0 then T0.2.1 6 f else T0.2.1 7 f) = nI a) (hq : (K ++ Ks.flatten).length < 1980) (hF : Ks.length = 24 → ∀ T', yA T0 T' σ sd rm (pc + 2) 3 rets (ps.reverse.map Sum.inl ++ K) Ks vs mp told most → P none T')
    (hP : Ks.length ≤ 23 → ∀ T', yA T0 T' σ sd rm a e ((pc + 2) :: rets) [] (K :: Ks) (aEn Ks.length vs (aOw ps)) (aEm Ks.length mp) told most → P none T') : mv_big layY sysY (d + 6) 58 [.ref 0] T P := by
  have inn : mv_big layY sysY (d + 5) 62 [.ref 0, .int 16] T (fun r T1 => r = none ∧ P none T1) := by
    have n24 := h.2.2.2.2.1.2.1
    have e43 := h.2.2.2.2.1.1
    have ln : (ps.reverse.map Sum.inl ++ K ++ Ks.flatten : List aI).length = (K ++ Ks.flatten).length + ps.length := by
      rw [List.append_assoc, List.length_append, List.length_map, List.length_reverse]; omega
    have e48 : T.1 0 48 = nI ((K ++ Ks.flatten).length + ps.length) := by rw [← ln]; exact h.2.2.2.1.1
    have as := h.2.2.2.1.2
    rw [List.append_assoc] at as
    have vf : vp_in (nI f) 8 := vp_in_nI hf (by decide)
    have cf : (nI f).toNatClampNeg = f := nI_clamp (by omega)
    have e55 : T.1 0 55 = T0.1 0 55 := h.1.1 0 55 (fun z => by unfold yFs at z; omega)
    have cl : mv_big layY sysY (d + 4) 63 [.ref 0, .int (nI f)] T (fun r T1 => r = none ∧ P none T1) := by
      refine ⟨300, ?_⟩
      by_cases c24 : Ks.length = 24
      · rw [c24] at e43
        refine ws_aload_n rfl (rfl) rfl (ws_geti rfl rfl (e43) rfl (ws_bipush (x := 24) rfl rfl rfl (ws_i rfl ⟨fun z => absurd rfl z, fun _ => ?_⟩)))
        refine ws_aload_n rfl (rfl) rfl (ws_iconst (x := 3) rfl rfl rfl (ws_iv rfl rfl rfl ?_))
        refine mv_deep (d := d + 2) (by omega) (y_endA h hi (fun T1 h1 => ?_))
        rw [if_pos hw] at h1
        refine ws_i rfl ?_
        exact ⟨rfl, hF c24 T1 h1⟩
      · have ne : ¬ nI Ks.length = 24 := fun z => c24 ((nI_eq (b := 24) (by omega) (by decide)).mp z)
        refine ws_aload_n rfl (rfl) rfl (ws_geti rfl rfl (e43) rfl (ws_bipush (x := 24) rfl rfl rfl (ws_i rfl ⟨fun _ => ?_, fun z => absurd z ne⟩)))
        refine ws_aload_n rfl (rfl) rfl (ws_getr rfl rfl rfl (ws_iload_n rfl (rfl) rfl (ws_i rfl ⟨vf, ?_⟩)))
        rw [cf, h.1.2 5 f (by decide), hpar]
        refine ws_istore_n rfl rfl rfl rfl (ws_aload_n rfl (rfl) rfl (ws_dup_r rfl rfl (ws_geti rfl rfl (e48) rfl (ws_iload_n rfl (rfl) rfl (ws_isub rfl ((show nI ((K ++ Ks.flatten).length + ps.length) - nI ps.length = nI (K ++ Ks.flatten).length by rw [nI_subN (by omega) (by omega)]; congr 1; omega)) rfl (?_))))))
        refine ws_puti rfl rfl rfl ?_
        refine ws_aload_n rfl (rfl) rfl (ws_dup_r rfl rfl (ws_geti rfl rfl ((show (mv_pf T 0 48 (nI (K ++ Ks.flatten).length)).1 0 43 = _ by rw [pf_get, if_neg (by omega)]; exact e43)) rfl (ws_iconst (x := 1) rfl rfl rfl (ws_iadd rfl (nI_1 _) rfl (?_)))))
        refine ws_puti rfl rfl rfl ?_
        refine ws_aload_n rfl (rfl) rfl (ws_iv rfl rfl rfl ?_)
        refine mv_deep (d := d + 1) (by omega) (y_clearOwn (c := Ks.length + 1) (by rw [pf_get, if_pos ⟨rfl, rfl⟩]) (by omega) ?_)
        obtain ⟨T1, hT1⟩ : ∃ T1, T1 = yCO (mv_pf (mv_pf T 0 48 (nI (K ++ Ks.flatten).length)) 0 43 (nI (Ks.length + 1))) (Ks.length + 1) := ⟨_, rfl⟩
        rw [← hT1]
        have f1 : T1.1 = (mv_pf (mv_pf T 0 48 (nI (K ++ Ks.flatten).length)) 0 43 (nI (Ks.length + 1))).1 := by rw [hT1]; rfl
        have g0 : yEf T T1 Ks.length (K ++ Ks.flatten).length (fun _ => 0) := by
          refine ⟨fun o f a => by rw [f1, pf_get, if_neg (by omega), pf_get, if_neg (by omega)], by rw [f1, pf_get, if_pos ⟨rfl, rfl⟩], by rw [f1, pf_get, if_neg (by omega), pf_get, if_pos ⟨rfl, rfl⟩], fun o i => ?_⟩
          rw [hT1, yCO_r]
          by_cases c1 : o = 24 ∧ i = Ks.length + 1
          · rw [if_pos c1, if_pos c1, pf_get, if_neg (by omega), pf_get, if_pos ⟨rfl, rfl⟩]
          · rw [if_neg c1, if_neg c1]
            by_cases c2 : o = 22 ∧ 2 * (Ks.length + 1) ≤ i ∧ i < 2 * (Ks.length + 1) + 2
            · rw [if_pos c2]
              by_cases c3 : i = 2 * (Ks.length + 1) + 1
              · rw [if_pos ⟨c2.1, c3⟩]
              · rw [if_neg (by omega), if_pos (by omega)]
            · rw [if_neg c2, if_neg (by omega), if_neg (by omega)]
              rfl
        refine ws_iconst (x := 0) rfl rfl rfl (ws_istore_n rfl rfl rfl rfl ?_)
        refine mv_fuel (n := 30 * ps.length + 60 + 10) (by omega) (yE_loop (T := T) (ps := ps) (c := Ks.length) (N := (K ++ Ks.flatten).length) (by omega) h3 (by omega) (yAs_rev as) (fun l2 T2 u m0 m1 g2 hu2 => ?_) ps.length 0 _ T1 (fun _ => 0) (by omega) rfl rfl rfl rfl g0 (fun j hj => by rw [if_neg (by omega)]))
        have vc : vp_in (nI (Ks.length + 1)) 25 := vp_in_nI (by omega) (by decide)
        have cc : (nI (Ks.length + 1)).toNatClampNeg = Ks.length + 1 := nI_clamp (by omega)
        have e51 : T2.1 0 51 = nI pc := (g2.1 0 51 (by omega)).trans h.2.2.1.1
        have k55 : T2.1 0 55 = T0.1 0 55 := (g2.1 0 55 (by omega)).trans e55
        refine ws_aload_n rfl (m0) rfl (ws_getr rfl rfl rfl (ws_aload_n rfl (m0) rfl (ws_geti rfl rfl (g2.2.1) rfl (ws_aload_n rfl (m0) rfl (ws_geti rfl rfl (e51) rfl (ws_iconst (x := 2) rfl rfl rfl (ws_iadd rfl (nI_add _ 2) rfl (ws_i rfl ⟨vc, ?_⟩))))))))
        rw [cc]
        obtain ⟨T3, hT3⟩ : ∃ T3, T3 = mv_pr T2 23 (Ks.length + 1) (nI (pc + 2)) := ⟨_, rfl⟩
        rw [← hT3]
        have q55 : T3.1 0 55 = T0.1 0 55 := by rw [hT3]; exact k55
        have row : ∀ o, o < 13 → T3.2.1 o f = T0.2.1 o f := fun o ho => by
          rw [hT3, pr_get, if_neg (by omega), g2.2.2.2, if_neg (by omega), if_neg (by omega), if_neg (by omega)]
          exact h.1.2 o f ho
        have fin := fun T4 f4 r4 => yE_fin (T2 := T4) (a := a) h (by omega) g2 hu2 f4 r4
        by_cases s : T0.1 0 55 = 0
        · rw [if_pos s] at ha
          refine ws_aload_n rfl (m0) rfl (ws_aload_n rfl (m0) rfl (ws_getz rfl rfl (q55) rfl (ws_i rfl ⟨fun _ => ?_, fun z => absurd s z⟩)))
          refine ws_aload_n rfl (m0) rfl (ws_getr rfl rfl rfl (ws_iload_n rfl (m1) rfl (ws_i rfl ⟨vf, ?_⟩)))
          rw [cf, row 6 (by decide), ha]
          refine ws_puti rfl rfl rfl (ws_i rfl ?_)
          exact ⟨rfl, hP (by omega) _ (fin _ (fun o f => by rw [pf_get, hT3]; rfl) (fun o i => by show T3.2.1 o i = _; rw [hT3, pr_get]))⟩
        · rw [if_neg s] at ha
          refine ws_aload_n rfl (m0) rfl (ws_aload_n rfl (m0) rfl (ws_getz rfl rfl (q55) rfl (ws_i rfl ⟨fun z => absurd z s, fun _ => ?_⟩)))
          refine ws_aload_n rfl (m0) rfl (ws_getr rfl rfl rfl (ws_iload_n rfl (m1) rfl (ws_i rfl ⟨vf, ?_⟩)))
          rw [cf, row 7 (by decide), ha]
          refine ws_goto (t := 122) rfl (by decide) ?_
          refine ws_puti rfl rfl rfl (ws_i rfl ?_)
          exact ⟨rfl, hP (by omega) _ (fin _ (fun o f => by rw [pf_get, hT3]; rfl) (fun o i => by show T3.2.1 o i = _; rw [hT3, pr_get]))⟩
    refine ⟨40, ?_⟩
    refine ws_iload_n rfl (rfl) rfl (ws_tab (t := 160) rfl rfl (by decide) (ws_aload_n rfl (rfl) rfl (ws_aload_n rfl (rfl) rfl (ws_iconst (x := 1) rfl rfl rfl (ws_iv rfl rfl rfl ?_)))))
    refine mv_deep (d := d + 1) (by omega) (y_wordA (k := 1) h hi (by decide) ?_)
    rw [hx]
    refine ws_iv rfl rfl rfl ?_
    refine mv_big_mono _ _ (Nat.le_refl _) _ _ _ _ _ (fun r T1 z => ?_) cl
    obtain ⟨rfl, z⟩ := z
    refine ws_goto (t := 241) rfl (by decide) (ws_i rfl ?_)
    exact ⟨rfl, z⟩
  refine ⟨40, ?_⟩
  refine ws_aload_n rfl (rfl) rfl (ws_iconst (x := 0) rfl rfl rfl (ws_iv rfl rfl rfl ?_))
  refine mv_deep (d := d + 1) (by omega) (y_wordA (k := 0) h hi (by decide) ?_)
  rw [show yW T0 (pc + 0) = _ from hw]
  refine ws_istore_n rfl rfl rfl rfl (ws_iload_n rfl (rfl) rfl (ws_bipush (x := 30) rfl rfl rfl (ws_i rfl ⟨fun _ => ?_, fun z => absurd z (show ¬ (16 : Int32) = 30 by decide)⟩)))
  refine ws_iload_n rfl (rfl) rfl (ws_bipush (x := 12) rfl rfl rfl (ws_i rfl ⟨fun _ => ?_, fun z => absurd (show (12 : Int32) ≤ 16 by decide) z⟩))
  refine ws_iload_n rfl (rfl) rfl (ws_bipush (x := 19) rfl rfl rfl (ws_i rfl ⟨fun z => absurd z (show ¬ (19 : Int32) ≤ 16 by decide), fun _ => ?_⟩))
  refine ws_aload_n rfl (rfl) rfl (ws_iload_n rfl (rfl) rfl (ws_iv rfl rfl rfl ?_))
  refine mv_big_mono _ _ (Nat.le_refl _) _ _ _ _ _ (fun r T1 z => ?_) inn
  obtain ⟨rfl, z⟩ := z
  refine ws_goto (t := 58) rfl (by decide) (ws_i rfl ?_)
  exact z
end YB

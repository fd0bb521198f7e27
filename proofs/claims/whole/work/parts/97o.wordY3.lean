/-! THE REFERENCE'S WORDS: asking a map, key by key -/
theorem nI_m3 (n : Nat) : nI (n + 3) - 3 = nI n := by
  rw [show nI (n + 3) = nI n + 3 from (nI_add n 3).symm, Int32.add_sub_cancel]
section YB
variable {d : Nat} {P : Option Value → mv_S → Prop} {T0 T T' : mv_S} {σ : Nat → Nat} {sd : Int32} {rm pc pc' : Nat} {e x y2 a b : Int32} {rets : List Nat} {K D0 : List aI} {Ks : List (List aI)} {vs : Nat → Int32} {mp : Nat → tT} {told : List Int32} {most v w : Nat} {U : tT} {q : Option Int32}
theorem yA_drop (h : yA T0 T σ sd rm pc e rets (D0 ++ K) Ks vs mp told most) : yA T0 (mv_pf T 0 48 (nI (K ++ Ks.flatten).length)) σ sd rm pc e rets K Ks vs mp told most := by
  have a4 := h.2.2.2.1
  rw [List.append_assoc] at a4
  refine yA_stk (K' := K) h (fun o f a => by rw [pf_get, if_neg (by omega)]) (fun o i a => rfl) ⟨by rw [pf_get, if_neg (by omega)]; exact h.2.2.1.1, by rw [pf_get, if_neg (by omega)]; exact h.2.2.1.2⟩ ⟨by rw [pf_get, if_pos ⟨rfl, rfl⟩], yAs_go (T := T) (T' := mv_pf T 0 48 (nI (K ++ Ks.flatten).length)) (fun o i _ _ => rfl) (fun p o hp _ _ => rfl) (yAs_app a4.2)⟩ (fun U c z => Or.inr (Or.inr (Or.inr ?_)))
  rw [List.append_assoc]
  exact yZr_app (yZr_go (T := T) (T' := mv_pf T 0 48 (nI (K ++ Ks.flatten).length)) (fun p hp => rfl) z)
theorem yA_mf (h : yA T0 T σ sd rm pc e rets K Ks vs mp told most) (g : yMf T T') : yA T0 T' σ sd rm pc e rets K Ks vs mp told most := by
  have h0 := h
  obtain ⟨a1, a2, a3, a4, a5, a6, a7, a8, a9, a10⟩ := h
  have f : ∀ o f, ¬ (o = 0 ∧ f = 30) → T'.1 o f = T.1 o f := g.1
  have r : ∀ o i, o ≠ 17 → o ≠ 18 → T'.2.1 o i = T.2.1 o i := g.2.1
  have hs : yHs T T' := fun o i _ _ => r o i (by omega) (by omega)
  refine yA_gen h0 ⟨fun o g a => f o g (fun z => a ⟨z.1, by unfold yFs; omega⟩), fun o i a => r o i (by omega) (by omega)⟩ hs ⟨(f 0 51 (by omega)).trans a3.1, (f 0 53 (by omega)).trans a3.2⟩ ⟨(f 0 48 (by omega)).trans a4.1, yAs_go hs (fun p o _ _ _ => r o p (by omega) (by omega)) a4.2⟩ ⟨(f 0 43 (by omega)).trans a5.1, a5.2.1, yBs_go (fun o i _ _ => r o i (by omega) (by omega)) a5.2.2⟩ ⟨fun i hi => (r 19 i (by decide) (by decide)).trans (a6.1 i hi), fun k hk => (r 21 k (by decide) (by decide)).trans (a6.2 k hk)⟩ ⟨fun i hi => by rw [r 20 i (by decide) (by decide)]; exact yTr_hs hs (a7.1 i hi), fun k hk => by rw [r 22 k (by decide) (by decide)]; exact yTr_hs hs (a7.2 k hk)⟩ ⟨(f 0 50 (by omega)).trans a8.1, a8.2.1, fun p y hp => (r 29 p (by decide) (by decide)).trans (a8.2.2 p y hp)⟩ ((f 0 33 (by omega)).trans a9) (fun U c z => Or.inr ?_)
  rcases z with ⟨i, i1, i2, i3⟩ | ⟨i, i1, i2, i3⟩ | z
  · exact Or.inl ⟨i, i1, i2, by rw [i3]; exact r 20 i (by decide) (by decide)⟩
  · exact Or.inr (Or.inl ⟨i, i1, i2, by rw [i3]; exact r 22 i (by decide) (by decide)⟩)
  · exact Or.inr (Or.inr (yZr_go (fun p _ => r 26 p (by decide) (by decide)) z))
theorem yTr_v : ∀ {U : tT} {c : Int32}, yTr T σ U c → (U = .leaf ∧ c = 0) ∨ (¬ U = .leaf ∧ ∃ i, 1 ≤ i ∧ i ≤ 899 ∧ c = nI i ∧ T.2.1 13 i = tKy U ∧ T.2.1 14 i = tV U)
  | .leaf, _, h => Or.inl ⟨rfl, h⟩
  | .inner _ _ _ _ _, _, ⟨i, i1, i2, i3, _, i5, i6, _⟩ => Or.inr ⟨fun z => (by cases z), i, i1, i2, i3, i5, i6⟩
set_option maxHeartbeats 1000000 in
set_option maxRecDepth 8000 in
theorem y_pf25 (h : yA T0 T σ sd rm pc e rets (.inl x :: .inr (U, q) :: K) Ks vs mp told most) (hi : yIn T0 pc) (hw : yW T0 pc = 25) (hq : (K ++ Ks.flatten).length < 1990)
    (hP : ∀ T', yA T0 T' σ sd rm (pc + 1) e rets (.inl (tV (tFnd x U)) :: K) Ks vs mp told most → P none T') : mv_big layY sysY (d + 6) 58 [.ref 0] T P := by
  have inn : mv_big layY sysY (d + 5) 65 [.ref 0, .int 25] T (fun r T1 => r = none ∧ P none T1) := by
    have e48 : T.1 0 48 = nI ((K ++ Ks.flatten).length + 2) := h.2.2.2.1.1
    have as : (T.2.1 25 ((K ++ Ks.flatten).length + 1) = 0 ∧ T.2.1 26 ((K ++ Ks.flatten).length + 1) = x) ∧ (T.2.1 25 (K ++ Ks.flatten).length = 1 ∧ yTr T σ U (T.2.1 26 (K ++ Ks.flatten).length) ∧ yGo T (K ++ Ks.flatten).length q) ∧ yAs T σ (K ++ Ks.flatten) := h.2.2.2.1.2
    have t := as.2.1.2.1
    have v0 : vp_in (nI (K ++ Ks.flatten).length) 4000 := vp_in_nI (by omega) (by decide)
    have c0 : (nI (K ++ Ks.flatten).length).toNatClampNeg = (K ++ Ks.flatten).length := nI_clamp (by omega)
    have v1 : vp_in (nI ((K ++ Ks.flatten).length + 1)) 4000 := vp_in_nI (by omega) (by decide)
    have c1 : (nI ((K ++ Ks.flatten).length + 1)).toNatClampNeg = ((K ++ Ks.flatten).length + 1) := nI_clamp (by omega)
    have v2 : vp_in (nI ((K ++ Ks.flatten).length + 2)) 4000 := vp_in_nI (by omega) (by decide)
    have c2 : (nI ((K ++ Ks.flatten).length + 2)).toNatClampNeg = ((K ++ Ks.flatten).length + 2) := nI_clamp (by omega)
    have lk : mv_big layY sysY (d + 4) 67 [.ref 0, .int 25] T (fun r T1 => r = none ∧ P none T1) := by
      refine ⟨120, ?_⟩
      refine ws_aload_n rfl (rfl) rfl (ws_geti rfl rfl (e48) rfl (ws_iload_n rfl (rfl) rfl (ws_bipush (x := 28) rfl rfl rfl (ws_i rfl ⟨fun _ => ?_, fun z => absurd z (show ¬ (25 : Int32) = 28 by decide)⟩))))
      refine ws_iload_n rfl (rfl) rfl (ws_bipush (x := 27) rfl rfl rfl (ws_i rfl ⟨fun _ => ?_, fun z => absurd z (show ¬ (25 : Int32) = 27 by decide)⟩))
      refine ws_iconst (x := 2) rfl rfl rfl (ws_isub rfl (nI_m2 _) rfl (ws_istore_n rfl rfl rfl rfl (ws_aload_n rfl (rfl) rfl (ws_getr rfl rfl rfl (ws_iload_n rfl (rfl) rfl (ws_i rfl ⟨v0, ?_⟩))))))
      rw [c0]
      refine ws_istore_n rfl rfl rfl rfl (ws_iconst (x := 0) rfl rfl rfl (ws_istore rfl rfl rfl rfl (ws_iload_n rfl (rfl) rfl (ws_bipush (x := 25) rfl rfl rfl (ws_i rfl ⟨fun z => absurd rfl z, fun _ => ?_⟩)))))
      refine ws_aload_n rfl (rfl) rfl (ws_iload_n rfl (rfl) rfl (ws_aload_n rfl (rfl) rfl (ws_getr rfl rfl rfl (ws_iload_n rfl (rfl) rfl (ws_iconst (x := 1) rfl rfl rfl (ws_iadd rfl (nI_1 _) rfl (ws_i rfl ⟨v1, ?_⟩)))))))
      rw [c1, as.1.2]
      refine ws_iv rfl rfl rfl ?_
      obtain ⟨c', f1, f2⟩ := y_fnd (k := x) (n := tN U + 1) (by omega) t
      refine mv_deep (d := d + 1) (by omega) (y_find f1 ?_)
      rcases yTr_v f2 with ⟨z1, z2⟩ | ⟨z1, i, i1, i8, z2, z3, z4⟩
      · rw [z2]
        refine ws_istore rfl rfl rfl rfl (ws_iload rfl (rfl) rfl (ws_i rfl ⟨fun _ => ?_, fun z => absurd (show (0 : Int32) ≤ 0 by decide) z⟩))
        refine ws_iconst (x := 0) rfl rfl rfl (ws_istore rfl rfl rfl rfl (ws_goto (t := 167) rfl (by decide) ?_))
        have h1 := yA_drop (D0 := [.inl x, .inr (U, q)]) (K := K) h
        refine ws_aload_n rfl (rfl) rfl (ws_iload_n rfl (rfl) rfl (ws_puti rfl rfl rfl (ws_aload_n rfl (rfl) rfl (ws_iload rfl (rfl) rfl (ws_iv rfl rfl rfl ?_)))))
        refine mv_deep (d := d + 1) (by omega) (y_pushA h1 (by omega) (fun T2 h2 => ?_))
        refine ws_aload_n rfl (rfl) rfl (ws_dup_r rfl rfl (ws_geti rfl rfl (h2.2.2.1.1) rfl (ws_iconst (x := 1) rfl rfl rfl (ws_iadd rfl (nI_1 _) rfl (ws_puti rfl rfl rfl (ws_i rfl ?_))))))
        exact ⟨rfl, hP _ (by rw [z1]; exact yA_next h2)⟩
      · rw [z2]
        have g1 : ¬ nI i ≤ 0 := fun z => absurd z (by rw [← nI_0]; exact nI_ge (by omega) (by omega))
        have vi : vp_in (nI i) 900 := vp_in_nI (by omega) (by decide)
        have ci : (nI i).toNatClampNeg = i := nI_clamp (by omega)
        refine ws_istore rfl rfl rfl rfl (ws_iload rfl (rfl) rfl (ws_i rfl ⟨fun z => absurd z g1, fun _ => ?_⟩))
        refine ws_aload_n rfl (rfl) rfl (ws_getr rfl rfl rfl (ws_iload rfl (rfl) rfl (ws_i rfl ⟨vi, ?_⟩)))
        rw [ci, z4]
        refine ws_goto (t := 74) rfl (by decide) (ws_istore rfl rfl rfl rfl (ws_goto (t := 167) rfl (by decide) ?_))
        have h1 := yA_drop (D0 := [.inl x, .inr (U, q)]) (K := K) h
        refine ws_aload_n rfl (rfl) rfl (ws_iload_n rfl (rfl) rfl (ws_puti rfl rfl rfl (ws_aload_n rfl (rfl) rfl (ws_iload rfl (rfl) rfl (ws_iv rfl rfl rfl ?_)))))
        refine mv_deep (d := d + 1) (by omega) (y_pushA h1 (by omega) (fun T2 h2 => ?_))
        refine ws_aload_n rfl (rfl) rfl (ws_dup_r rfl rfl (ws_geti rfl rfl (h2.2.2.1.1) rfl (ws_iconst (x := 1) rfl rfl rfl (ws_iadd rfl (nI_1 _) rfl (ws_puti rfl rfl rfl (ws_i rfl ?_))))))
        exact ⟨rfl, hP _ (yA_next h2)⟩
    refine ⟨20, ?_⟩
    refine ws_iload_n rfl (rfl) rfl (ws_tab (t := 174) rfl rfl (by decide) (ws_aload_n rfl (rfl) rfl (ws_iload_n rfl (rfl) rfl (ws_iv rfl rfl rfl ?_))))
    refine mv_big_mono _ _ (Nat.le_refl _) _ _ _ _ _ (fun r T1 z => ?_) lk
    obtain ⟨rfl, z⟩ := z
    refine ws_i rfl ?_
    exact ⟨rfl, z⟩
  refine ⟨40, ?_⟩
  refine ws_aload_n rfl (rfl) rfl (ws_iconst (x := 0) rfl rfl rfl (ws_iv rfl rfl rfl ?_))
  refine mv_deep (d := d + 1) (by omega) (y_wordA (k := 0) h hi (by decide) ?_)
  rw [show yW T0 (pc + 0) = _ from hw]
  refine ws_istore_n rfl rfl rfl rfl (ws_iload_n rfl (rfl) rfl (ws_bipush (x := 30) rfl rfl rfl (ws_i rfl ⟨fun _ => ?_, fun z => absurd z (show ¬ (25 : Int32) = 30 by decide)⟩)))
  refine ws_iload_n rfl (rfl) rfl (ws_bipush (x := 12) rfl rfl rfl (ws_i rfl ⟨fun _ => ?_, fun z => absurd (show (12 : Int32) ≤ 25 by decide) z⟩))
  refine ws_iload_n rfl (rfl) rfl (ws_bipush (x := 19) rfl rfl rfl (ws_i rfl ⟨fun _ => ?_, fun z => absurd (show (19 : Int32) ≤ 25 by decide) z⟩))
  refine ws_aload_n rfl (rfl) rfl (ws_iload_n rfl (rfl) rfl (ws_iv rfl rfl rfl ?_))
  refine mv_big_mono _ _ (Nat.le_refl _) _ _ _ _ _ (fun r T1 z => ?_) inn
  obtain ⟨rfl, z⟩ := z
  refine ws_i rfl ?_
  exact z
set_option maxHeartbeats 1000000 in
set_option maxRecDepth 8000 in
theorem y_pf26 (h : yA T0 T σ sd rm pc e rets (.inl x :: .inr (U, q) :: K) Ks vs mp told most) (hi : yIn T0 pc) (hw : yW T0 pc = 26) (hq : (K ++ Ks.flatten).length < 1990)
    (hP : ∀ T', yA T0 T' σ sd rm (pc + 1) e rets (.inl (tIf (tFnd x U) 0 1) :: K) Ks vs mp told most → P none T') : mv_big layY sysY (d + 6) 58 [.ref 0] T P := by
  have inn : mv_big layY sysY (d + 5) 65 [.ref 0, .int 26] T (fun r T1 => r = none ∧ P none T1) := by
    have e48 : T.1 0 48 = nI ((K ++ Ks.flatten).length + 2) := h.2.2.2.1.1
    have as : (T.2.1 25 ((K ++ Ks.flatten).length + 1) = 0 ∧ T.2.1 26 ((K ++ Ks.flatten).length + 1) = x) ∧ (T.2.1 25 (K ++ Ks.flatten).length = 1 ∧ yTr T σ U (T.2.1 26 (K ++ Ks.flatten).length) ∧ yGo T (K ++ Ks.flatten).length q) ∧ yAs T σ (K ++ Ks.flatten) := h.2.2.2.1.2
    have t := as.2.1.2.1
    have v0 : vp_in (nI (K ++ Ks.flatten).length) 4000 := vp_in_nI (by omega) (by decide)
    have c0 : (nI (K ++ Ks.flatten).length).toNatClampNeg = (K ++ Ks.flatten).length := nI_clamp (by omega)
    have v1 : vp_in (nI ((K ++ Ks.flatten).length + 1)) 4000 := vp_in_nI (by omega) (by decide)
    have c1 : (nI ((K ++ Ks.flatten).length + 1)).toNatClampNeg = ((K ++ Ks.flatten).length + 1) := nI_clamp (by omega)
    have v2 : vp_in (nI ((K ++ Ks.flatten).length + 2)) 4000 := vp_in_nI (by omega) (by decide)
    have c2 : (nI ((K ++ Ks.flatten).length + 2)).toNatClampNeg = ((K ++ Ks.flatten).length + 2) := nI_clamp (by omega)
    have lk : mv_big layY sysY (d + 4) 67 [.ref 0, .int 26] T (fun r T1 => r = none ∧ P none T1) := by
      refine ⟨120, ?_⟩
      refine ws_aload_n rfl (rfl) rfl (ws_geti rfl rfl (e48) rfl (ws_iload_n rfl (rfl) rfl (ws_bipush (x := 28) rfl rfl rfl (ws_i rfl ⟨fun _ => ?_, fun z => absurd z (show ¬ (26 : Int32) = 28 by decide)⟩))))
      refine ws_iload_n rfl (rfl) rfl (ws_bipush (x := 27) rfl rfl rfl (ws_i rfl ⟨fun _ => ?_, fun z => absurd z (show ¬ (26 : Int32) = 27 by decide)⟩))
      refine ws_iconst (x := 2) rfl rfl rfl (ws_isub rfl (nI_m2 _) rfl (ws_istore_n rfl rfl rfl rfl (ws_aload_n rfl (rfl) rfl (ws_getr rfl rfl rfl (ws_iload_n rfl (rfl) rfl (ws_i rfl ⟨v0, ?_⟩))))))
      rw [c0]
      refine ws_istore_n rfl rfl rfl rfl (ws_iconst (x := 0) rfl rfl rfl (ws_istore rfl rfl rfl rfl (ws_iload_n rfl (rfl) rfl (ws_bipush (x := 25) rfl rfl rfl (ws_i rfl ⟨fun _ => ?_, fun z => absurd z (show ¬ (26 : Int32) = 25 by decide)⟩)))))
      refine ws_iload_n rfl (rfl) rfl (ws_bipush (x := 26) rfl rfl rfl (ws_i rfl ⟨fun z => absurd rfl z, fun _ => ?_⟩))
      refine ws_aload_n rfl (rfl) rfl (ws_iload_n rfl (rfl) rfl (ws_aload_n rfl (rfl) rfl (ws_getr rfl rfl rfl (ws_iload_n rfl (rfl) rfl (ws_iconst (x := 1) rfl rfl rfl (ws_iadd rfl (nI_1 _) rfl (ws_i rfl ⟨v1, ?_⟩)))))))
      rw [c1, as.1.2]
      refine ws_iv rfl rfl rfl ?_
      obtain ⟨c', f1, f2⟩ := y_fnd (k := x) (n := tN U + 1) (by omega) t
      refine mv_deep (d := d + 1) (by omega) (y_find f1 ?_)
      rcases yTr_v f2 with ⟨z1, z2⟩ | ⟨z1, i, i1, i8, z2, z3, z4⟩
      · rw [z2]
        refine ws_i rfl ⟨fun _ => ?_, fun z => absurd (show (0 : Int32) ≤ 0 by decide) z⟩
        refine ws_iconst (x := 0) rfl rfl rfl (ws_istore rfl rfl rfl rfl (ws_goto (t := 167) rfl (by decide) ?_))
        have h1 := yA_drop (D0 := [.inl x, .inr (U, q)]) (K := K) h
        refine ws_aload_n rfl (rfl) rfl (ws_iload_n rfl (rfl) rfl (ws_puti rfl rfl rfl (ws_aload_n rfl (rfl) rfl (ws_iload rfl (rfl) rfl (ws_iv rfl rfl rfl ?_)))))
        refine mv_deep (d := d + 1) (by omega) (y_pushA h1 (by omega) (fun T2 h2 => ?_))
        refine ws_aload_n rfl (rfl) rfl (ws_dup_r rfl rfl (ws_geti rfl rfl (h2.2.2.1.1) rfl (ws_iconst (x := 1) rfl rfl rfl (ws_iadd rfl (nI_1 _) rfl (ws_puti rfl rfl rfl (ws_i rfl ?_))))))
        exact ⟨rfl, hP _ (by rw [tIf_l z1]; exact yA_next h2)⟩
      · rw [z2]
        have g1 : ¬ nI i ≤ 0 := fun z => absurd z (by rw [← nI_0]; exact nI_ge (by omega) (by omega))
        refine ws_i rfl ⟨fun z => absurd z g1, fun _ => ?_⟩
        refine ws_iconst (x := 1) rfl rfl rfl (ws_goto (t := 106) rfl (by decide) (ws_istore rfl rfl rfl rfl (ws_goto (t := 167) rfl (by decide) ?_)))
        have h1 := yA_drop (D0 := [.inl x, .inr (U, q)]) (K := K) h
        refine ws_aload_n rfl (rfl) rfl (ws_iload_n rfl (rfl) rfl (ws_puti rfl rfl rfl (ws_aload_n rfl (rfl) rfl (ws_iload rfl (rfl) rfl (ws_iv rfl rfl rfl ?_)))))
        refine mv_deep (d := d + 1) (by omega) (y_pushA h1 (by omega) (fun T2 h2 => ?_))
        refine ws_aload_n rfl (rfl) rfl (ws_dup_r rfl rfl (ws_geti rfl rfl (h2.2.2.1.1) rfl (ws_iconst (x := 1) rfl rfl rfl (ws_iadd rfl (nI_1 _) rfl (ws_puti rfl rfl rfl (ws_i rfl ?_))))))
        exact ⟨rfl, hP _ (by rw [tIf_n z1]; exact yA_next h2)⟩
    refine ⟨20, ?_⟩
    refine ws_iload_n rfl (rfl) rfl (ws_tab (t := 174) rfl rfl (by decide) (ws_aload_n rfl (rfl) rfl (ws_iload_n rfl (rfl) rfl (ws_iv rfl rfl rfl ?_))))
    refine mv_big_mono _ _ (Nat.le_refl _) _ _ _ _ _ (fun r T1 z => ?_) lk
    obtain ⟨rfl, z⟩ := z
    refine ws_i rfl ?_
    exact ⟨rfl, z⟩
  refine ⟨40, ?_⟩
  refine ws_aload_n rfl (rfl) rfl (ws_iconst (x := 0) rfl rfl rfl (ws_iv rfl rfl rfl ?_))
  refine mv_deep (d := d + 1) (by omega) (y_wordA (k := 0) h hi (by decide) ?_)
  rw [show yW T0 (pc + 0) = _ from hw]
  refine ws_istore_n rfl rfl rfl rfl (ws_iload_n rfl (rfl) rfl (ws_bipush (x := 30) rfl rfl rfl (ws_i rfl ⟨fun _ => ?_, fun z => absurd z (show ¬ (26 : Int32) = 30 by decide)⟩)))
  refine ws_iload_n rfl (rfl) rfl (ws_bipush (x := 12) rfl rfl rfl (ws_i rfl ⟨fun _ => ?_, fun z => absurd (show (12 : Int32) ≤ 26 by decide) z⟩))
  refine ws_iload_n rfl (rfl) rfl (ws_bipush (x := 19) rfl rfl rfl (ws_i rfl ⟨fun _ => ?_, fun z => absurd (show (19 : Int32) ≤ 26 by decide) z⟩))
  refine ws_aload_n rfl (rfl) rfl (ws_iload_n rfl (rfl) rfl (ws_iv rfl rfl rfl ?_))
  refine mv_big_mono _ _ (Nat.le_refl _) _ _ _ _ _ (fun r T1 z => ?_) inn
  obtain ⟨rfl, z⟩ := z
  refine ws_i rfl ?_
  exact z
set_option maxHeartbeats 1000000 in
set_option maxRecDepth 8000 in
theorem y_pf27 (h : yA T0 T σ sd rm pc e rets (.inr (U, q) :: K) Ks vs mp told most) (hi : yIn T0 pc) (hw : yW T0 pc = 27) (hn : tN U ≤ 800) (hq : (K ++ Ks.flatten).length < 1990)
    (hP : ∀ T', yA T0 T' σ sd rm (pc + 1) e rets (.inl (nI (tN U)) :: K) Ks vs mp told most → P none T') : mv_big layY sysY (d + 6) 58 [.ref 0] T P := by
  have inn : mv_big layY sysY (d + 5) 65 [.ref 0, .int 27] T (fun r T1 => r = none ∧ P none T1) := by
    have e48 : T.1 0 48 = nI ((K ++ Ks.flatten).length + 1) := h.2.2.2.1.1
    have as : (T.2.1 25 (K ++ Ks.flatten).length = 1 ∧ yTr T σ U (T.2.1 26 (K ++ Ks.flatten).length) ∧ yGo T (K ++ Ks.flatten).length q) ∧ yAs T σ (K ++ Ks.flatten) := h.2.2.2.1.2
    have t := as.1.2.1
    have v0 : vp_in (nI (K ++ Ks.flatten).length) 4000 := vp_in_nI (by omega) (by decide)
    have c0 : (nI (K ++ Ks.flatten).length).toNatClampNeg = (K ++ Ks.flatten).length := nI_clamp (by omega)
    have v1 : vp_in (nI ((K ++ Ks.flatten).length + 1)) 4000 := vp_in_nI (by omega) (by decide)
    have c1 : (nI ((K ++ Ks.flatten).length + 1)).toNatClampNeg = ((K ++ Ks.flatten).length + 1) := nI_clamp (by omega)
    have v2 : vp_in (nI ((K ++ Ks.flatten).length + 2)) 4000 := vp_in_nI (by omega) (by decide)
    have c2 : (nI ((K ++ Ks.flatten).length + 2)).toNatClampNeg = ((K ++ Ks.flatten).length + 2) := nI_clamp (by omega)
    have lk : mv_big layY sysY (d + 4) 67 [.ref 0, .int 27] T (fun r T1 => r = none ∧ P none T1) := by
      refine ⟨120, ?_⟩
      refine ws_aload_n rfl (rfl) rfl (ws_geti rfl rfl (e48) rfl (ws_iload_n rfl (rfl) rfl (ws_bipush (x := 28) rfl rfl rfl (ws_i rfl ⟨fun _ => ?_, fun z => absurd z (show ¬ (27 : Int32) = 28 by decide)⟩))))
      refine ws_iload_n rfl (rfl) rfl (ws_bipush (x := 27) rfl rfl rfl (ws_i rfl ⟨fun z => absurd rfl z, fun _ => ?_⟩))
      refine ws_iconst (x := 1) rfl rfl rfl (ws_goto (t := 25) rfl (by decide) (ws_isub rfl (nI_pred _) rfl (ws_istore_n rfl rfl rfl rfl (ws_aload_n rfl (rfl) rfl (ws_getr rfl rfl rfl (ws_iload_n rfl (rfl) rfl (ws_i rfl ⟨v0, ?_⟩)))))))
      rw [c0]
      refine ws_istore_n rfl rfl rfl rfl (ws_iconst (x := 0) rfl rfl rfl (ws_istore rfl rfl rfl rfl (ws_iload_n rfl (rfl) rfl (ws_bipush (x := 25) rfl rfl rfl (ws_i rfl ⟨fun _ => ?_, fun z => absurd z (show ¬ (27 : Int32) = 25 by decide)⟩)))))
      refine ws_iload_n rfl (rfl) rfl (ws_bipush (x := 26) rfl rfl rfl (ws_i rfl ⟨fun _ => ?_, fun z => absurd z (show ¬ (27 : Int32) = 26 by decide)⟩))
      refine ws_iload_n rfl (rfl) rfl (ws_bipush (x := 27) rfl rfl rfl (ws_i rfl ⟨fun z => absurd rfl z, fun _ => ?_⟩))
      refine ws_aload_n rfl (rfl) rfl (ws_iload_n rfl (rfl) rfl (ws_iv rfl rfl rfl ?_))
      refine mv_deep (d := d + 1) (by omega) (y_size t hn (fun T1 g1 => ?_))
      have h0 := yA_mf h g1
      refine ws_istore rfl rfl rfl rfl (ws_goto (t := 167) rfl (by decide) ?_)
      have h1 := yA_drop (D0 := [.inr (U, q)]) (K := K) h0
      refine ws_aload_n rfl (rfl) rfl (ws_iload_n rfl (rfl) rfl (ws_puti rfl rfl rfl (ws_aload_n rfl (rfl) rfl (ws_iload rfl (rfl) rfl (ws_iv rfl rfl rfl ?_)))))
      refine mv_deep (d := d + 1) (by omega) (y_pushA h1 (by omega) (fun T2 h2 => ?_))
      refine ws_aload_n rfl (rfl) rfl (ws_dup_r rfl rfl (ws_geti rfl rfl (h2.2.2.1.1) rfl (ws_iconst (x := 1) rfl rfl rfl (ws_iadd rfl (nI_1 _) rfl (ws_puti rfl rfl rfl (ws_i rfl ?_))))))
      exact ⟨rfl, hP _ (yA_next h2)⟩
    refine ⟨20, ?_⟩
    refine ws_iload_n rfl (rfl) rfl (ws_tab (t := 174) rfl rfl (by decide) (ws_aload_n rfl (rfl) rfl (ws_iload_n rfl (rfl) rfl (ws_iv rfl rfl rfl ?_))))
    refine mv_big_mono _ _ (Nat.le_refl _) _ _ _ _ _ (fun r T1 z => ?_) lk
    obtain ⟨rfl, z⟩ := z
    refine ws_i rfl ?_
    exact ⟨rfl, z⟩
  refine ⟨40, ?_⟩
  refine ws_aload_n rfl (rfl) rfl (ws_iconst (x := 0) rfl rfl rfl (ws_iv rfl rfl rfl ?_))
  refine mv_deep (d := d + 1) (by omega) (y_wordA (k := 0) h hi (by decide) ?_)
  rw [show yW T0 (pc + 0) = _ from hw]
  refine ws_istore_n rfl rfl rfl rfl (ws_iload_n rfl (rfl) rfl (ws_bipush (x := 30) rfl rfl rfl (ws_i rfl ⟨fun _ => ?_, fun z => absurd z (show ¬ (27 : Int32) = 30 by decide)⟩)))
  refine ws_iload_n rfl (rfl) rfl (ws_bipush (x := 12) rfl rfl rfl (ws_i rfl ⟨fun _ => ?_, fun z => absurd (show (12 : Int32) ≤ 27 by decide) z⟩))
  refine ws_iload_n rfl (rfl) rfl (ws_bipush (x := 19) rfl rfl rfl (ws_i rfl ⟨fun _ => ?_, fun z => absurd (show (19 : Int32) ≤ 27 by decide) z⟩))
  refine ws_aload_n rfl (rfl) rfl (ws_iload_n rfl (rfl) rfl (ws_iv rfl rfl rfl ?_))
  refine mv_big_mono _ _ (Nat.le_refl _) _ _ _ _ _ (fun r T1 z => ?_) inn
  obtain ⟨rfl, z⟩ := z
  refine ws_i rfl ?_
  exact z
set_option maxHeartbeats 1000000 in
set_option maxRecDepth 8000 in
theorem y_pf28 (h : yA T0 T σ sd rm pc e rets (.inl y2 :: .inl x :: .inr (U, q) :: K) Ks vs mp told most) (hi : yIn T0 pc) (hw : yW T0 pc = 28) (hq : (K ++ Ks.flatten).length < 1990)
    (hP : ∀ T', yA T0 T' σ sd rm (pc + 1) e rets (.inl (tIf (tFlo x .leaf U) y2 (tKy (tFlo x .leaf U))) :: K) Ks vs mp told most → P none T') : mv_big layY sysY (d + 6) 58 [.ref 0] T P := by
  have inn : mv_big layY sysY (d + 5) 65 [.ref 0, .int 28] T (fun r T1 => r = none ∧ P none T1) := by
    have e48 : T.1 0 48 = nI ((K ++ Ks.flatten).length + 3) := h.2.2.2.1.1
    have as : (T.2.1 25 ((K ++ Ks.flatten).length + 2) = 0 ∧ T.2.1 26 ((K ++ Ks.flatten).length + 2) = y2) ∧ (T.2.1 25 ((K ++ Ks.flatten).length + 1) = 0 ∧ T.2.1 26 ((K ++ Ks.flatten).length + 1) = x) ∧ (T.2.1 25 (K ++ Ks.flatten).length = 1 ∧ yTr T σ U (T.2.1 26 (K ++ Ks.flatten).length) ∧ yGo T (K ++ Ks.flatten).length q) ∧ yAs T σ (K ++ Ks.flatten) := h.2.2.2.1.2
    have t := as.2.2.1.2.1
    have v0 : vp_in (nI (K ++ Ks.flatten).length) 4000 := vp_in_nI (by omega) (by decide)
    have c0 : (nI (K ++ Ks.flatten).length).toNatClampNeg = (K ++ Ks.flatten).length := nI_clamp (by omega)
    have v1 : vp_in (nI ((K ++ Ks.flatten).length + 1)) 4000 := vp_in_nI (by omega) (by decide)
    have c1 : (nI ((K ++ Ks.flatten).length + 1)).toNatClampNeg = ((K ++ Ks.flatten).length + 1) := nI_clamp (by omega)
    have v2 : vp_in (nI ((K ++ Ks.flatten).length + 2)) 4000 := vp_in_nI (by omega) (by decide)
    have c2 : (nI ((K ++ Ks.flatten).length + 2)).toNatClampNeg = ((K ++ Ks.flatten).length + 2) := nI_clamp (by omega)
    have lk : mv_big layY sysY (d + 4) 67 [.ref 0, .int 28] T (fun r T1 => r = none ∧ P none T1) := by
      refine ⟨120, ?_⟩
      refine ws_aload_n rfl (rfl) rfl (ws_geti rfl rfl (e48) rfl (ws_iload_n rfl (rfl) rfl (ws_bipush (x := 28) rfl rfl rfl (ws_i rfl ⟨fun z => absurd rfl z, fun _ => ?_⟩))))
      refine ws_iconst (x := 3) rfl rfl rfl (ws_goto (t := 25) rfl (by decide) (ws_isub rfl (nI_m3 _) rfl (ws_istore_n rfl rfl rfl rfl (ws_aload_n rfl (rfl) rfl (ws_getr rfl rfl rfl (ws_iload_n rfl (rfl) rfl (ws_i rfl ⟨v0, ?_⟩)))))))
      rw [c0]
      refine ws_istore_n rfl rfl rfl rfl (ws_iconst (x := 0) rfl rfl rfl (ws_istore rfl rfl rfl rfl (ws_iload_n rfl (rfl) rfl (ws_bipush (x := 25) rfl rfl rfl (ws_i rfl ⟨fun _ => ?_, fun z => absurd z (show ¬ (28 : Int32) = 25 by decide)⟩)))))
      refine ws_iload_n rfl (rfl) rfl (ws_bipush (x := 26) rfl rfl rfl (ws_i rfl ⟨fun _ => ?_, fun z => absurd z (show ¬ (28 : Int32) = 26 by decide)⟩))
      refine ws_iload_n rfl (rfl) rfl (ws_bipush (x := 27) rfl rfl rfl (ws_i rfl ⟨fun _ => ?_, fun z => absurd z (show ¬ (28 : Int32) = 27 by decide)⟩))
      refine ws_aload_n rfl (rfl) rfl (ws_iload_n rfl (rfl) rfl (ws_aload_n rfl (rfl) rfl (ws_getr rfl rfl rfl (ws_iload_n rfl (rfl) rfl (ws_iconst (x := 1) rfl rfl rfl (ws_iadd rfl (nI_1 _) rfl (ws_i rfl ⟨v1, ?_⟩)))))))
      rw [c1, as.2.1.2]
      refine ws_iv rfl rfl rfl ?_
      obtain ⟨c', f1, f2⟩ := y_flo (k := x) (n := tN U + 1) (b := .leaf) (d := 0) (by omega) t rfl
      refine mv_deep (d := d + 1) (by omega) (y_floor f1 ?_)
      rcases yTr_v f2 with ⟨z1, z2⟩ | ⟨z1, i, i1, i8, z2, z3, z4⟩
      · rw [z2]
        refine ws_istore rfl rfl rfl rfl (ws_iload rfl (rfl) rfl (ws_i rfl ⟨fun _ => ?_, fun z => absurd (show (0 : Int32) ≤ 0 by decide) z⟩))
        refine ws_aload_n rfl (rfl) rfl (ws_getr rfl rfl rfl (ws_iload_n rfl (rfl) rfl (ws_iconst (x := 2) rfl rfl rfl (ws_iadd rfl (nI_add _ 2) rfl (ws_i rfl ⟨v2, ?_⟩)))))
        rw [c2, as.1.2]
        refine ws_istore rfl rfl rfl rfl ?_
        have h1 := yA_drop (D0 := [.inl y2, .inl x, .inr (U, q)]) (K := K) h
        refine ws_aload_n rfl (rfl) rfl (ws_iload_n rfl (rfl) rfl (ws_puti rfl rfl rfl (ws_aload_n rfl (rfl) rfl (ws_iload rfl (rfl) rfl (ws_iv rfl rfl rfl ?_)))))
        refine mv_deep (d := d + 1) (by omega) (y_pushA h1 (by omega) (fun T2 h2 => ?_))
        refine ws_aload_n rfl (rfl) rfl (ws_dup_r rfl rfl (ws_geti rfl rfl (h2.2.2.1.1) rfl (ws_iconst (x := 1) rfl rfl rfl (ws_iadd rfl (nI_1 _) rfl (ws_puti rfl rfl rfl (ws_i rfl ?_))))))
        exact ⟨rfl, hP _ (by rw [tIf_l z1]; exact yA_next h2)⟩
      · rw [z2]
        have g1 : ¬ nI i ≤ 0 := fun z => absurd z (by rw [← nI_0]; exact nI_ge (by omega) (by omega))
        have vi : vp_in (nI i) 900 := vp_in_nI (by omega) (by decide)
        have ci : (nI i).toNatClampNeg = i := nI_clamp (by omega)
        refine ws_istore rfl rfl rfl rfl (ws_iload rfl (rfl) rfl (ws_i rfl ⟨fun z => absurd z g1, fun _ => ?_⟩))
        refine ws_aload_n rfl (rfl) rfl (ws_getr rfl rfl rfl (ws_iload rfl (rfl) rfl (ws_i rfl ⟨vi, ?_⟩)))
        rw [ci, z3]
        refine ws_goto (t := 165) rfl (by decide) (ws_istore rfl rfl rfl rfl ?_)
        have h1 := yA_drop (D0 := [.inl y2, .inl x, .inr (U, q)]) (K := K) h
        refine ws_aload_n rfl (rfl) rfl (ws_iload_n rfl (rfl) rfl (ws_puti rfl rfl rfl (ws_aload_n rfl (rfl) rfl (ws_iload rfl (rfl) rfl (ws_iv rfl rfl rfl ?_)))))
        refine mv_deep (d := d + 1) (by omega) (y_pushA h1 (by omega) (fun T2 h2 => ?_))
        refine ws_aload_n rfl (rfl) rfl (ws_dup_r rfl rfl (ws_geti rfl rfl (h2.2.2.1.1) rfl (ws_iconst (x := 1) rfl rfl rfl (ws_iadd rfl (nI_1 _) rfl (ws_puti rfl rfl rfl (ws_i rfl ?_))))))
        exact ⟨rfl, hP _ (by rw [tIf_n z1]; exact yA_next h2)⟩
    refine ⟨20, ?_⟩
    refine ws_iload_n rfl (rfl) rfl (ws_tab (t := 174) rfl rfl (by decide) (ws_aload_n rfl (rfl) rfl (ws_iload_n rfl (rfl) rfl (ws_iv rfl rfl rfl ?_))))
    refine mv_big_mono _ _ (Nat.le_refl _) _ _ _ _ _ (fun r T1 z => ?_) lk
    obtain ⟨rfl, z⟩ := z
    refine ws_i rfl ?_
    exact ⟨rfl, z⟩
  refine ⟨40, ?_⟩
  refine ws_aload_n rfl (rfl) rfl (ws_iconst (x := 0) rfl rfl rfl (ws_iv rfl rfl rfl ?_))
  refine mv_deep (d := d + 1) (by omega) (y_wordA (k := 0) h hi (by decide) ?_)
  rw [show yW T0 (pc + 0) = _ from hw]
  refine ws_istore_n rfl rfl rfl rfl (ws_iload_n rfl (rfl) rfl (ws_bipush (x := 30) rfl rfl rfl (ws_i rfl ⟨fun _ => ?_, fun z => absurd z (show ¬ (28 : Int32) = 30 by decide)⟩)))
  refine ws_iload_n rfl (rfl) rfl (ws_bipush (x := 12) rfl rfl rfl (ws_i rfl ⟨fun _ => ?_, fun z => absurd (show (12 : Int32) ≤ 28 by decide) z⟩))
  refine ws_iload_n rfl (rfl) rfl (ws_bipush (x := 19) rfl rfl rfl (ws_i rfl ⟨fun _ => ?_, fun z => absurd (show (19 : Int32) ≤ 28 by decide) z⟩))
  refine ws_aload_n rfl (rfl) rfl (ws_iload_n rfl (rfl) rfl (ws_iv rfl rfl rfl ?_))
  refine mv_big_mono _ _ (Nat.le_refl _) _ _ _ _ _ (fun r T1 z => ?_) inn
  obtain ⟨rfl, z⟩ := z
  refine ws_i rfl ?_
  exact z
set_option maxHeartbeats 1000000 in
set_option maxRecDepth 8000 in
theorem y_nextKeyA (h : yA T0 T σ sd rm pc e rets (.inr (U, q) :: K) Ks vs mp told most) (hq : (K ++ Ks.flatten).length < 1990) (hP : ∀ c, yTr T σ (tNx q U) c → P (some (.int c)) T) : mv_big layY sysY (d + 2) 51 [.ref 0] T P := by
  have e48 : T.1 0 48 = nI ((K ++ Ks.flatten).length + 1) := h.2.2.2.1.1
  have as : (T.2.1 25 (K ++ Ks.flatten).length = 1 ∧ yTr T σ U (T.2.1 26 (K ++ Ks.flatten).length) ∧ yGo T (K ++ Ks.flatten).length q) ∧ yAs T σ (K ++ Ks.flatten) := h.2.2.2.1.2
  have v0 : vp_in (nI (K ++ Ks.flatten).length) 4000 := vp_in_nI (by omega) (by decide)
  have c0 : (nI (K ++ Ks.flatten).length).toNatClampNeg = (K ++ Ks.flatten).length := nI_clamp (by omega)
  refine ⟨40, ?_⟩
  refine ws_aload_n rfl (rfl) rfl (ws_geti rfl rfl (e48) rfl (ws_iconst (x := 1) rfl rfl rfl (ws_isub rfl (nI_pred _) rfl (ws_istore_n rfl rfl rfl rfl (ws_aload_n rfl (rfl) rfl (ws_aload_n rfl (rfl) rfl (ws_getr rfl rfl rfl (ws_iload_n rfl (rfl) rfl (ws_i rfl ⟨v0, ?_⟩)))))))))
  rw [c0]
  refine ws_aload_n rfl (rfl) rfl (ws_getr rfl rfl rfl (ws_iload_n rfl (rfl) rfl (ws_i rfl ⟨v0, ?_⟩)))
  rw [c0]
  refine ws_aload_n rfl (rfl) rfl (ws_getr rfl rfl rfl (ws_iload_n rfl (rfl) rfl (ws_i rfl ⟨v0, ?_⟩)))
  rw [c0]
  cases q with
  | none =>
    have g : T.2.1 27 (K ++ Ks.flatten).length = 0 := as.1.2.2
    rw [g]
    refine ws_i rfl ⟨fun z => absurd rfl z, fun _ => ?_⟩
    refine ws_iconst (x := 1) rfl rfl rfl (ws_goto (t := 34) rfl (by decide) (ws_iv rfl rfl rfl ?_))
    obtain ⟨c, f1, f2⟩ := y_abv (p := aP none) (D := aD none) (k := T.2.1 28 (K ++ Ks.flatten).length) (al := 1) (n := tN U + 1) (b := .leaf) (d := 0) (fun k' => ⟨fun _ => Or.inl (by decide), fun _ => trivial⟩) (by omega) as.1.2.1 rfl
    refine y_above f1 ?_
    refine ws_i rfl ?_
    exact hP c f2
  | some k =>
    have g : T.2.1 27 (K ++ Ks.flatten).length = 1 ∧ T.2.1 28 (K ++ Ks.flatten).length = k := as.1.2.2
    rw [g.1, g.2]
    refine ws_i rfl ⟨fun _ => ?_, fun z => absurd z (show ¬ (1 : Int32) = 0 by decide)⟩
    refine ws_iconst (x := 0) rfl rfl rfl (ws_iv rfl rfl rfl ?_)
    obtain ⟨c, f1, f2⟩ := y_abv (p := aP (some k)) (D := aD (some k)) (k := k) (al := 0) (n := tN U + 1) (b := .leaf) (d := 0) (fun k' => ⟨fun z => Or.inr z, fun z => z.resolve_left (fun y => y rfl)⟩) (by omega) as.1.2.1 rfl
    refine y_above f1 ?_
    refine ws_i rfl ?_
    exact hP c f2
set_option maxHeartbeats 1000000 in
set_option maxRecDepth 8000 in
theorem y_pf29 (h : yA T0 T σ sd rm pc e rets (.inr (U, q) :: K) Ks vs mp told most) (hi : yIn T0 pc) (hw : yW T0 pc = 29) (hx1 : yW T0 (pc + 1) = nI v) (hv : v < 14) (hx2 : yW T0 (pc + 2) = nI w) (hwv : w < 14) (hx3 : yW T0 (pc + 3) = nI pc') (hq : (K ++ Ks.flatten).length < 1990) (hE : tNx q U = .leaf → ∀ T', yA T0 T' σ sd rm pc' e rets K Ks vs mp told most → P none T')
    (hP : ¬ tNx q U = .leaf → ∀ T', yA T0 T' σ sd rm (pc + 4) e rets (.inr (U, some (tKy (tNx q U))) :: K) Ks (aUp (aUp vs (aVP Ks.length v) (tKy (tNx q U))) (aVP Ks.length w) (tV (tNx q U))) mp told most → P none T') : mv_big layY sysY (d + 6) 58 [.ref 0] T P := by
  have inn : mv_big layY sysY (d + 5) 65 [.ref 0, .int 29] T (fun r T1 => r = none ∧ P none T1) := by
    have e48 : T.1 0 48 = nI ((K ++ Ks.flatten).length + 1) := h.2.2.2.1.1
    have v0 : vp_in (nI (K ++ Ks.flatten).length) 4000 := vp_in_nI (by omega) (by decide)
    have c0 : (nI (K ++ Ks.flatten).length).toNatClampNeg = (K ++ Ks.flatten).length := nI_clamp (by omega)
    have go : mv_big layY sysY (d + 4) 68 [.ref 0] T (fun r T1 => r = none ∧ P none T1) := by
      refine ⟨120, ?_⟩
      refine ws_aload_n rfl (rfl) rfl (ws_iv rfl rfl rfl ?_)
      refine mv_deep (d := d + 2) (by omega) (y_nextKeyA h hq (fun c hc => ?_))
      rcases yTr_v hc with ⟨z1, z2⟩ | ⟨z1, i, i1, i8, z2, z3, z4⟩
      · rw [z2]
        refine ws_istore_n rfl rfl rfl rfl (ws_iload_n rfl (rfl) rfl (ws_i rfl ⟨fun z => absurd rfl z, fun _ => ?_⟩))
        refine ws_aload_n rfl (rfl) rfl (ws_dup_r rfl rfl (ws_geti rfl rfl (e48) rfl (ws_iconst (x := 1) rfl rfl rfl (ws_isub rfl (nI_pred _) rfl (?_)))))
        refine ws_puti rfl rfl rfl ?_
        have h1 := yA_drop (D0 := [.inr (U, q)]) (K := K) h
        refine ws_aload_n rfl (rfl) rfl (ws_aload_n rfl (rfl) rfl (ws_iconst (x := 3) rfl rfl rfl (ws_iv rfl rfl rfl ?_)))
        refine mv_deep (d := d + 1) (by omega) (y_wordA (k := 3) h1 hi (by decide) ?_)
        rw [hx3]
        refine ws_puti rfl rfl rfl (ws_i rfl ?_)
        exact ⟨rfl, hE z1 _ (yA_next h1)⟩
      · rw [z2]
        have vi : vp_in (nI i) 900 := vp_in_nI (by omega) (by decide)
        have ci : (nI i).toNatClampNeg = i := nI_clamp (by omega)
        refine ws_istore_n rfl rfl rfl rfl (ws_iload_n rfl (rfl) rfl (ws_i rfl ⟨fun _ => ?_, fun z => absurd z (nI_ne0 (by omega) (by omega))⟩))
        refine ws_aload_n rfl (rfl) rfl (ws_getr rfl rfl rfl (ws_aload_n rfl (rfl) rfl (ws_geti rfl rfl (e48) rfl (ws_iconst (x := 1) rfl rfl rfl (ws_isub rfl (nI_pred _) rfl (ws_iconst (x := 1) rfl rfl rfl (ws_i rfl ⟨Or.inr rfl, v0, ?_⟩)))))))
        rw [c0]
        obtain ⟨Ta, hTa⟩ : ∃ Ta, Ta = mv_pr T 27 (K ++ Ks.flatten).length 1 := ⟨_, rfl⟩
        rw [← hTa]
        have ra : ∀ o i, Ta.2.1 o i = if o = 27 ∧ i = (K ++ Ks.flatten).length then 1 else T.2.1 o i := fun o i => by rw [hTa, pr_get]
        have fa : Ta.1 = T.1 := by rw [hTa]; rfl
        have ea : Ta.1 0 48 = nI ((K ++ Ks.flatten).length + 1) := by rw [fa]; exact e48
        refine ws_aload_n rfl (rfl) rfl (ws_getr rfl rfl rfl (ws_aload_n rfl (rfl) rfl (ws_geti rfl rfl (ea) rfl (ws_iconst (x := 1) rfl rfl rfl (ws_isub rfl (nI_pred _) rfl (ws_aload_n rfl (rfl) rfl (ws_getr rfl rfl rfl (ws_iload_n rfl (rfl) rfl (ws_i rfl ⟨vi, ?_⟩)))))))))
        rw [ci, ra, if_neg (by omega), z3]
        refine ws_i rfl ⟨v0, ?_⟩
        rw [c0]
        obtain ⟨Tb, hTb⟩ : ∃ Tb, Tb = mv_pr Ta 28 (K ++ Ks.flatten).length (tKy (tNx q U)) := ⟨_, rfl⟩
        rw [← hTb]
        have rb : ∀ o i, Tb.2.1 o i = if o = 28 ∧ i = (K ++ Ks.flatten).length then tKy (tNx q U) else if o = 27 ∧ i = (K ++ Ks.flatten).length then 1 else T.2.1 o i := fun o i => by rw [hTb, pr_get, ra]
        have fb : ∀ o f, Tb.1 o f = T.1 o f := fun o f => by rw [hTb]; show Ta.1 o f = _; rw [fa]
        have hs : yHs T Tb := fun o i _ _ => by rw [rb, if_neg (by omega), if_neg (by omega)]
        have as : (T.2.1 25 (K ++ Ks.flatten).length = 1 ∧ yTr T σ U (T.2.1 26 (K ++ Ks.flatten).length) ∧ yGo T (K ++ Ks.flatten).length q) ∧ yAs T σ (K ++ Ks.flatten) := h.2.2.2.1.2
        have hb : yA T0 Tb σ sd rm pc e rets (.inr (U, some (tKy (tNx q U))) :: K) Ks vs mp told most := by
          refine yA_stk (K' := .inr (U, some (tKy (tNx q U))) :: K) h (fun o f _ => fb o f) (fun o i a => by rw [rb, if_neg (by omega), if_neg (by omega)]) ⟨(fb 0 51).trans h.2.2.1.1, (fb 0 53).trans h.2.2.1.2⟩ ⟨(fb 0 48).trans e48, ⟨?_, ?_, ?_, ?_⟩, ?_⟩ (fun U' c' z => Or.inr (Or.inr (Or.inr ?_)))
          · show Tb.2.1 25 (K ++ Ks.flatten).length = 1
            rw [rb, if_neg (by omega), if_neg (by omega)]; exact as.1.1
          · show yTr Tb σ U (Tb.2.1 26 (K ++ Ks.flatten).length)
            rw [rb, if_neg (by omega), if_neg (by omega)]; exact yTr_hs hs as.1.2.1
          · show Tb.2.1 27 (K ++ Ks.flatten).length = 1
            rw [rb, if_neg (by omega), if_pos ⟨rfl, rfl⟩]
          · show Tb.2.1 28 (K ++ Ks.flatten).length = _
            rw [rb, if_pos ⟨rfl, rfl⟩]
          · exact yAs_go hs (fun p o hp _ _ => by
              have hp : p < (K ++ Ks.flatten).length := hp
              rw [rb, if_neg (by omega), if_neg (by omega)]) as.2
          · rcases z with ⟨y1, y2⟩ | z
            · exact Or.inl ⟨y1, by rw [y2, rb, if_neg (by omega), if_neg (by omega)]⟩
            · exact Or.inr (yZr_go (fun p hp => by rw [rb, if_neg (by omega), if_neg (by omega)]) z)
        have kb : Tb.2.1 13 i = tKy (tNx q U) := by rw [rb, if_neg (by omega), if_neg (by omega)]; exact z3
        refine ws_aload_n rfl (rfl) rfl (ws_aload_n rfl (rfl) rfl (ws_iconst (x := 1) rfl rfl rfl (ws_iv rfl rfl rfl ?_)))
        refine mv_deep (d := d + 1) (by omega) (y_wordA (k := 1) hb hi (by decide) ?_)
        rw [hx1]
        refine ws_aload_n rfl (rfl) rfl (ws_getr rfl rfl rfl (ws_iload_n rfl (rfl) rfl (ws_i rfl ⟨vi, ?_⟩)))
        rw [ci, kb]
        refine ws_iv rfl rfl rfl ?_
        refine mv_deep (d := d + 1) (by omega) (y_setVarA hb hv (fun Tc rc hc2 => ?_))
        have vb : Tc.2.1 14 i = tV (tNx q U) := by rw [rc 14 i (by decide) (by decide), rb, if_neg (by omega), if_neg (by omega)]; exact z4
        refine ws_aload_n rfl (rfl) rfl (ws_aload_n rfl (rfl) rfl (ws_iconst (x := 2) rfl rfl rfl (ws_iv rfl rfl rfl ?_)))
        refine mv_deep (d := d + 1) (by omega) (y_wordA (k := 2) hc2 hi (by decide) ?_)
        rw [hx2]
        refine ws_aload_n rfl (rfl) rfl (ws_getr rfl rfl rfl (ws_iload_n rfl (rfl) rfl (ws_i rfl ⟨vi, ?_⟩)))
        rw [ci, vb]
        refine ws_iv rfl rfl rfl ?_
        refine mv_deep (d := d + 1) (by omega) (y_setVarA hc2 hwv (fun Td _ hd => ?_))
        refine ws_aload_n rfl (rfl) rfl (ws_dup_r rfl rfl (ws_geti rfl rfl (hd.2.2.1.1) rfl (ws_iconst (x := 4) rfl rfl rfl (ws_iadd rfl (nI_add _ 4) rfl (ws_puti rfl rfl rfl (ws_i rfl ?_))))))
        exact ⟨rfl, hP z1 _ (yA_next hd)⟩
    refine ⟨20, ?_⟩
    refine ws_iload_n rfl (rfl) rfl (ws_tab (t := 167) rfl rfl (by decide) (ws_aload_n rfl (rfl) rfl (ws_iv rfl rfl rfl ?_)))
    refine mv_big_mono _ _ (Nat.le_refl _) _ _ _ _ _ (fun r T1 z => ?_) go
    obtain ⟨rfl, z⟩ := z
    refine ws_goto (t := 179) rfl (by decide) (ws_i rfl ?_)
    exact ⟨rfl, z⟩
  refine ⟨40, ?_⟩
  refine ws_aload_n rfl (rfl) rfl (ws_iconst (x := 0) rfl rfl rfl (ws_iv rfl rfl rfl ?_))
  refine mv_deep (d := d + 1) (by omega) (y_wordA (k := 0) h hi (by decide) ?_)
  rw [show yW T0 (pc + 0) = _ from hw]
  refine ws_istore_n rfl rfl rfl rfl (ws_iload_n rfl (rfl) rfl (ws_bipush (x := 30) rfl rfl rfl (ws_i rfl ⟨fun _ => ?_, fun z => absurd z (show ¬ (29 : Int32) = 30 by decide)⟩)))
  refine ws_iload_n rfl (rfl) rfl (ws_bipush (x := 12) rfl rfl rfl (ws_i rfl ⟨fun _ => ?_, fun z => absurd (show (12 : Int32) ≤ 29 by decide) z⟩))
  refine ws_iload_n rfl (rfl) rfl (ws_bipush (x := 19) rfl rfl rfl (ws_i rfl ⟨fun _ => ?_, fun z => absurd (show (19 : Int32) ≤ 29 by decide) z⟩))
  refine ws_aload_n rfl (rfl) rfl (ws_iload_n rfl (rfl) rfl (ws_iv rfl rfl rfl ?_))
  refine mv_big_mono _ _ (Nat.le_refl _) _ _ _ _ _ (fun r T1 z => ?_) inn
  obtain ⟨rfl, z⟩ := z
  refine ws_i rfl ?_
  exact z
end YB

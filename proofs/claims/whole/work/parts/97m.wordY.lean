/-! THE REFERENCE'S WORDS: numbers, turns -/
section YB
variable {d : Nat} {P : Option Value → mv_S → Prop} {T0 T T' : mv_S} {σ : Nat → Nat} {sd : Int32} {rm pc pc' : Nat} {e x a b : Int32} {rets : List Nat} {K : List aI} {Ks : List (List aI)} {vs : Nat → Int32} {mp : Nat → tT} {told : List Int32} {most v : Nat}
set_option maxHeartbeats 1000000 in
set_option maxRecDepth 8000 in
theorem y_pf30 (h : yA T0 T σ sd rm pc e rets K Ks vs mp told most) (hi : yIn T0 pc) (hw : yW T0 pc = 30) (hP : ∀ T', yA T0 T' σ sd rm (pc + 1) e rets K Ks vs mp told most → P none T') : mv_big layY sysY (d + 6) 58 [.ref 0] T P := by
  refine ⟨40, ?_⟩
  refine ws_aload_n rfl (rfl) rfl (ws_iconst (x := 0) rfl rfl rfl (ws_iv rfl rfl rfl ?_))
  refine mv_deep (d := d + 1) (by omega) (y_wordA (k := 0) h hi (by decide) ?_)
  rw [show yW T0 (pc + 0) = _ from hw]
  refine ws_istore_n rfl rfl rfl rfl (ws_iload_n rfl (rfl) rfl (ws_bipush (x := 30) rfl rfl rfl (ws_i rfl ⟨fun z => absurd rfl z, fun _ => ?_⟩)))
  refine ws_aload_n rfl (rfl) rfl (ws_dup_r rfl rfl (ws_geti rfl rfl (h.2.2.1.1) rfl (ws_iconst (x := 1) rfl rfl rfl (ws_iadd rfl (nI_1 _) rfl (ws_puti rfl rfl rfl (ws_goto (t := 58) rfl (by decide) (ws_i rfl ?_)))))))
  exact hP _ (yA_next h)
set_option maxHeartbeats 1000000 in
set_option maxRecDepth 8000 in
theorem y_pf0 (h : yA T0 T σ sd rm pc e rets K Ks vs mp told most) (hi : yIn T0 pc) (hw : yW T0 pc = 0)
    (hP : ∀ T', yA T0 T' σ sd rm (pc + 1) 0 rets K Ks vs mp told most → P none T') : mv_big layY sysY (d + 6) 58 [.ref 0] T P := by
  have inn : mv_big layY sysY (d + 5) 60 [.ref 0, .int 0] T (fun r T1 => r = none ∧ P none T1) := by
    refine ⟨40, ?_⟩
    refine ws_iload_n rfl (rfl) rfl (ws_i rfl ⟨fun z => absurd rfl z, fun _ => ?_⟩)
    refine ws_aload_n rfl (rfl) rfl (ws_iconst (x := 0) rfl rfl rfl (ws_iv rfl rfl rfl ?_))
    refine mv_deep (d := d + 2) (by omega) (y_endA h hi (fun T1 h1 => ?_))
    rw [if_neg (by rw [hw]; decide)] at h1
    refine ws_goto (t := 227) rfl (by decide) (ws_i rfl ?_)
    exact ⟨rfl, hP T1 h1⟩
  refine ⟨40, ?_⟩
  refine ws_aload_n rfl (rfl) rfl (ws_iconst (x := 0) rfl rfl rfl (ws_iv rfl rfl rfl ?_))
  refine mv_deep (d := d + 1) (by omega) (y_wordA (k := 0) h hi (by decide) ?_)
  rw [show yW T0 (pc + 0) = _ from hw]
  refine ws_istore_n rfl rfl rfl rfl (ws_iload_n rfl (rfl) rfl (ws_bipush (x := 30) rfl rfl rfl (ws_i rfl ⟨fun _ => ?_, fun z => absurd z (show ¬ (0 : Int32) = 30 by decide)⟩)))
  refine ws_iload_n rfl (rfl) rfl (ws_bipush (x := 12) rfl rfl rfl (ws_i rfl ⟨fun z => absurd z (show ¬ (12 : Int32) ≤ 0 by decide), fun _ => ?_⟩))
  refine ws_aload_n rfl (rfl) rfl (ws_iload_n rfl (rfl) rfl (ws_iv rfl rfl rfl ?_))
  refine mv_big_mono _ _ (Nat.le_refl _) _ _ _ _ _ (fun r T1 z => ?_) inn
  obtain ⟨rfl, z⟩ := z
  refine ws_goto (t := 58) rfl (by decide) (ws_i rfl ?_)
  exact z
set_option maxHeartbeats 1000000 in
set_option maxRecDepth 8000 in
theorem y_pf1 (h : yA T0 T σ sd rm pc e rets K Ks vs mp told most) (hi : yIn T0 pc) (hw : yW T0 pc = 1) (hq : (K ++ Ks.flatten).length < 1990)
    (hP : ∀ T', yA T0 T' σ sd rm (pc + 2) e rets (.inl (yW T0 (pc + 1)) :: K) Ks vs mp told most → P none T') : mv_big layY sysY (d + 6) 58 [.ref 0] T P := by
  have inn : mv_big layY sysY (d + 5) 60 [.ref 0, .int 1] T (fun r T1 => r = none ∧ P none T1) := by
    refine ⟨60, ?_⟩
    refine ws_iload_n rfl (rfl) rfl (ws_i rfl ⟨fun _ => ?_, fun z => absurd z (show ¬ (1 : Int32) = 0 by decide)⟩)
    refine ws_iload_n rfl (rfl) rfl (ws_iconst (x := 1) rfl rfl rfl (ws_i rfl ⟨fun z => absurd rfl z, fun _ => ?_⟩))
    refine ws_aload_n rfl (rfl) rfl (ws_aload_n rfl (rfl) rfl (ws_iconst (x := 1) rfl rfl rfl (ws_iv rfl rfl rfl ?_)))
    refine mv_deep (d := d + 1) (by omega) (y_wordA (k := 1) h hi (by decide) ?_)
    refine ws_iv rfl rfl rfl ?_
    refine mv_deep (d := d + 1) (by omega) (y_pushA h (by omega) (fun T1 h1 => ?_))
    refine ws_aload_n rfl (rfl) rfl (ws_dup_r rfl rfl (ws_geti rfl rfl (h1.2.2.1.1) rfl (ws_iconst (x := 2) rfl rfl rfl (ws_iadd rfl (nI_add _ 2) rfl (ws_puti rfl rfl rfl (ws_goto (t := 227) rfl (by decide) (ws_i rfl ?_)))))))
    exact ⟨rfl, hP _ (yA_next h1)⟩
  refine ⟨40, ?_⟩
  refine ws_aload_n rfl (rfl) rfl (ws_iconst (x := 0) rfl rfl rfl (ws_iv rfl rfl rfl ?_))
  refine mv_deep (d := d + 1) (by omega) (y_wordA (k := 0) h hi (by decide) ?_)
  rw [show yW T0 (pc + 0) = _ from hw]
  refine ws_istore_n rfl rfl rfl rfl (ws_iload_n rfl (rfl) rfl (ws_bipush (x := 30) rfl rfl rfl (ws_i rfl ⟨fun _ => ?_, fun z => absurd z (show ¬ (1 : Int32) = 30 by decide)⟩)))
  refine ws_iload_n rfl (rfl) rfl (ws_bipush (x := 12) rfl rfl rfl (ws_i rfl ⟨fun z => absurd z (show ¬ (12 : Int32) ≤ 1 by decide), fun _ => ?_⟩))
  refine ws_aload_n rfl (rfl) rfl (ws_iload_n rfl (rfl) rfl (ws_iv rfl rfl rfl ?_))
  refine mv_big_mono _ _ (Nat.le_refl _) _ _ _ _ _ (fun r T1 z => ?_) inn
  obtain ⟨rfl, z⟩ := z
  refine ws_goto (t := 58) rfl (by decide) (ws_i rfl ?_)
  exact z
set_option maxHeartbeats 1000000 in
set_option maxRecDepth 8000 in
theorem y_pf2 (h : yA T0 T σ sd rm pc e rets K Ks vs mp told most) (hi : yIn T0 pc) (hw : yW T0 pc = 2) (hx : yW T0 (pc + 1) = nI v) (hv : v < 14) (hq : (K ++ Ks.flatten).length < 1990)
    (hP : ∀ T', yA T0 T' σ sd rm (pc + 2) e rets (.inl (vs (aVP Ks.length v)) :: K) Ks vs mp told most → P none T') : mv_big layY sysY (d + 6) 58 [.ref 0] T P := by
  have inn : mv_big layY sysY (d + 5) 60 [.ref 0, .int 2] T (fun r T1 => r = none ∧ P none T1) := by
    refine ⟨60, ?_⟩
    refine ws_iload_n rfl (rfl) rfl (ws_i rfl ⟨fun _ => ?_, fun z => absurd z (show ¬ (2 : Int32) = 0 by decide)⟩)
    refine ws_iload_n rfl (rfl) rfl (ws_iconst (x := 1) rfl rfl rfl (ws_i rfl ⟨fun _ => ?_, fun z => absurd z (show ¬ (2 : Int32) = 1 by decide)⟩))
    refine ws_iload_n rfl (rfl) rfl (ws_iconst (x := 2) rfl rfl rfl (ws_i rfl ⟨fun z => absurd rfl z, fun _ => ?_⟩))
    refine ws_aload_n rfl (rfl) rfl (ws_aload_n rfl (rfl) rfl (ws_aload_n rfl (rfl) rfl (ws_iconst (x := 1) rfl rfl rfl (ws_iv rfl rfl rfl ?_))))
    refine mv_deep (d := d + 1) (by omega) (y_wordA (k := 1) h hi (by decide) ?_)
    rw [hx]
    refine ws_aload_n rfl (rfl) rfl (ws_iconst (x := 1) rfl rfl rfl (ws_iv rfl rfl rfl ?_))
    refine mv_deep (d := d + 1) (by omega) (y_wordA (k := 1) h hi (by decide) ?_)
    rw [hx]
    by_cases c : v < 8
    · skip
      refine ws_bipush (x := 7) rfl rfl rfl (ws_i rfl ⟨fun _ => ?_, fun z => absurd (nI_le (b := 7) (by omega) (by decide)) z⟩)
      refine ws_iconst (x := 0) rfl rfl rfl (ws_iv rfl rfl rfl ?_)
      rw [show (Value.int 0 : Value) = .int (if v < 8 then 0 else 1) by rw [if_pos c]]
      refine mv_deep (d := d + 1) (by omega) (y_varA h hv ?_)
      refine ws_iv rfl rfl rfl ?_
      refine mv_deep (d := d + 1) (by omega) (y_pushA h (by omega) (fun T1 h1 => ?_))
      refine ws_aload_n rfl (rfl) rfl (ws_dup_r rfl rfl (ws_geti rfl rfl (h1.2.2.1.1) rfl (ws_iconst (x := 2) rfl rfl rfl (ws_iadd rfl (nI_add _ 2) rfl (ws_puti rfl rfl rfl (ws_goto (t := 227) rfl (by decide) (ws_i rfl ?_)))))))
      exact ⟨rfl, hP _ (yA_next h1)⟩
    · skip
      refine ws_bipush (x := 7) rfl rfl rfl (ws_i rfl ⟨fun z => absurd z (nI_ge (a := 7) (b := v) (by omega) (by omega)), fun _ => ?_⟩)
      refine ws_iconst (x := 1) rfl rfl rfl (ws_goto (t := 66) rfl (by decide) (ws_iv rfl rfl rfl ?_))
      rw [show (Value.int 1 : Value) = .int (if v < 8 then 0 else 1) by rw [if_neg c]]
      refine mv_deep (d := d + 1) (by omega) (y_varA h hv ?_)
      refine ws_iv rfl rfl rfl ?_
      refine mv_deep (d := d + 1) (by omega) (y_pushA h (by omega) (fun T1 h1 => ?_))
      refine ws_aload_n rfl (rfl) rfl (ws_dup_r rfl rfl (ws_geti rfl rfl (h1.2.2.1.1) rfl (ws_iconst (x := 2) rfl rfl rfl (ws_iadd rfl (nI_add _ 2) rfl (ws_puti rfl rfl rfl (ws_goto (t := 227) rfl (by decide) (ws_i rfl ?_)))))))
      exact ⟨rfl, hP _ (yA_next h1)⟩
  refine ⟨40, ?_⟩
  refine ws_aload_n rfl (rfl) rfl (ws_iconst (x := 0) rfl rfl rfl (ws_iv rfl rfl rfl ?_))
  refine mv_deep (d := d + 1) (by omega) (y_wordA (k := 0) h hi (by decide) ?_)
  rw [show yW T0 (pc + 0) = _ from hw]
  refine ws_istore_n rfl rfl rfl rfl (ws_iload_n rfl (rfl) rfl (ws_bipush (x := 30) rfl rfl rfl (ws_i rfl ⟨fun _ => ?_, fun z => absurd z (show ¬ (2 : Int32) = 30 by decide)⟩)))
  refine ws_iload_n rfl (rfl) rfl (ws_bipush (x := 12) rfl rfl rfl (ws_i rfl ⟨fun z => absurd z (show ¬ (12 : Int32) ≤ 2 by decide), fun _ => ?_⟩))
  refine ws_aload_n rfl (rfl) rfl (ws_iload_n rfl (rfl) rfl (ws_iv rfl rfl rfl ?_))
  refine mv_big_mono _ _ (Nat.le_refl _) _ _ _ _ _ (fun r T1 z => ?_) inn
  obtain ⟨rfl, z⟩ := z
  refine ws_goto (t := 58) rfl (by decide) (ws_i rfl ?_)
  exact z
set_option maxHeartbeats 1000000 in
set_option maxRecDepth 8000 in
theorem y_pf3 (h : yA T0 T σ sd rm pc e rets (.inl x :: K) Ks vs mp told most) (hi : yIn T0 pc) (hw : yW T0 pc = 3) (hx : yW T0 (pc + 1) = nI v) (hv : v < 14) (hq : (K ++ Ks.flatten).length < 1990)
    (hP : ∀ T', yA T0 T' σ sd rm (pc + 2) e rets K Ks (aUp vs (aVP Ks.length v) x) mp told most → P none T') : mv_big layY sysY (d + 6) 58 [.ref 0] T P := by
  have inn : mv_big layY sysY (d + 5) 60 [.ref 0, .int 3] T (fun r T1 => r = none ∧ P none T1) := by
    refine ⟨60, ?_⟩
    refine ws_iload_n rfl (rfl) rfl (ws_i rfl ⟨fun _ => ?_, fun z => absurd z (show ¬ (3 : Int32) = 0 by decide)⟩)
    refine ws_iload_n rfl (rfl) rfl (ws_iconst (x := 1) rfl rfl rfl (ws_i rfl ⟨fun _ => ?_, fun z => absurd z (show ¬ (3 : Int32) = 1 by decide)⟩))
    refine ws_iload_n rfl (rfl) rfl (ws_iconst (x := 2) rfl rfl rfl (ws_i rfl ⟨fun _ => ?_, fun z => absurd z (show ¬ (3 : Int32) = 2 by decide)⟩))
    refine ws_iload_n rfl (rfl) rfl (ws_iconst (x := 3) rfl rfl rfl (ws_i rfl ⟨fun z => absurd rfl z, fun _ => ?_⟩))
    refine ws_aload_n rfl (rfl) rfl (ws_aload_n rfl (rfl) rfl (ws_iconst (x := 1) rfl rfl rfl (ws_iv rfl rfl rfl ?_)))
    refine mv_deep (d := d + 1) (by omega) (y_wordA (k := 1) h hi (by decide) ?_)
    rw [hx]
    refine ws_aload_n rfl (rfl) rfl (ws_iv rfl rfl rfl ?_)
    refine mv_deep (d := d + 1) (by omega) (y_popA h (by omega) (fun T1 _ h1 => ?_))
    refine ws_iv rfl rfl rfl ?_
    refine mv_deep (d := d + 1) (by omega) (y_setVarA h1 hv (fun T2 _ h2 => ?_))
    refine ws_aload_n rfl (rfl) rfl (ws_dup_r rfl rfl (ws_geti rfl rfl (h2.2.2.1.1) rfl (ws_iconst (x := 2) rfl rfl rfl (ws_iadd rfl (nI_add _ 2) rfl (ws_puti rfl rfl rfl (ws_goto (t := 227) rfl (by decide) (ws_i rfl ?_)))))))
    exact ⟨rfl, hP _ (yA_next h2)⟩
  refine ⟨40, ?_⟩
  refine ws_aload_n rfl (rfl) rfl (ws_iconst (x := 0) rfl rfl rfl (ws_iv rfl rfl rfl ?_))
  refine mv_deep (d := d + 1) (by omega) (y_wordA (k := 0) h hi (by decide) ?_)
  rw [show yW T0 (pc + 0) = _ from hw]
  refine ws_istore_n rfl rfl rfl rfl (ws_iload_n rfl (rfl) rfl (ws_bipush (x := 30) rfl rfl rfl (ws_i rfl ⟨fun _ => ?_, fun z => absurd z (show ¬ (3 : Int32) = 30 by decide)⟩)))
  refine ws_iload_n rfl (rfl) rfl (ws_bipush (x := 12) rfl rfl rfl (ws_i rfl ⟨fun z => absurd z (show ¬ (12 : Int32) ≤ 3 by decide), fun _ => ?_⟩))
  refine ws_aload_n rfl (rfl) rfl (ws_iload_n rfl (rfl) rfl (ws_iv rfl rfl rfl ?_))
  refine mv_big_mono _ _ (Nat.le_refl _) _ _ _ _ _ (fun r T1 z => ?_) inn
  obtain ⟨rfl, z⟩ := z
  refine ws_goto (t := 58) rfl (by decide) (ws_i rfl ?_)
  exact z
set_option maxHeartbeats 1000000 in
set_option maxRecDepth 8000 in
theorem y_pf11 (h : yA T0 T σ sd rm pc e rets (.inl x :: K) Ks vs mp told most) (hi : yIn T0 pc) (hw : yW T0 pc = 11) (hq : (K ++ Ks.flatten).length < 1990)
    (hP : ∀ T', yA T0 T' σ sd rm (pc + 1) e rets (.inl (if x = 0 then 1 else 0) :: K) Ks vs mp told most → P none T') : mv_big layY sysY (d + 6) 58 [.ref 0] T P := by
  have inn : mv_big layY sysY (d + 5) 60 [.ref 0, .int 11] T (fun r T1 => r = none ∧ P none T1) := by
    refine ⟨60, ?_⟩
    refine ws_iload_n rfl (rfl) rfl (ws_i rfl ⟨fun _ => ?_, fun z => absurd z (show ¬ (11 : Int32) = 0 by decide)⟩)
    refine ws_iload_n rfl (rfl) rfl (ws_iconst (x := 1) rfl rfl rfl (ws_i rfl ⟨fun _ => ?_, fun z => absurd z (show ¬ (11 : Int32) = 1 by decide)⟩))
    refine ws_iload_n rfl (rfl) rfl (ws_iconst (x := 2) rfl rfl rfl (ws_i rfl ⟨fun _ => ?_, fun z => absurd z (show ¬ (11 : Int32) = 2 by decide)⟩))
    refine ws_iload_n rfl (rfl) rfl (ws_iconst (x := 3) rfl rfl rfl (ws_i rfl ⟨fun _ => ?_, fun z => absurd z (show ¬ (11 : Int32) = 3 by decide)⟩))
    refine ws_iload_n rfl (rfl) rfl (ws_bipush (x := 11) rfl rfl rfl (ws_i rfl ⟨fun z => absurd rfl z, fun _ => ?_⟩))
    refine ws_aload_n rfl (rfl) rfl (ws_aload_n rfl (rfl) rfl (ws_iv rfl rfl rfl ?_))
    refine mv_deep (d := d + 1) (by omega) (y_popA h (by omega) (fun T1 _ h1 => ?_))
    by_cases c : x = 0
    · skip
      refine ws_i rfl ⟨fun z => absurd c z, fun _ => ?_⟩
      refine ws_iconst (x := 1) rfl rfl rfl (ws_goto (t := 135) rfl (by decide) (ws_iv rfl rfl rfl ?_))
      refine mv_deep (d := d + 1) (by omega) (y_pushA h1 (by omega) (fun T2 h2 => ?_))
      refine ws_aload_n rfl (rfl) rfl (ws_dup_r rfl rfl (ws_geti rfl rfl (h2.2.2.1.1) rfl (ws_iconst (x := 1) rfl rfl rfl (ws_iadd rfl (nI_1 _) rfl (ws_puti rfl rfl rfl (ws_goto (t := 227) rfl (by decide) (ws_i rfl ?_)))))))
      exact ⟨rfl, hP _ (by rw [if_pos c]; exact yA_next h2)⟩
    · skip
      refine ws_i rfl ⟨fun _ => ?_, fun z => absurd z c⟩
      refine ws_iconst (x := 0) rfl rfl rfl (ws_iv rfl rfl rfl ?_)
      refine mv_deep (d := d + 1) (by omega) (y_pushA h1 (by omega) (fun T2 h2 => ?_))
      refine ws_aload_n rfl (rfl) rfl (ws_dup_r rfl rfl (ws_geti rfl rfl (h2.2.2.1.1) rfl (ws_iconst (x := 1) rfl rfl rfl (ws_iadd rfl (nI_1 _) rfl (ws_puti rfl rfl rfl (ws_goto (t := 227) rfl (by decide) (ws_i rfl ?_)))))))
      exact ⟨rfl, hP _ (by rw [if_neg c]; exact yA_next h2)⟩
  refine ⟨40, ?_⟩
  refine ws_aload_n rfl (rfl) rfl (ws_iconst (x := 0) rfl rfl rfl (ws_iv rfl rfl rfl ?_))
  refine mv_deep (d := d + 1) (by omega) (y_wordA (k := 0) h hi (by decide) ?_)
  rw [show yW T0 (pc + 0) = _ from hw]
  refine ws_istore_n rfl rfl rfl rfl (ws_iload_n rfl (rfl) rfl (ws_bipush (x := 30) rfl rfl rfl (ws_i rfl ⟨fun _ => ?_, fun z => absurd z (show ¬ (11 : Int32) = 30 by decide)⟩)))
  refine ws_iload_n rfl (rfl) rfl (ws_bipush (x := 12) rfl rfl rfl (ws_i rfl ⟨fun z => absurd z (show ¬ (12 : Int32) ≤ 11 by decide), fun _ => ?_⟩))
  refine ws_aload_n rfl (rfl) rfl (ws_iload_n rfl (rfl) rfl (ws_iv rfl rfl rfl ?_))
  refine mv_big_mono _ _ (Nat.le_refl _) _ _ _ _ _ (fun r T1 z => ?_) inn
  obtain ⟨rfl, z⟩ := z
  refine ws_goto (t := 58) rfl (by decide) (ws_i rfl ?_)
  exact z
set_option maxHeartbeats 1000000 in
set_option maxRecDepth 8000 in
theorem y_of4 (hP : P (some (.int (aOp 4 a b))) T) : mv_big layY sysY (d + 1) 61 [.int 4, .int a, .int b] T P := by
  refine ⟨20, ?_⟩
  refine ws_iload_n rfl (rfl) rfl (ws_tab (t := 40) rfl rfl (by decide) (ws_iload_n rfl (rfl) rfl (ws_iload_n rfl (rfl) rfl (ws_iadd rfl rfl rfl (ws_i rfl ?_)))))
  exact hP
set_option maxHeartbeats 1000000 in
set_option maxRecDepth 8000 in
theorem y_pf4 (h : yA T0 T σ sd rm pc e rets (.inl b :: .inl a :: K) Ks vs mp told most) (hi : yIn T0 pc) (hw : yW T0 pc = 4) (hq : (K ++ Ks.flatten).length < 1990)
    (hP : ∀ T', yA T0 T' σ sd rm (pc + 1) e rets (.inl (aOp 4 a b) :: K) Ks vs mp told most → P none T') : mv_big layY sysY (d + 6) 58 [.ref 0] T P := by
  have inn : mv_big layY sysY (d + 5) 60 [.ref 0, .int 4] T (fun r T1 => r = none ∧ P none T1) := by
    have e48 : T.1 0 48 = nI ((K ++ Ks.flatten).length + 2) := h.2.2.2.1.1
    have as : (T.2.1 25 ((K ++ Ks.flatten).length + 1) = 0 ∧ T.2.1 26 ((K ++ Ks.flatten).length + 1) = b) ∧ (T.2.1 25 (K ++ Ks.flatten).length = 0 ∧ T.2.1 26 (K ++ Ks.flatten).length = a) ∧ yAs T σ (K ++ Ks.flatten) := h.2.2.2.1.2
    have v1 : vp_in (nI ((K ++ Ks.flatten).length + 1)) 4000 := vp_in_nI (by omega) (by decide)
    have c1 : (nI ((K ++ Ks.flatten).length + 1)).toNatClampNeg = (K ++ Ks.flatten).length + 1 := nI_clamp (by omega)
    have v0 : vp_in (nI (K ++ Ks.flatten).length) 4000 := vp_in_nI (by omega) (by decide)
    have c0 : (nI (K ++ Ks.flatten).length).toNatClampNeg = (K ++ Ks.flatten).length := nI_clamp (by omega)
    refine ⟨100, ?_⟩
    refine ws_iload_n rfl (rfl) rfl (ws_i rfl ⟨fun _ => ?_, fun z => absurd z (show ¬ (4 : Int32) = 0 by decide)⟩)
    refine ws_iload_n rfl (rfl) rfl (ws_iconst (x := 1) rfl rfl rfl (ws_i rfl ⟨fun _ => ?_, fun z => absurd z (show ¬ (4 : Int32) = 1 by decide)⟩))
    refine ws_iload_n rfl (rfl) rfl (ws_iconst (x := 2) rfl rfl rfl (ws_i rfl ⟨fun _ => ?_, fun z => absurd z (show ¬ (4 : Int32) = 2 by decide)⟩))
    refine ws_iload_n rfl (rfl) rfl (ws_iconst (x := 3) rfl rfl rfl (ws_i rfl ⟨fun _ => ?_, fun z => absurd z (show ¬ (4 : Int32) = 3 by decide)⟩))
    refine ws_iload_n rfl (rfl) rfl (ws_bipush (x := 11) rfl rfl rfl (ws_i rfl ⟨fun _ => ?_, fun z => absurd z (show ¬ (4 : Int32) = 11 by decide)⟩))
    refine ws_aload_n rfl (rfl) rfl (ws_getr rfl rfl rfl (ws_aload_n rfl (rfl) rfl (ws_geti rfl rfl (e48) rfl (ws_iconst (x := 1) rfl rfl rfl (ws_isub rfl (nI_pred _) rfl (ws_i rfl ⟨v1, ?_⟩))))))
    rw [c1, as.1.2]
    refine ws_istore_n rfl rfl rfl rfl (ws_aload_n rfl (rfl) rfl (ws_getr rfl rfl rfl (ws_aload_n rfl (rfl) rfl (ws_geti rfl rfl (e48) rfl (ws_iconst (x := 2) rfl rfl rfl (ws_isub rfl (nI_m2 _) rfl (ws_i rfl ⟨v0, ?_⟩)))))))
    rw [c0, as.2.1.2]
    refine ws_istore_n rfl rfl rfl rfl (ws_iload_n rfl (rfl) rfl (ws_bipush (x := 7) rfl rfl rfl (?_)))
    refine ws_i rfl ⟨fun z => absurd z (show ¬ (4 : Int32) = 7 by decide), fun _ => ?_⟩
    refine ws_iload_n rfl (rfl) rfl (ws_bipush (x := 8) rfl rfl rfl (ws_i rfl ⟨fun _ => ?_, fun z => absurd z (show ¬ (4 : Int32) = 8 by decide)⟩))
    refine ws_aload_n rfl (rfl) rfl (ws_dup_r rfl rfl (ws_geti rfl rfl (e48) rfl (ws_iconst (x := 2) rfl rfl rfl (ws_isub rfl (nI_m2 _) rfl (?_)))))
    refine ws_puti rfl rfl rfl ?_
    have h1 : yA T0 (mv_pf T 0 48 (nI (K ++ Ks.flatten).length)) σ sd rm pc e rets K Ks vs mp told most := yA_stk (K' := K) h (fun o f a => by rw [pf_get, if_neg (by omega)]) (fun o i a => rfl) ⟨by rw [pf_get, if_neg (by omega)]; exact h.2.2.1.1, by rw [pf_get, if_neg (by omega)]; exact h.2.2.1.2⟩ ⟨by rw [pf_get, if_pos ⟨rfl, rfl⟩], yAs_go (T := T) (T' := mv_pf T 0 48 (nI (K ++ Ks.flatten).length)) (fun o i _ _ => rfl) (fun p o hp _ _ => rfl) as.2.2⟩ (fun U c z => Or.inr (Or.inr (Or.inr (yZr_go (T := T) (T' := mv_pf T 0 48 (nI (K ++ Ks.flatten).length)) (fun p hp => rfl) z))))
    refine ws_aload_n rfl (rfl) rfl (ws_iload_n rfl (rfl) rfl (ws_iload_n rfl (rfl) rfl (ws_iload_n rfl (rfl) rfl (ws_is rfl rfl rfl ?_))))
    refine mv_deep (d := d + 1) (by omega) (y_of4 ?_)
    refine ws_iv rfl rfl rfl ?_
    refine mv_deep (d := d + 1) (by omega) (y_pushA h1 (by omega) (fun T2 h2 => ?_))
    refine ws_aload_n rfl (rfl) rfl (ws_dup_r rfl rfl (ws_geti rfl rfl (h2.2.2.1.1) rfl (ws_iconst (x := 1) rfl rfl rfl (ws_iadd rfl (nI_1 _) rfl (ws_puti rfl rfl rfl (ws_i rfl ?_))))))
    exact ⟨rfl, hP _ (yA_next h2)⟩
  refine ⟨40, ?_⟩
  refine ws_aload_n rfl (rfl) rfl (ws_iconst (x := 0) rfl rfl rfl (ws_iv rfl rfl rfl ?_))
  refine mv_deep (d := d + 1) (by omega) (y_wordA (k := 0) h hi (by decide) ?_)
  rw [show yW T0 (pc + 0) = _ from hw]
  refine ws_istore_n rfl rfl rfl rfl (ws_iload_n rfl (rfl) rfl (ws_bipush (x := 30) rfl rfl rfl (ws_i rfl ⟨fun _ => ?_, fun z => absurd z (show ¬ (4 : Int32) = 30 by decide)⟩)))
  refine ws_iload_n rfl (rfl) rfl (ws_bipush (x := 12) rfl rfl rfl (ws_i rfl ⟨fun z => absurd z (show ¬ (12 : Int32) ≤ 4 by decide), fun _ => ?_⟩))
  refine ws_aload_n rfl (rfl) rfl (ws_iload_n rfl (rfl) rfl (ws_iv rfl rfl rfl ?_))
  refine mv_big_mono _ _ (Nat.le_refl _) _ _ _ _ _ (fun r T1 z => ?_) inn
  obtain ⟨rfl, z⟩ := z
  refine ws_goto (t := 58) rfl (by decide) (ws_i rfl ?_)
  exact z
set_option maxHeartbeats 1000000 in
set_option maxRecDepth 8000 in
theorem y_of5 (hP : P (some (.int (aOp 5 a b))) T) : mv_big layY sysY (d + 1) 61 [.int 5, .int a, .int b] T P := by
  refine ⟨20, ?_⟩
  refine ws_iload_n rfl (rfl) rfl (ws_tab (t := 44) rfl rfl (by decide) (ws_iload_n rfl (rfl) rfl (ws_iload_n rfl (rfl) rfl (ws_isub rfl rfl rfl (ws_i rfl ?_)))))
  exact hP
set_option maxHeartbeats 1000000 in
set_option maxRecDepth 8000 in
theorem y_pf5 (h : yA T0 T σ sd rm pc e rets (.inl b :: .inl a :: K) Ks vs mp told most) (hi : yIn T0 pc) (hw : yW T0 pc = 5) (hq : (K ++ Ks.flatten).length < 1990)
    (hP : ∀ T', yA T0 T' σ sd rm (pc + 1) e rets (.inl (aOp 5 a b) :: K) Ks vs mp told most → P none T') : mv_big layY sysY (d + 6) 58 [.ref 0] T P := by
  have inn : mv_big layY sysY (d + 5) 60 [.ref 0, .int 5] T (fun r T1 => r = none ∧ P none T1) := by
    have e48 : T.1 0 48 = nI ((K ++ Ks.flatten).length + 2) := h.2.2.2.1.1
    have as : (T.2.1 25 ((K ++ Ks.flatten).length + 1) = 0 ∧ T.2.1 26 ((K ++ Ks.flatten).length + 1) = b) ∧ (T.2.1 25 (K ++ Ks.flatten).length = 0 ∧ T.2.1 26 (K ++ Ks.flatten).length = a) ∧ yAs T σ (K ++ Ks.flatten) := h.2.2.2.1.2
    have v1 : vp_in (nI ((K ++ Ks.flatten).length + 1)) 4000 := vp_in_nI (by omega) (by decide)
    have c1 : (nI ((K ++ Ks.flatten).length + 1)).toNatClampNeg = (K ++ Ks.flatten).length + 1 := nI_clamp (by omega)
    have v0 : vp_in (nI (K ++ Ks.flatten).length) 4000 := vp_in_nI (by omega) (by decide)
    have c0 : (nI (K ++ Ks.flatten).length).toNatClampNeg = (K ++ Ks.flatten).length := nI_clamp (by omega)
    refine ⟨100, ?_⟩
    refine ws_iload_n rfl (rfl) rfl (ws_i rfl ⟨fun _ => ?_, fun z => absurd z (show ¬ (5 : Int32) = 0 by decide)⟩)
    refine ws_iload_n rfl (rfl) rfl (ws_iconst (x := 1) rfl rfl rfl (ws_i rfl ⟨fun _ => ?_, fun z => absurd z (show ¬ (5 : Int32) = 1 by decide)⟩))
    refine ws_iload_n rfl (rfl) rfl (ws_iconst (x := 2) rfl rfl rfl (ws_i rfl ⟨fun _ => ?_, fun z => absurd z (show ¬ (5 : Int32) = 2 by decide)⟩))
    refine ws_iload_n rfl (rfl) rfl (ws_iconst (x := 3) rfl rfl rfl (ws_i rfl ⟨fun _ => ?_, fun z => absurd z (show ¬ (5 : Int32) = 3 by decide)⟩))
    refine ws_iload_n rfl (rfl) rfl (ws_bipush (x := 11) rfl rfl rfl (ws_i rfl ⟨fun _ => ?_, fun z => absurd z (show ¬ (5 : Int32) = 11 by decide)⟩))
    refine ws_aload_n rfl (rfl) rfl (ws_getr rfl rfl rfl (ws_aload_n rfl (rfl) rfl (ws_geti rfl rfl (e48) rfl (ws_iconst (x := 1) rfl rfl rfl (ws_isub rfl (nI_pred _) rfl (ws_i rfl ⟨v1, ?_⟩))))))
    rw [c1, as.1.2]
    refine ws_istore_n rfl rfl rfl rfl (ws_aload_n rfl (rfl) rfl (ws_getr rfl rfl rfl (ws_aload_n rfl (rfl) rfl (ws_geti rfl rfl (e48) rfl (ws_iconst (x := 2) rfl rfl rfl (ws_isub rfl (nI_m2 _) rfl (ws_i rfl ⟨v0, ?_⟩)))))))
    rw [c0, as.2.1.2]
    refine ws_istore_n rfl rfl rfl rfl (ws_iload_n rfl (rfl) rfl (ws_bipush (x := 7) rfl rfl rfl (?_)))
    refine ws_i rfl ⟨fun z => absurd z (show ¬ (5 : Int32) = 7 by decide), fun _ => ?_⟩
    refine ws_iload_n rfl (rfl) rfl (ws_bipush (x := 8) rfl rfl rfl (ws_i rfl ⟨fun _ => ?_, fun z => absurd z (show ¬ (5 : Int32) = 8 by decide)⟩))
    refine ws_aload_n rfl (rfl) rfl (ws_dup_r rfl rfl (ws_geti rfl rfl (e48) rfl (ws_iconst (x := 2) rfl rfl rfl (ws_isub rfl (nI_m2 _) rfl (?_)))))
    refine ws_puti rfl rfl rfl ?_
    have h1 : yA T0 (mv_pf T 0 48 (nI (K ++ Ks.flatten).length)) σ sd rm pc e rets K Ks vs mp told most := yA_stk (K' := K) h (fun o f a => by rw [pf_get, if_neg (by omega)]) (fun o i a => rfl) ⟨by rw [pf_get, if_neg (by omega)]; exact h.2.2.1.1, by rw [pf_get, if_neg (by omega)]; exact h.2.2.1.2⟩ ⟨by rw [pf_get, if_pos ⟨rfl, rfl⟩], yAs_go (T := T) (T' := mv_pf T 0 48 (nI (K ++ Ks.flatten).length)) (fun o i _ _ => rfl) (fun p o hp _ _ => rfl) as.2.2⟩ (fun U c z => Or.inr (Or.inr (Or.inr (yZr_go (T := T) (T' := mv_pf T 0 48 (nI (K ++ Ks.flatten).length)) (fun p hp => rfl) z))))
    refine ws_aload_n rfl (rfl) rfl (ws_iload_n rfl (rfl) rfl (ws_iload_n rfl (rfl) rfl (ws_iload_n rfl (rfl) rfl (ws_is rfl rfl rfl ?_))))
    refine mv_deep (d := d + 1) (by omega) (y_of5 ?_)
    refine ws_iv rfl rfl rfl ?_
    refine mv_deep (d := d + 1) (by omega) (y_pushA h1 (by omega) (fun T2 h2 => ?_))
    refine ws_aload_n rfl (rfl) rfl (ws_dup_r rfl rfl (ws_geti rfl rfl (h2.2.2.1.1) rfl (ws_iconst (x := 1) rfl rfl rfl (ws_iadd rfl (nI_1 _) rfl (ws_puti rfl rfl rfl (ws_i rfl ?_))))))
    exact ⟨rfl, hP _ (yA_next h2)⟩
  refine ⟨40, ?_⟩
  refine ws_aload_n rfl (rfl) rfl (ws_iconst (x := 0) rfl rfl rfl (ws_iv rfl rfl rfl ?_))
  refine mv_deep (d := d + 1) (by omega) (y_wordA (k := 0) h hi (by decide) ?_)
  rw [show yW T0 (pc + 0) = _ from hw]
  refine ws_istore_n rfl rfl rfl rfl (ws_iload_n rfl (rfl) rfl (ws_bipush (x := 30) rfl rfl rfl (ws_i rfl ⟨fun _ => ?_, fun z => absurd z (show ¬ (5 : Int32) = 30 by decide)⟩)))
  refine ws_iload_n rfl (rfl) rfl (ws_bipush (x := 12) rfl rfl rfl (ws_i rfl ⟨fun z => absurd z (show ¬ (12 : Int32) ≤ 5 by decide), fun _ => ?_⟩))
  refine ws_aload_n rfl (rfl) rfl (ws_iload_n rfl (rfl) rfl (ws_iv rfl rfl rfl ?_))
  refine mv_big_mono _ _ (Nat.le_refl _) _ _ _ _ _ (fun r T1 z => ?_) inn
  obtain ⟨rfl, z⟩ := z
  refine ws_goto (t := 58) rfl (by decide) (ws_i rfl ?_)
  exact z
set_option maxHeartbeats 1000000 in
set_option maxRecDepth 8000 in
theorem y_of6 (hP : P (some (.int (aOp 6 a b))) T) : mv_big layY sysY (d + 1) 61 [.int 6, .int a, .int b] T P := by
  refine ⟨20, ?_⟩
  refine ws_iload_n rfl (rfl) rfl (ws_tab (t := 48) rfl rfl (by decide) (ws_iload_n rfl (rfl) rfl (ws_iload_n rfl (rfl) rfl (ws_imul rfl rfl rfl (ws_i rfl ?_)))))
  exact hP
set_option maxHeartbeats 1000000 in
set_option maxRecDepth 8000 in
theorem y_pf6 (h : yA T0 T σ sd rm pc e rets (.inl b :: .inl a :: K) Ks vs mp told most) (hi : yIn T0 pc) (hw : yW T0 pc = 6) (hq : (K ++ Ks.flatten).length < 1990)
    (hP : ∀ T', yA T0 T' σ sd rm (pc + 1) e rets (.inl (aOp 6 a b) :: K) Ks vs mp told most → P none T') : mv_big layY sysY (d + 6) 58 [.ref 0] T P := by
  have inn : mv_big layY sysY (d + 5) 60 [.ref 0, .int 6] T (fun r T1 => r = none ∧ P none T1) := by
    have e48 : T.1 0 48 = nI ((K ++ Ks.flatten).length + 2) := h.2.2.2.1.1
    have as : (T.2.1 25 ((K ++ Ks.flatten).length + 1) = 0 ∧ T.2.1 26 ((K ++ Ks.flatten).length + 1) = b) ∧ (T.2.1 25 (K ++ Ks.flatten).length = 0 ∧ T.2.1 26 (K ++ Ks.flatten).length = a) ∧ yAs T σ (K ++ Ks.flatten) := h.2.2.2.1.2
    have v1 : vp_in (nI ((K ++ Ks.flatten).length + 1)) 4000 := vp_in_nI (by omega) (by decide)
    have c1 : (nI ((K ++ Ks.flatten).length + 1)).toNatClampNeg = (K ++ Ks.flatten).length + 1 := nI_clamp (by omega)
    have v0 : vp_in (nI (K ++ Ks.flatten).length) 4000 := vp_in_nI (by omega) (by decide)
    have c0 : (nI (K ++ Ks.flatten).length).toNatClampNeg = (K ++ Ks.flatten).length := nI_clamp (by omega)
    refine ⟨100, ?_⟩
    refine ws_iload_n rfl (rfl) rfl (ws_i rfl ⟨fun _ => ?_, fun z => absurd z (show ¬ (6 : Int32) = 0 by decide)⟩)
    refine ws_iload_n rfl (rfl) rfl (ws_iconst (x := 1) rfl rfl rfl (ws_i rfl ⟨fun _ => ?_, fun z => absurd z (show ¬ (6 : Int32) = 1 by decide)⟩))
    refine ws_iload_n rfl (rfl) rfl (ws_iconst (x := 2) rfl rfl rfl (ws_i rfl ⟨fun _ => ?_, fun z => absurd z (show ¬ (6 : Int32) = 2 by decide)⟩))
    refine ws_iload_n rfl (rfl) rfl (ws_iconst (x := 3) rfl rfl rfl (ws_i rfl ⟨fun _ => ?_, fun z => absurd z (show ¬ (6 : Int32) = 3 by decide)⟩))
    refine ws_iload_n rfl (rfl) rfl (ws_bipush (x := 11) rfl rfl rfl (ws_i rfl ⟨fun _ => ?_, fun z => absurd z (show ¬ (6 : Int32) = 11 by decide)⟩))
    refine ws_aload_n rfl (rfl) rfl (ws_getr rfl rfl rfl (ws_aload_n rfl (rfl) rfl (ws_geti rfl rfl (e48) rfl (ws_iconst (x := 1) rfl rfl rfl (ws_isub rfl (nI_pred _) rfl (ws_i rfl ⟨v1, ?_⟩))))))
    rw [c1, as.1.2]
    refine ws_istore_n rfl rfl rfl rfl (ws_aload_n rfl (rfl) rfl (ws_getr rfl rfl rfl (ws_aload_n rfl (rfl) rfl (ws_geti rfl rfl (e48) rfl (ws_iconst (x := 2) rfl rfl rfl (ws_isub rfl (nI_m2 _) rfl (ws_i rfl ⟨v0, ?_⟩)))))))
    rw [c0, as.2.1.2]
    refine ws_istore_n rfl rfl rfl rfl (ws_iload_n rfl (rfl) rfl (ws_bipush (x := 7) rfl rfl rfl (?_)))
    refine ws_i rfl ⟨fun z => absurd z (show ¬ (6 : Int32) = 7 by decide), fun _ => ?_⟩
    refine ws_iload_n rfl (rfl) rfl (ws_bipush (x := 8) rfl rfl rfl (ws_i rfl ⟨fun _ => ?_, fun z => absurd z (show ¬ (6 : Int32) = 8 by decide)⟩))
    refine ws_aload_n rfl (rfl) rfl (ws_dup_r rfl rfl (ws_geti rfl rfl (e48) rfl (ws_iconst (x := 2) rfl rfl rfl (ws_isub rfl (nI_m2 _) rfl (?_)))))
    refine ws_puti rfl rfl rfl ?_
    have h1 : yA T0 (mv_pf T 0 48 (nI (K ++ Ks.flatten).length)) σ sd rm pc e rets K Ks vs mp told most := yA_stk (K' := K) h (fun o f a => by rw [pf_get, if_neg (by omega)]) (fun o i a => rfl) ⟨by rw [pf_get, if_neg (by omega)]; exact h.2.2.1.1, by rw [pf_get, if_neg (by omega)]; exact h.2.2.1.2⟩ ⟨by rw [pf_get, if_pos ⟨rfl, rfl⟩], yAs_go (T := T) (T' := mv_pf T 0 48 (nI (K ++ Ks.flatten).length)) (fun o i _ _ => rfl) (fun p o hp _ _ => rfl) as.2.2⟩ (fun U c z => Or.inr (Or.inr (Or.inr (yZr_go (T := T) (T' := mv_pf T 0 48 (nI (K ++ Ks.flatten).length)) (fun p hp => rfl) z))))
    refine ws_aload_n rfl (rfl) rfl (ws_iload_n rfl (rfl) rfl (ws_iload_n rfl (rfl) rfl (ws_iload_n rfl (rfl) rfl (ws_is rfl rfl rfl ?_))))
    refine mv_deep (d := d + 1) (by omega) (y_of6 ?_)
    refine ws_iv rfl rfl rfl ?_
    refine mv_deep (d := d + 1) (by omega) (y_pushA h1 (by omega) (fun T2 h2 => ?_))
    refine ws_aload_n rfl (rfl) rfl (ws_dup_r rfl rfl (ws_geti rfl rfl (h2.2.2.1.1) rfl (ws_iconst (x := 1) rfl rfl rfl (ws_iadd rfl (nI_1 _) rfl (ws_puti rfl rfl rfl (ws_i rfl ?_))))))
    exact ⟨rfl, hP _ (yA_next h2)⟩
  refine ⟨40, ?_⟩
  refine ws_aload_n rfl (rfl) rfl (ws_iconst (x := 0) rfl rfl rfl (ws_iv rfl rfl rfl ?_))
  refine mv_deep (d := d + 1) (by omega) (y_wordA (k := 0) h hi (by decide) ?_)
  rw [show yW T0 (pc + 0) = _ from hw]
  refine ws_istore_n rfl rfl rfl rfl (ws_iload_n rfl (rfl) rfl (ws_bipush (x := 30) rfl rfl rfl (ws_i rfl ⟨fun _ => ?_, fun z => absurd z (show ¬ (6 : Int32) = 30 by decide)⟩)))
  refine ws_iload_n rfl (rfl) rfl (ws_bipush (x := 12) rfl rfl rfl (ws_i rfl ⟨fun z => absurd z (show ¬ (12 : Int32) ≤ 6 by decide), fun _ => ?_⟩))
  refine ws_aload_n rfl (rfl) rfl (ws_iload_n rfl (rfl) rfl (ws_iv rfl rfl rfl ?_))
  refine mv_big_mono _ _ (Nat.le_refl _) _ _ _ _ _ (fun r T1 z => ?_) inn
  obtain ⟨rfl, z⟩ := z
  refine ws_goto (t := 58) rfl (by decide) (ws_i rfl ?_)
  exact z
set_option maxHeartbeats 1000000 in
set_option maxRecDepth 8000 in
theorem y_of7 (hb : ¬ b = 0) (hP : P (some (.int (aOp 7 a b))) T) : mv_big layY sysY (d + 1) 61 [.int 7, .int a, .int b] T P := by
  refine ⟨20, ?_⟩
  by_cases c : b = -1
  · rw [show aOp 7 a b = a / b from rfl, c, i_divm] at hP
    refine ws_iload_n rfl (rfl) rfl (ws_tab (t := 52) rfl rfl (by decide) (ws_iload_n rfl (rfl) rfl (ws_iconst (x := (-1)) rfl rfl rfl (ws_i rfl ⟨fun z => absurd c z, fun _ => ?_⟩))))
    refine ws_iload_n rfl (rfl) rfl (ws_ineg rfl rfl (ws_goto (t := 65) rfl (by decide) (ws_i rfl ?_)))
    exact hP
  · refine ws_iload_n rfl (rfl) rfl (ws_tab (t := 52) rfl rfl (by decide) (ws_iload_n rfl (rfl) rfl (ws_iconst (x := (-1)) rfl rfl rfl (ws_i rfl ⟨fun _ => ?_, fun z => absurd z c⟩))))
    refine ws_iload_n rfl (rfl) rfl (ws_iload_n rfl (rfl) rfl (ws_idiv rfl (hb) rfl (ws_i rfl ?_)))
    exact hP
set_option maxHeartbeats 1000000 in
set_option maxRecDepth 8000 in
theorem y_pf7 (h : yA T0 T σ sd rm pc e rets (.inl b :: .inl a :: K) Ks vs mp told most) (hi : yIn T0 pc) (hw : yW T0 pc = 7) (hq : (K ++ Ks.flatten).length < 1990) (hF : b = 0 → ∀ T', yA T0 T' σ sd rm (pc + 1) 2 rets (.inl b :: .inl a :: K) Ks vs mp told most → P none T')
    (hP : ¬ b = 0 → ∀ T', yA T0 T' σ sd rm (pc + 1) e rets (.inl (aOp 7 a b) :: K) Ks vs mp told most → P none T') : mv_big layY sysY (d + 6) 58 [.ref 0] T P := by
  have inn : mv_big layY sysY (d + 5) 60 [.ref 0, .int 7] T (fun r T1 => r = none ∧ P none T1) := by
    have e48 : T.1 0 48 = nI ((K ++ Ks.flatten).length + 2) := h.2.2.2.1.1
    have as : (T.2.1 25 ((K ++ Ks.flatten).length + 1) = 0 ∧ T.2.1 26 ((K ++ Ks.flatten).length + 1) = b) ∧ (T.2.1 25 (K ++ Ks.flatten).length = 0 ∧ T.2.1 26 (K ++ Ks.flatten).length = a) ∧ yAs T σ (K ++ Ks.flatten) := h.2.2.2.1.2
    have v1 : vp_in (nI ((K ++ Ks.flatten).length + 1)) 4000 := vp_in_nI (by omega) (by decide)
    have c1 : (nI ((K ++ Ks.flatten).length + 1)).toNatClampNeg = (K ++ Ks.flatten).length + 1 := nI_clamp (by omega)
    have v0 : vp_in (nI (K ++ Ks.flatten).length) 4000 := vp_in_nI (by omega) (by decide)
    have c0 : (nI (K ++ Ks.flatten).length).toNatClampNeg = (K ++ Ks.flatten).length := nI_clamp (by omega)
    refine ⟨100, ?_⟩
    refine ws_iload_n rfl (rfl) rfl (ws_i rfl ⟨fun _ => ?_, fun z => absurd z (show ¬ (7 : Int32) = 0 by decide)⟩)
    refine ws_iload_n rfl (rfl) rfl (ws_iconst (x := 1) rfl rfl rfl (ws_i rfl ⟨fun _ => ?_, fun z => absurd z (show ¬ (7 : Int32) = 1 by decide)⟩))
    refine ws_iload_n rfl (rfl) rfl (ws_iconst (x := 2) rfl rfl rfl (ws_i rfl ⟨fun _ => ?_, fun z => absurd z (show ¬ (7 : Int32) = 2 by decide)⟩))
    refine ws_iload_n rfl (rfl) rfl (ws_iconst (x := 3) rfl rfl rfl (ws_i rfl ⟨fun _ => ?_, fun z => absurd z (show ¬ (7 : Int32) = 3 by decide)⟩))
    refine ws_iload_n rfl (rfl) rfl (ws_bipush (x := 11) rfl rfl rfl (ws_i rfl ⟨fun _ => ?_, fun z => absurd z (show ¬ (7 : Int32) = 11 by decide)⟩))
    refine ws_aload_n rfl (rfl) rfl (ws_getr rfl rfl rfl (ws_aload_n rfl (rfl) rfl (ws_geti rfl rfl (e48) rfl (ws_iconst (x := 1) rfl rfl rfl (ws_isub rfl (nI_pred _) rfl (ws_i rfl ⟨v1, ?_⟩))))))
    rw [c1, as.1.2]
    refine ws_istore_n rfl rfl rfl rfl (ws_aload_n rfl (rfl) rfl (ws_getr rfl rfl rfl (ws_aload_n rfl (rfl) rfl (ws_geti rfl rfl (e48) rfl (ws_iconst (x := 2) rfl rfl rfl (ws_isub rfl (nI_m2 _) rfl (ws_i rfl ⟨v0, ?_⟩)))))))
    rw [c0, as.2.1.2]
    refine ws_istore_n rfl rfl rfl rfl (ws_iload_n rfl (rfl) rfl (ws_bipush (x := 7) rfl rfl rfl (?_)))
    by_cases cb : b = 0
    · skip
      refine ws_i rfl ⟨fun _ => ?_, fun z => absurd rfl z⟩
      refine ws_iload_n rfl (rfl) rfl (ws_i rfl ⟨fun z => absurd cb z, fun _ => ?_⟩)
      refine ws_aload_n rfl (rfl) rfl (ws_iconst (x := 2) rfl rfl rfl (ws_iv rfl rfl rfl ?_))
      refine mv_deep (d := d + 2) (by omega) (y_endA h hi (fun T1 h1 => ?_))
      rw [if_neg (by rw [hw]; decide)] at h1
      refine ws_i rfl ?_
      exact ⟨rfl, hF cb T1 h1⟩
    · skip
      refine ws_i rfl ⟨fun _ => ?_, fun z => absurd rfl z⟩
      refine ws_iload_n rfl (rfl) rfl (ws_i rfl ⟨fun _ => ?_, fun z => absurd z cb⟩)
      refine ws_aload_n rfl (rfl) rfl (ws_dup_r rfl rfl (ws_geti rfl rfl (e48) rfl (ws_iconst (x := 2) rfl rfl rfl (ws_isub rfl (nI_m2 _) rfl (?_)))))
      refine ws_puti rfl rfl rfl ?_
      have h1 : yA T0 (mv_pf T 0 48 (nI (K ++ Ks.flatten).length)) σ sd rm pc e rets K Ks vs mp told most := yA_stk (K' := K) h (fun o f a => by rw [pf_get, if_neg (by omega)]) (fun o i a => rfl) ⟨by rw [pf_get, if_neg (by omega)]; exact h.2.2.1.1, by rw [pf_get, if_neg (by omega)]; exact h.2.2.1.2⟩ ⟨by rw [pf_get, if_pos ⟨rfl, rfl⟩], yAs_go (T := T) (T' := mv_pf T 0 48 (nI (K ++ Ks.flatten).length)) (fun o i _ _ => rfl) (fun p o hp _ _ => rfl) as.2.2⟩ (fun U c z => Or.inr (Or.inr (Or.inr (yZr_go (T := T) (T' := mv_pf T 0 48 (nI (K ++ Ks.flatten).length)) (fun p hp => rfl) z))))
      refine ws_aload_n rfl (rfl) rfl (ws_iload_n rfl (rfl) rfl (ws_iload_n rfl (rfl) rfl (ws_iload_n rfl (rfl) rfl (ws_is rfl rfl rfl ?_))))
      refine mv_deep (d := d + 1) (by omega) (y_of7 cb ?_)
      refine ws_iv rfl rfl rfl ?_
      refine mv_deep (d := d + 1) (by omega) (y_pushA h1 (by omega) (fun T2 h2 => ?_))
      refine ws_aload_n rfl (rfl) rfl (ws_dup_r rfl rfl (ws_geti rfl rfl (h2.2.2.1.1) rfl (ws_iconst (x := 1) rfl rfl rfl (ws_iadd rfl (nI_1 _) rfl (ws_puti rfl rfl rfl (ws_i rfl ?_))))))
      exact ⟨rfl, hP cb _ (yA_next h2)⟩
  refine ⟨40, ?_⟩
  refine ws_aload_n rfl (rfl) rfl (ws_iconst (x := 0) rfl rfl rfl (ws_iv rfl rfl rfl ?_))
  refine mv_deep (d := d + 1) (by omega) (y_wordA (k := 0) h hi (by decide) ?_)
  rw [show yW T0 (pc + 0) = _ from hw]
  refine ws_istore_n rfl rfl rfl rfl (ws_iload_n rfl (rfl) rfl (ws_bipush (x := 30) rfl rfl rfl (ws_i rfl ⟨fun _ => ?_, fun z => absurd z (show ¬ (7 : Int32) = 30 by decide)⟩)))
  refine ws_iload_n rfl (rfl) rfl (ws_bipush (x := 12) rfl rfl rfl (ws_i rfl ⟨fun z => absurd z (show ¬ (12 : Int32) ≤ 7 by decide), fun _ => ?_⟩))
  refine ws_aload_n rfl (rfl) rfl (ws_iload_n rfl (rfl) rfl (ws_iv rfl rfl rfl ?_))
  refine mv_big_mono _ _ (Nat.le_refl _) _ _ _ _ _ (fun r T1 z => ?_) inn
  obtain ⟨rfl, z⟩ := z
  refine ws_goto (t := 58) rfl (by decide) (ws_i rfl ?_)
  exact z
set_option maxHeartbeats 1000000 in
set_option maxRecDepth 8000 in
theorem y_of8 (hb : ¬ b = 0) (hP : P (some (.int (aOp 8 a b))) T) : mv_big layY sysY (d + 1) 61 [.int 8, .int a, .int b] T P := by
  refine ⟨20, ?_⟩
  by_cases c : b = -1
  · rw [show aOp 8 a b = a - a / b * b from rfl, c, i_divm, Int32.neg_mul_neg, Int32.mul_one, Int32.sub_self] at hP
    refine ws_iload_n rfl (rfl) rfl (ws_tab (t := 66) rfl rfl (by decide) (ws_iload_n rfl (rfl) rfl (ws_iconst (x := (-1)) rfl rfl rfl (ws_i rfl ⟨fun z => absurd c z, fun _ => ?_⟩))))
    refine ws_iconst (x := 0) rfl rfl rfl (ws_goto (t := 78) rfl (by decide) (ws_i rfl ?_))
    exact hP
  · refine ws_iload_n rfl (rfl) rfl (ws_tab (t := 66) rfl rfl (by decide) (ws_iload_n rfl (rfl) rfl (ws_iconst (x := (-1)) rfl rfl rfl (ws_i rfl ⟨fun _ => ?_, fun z => absurd z c⟩))))
    refine ws_iload_n rfl (rfl) rfl (ws_iload_n rfl (rfl) rfl (ws_irem rfl (hb) rfl (ws_i rfl ?_)))
    exact hP
set_option maxHeartbeats 1000000 in
set_option maxRecDepth 8000 in
theorem y_pf8 (h : yA T0 T σ sd rm pc e rets (.inl b :: .inl a :: K) Ks vs mp told most) (hi : yIn T0 pc) (hw : yW T0 pc = 8) (hq : (K ++ Ks.flatten).length < 1990) (hF : b = 0 → ∀ T', yA T0 T' σ sd rm (pc + 1) 2 rets (.inl b :: .inl a :: K) Ks vs mp told most → P none T')
    (hP : ¬ b = 0 → ∀ T', yA T0 T' σ sd rm (pc + 1) e rets (.inl (aOp 8 a b) :: K) Ks vs mp told most → P none T') : mv_big layY sysY (d + 6) 58 [.ref 0] T P := by
  have inn : mv_big layY sysY (d + 5) 60 [.ref 0, .int 8] T (fun r T1 => r = none ∧ P none T1) := by
    have e48 : T.1 0 48 = nI ((K ++ Ks.flatten).length + 2) := h.2.2.2.1.1
    have as : (T.2.1 25 ((K ++ Ks.flatten).length + 1) = 0 ∧ T.2.1 26 ((K ++ Ks.flatten).length + 1) = b) ∧ (T.2.1 25 (K ++ Ks.flatten).length = 0 ∧ T.2.1 26 (K ++ Ks.flatten).length = a) ∧ yAs T σ (K ++ Ks.flatten) := h.2.2.2.1.2
    have v1 : vp_in (nI ((K ++ Ks.flatten).length + 1)) 4000 := vp_in_nI (by omega) (by decide)
    have c1 : (nI ((K ++ Ks.flatten).length + 1)).toNatClampNeg = (K ++ Ks.flatten).length + 1 := nI_clamp (by omega)
    have v0 : vp_in (nI (K ++ Ks.flatten).length) 4000 := vp_in_nI (by omega) (by decide)
    have c0 : (nI (K ++ Ks.flatten).length).toNatClampNeg = (K ++ Ks.flatten).length := nI_clamp (by omega)
    refine ⟨100, ?_⟩
    refine ws_iload_n rfl (rfl) rfl (ws_i rfl ⟨fun _ => ?_, fun z => absurd z (show ¬ (8 : Int32) = 0 by decide)⟩)
    refine ws_iload_n rfl (rfl) rfl (ws_iconst (x := 1) rfl rfl rfl (ws_i rfl ⟨fun _ => ?_, fun z => absurd z (show ¬ (8 : Int32) = 1 by decide)⟩))
    refine ws_iload_n rfl (rfl) rfl (ws_iconst (x := 2) rfl rfl rfl (ws_i rfl ⟨fun _ => ?_, fun z => absurd z (show ¬ (8 : Int32) = 2 by decide)⟩))
    refine ws_iload_n rfl (rfl) rfl (ws_iconst (x := 3) rfl rfl rfl (ws_i rfl ⟨fun _ => ?_, fun z => absurd z (show ¬ (8 : Int32) = 3 by decide)⟩))
    refine ws_iload_n rfl (rfl) rfl (ws_bipush (x := 11) rfl rfl rfl (ws_i rfl ⟨fun _ => ?_, fun z => absurd z (show ¬ (8 : Int32) = 11 by decide)⟩))
    refine ws_aload_n rfl (rfl) rfl (ws_getr rfl rfl rfl (ws_aload_n rfl (rfl) rfl (ws_geti rfl rfl (e48) rfl (ws_iconst (x := 1) rfl rfl rfl (ws_isub rfl (nI_pred _) rfl (ws_i rfl ⟨v1, ?_⟩))))))
    rw [c1, as.1.2]
    refine ws_istore_n rfl rfl rfl rfl (ws_aload_n rfl (rfl) rfl (ws_getr rfl rfl rfl (ws_aload_n rfl (rfl) rfl (ws_geti rfl rfl (e48) rfl (ws_iconst (x := 2) rfl rfl rfl (ws_isub rfl (nI_m2 _) rfl (ws_i rfl ⟨v0, ?_⟩)))))))
    rw [c0, as.2.1.2]
    refine ws_istore_n rfl rfl rfl rfl (ws_iload_n rfl (rfl) rfl (ws_bipush (x := 7) rfl rfl rfl (?_)))
    by_cases cb : b = 0
    · skip
      refine ws_i rfl ⟨fun z => absurd z (show ¬ (8 : Int32) = 7 by decide), fun _ => ?_⟩
      refine ws_iload_n rfl (rfl) rfl (ws_bipush (x := 8) rfl rfl rfl (ws_i rfl ⟨fun z => absurd rfl z, fun _ => ?_⟩))
      refine ws_iload_n rfl (rfl) rfl (ws_i rfl ⟨fun z => absurd cb z, fun _ => ?_⟩)
      refine ws_aload_n rfl (rfl) rfl (ws_iconst (x := 2) rfl rfl rfl (ws_iv rfl rfl rfl ?_))
      refine mv_deep (d := d + 2) (by omega) (y_endA h hi (fun T1 h1 => ?_))
      rw [if_neg (by rw [hw]; decide)] at h1
      refine ws_i rfl ?_
      exact ⟨rfl, hF cb T1 h1⟩
    · skip
      refine ws_i rfl ⟨fun z => absurd z (show ¬ (8 : Int32) = 7 by decide), fun _ => ?_⟩
      refine ws_iload_n rfl (rfl) rfl (ws_bipush (x := 8) rfl rfl rfl (ws_i rfl ⟨fun z => absurd rfl z, fun _ => ?_⟩))
      refine ws_iload_n rfl (rfl) rfl (ws_i rfl ⟨fun _ => ?_, fun z => absurd z cb⟩)
      refine ws_aload_n rfl (rfl) rfl (ws_dup_r rfl rfl (ws_geti rfl rfl (e48) rfl (ws_iconst (x := 2) rfl rfl rfl (ws_isub rfl (nI_m2 _) rfl (?_)))))
      refine ws_puti rfl rfl rfl ?_
      have h1 : yA T0 (mv_pf T 0 48 (nI (K ++ Ks.flatten).length)) σ sd rm pc e rets K Ks vs mp told most := yA_stk (K' := K) h (fun o f a => by rw [pf_get, if_neg (by omega)]) (fun o i a => rfl) ⟨by rw [pf_get, if_neg (by omega)]; exact h.2.2.1.1, by rw [pf_get, if_neg (by omega)]; exact h.2.2.1.2⟩ ⟨by rw [pf_get, if_pos ⟨rfl, rfl⟩], yAs_go (T := T) (T' := mv_pf T 0 48 (nI (K ++ Ks.flatten).length)) (fun o i _ _ => rfl) (fun p o hp _ _ => rfl) as.2.2⟩ (fun U c z => Or.inr (Or.inr (Or.inr (yZr_go (T := T) (T' := mv_pf T 0 48 (nI (K ++ Ks.flatten).length)) (fun p hp => rfl) z))))
      refine ws_aload_n rfl (rfl) rfl (ws_iload_n rfl (rfl) rfl (ws_iload_n rfl (rfl) rfl (ws_iload_n rfl (rfl) rfl (ws_is rfl rfl rfl ?_))))
      refine mv_deep (d := d + 1) (by omega) (y_of8 cb ?_)
      refine ws_iv rfl rfl rfl ?_
      refine mv_deep (d := d + 1) (by omega) (y_pushA h1 (by omega) (fun T2 h2 => ?_))
      refine ws_aload_n rfl (rfl) rfl (ws_dup_r rfl rfl (ws_geti rfl rfl (h2.2.2.1.1) rfl (ws_iconst (x := 1) rfl rfl rfl (ws_iadd rfl (nI_1 _) rfl (ws_puti rfl rfl rfl (ws_i rfl ?_))))))
      exact ⟨rfl, hP cb _ (yA_next h2)⟩
  refine ⟨40, ?_⟩
  refine ws_aload_n rfl (rfl) rfl (ws_iconst (x := 0) rfl rfl rfl (ws_iv rfl rfl rfl ?_))
  refine mv_deep (d := d + 1) (by omega) (y_wordA (k := 0) h hi (by decide) ?_)
  rw [show yW T0 (pc + 0) = _ from hw]
  refine ws_istore_n rfl rfl rfl rfl (ws_iload_n rfl (rfl) rfl (ws_bipush (x := 30) rfl rfl rfl (ws_i rfl ⟨fun _ => ?_, fun z => absurd z (show ¬ (8 : Int32) = 30 by decide)⟩)))
  refine ws_iload_n rfl (rfl) rfl (ws_bipush (x := 12) rfl rfl rfl (ws_i rfl ⟨fun z => absurd z (show ¬ (12 : Int32) ≤ 8 by decide), fun _ => ?_⟩))
  refine ws_aload_n rfl (rfl) rfl (ws_iload_n rfl (rfl) rfl (ws_iv rfl rfl rfl ?_))
  refine mv_big_mono _ _ (Nat.le_refl _) _ _ _ _ _ (fun r T1 z => ?_) inn
  obtain ⟨rfl, z⟩ := z
  refine ws_goto (t := 58) rfl (by decide) (ws_i rfl ?_)
  exact z
set_option maxHeartbeats 1000000 in
set_option maxRecDepth 8000 in
theorem y_of9 (hP : P (some (.int (aOp 9 a b))) T) : mv_big layY sysY (d + 1) 61 [.int 9, .int a, .int b] T P := by
  refine ⟨20, ?_⟩
  by_cases c : a < b
  · refine ws_iload_n rfl (rfl) rfl (ws_tab (t := 79) rfl rfl (by decide) (ws_iload_n rfl (rfl) rfl (ws_iload_n rfl (rfl) rfl (ws_i rfl ⟨fun z => absurd z (Int32.not_le.mpr c), fun _ => ?_⟩))))
    refine ws_iconst (x := 1) rfl rfl rfl (ws_goto (t := 89) rfl (by decide) (ws_i rfl ?_))
    rw [show aOp 9 a b = (if a < b then 1 else 0) from rfl, if_pos c] at hP
    exact hP
  · refine ws_iload_n rfl (rfl) rfl (ws_tab (t := 79) rfl rfl (by decide) (ws_iload_n rfl (rfl) rfl (ws_iload_n rfl (rfl) rfl (ws_i rfl ⟨fun _ => ?_, fun z => absurd (Int32.not_lt.mp c) z⟩))))
    refine ws_iconst (x := 0) rfl rfl rfl (ws_i rfl ?_)
    rw [show aOp 9 a b = (if a < b then 1 else 0) from rfl, if_neg c] at hP
    exact hP
set_option maxHeartbeats 1000000 in
set_option maxRecDepth 8000 in
theorem y_pf9 (h : yA T0 T σ sd rm pc e rets (.inl b :: .inl a :: K) Ks vs mp told most) (hi : yIn T0 pc) (hw : yW T0 pc = 9) (hq : (K ++ Ks.flatten).length < 1990)
    (hP : ∀ T', yA T0 T' σ sd rm (pc + 1) e rets (.inl (aOp 9 a b) :: K) Ks vs mp told most → P none T') : mv_big layY sysY (d + 6) 58 [.ref 0] T P := by
  have inn : mv_big layY sysY (d + 5) 60 [.ref 0, .int 9] T (fun r T1 => r = none ∧ P none T1) := by
    have e48 : T.1 0 48 = nI ((K ++ Ks.flatten).length + 2) := h.2.2.2.1.1
    have as : (T.2.1 25 ((K ++ Ks.flatten).length + 1) = 0 ∧ T.2.1 26 ((K ++ Ks.flatten).length + 1) = b) ∧ (T.2.1 25 (K ++ Ks.flatten).length = 0 ∧ T.2.1 26 (K ++ Ks.flatten).length = a) ∧ yAs T σ (K ++ Ks.flatten) := h.2.2.2.1.2
    have v1 : vp_in (nI ((K ++ Ks.flatten).length + 1)) 4000 := vp_in_nI (by omega) (by decide)
    have c1 : (nI ((K ++ Ks.flatten).length + 1)).toNatClampNeg = (K ++ Ks.flatten).length + 1 := nI_clamp (by omega)
    have v0 : vp_in (nI (K ++ Ks.flatten).length) 4000 := vp_in_nI (by omega) (by decide)
    have c0 : (nI (K ++ Ks.flatten).length).toNatClampNeg = (K ++ Ks.flatten).length := nI_clamp (by omega)
    refine ⟨100, ?_⟩
    refine ws_iload_n rfl (rfl) rfl (ws_i rfl ⟨fun _ => ?_, fun z => absurd z (show ¬ (9 : Int32) = 0 by decide)⟩)
    refine ws_iload_n rfl (rfl) rfl (ws_iconst (x := 1) rfl rfl rfl (ws_i rfl ⟨fun _ => ?_, fun z => absurd z (show ¬ (9 : Int32) = 1 by decide)⟩))
    refine ws_iload_n rfl (rfl) rfl (ws_iconst (x := 2) rfl rfl rfl (ws_i rfl ⟨fun _ => ?_, fun z => absurd z (show ¬ (9 : Int32) = 2 by decide)⟩))
    refine ws_iload_n rfl (rfl) rfl (ws_iconst (x := 3) rfl rfl rfl (ws_i rfl ⟨fun _ => ?_, fun z => absurd z (show ¬ (9 : Int32) = 3 by decide)⟩))
    refine ws_iload_n rfl (rfl) rfl (ws_bipush (x := 11) rfl rfl rfl (ws_i rfl ⟨fun _ => ?_, fun z => absurd z (show ¬ (9 : Int32) = 11 by decide)⟩))
    refine ws_aload_n rfl (rfl) rfl (ws_getr rfl rfl rfl (ws_aload_n rfl (rfl) rfl (ws_geti rfl rfl (e48) rfl (ws_iconst (x := 1) rfl rfl rfl (ws_isub rfl (nI_pred _) rfl (ws_i rfl ⟨v1, ?_⟩))))))
    rw [c1, as.1.2]
    refine ws_istore_n rfl rfl rfl rfl (ws_aload_n rfl (rfl) rfl (ws_getr rfl rfl rfl (ws_aload_n rfl (rfl) rfl (ws_geti rfl rfl (e48) rfl (ws_iconst (x := 2) rfl rfl rfl (ws_isub rfl (nI_m2 _) rfl (ws_i rfl ⟨v0, ?_⟩)))))))
    rw [c0, as.2.1.2]
    refine ws_istore_n rfl rfl rfl rfl (ws_iload_n rfl (rfl) rfl (ws_bipush (x := 7) rfl rfl rfl (?_)))
    refine ws_i rfl ⟨fun z => absurd z (show ¬ (9 : Int32) = 7 by decide), fun _ => ?_⟩
    refine ws_iload_n rfl (rfl) rfl (ws_bipush (x := 8) rfl rfl rfl (ws_i rfl ⟨fun _ => ?_, fun z => absurd z (show ¬ (9 : Int32) = 8 by decide)⟩))
    refine ws_aload_n rfl (rfl) rfl (ws_dup_r rfl rfl (ws_geti rfl rfl (e48) rfl (ws_iconst (x := 2) rfl rfl rfl (ws_isub rfl (nI_m2 _) rfl (?_)))))
    refine ws_puti rfl rfl rfl ?_
    have h1 : yA T0 (mv_pf T 0 48 (nI (K ++ Ks.flatten).length)) σ sd rm pc e rets K Ks vs mp told most := yA_stk (K' := K) h (fun o f a => by rw [pf_get, if_neg (by omega)]) (fun o i a => rfl) ⟨by rw [pf_get, if_neg (by omega)]; exact h.2.2.1.1, by rw [pf_get, if_neg (by omega)]; exact h.2.2.1.2⟩ ⟨by rw [pf_get, if_pos ⟨rfl, rfl⟩], yAs_go (T := T) (T' := mv_pf T 0 48 (nI (K ++ Ks.flatten).length)) (fun o i _ _ => rfl) (fun p o hp _ _ => rfl) as.2.2⟩ (fun U c z => Or.inr (Or.inr (Or.inr (yZr_go (T := T) (T' := mv_pf T 0 48 (nI (K ++ Ks.flatten).length)) (fun p hp => rfl) z))))
    refine ws_aload_n rfl (rfl) rfl (ws_iload_n rfl (rfl) rfl (ws_iload_n rfl (rfl) rfl (ws_iload_n rfl (rfl) rfl (ws_is rfl rfl rfl ?_))))
    refine mv_deep (d := d + 1) (by omega) (y_of9 ?_)
    refine ws_iv rfl rfl rfl ?_
    refine mv_deep (d := d + 1) (by omega) (y_pushA h1 (by omega) (fun T2 h2 => ?_))
    refine ws_aload_n rfl (rfl) rfl (ws_dup_r rfl rfl (ws_geti rfl rfl (h2.2.2.1.1) rfl (ws_iconst (x := 1) rfl rfl rfl (ws_iadd rfl (nI_1 _) rfl (ws_puti rfl rfl rfl (ws_i rfl ?_))))))
    exact ⟨rfl, hP _ (yA_next h2)⟩
  refine ⟨40, ?_⟩
  refine ws_aload_n rfl (rfl) rfl (ws_iconst (x := 0) rfl rfl rfl (ws_iv rfl rfl rfl ?_))
  refine mv_deep (d := d + 1) (by omega) (y_wordA (k := 0) h hi (by decide) ?_)
  rw [show yW T0 (pc + 0) = _ from hw]
  refine ws_istore_n rfl rfl rfl rfl (ws_iload_n rfl (rfl) rfl (ws_bipush (x := 30) rfl rfl rfl (ws_i rfl ⟨fun _ => ?_, fun z => absurd z (show ¬ (9 : Int32) = 30 by decide)⟩)))
  refine ws_iload_n rfl (rfl) rfl (ws_bipush (x := 12) rfl rfl rfl (ws_i rfl ⟨fun z => absurd z (show ¬ (12 : Int32) ≤ 9 by decide), fun _ => ?_⟩))
  refine ws_aload_n rfl (rfl) rfl (ws_iload_n rfl (rfl) rfl (ws_iv rfl rfl rfl ?_))
  refine mv_big_mono _ _ (Nat.le_refl _) _ _ _ _ _ (fun r T1 z => ?_) inn
  obtain ⟨rfl, z⟩ := z
  refine ws_goto (t := 58) rfl (by decide) (ws_i rfl ?_)
  exact z
set_option maxHeartbeats 1000000 in
set_option maxRecDepth 8000 in
theorem y_of10 (hP : P (some (.int (aOp 10 a b))) T) : mv_big layY sysY (d + 1) 61 [.int 10, .int a, .int b] T P := by
  refine ⟨20, ?_⟩
  by_cases c : a = b
  · refine ws_iload_n rfl (rfl) rfl (ws_tab (t := 90) rfl rfl (by decide) (ws_iload_n rfl (rfl) rfl (ws_iload_n rfl (rfl) rfl (ws_i rfl ⟨fun z => absurd c z, fun _ => ?_⟩))))
    refine ws_iconst (x := 1) rfl rfl rfl (ws_goto (t := 100) rfl (by decide) (ws_i rfl ?_))
    rw [show aOp 10 a b = (if a = b then 1 else 0) from rfl, if_pos c] at hP
    exact hP
  · refine ws_iload_n rfl (rfl) rfl (ws_tab (t := 90) rfl rfl (by decide) (ws_iload_n rfl (rfl) rfl (ws_iload_n rfl (rfl) rfl (ws_i rfl ⟨fun _ => ?_, fun z => absurd z c⟩))))
    refine ws_iconst (x := 0) rfl rfl rfl (ws_i rfl ?_)
    rw [show aOp 10 a b = (if a = b then 1 else 0) from rfl, if_neg c] at hP
    exact hP
set_option maxHeartbeats 1000000 in
set_option maxRecDepth 8000 in
theorem y_pf10 (h : yA T0 T σ sd rm pc e rets (.inl b :: .inl a :: K) Ks vs mp told most) (hi : yIn T0 pc) (hw : yW T0 pc = 10) (hq : (K ++ Ks.flatten).length < 1990)
    (hP : ∀ T', yA T0 T' σ sd rm (pc + 1) e rets (.inl (aOp 10 a b) :: K) Ks vs mp told most → P none T') : mv_big layY sysY (d + 6) 58 [.ref 0] T P := by
  have inn : mv_big layY sysY (d + 5) 60 [.ref 0, .int 10] T (fun r T1 => r = none ∧ P none T1) := by
    have e48 : T.1 0 48 = nI ((K ++ Ks.flatten).length + 2) := h.2.2.2.1.1
    have as : (T.2.1 25 ((K ++ Ks.flatten).length + 1) = 0 ∧ T.2.1 26 ((K ++ Ks.flatten).length + 1) = b) ∧ (T.2.1 25 (K ++ Ks.flatten).length = 0 ∧ T.2.1 26 (K ++ Ks.flatten).length = a) ∧ yAs T σ (K ++ Ks.flatten) := h.2.2.2.1.2
    have v1 : vp_in (nI ((K ++ Ks.flatten).length + 1)) 4000 := vp_in_nI (by omega) (by decide)
    have c1 : (nI ((K ++ Ks.flatten).length + 1)).toNatClampNeg = (K ++ Ks.flatten).length + 1 := nI_clamp (by omega)
    have v0 : vp_in (nI (K ++ Ks.flatten).length) 4000 := vp_in_nI (by omega) (by decide)
    have c0 : (nI (K ++ Ks.flatten).length).toNatClampNeg = (K ++ Ks.flatten).length := nI_clamp (by omega)
    refine ⟨100, ?_⟩
    refine ws_iload_n rfl (rfl) rfl (ws_i rfl ⟨fun _ => ?_, fun z => absurd z (show ¬ (10 : Int32) = 0 by decide)⟩)
    refine ws_iload_n rfl (rfl) rfl (ws_iconst (x := 1) rfl rfl rfl (ws_i rfl ⟨fun _ => ?_, fun z => absurd z (show ¬ (10 : Int32) = 1 by decide)⟩))
    refine ws_iload_n rfl (rfl) rfl (ws_iconst (x := 2) rfl rfl rfl (ws_i rfl ⟨fun _ => ?_, fun z => absurd z (show ¬ (10 : Int32) = 2 by decide)⟩))
    refine ws_iload_n rfl (rfl) rfl (ws_iconst (x := 3) rfl rfl rfl (ws_i rfl ⟨fun _ => ?_, fun z => absurd z (show ¬ (10 : Int32) = 3 by decide)⟩))
    refine ws_iload_n rfl (rfl) rfl (ws_bipush (x := 11) rfl rfl rfl (ws_i rfl ⟨fun _ => ?_, fun z => absurd z (show ¬ (10 : Int32) = 11 by decide)⟩))
    refine ws_aload_n rfl (rfl) rfl (ws_getr rfl rfl rfl (ws_aload_n rfl (rfl) rfl (ws_geti rfl rfl (e48) rfl (ws_iconst (x := 1) rfl rfl rfl (ws_isub rfl (nI_pred _) rfl (ws_i rfl ⟨v1, ?_⟩))))))
    rw [c1, as.1.2]
    refine ws_istore_n rfl rfl rfl rfl (ws_aload_n rfl (rfl) rfl (ws_getr rfl rfl rfl (ws_aload_n rfl (rfl) rfl (ws_geti rfl rfl (e48) rfl (ws_iconst (x := 2) rfl rfl rfl (ws_isub rfl (nI_m2 _) rfl (ws_i rfl ⟨v0, ?_⟩)))))))
    rw [c0, as.2.1.2]
    refine ws_istore_n rfl rfl rfl rfl (ws_iload_n rfl (rfl) rfl (ws_bipush (x := 7) rfl rfl rfl (?_)))
    refine ws_i rfl ⟨fun z => absurd z (show ¬ (10 : Int32) = 7 by decide), fun _ => ?_⟩
    refine ws_iload_n rfl (rfl) rfl (ws_bipush (x := 8) rfl rfl rfl (ws_i rfl ⟨fun _ => ?_, fun z => absurd z (show ¬ (10 : Int32) = 8 by decide)⟩))
    refine ws_aload_n rfl (rfl) rfl (ws_dup_r rfl rfl (ws_geti rfl rfl (e48) rfl (ws_iconst (x := 2) rfl rfl rfl (ws_isub rfl (nI_m2 _) rfl (?_)))))
    refine ws_puti rfl rfl rfl ?_
    have h1 : yA T0 (mv_pf T 0 48 (nI (K ++ Ks.flatten).length)) σ sd rm pc e rets K Ks vs mp told most := yA_stk (K' := K) h (fun o f a => by rw [pf_get, if_neg (by omega)]) (fun o i a => rfl) ⟨by rw [pf_get, if_neg (by omega)]; exact h.2.2.1.1, by rw [pf_get, if_neg (by omega)]; exact h.2.2.1.2⟩ ⟨by rw [pf_get, if_pos ⟨rfl, rfl⟩], yAs_go (T := T) (T' := mv_pf T 0 48 (nI (K ++ Ks.flatten).length)) (fun o i _ _ => rfl) (fun p o hp _ _ => rfl) as.2.2⟩ (fun U c z => Or.inr (Or.inr (Or.inr (yZr_go (T := T) (T' := mv_pf T 0 48 (nI (K ++ Ks.flatten).length)) (fun p hp => rfl) z))))
    refine ws_aload_n rfl (rfl) rfl (ws_iload_n rfl (rfl) rfl (ws_iload_n rfl (rfl) rfl (ws_iload_n rfl (rfl) rfl (ws_is rfl rfl rfl ?_))))
    refine mv_deep (d := d + 1) (by omega) (y_of10 ?_)
    refine ws_iv rfl rfl rfl ?_
    refine mv_deep (d := d + 1) (by omega) (y_pushA h1 (by omega) (fun T2 h2 => ?_))
    refine ws_aload_n rfl (rfl) rfl (ws_dup_r rfl rfl (ws_geti rfl rfl (h2.2.2.1.1) rfl (ws_iconst (x := 1) rfl rfl rfl (ws_iadd rfl (nI_1 _) rfl (ws_puti rfl rfl rfl (ws_i rfl ?_))))))
    exact ⟨rfl, hP _ (yA_next h2)⟩
  refine ⟨40, ?_⟩
  refine ws_aload_n rfl (rfl) rfl (ws_iconst (x := 0) rfl rfl rfl (ws_iv rfl rfl rfl ?_))
  refine mv_deep (d := d + 1) (by omega) (y_wordA (k := 0) h hi (by decide) ?_)
  rw [show yW T0 (pc + 0) = _ from hw]
  refine ws_istore_n rfl rfl rfl rfl (ws_iload_n rfl (rfl) rfl (ws_bipush (x := 30) rfl rfl rfl (ws_i rfl ⟨fun _ => ?_, fun z => absurd z (show ¬ (10 : Int32) = 30 by decide)⟩)))
  refine ws_iload_n rfl (rfl) rfl (ws_bipush (x := 12) rfl rfl rfl (ws_i rfl ⟨fun z => absurd z (show ¬ (12 : Int32) ≤ 10 by decide), fun _ => ?_⟩))
  refine ws_aload_n rfl (rfl) rfl (ws_iload_n rfl (rfl) rfl (ws_iv rfl rfl rfl ?_))
  refine mv_big_mono _ _ (Nat.le_refl _) _ _ _ _ _ (fun r T1 z => ?_) inn
  obtain ⟨rfl, z⟩ := z
  refine ws_goto (t := 58) rfl (by decide) (ws_i rfl ?_)
  exact z
set_option maxHeartbeats 1000000 in
set_option maxRecDepth 8000 in
theorem y_pf12 (h : yA T0 T σ sd rm pc e rets K Ks vs mp told most) (hi : yIn T0 pc) (hw : yW T0 pc = 12) (hx : yW T0 (pc + 1) = nI pc')
    (hP : ∀ T', yA T0 T' σ sd rm pc' e rets K Ks vs mp told most → P none T') : mv_big layY sysY (d + 6) 58 [.ref 0] T P := by
  have inn : mv_big layY sysY (d + 5) 62 [.ref 0, .int 12] T (fun r T1 => r = none ∧ P none T1) := by
    refine ⟨60, ?_⟩
    refine ws_iload_n rfl (rfl) rfl (ws_tab (t := 40) rfl rfl (by decide) (ws_aload_n rfl (rfl) rfl (ws_aload_n rfl (rfl) rfl (ws_iconst (x := 1) rfl rfl rfl (ws_iv rfl rfl rfl ?_)))))
    refine mv_deep (d := d + 1) (by omega) (y_wordA (k := 1) h hi (by decide) ?_)
    rw [hx]
    refine ws_puti rfl rfl rfl (ws_goto (t := 241) rfl (by decide) (ws_i rfl ?_))
    exact ⟨rfl, hP _ (yA_next h)⟩
  refine ⟨40, ?_⟩
  refine ws_aload_n rfl (rfl) rfl (ws_iconst (x := 0) rfl rfl rfl (ws_iv rfl rfl rfl ?_))
  refine mv_deep (d := d + 1) (by omega) (y_wordA (k := 0) h hi (by decide) ?_)
  rw [show yW T0 (pc + 0) = _ from hw]
  refine ws_istore_n rfl rfl rfl rfl (ws_iload_n rfl (rfl) rfl (ws_bipush (x := 30) rfl rfl rfl (ws_i rfl ⟨fun _ => ?_, fun z => absurd z (show ¬ (12 : Int32) = 30 by decide)⟩)))
  refine ws_iload_n rfl (rfl) rfl (ws_bipush (x := 12) rfl rfl rfl (ws_i rfl ⟨fun _ => ?_, fun z => absurd (show (12 : Int32) ≤ 12 by decide) z⟩))
  refine ws_iload_n rfl (rfl) rfl (ws_bipush (x := 19) rfl rfl rfl (ws_i rfl ⟨fun z => absurd z (show ¬ (19 : Int32) ≤ 12 by decide), fun _ => ?_⟩))
  refine ws_aload_n rfl (rfl) rfl (ws_iload_n rfl (rfl) rfl (ws_iv rfl rfl rfl ?_))
  refine mv_big_mono _ _ (Nat.le_refl _) _ _ _ _ _ (fun r T1 z => ?_) inn
  obtain ⟨rfl, z⟩ := z
  refine ws_goto (t := 58) rfl (by decide) (ws_i rfl ?_)
  exact z
set_option maxHeartbeats 1000000 in
set_option maxRecDepth 8000 in
theorem y_pf13 (h : yA T0 T σ sd rm pc e rets (.inl x :: K) Ks vs mp told most) (hi : yIn T0 pc) (hw : yW T0 pc = 13) (hx : yW T0 (pc + 1) = nI pc') (hq : (K ++ Ks.flatten).length < 1990)
    (hP : ∀ T', yA T0 T' σ sd rm (if x = 0 then pc' else pc + 2) e rets K Ks vs mp told most → P none T') : mv_big layY sysY (d + 6) 58 [.ref 0] T P := by
  have inn : mv_big layY sysY (d + 5) 62 [.ref 0, .int 13] T (fun r T1 => r = none ∧ P none T1) := by
    refine ⟨60, ?_⟩
    refine ws_iload_n rfl (rfl) rfl (ws_tab (t := 52) rfl rfl (by decide) (ws_aload_n rfl (rfl) rfl (ws_aload_n rfl (rfl) rfl (ws_iv rfl rfl rfl ?_))))
    refine mv_deep (d := d + 1) (by omega) (y_popA h (by omega) (fun T1 _ h1 => ?_))
    by_cases c : x = 0
    · skip
      refine ws_i rfl ⟨fun z => absurd c z, fun _ => ?_⟩
      refine ws_aload_n rfl (rfl) rfl (ws_iconst (x := 1) rfl rfl rfl (ws_iv rfl rfl rfl ?_))
      refine mv_deep (d := d + 1) (by omega) (y_wordA (k := 1) h1 hi (by decide) ?_)
      rw [hx]
      refine ws_goto (t := 74) rfl (by decide) (ws_puti rfl rfl rfl (ws_goto (t := 241) rfl (by decide) (ws_i rfl ?_)))
      exact ⟨rfl, hP _ (by rw [if_pos c]; exact yA_next h1)⟩
    · skip
      refine ws_i rfl ⟨fun _ => ?_, fun z => absurd z c⟩
      refine ws_aload_n rfl (rfl) rfl (ws_geti rfl rfl (h1.2.2.1.1) rfl (ws_iconst (x := 2) rfl rfl rfl (ws_iadd rfl (nI_add _ 2) rfl (ws_puti rfl rfl rfl (ws_goto (t := 241) rfl (by decide) (ws_i rfl ?_))))))
      exact ⟨rfl, hP _ (by rw [if_neg c]; exact yA_next h1)⟩
  refine ⟨40, ?_⟩
  refine ws_aload_n rfl (rfl) rfl (ws_iconst (x := 0) rfl rfl rfl (ws_iv rfl rfl rfl ?_))
  refine mv_deep (d := d + 1) (by omega) (y_wordA (k := 0) h hi (by decide) ?_)
  rw [show yW T0 (pc + 0) = _ from hw]
  refine ws_istore_n rfl rfl rfl rfl (ws_iload_n rfl (rfl) rfl (ws_bipush (x := 30) rfl rfl rfl (ws_i rfl ⟨fun _ => ?_, fun z => absurd z (show ¬ (13 : Int32) = 30 by decide)⟩)))
  refine ws_iload_n rfl (rfl) rfl (ws_bipush (x := 12) rfl rfl rfl (ws_i rfl ⟨fun _ => ?_, fun z => absurd (show (12 : Int32) ≤ 13 by decide) z⟩))
  refine ws_iload_n rfl (rfl) rfl (ws_bipush (x := 19) rfl rfl rfl (ws_i rfl ⟨fun z => absurd z (show ¬ (19 : Int32) ≤ 13 by decide), fun _ => ?_⟩))
  refine ws_aload_n rfl (rfl) rfl (ws_iload_n rfl (rfl) rfl (ws_iv rfl rfl rfl ?_))
  refine mv_big_mono _ _ (Nat.le_refl _) _ _ _ _ _ (fun r T1 z => ?_) inn
  obtain ⟨rfl, z⟩ := z
  refine ws_goto (t := 58) rfl (by decide) (ws_i rfl ?_)
  exact z
set_option maxHeartbeats 1000000 in
set_option maxRecDepth 8000 in
theorem y_pf14 (h : yA T0 T σ sd rm pc e rets (.inl x :: K) Ks vs mp told most) (hi : yIn T0 pc) (hw : yW T0 pc = 14) (hx : yW T0 (pc + 1) = nI pc') (hq : (K ++ Ks.flatten).length < 1990)
    (hP : ∀ T', yA T0 T' σ sd rm (if x = 0 then pc + 2 else pc') e rets K Ks vs mp told most → P none T') : mv_big layY sysY (d + 6) 58 [.ref 0] T P := by
  have inn : mv_big layY sysY (d + 5) 62 [.ref 0, .int 14] T (fun r T1 => r = none ∧ P none T1) := by
    refine ⟨60, ?_⟩
    refine ws_iload_n rfl (rfl) rfl (ws_tab (t := 80) rfl rfl (by decide) (ws_aload_n rfl (rfl) rfl (ws_aload_n rfl (rfl) rfl (ws_iv rfl rfl rfl ?_))))
    refine mv_deep (d := d + 1) (by omega) (y_popA h (by omega) (fun T1 _ h1 => ?_))
    by_cases c : x = 0
    · skip
      refine ws_i rfl ⟨fun _ => ?_, fun z => absurd c z⟩
      refine ws_aload_n rfl (rfl) rfl (ws_geti rfl rfl (h1.2.2.1.1) rfl (ws_iconst (x := 2) rfl rfl rfl (ws_iadd rfl (nI_add _ 2) rfl (ws_puti rfl rfl rfl (ws_goto (t := 241) rfl (by decide) (ws_i rfl ?_))))))
      exact ⟨rfl, hP _ (by rw [if_pos c]; exact yA_next h1)⟩
    · skip
      refine ws_i rfl ⟨fun z => absurd z c, fun _ => ?_⟩
      refine ws_aload_n rfl (rfl) rfl (ws_iconst (x := 1) rfl rfl rfl (ws_iv rfl rfl rfl ?_))
      refine mv_deep (d := d + 1) (by omega) (y_wordA (k := 1) h1 hi (by decide) ?_)
      rw [hx]
      refine ws_goto (t := 102) rfl (by decide) (ws_puti rfl rfl rfl (ws_goto (t := 241) rfl (by decide) (ws_i rfl ?_)))
      exact ⟨rfl, hP _ (by rw [if_neg c]; exact yA_next h1)⟩
  refine ⟨40, ?_⟩
  refine ws_aload_n rfl (rfl) rfl (ws_iconst (x := 0) rfl rfl rfl (ws_iv rfl rfl rfl ?_))
  refine mv_deep (d := d + 1) (by omega) (y_wordA (k := 0) h hi (by decide) ?_)
  rw [show yW T0 (pc + 0) = _ from hw]
  refine ws_istore_n rfl rfl rfl rfl (ws_iload_n rfl (rfl) rfl (ws_bipush (x := 30) rfl rfl rfl (ws_i rfl ⟨fun _ => ?_, fun z => absurd z (show ¬ (14 : Int32) = 30 by decide)⟩)))
  refine ws_iload_n rfl (rfl) rfl (ws_bipush (x := 12) rfl rfl rfl (ws_i rfl ⟨fun _ => ?_, fun z => absurd (show (12 : Int32) ≤ 14 by decide) z⟩))
  refine ws_iload_n rfl (rfl) rfl (ws_bipush (x := 19) rfl rfl rfl (ws_i rfl ⟨fun z => absurd z (show ¬ (19 : Int32) ≤ 14 by decide), fun _ => ?_⟩))
  refine ws_aload_n rfl (rfl) rfl (ws_iload_n rfl (rfl) rfl (ws_iv rfl rfl rfl ?_))
  refine mv_big_mono _ _ (Nat.le_refl _) _ _ _ _ _ (fun r T1 z => ?_) inn
  obtain ⟨rfl, z⟩ := z
  refine ws_goto (t := 58) rfl (by decide) (ws_i rfl ?_)
  exact z
set_option maxHeartbeats 1000000 in
set_option maxRecDepth 8000 in
theorem y_pf18 (h : yA T0 T σ sd rm pc e rets (.inl x :: K) Ks vs mp told most) (hi : yIn T0 pc) (hw : yW T0 pc = 18)
    (hP : ∀ T', yA T0 T' σ sd rm (pc + 1) e rets K Ks vs mp told most → P none T') : mv_big layY sysY (d + 6) 58 [.ref 0] T P := by
  have inn : mv_big layY sysY (d + 5) 62 [.ref 0, .int 18] T (fun r T1 => r = none ∧ P none T1) := by
    have e48 : T.1 0 48 = nI ((K ++ Ks.flatten).length + 1) := h.2.2.2.1.1
    refine ⟨60, ?_⟩
    refine ws_iload_n rfl (rfl) rfl (ws_tab (t := 221) rfl rfl (by decide) (ws_aload_n rfl (rfl) rfl (ws_dup_r rfl rfl (ws_geti rfl rfl (e48) rfl (ws_iconst (x := 1) rfl rfl rfl (ws_isub rfl (nI_pred _) rfl (?_)))))))
    refine ws_puti rfl rfl rfl ?_
    have h1 : yA T0 (mv_pf T 0 48 (nI (K ++ Ks.flatten).length)) σ sd rm pc e rets K Ks vs mp told most := yA_stk (K' := K) h (fun o f a => by rw [pf_get, if_neg (by omega)]) (fun o i a => rfl) ⟨by rw [pf_get, if_neg (by omega)]; exact h.2.2.1.1, by rw [pf_get, if_neg (by omega)]; exact h.2.2.1.2⟩ ⟨by rw [pf_get, if_pos ⟨rfl, rfl⟩], yAs_go (T := T) (T' := mv_pf T 0 48 (nI (K ++ Ks.flatten).length)) (fun o i _ _ => rfl) (fun p o hp _ _ => rfl) h.2.2.2.1.2.2⟩ (fun U c z => Or.inr (Or.inr (Or.inr (yZr_go (T := T) (T' := mv_pf T 0 48 (nI (K ++ Ks.flatten).length)) (fun p hp => rfl) z))))
    refine ws_aload_n rfl (rfl) rfl (ws_dup_r rfl rfl (ws_geti rfl rfl (h1.2.2.1.1) rfl (ws_iconst (x := 1) rfl rfl rfl (ws_iadd rfl (nI_1 _) rfl (ws_puti rfl rfl rfl (ws_i rfl ?_))))))
    exact ⟨rfl, hP _ (yA_next h1)⟩
  refine ⟨40, ?_⟩
  refine ws_aload_n rfl (rfl) rfl (ws_iconst (x := 0) rfl rfl rfl (ws_iv rfl rfl rfl ?_))
  refine mv_deep (d := d + 1) (by omega) (y_wordA (k := 0) h hi (by decide) ?_)
  rw [show yW T0 (pc + 0) = _ from hw]
  refine ws_istore_n rfl rfl rfl rfl (ws_iload_n rfl (rfl) rfl (ws_bipush (x := 30) rfl rfl rfl (ws_i rfl ⟨fun _ => ?_, fun z => absurd z (show ¬ (18 : Int32) = 30 by decide)⟩)))
  refine ws_iload_n rfl (rfl) rfl (ws_bipush (x := 12) rfl rfl rfl (ws_i rfl ⟨fun _ => ?_, fun z => absurd (show (12 : Int32) ≤ 18 by decide) z⟩))
  refine ws_iload_n rfl (rfl) rfl (ws_bipush (x := 19) rfl rfl rfl (ws_i rfl ⟨fun z => absurd z (show ¬ (19 : Int32) ≤ 18 by decide), fun _ => ?_⟩))
  refine ws_aload_n rfl (rfl) rfl (ws_iload_n rfl (rfl) rfl (ws_iv rfl rfl rfl ?_))
  refine mv_big_mono _ _ (Nat.le_refl _) _ _ _ _ _ (fun r T1 z => ?_) inn
  obtain ⟨rfl, z⟩ := z
  refine ws_goto (t := 58) rfl (by decide) (ws_i rfl ?_)
  exact z
end YB

/-! THE REFERENCE'S WORDS: telling, going back, maps -/
theorem yAs_app {T : mv_S} {σ : Nat → Nat} : ∀ {D A : List aI}, yAs T σ (D ++ A) → yAs T σ A
  | [], _, h => h
  | .inl _ :: _, _, h => yAs_app h.2
  | .inr _ :: _, _, h => yAs_app h.2
theorem yZr_app {T : mv_S} {U : tT} {c : Int32} : ∀ {D A : List aI}, yZr T A U c → yZr T (D ++ A) U c
  | [], _, h => h
  | .inl _ :: D, _, h => yZr_app (D := D) h
  | .inr _ :: D, _, h => Or.inr (yZr_app (D := D) h)
theorem y_ix : ∀ v, v < 6 → ¬ v < 4 → ∀ n, n < 25 → (2 : Int32) * nI n + nI v - 4 = nI (2 * n + v - 4) := by decide +kernel
section YB
variable {d : Nat} {P : Option Value → mv_S → Prop} {T0 T T' : mv_S} {σ : Nat → Nat} {sd : Int32} {rm pc pc' : Nat} {e x a b : Int32} {rets : List Nat} {K K1 : List aI} {Ks : List (List aI)} {vs : Nat → Int32} {mp : Nat → tT} {told : List Int32} {most v r : Nat} {U : tT} {q : Option Int32}
theorem yA_told (h : yA T0 T σ sd rm pc e rets K Ks vs mp told most) (lt : told.length < 300) (f' : ∀ o f, T'.1 o f = if o = 0 ∧ f = 50 then nI (told.length + 1) else T.1 o f) (r' : ∀ o i, T'.2.1 o i = if o = 29 ∧ i = told.length then x else T.2.1 o i) : yA T0 T' σ sd rm pc e rets K Ks vs mp (told ++ [x]) most := by
  have h0 := h
  obtain ⟨a1, a2, a3, a4, a5, a6, a7, a8, a9, a10⟩ := h
  have f : ∀ o f, ¬ (o = 0 ∧ f = 50) → T'.1 o f = T.1 o f := fun o f a => by rw [f', if_neg a]
  have r : ∀ o i, o ≠ 29 → T'.2.1 o i = T.2.1 o i := fun o i a => by rw [r', if_neg (fun z => a z.1)]
  have hs : yHs T T' := fun o i _ _ => r o i (by omega)
  refine yA_gen h0 ⟨fun o g a => f o g (fun z => a ⟨z.1, by unfold yFs; omega⟩), fun o i a => r o i (by omega)⟩ hs ⟨(f 0 51 (by omega)).trans a3.1, (f 0 53 (by omega)).trans a3.2⟩ ⟨(f 0 48 (by omega)).trans a4.1, yAs_go hs (fun p o _ _ _ => r o p (by omega)) a4.2⟩ ⟨(f 0 43 (by omega)).trans a5.1, a5.2.1, yBs_go (fun o i _ _ => r o i (by omega)) a5.2.2⟩ ⟨fun i hi => (r 19 i (by decide)).trans (a6.1 i hi), fun k hk => (r 21 k (by decide)).trans (a6.2 k hk)⟩ ⟨fun i hi => by rw [r 20 i (by decide)]; exact yTr_hs hs (a7.1 i hi), fun k hk => by rw [r 22 k (by decide)]; exact yTr_hs hs (a7.2 k hk)⟩ ⟨by rw [f', if_pos ⟨rfl, rfl⟩]; simp, by simp; omega, fun p y hp => ?_⟩ ((f 0 33 (by omega)).trans a9) (fun U c z => Or.inr ?_)
  · by_cases c : p < told.length
    · rw [List.getElem?_append_left c] at hp
      rw [r', if_neg (by omega)]; exact a8.2.2 p y hp
    · have hlt := (List.getElem?_eq_some_iff.mp hp).1
      simp at hlt
      obtain rfl : p = told.length := by omega
      rw [stk_last] at hp
      rw [r', if_pos ⟨rfl, rfl⟩]; exact Option.some.inj hp
  · rcases z with ⟨i, i1, i2, i3⟩ | ⟨i, i1, i2, i3⟩ | z
    · exact Or.inl ⟨i, i1, i2, by rw [i3]; exact r 20 i (by decide)⟩
    · exact Or.inr (Or.inl ⟨i, i1, i2, by rw [i3]; exact r 22 i (by decide)⟩)
    · exact Or.inr (Or.inr (yZr_go (fun p _ => r 26 p (by decide)) z))
set_option maxHeartbeats 1000000 in
set_option maxRecDepth 8000 in
theorem y_pf15 (h : yA T0 T σ sd rm pc e rets (.inl x :: K) Ks vs mp told most) (hi : yIn T0 pc) (hw : yW T0 pc = 15) (hq : (K ++ Ks.flatten).length < 1990) (hF : told.length = 300 → ∀ T', yA T0 T' σ sd rm (pc + 1) 4 rets (.inl x :: K) Ks vs mp told most → P none T')
    (hP : told.length < 300 → ∀ T', yA T0 T' σ sd rm (pc + 1) e rets K Ks vs mp (told ++ [x]) most → P none T') : mv_big layY sysY (d + 6) 58 [.ref 0] T P := by
  have inn : mv_big layY sysY (d + 5) 62 [.ref 0, .int 15] T (fun r T1 => r = none ∧ P none T1) := by
    have e50 := h.2.2.2.2.2.2.2.1.1
    have l300 := h.2.2.2.2.2.2.2.1.2.1
    refine ⟨80, ?_⟩
    refine ws_iload_n rfl (rfl) rfl (ws_tab (t := 108) rfl rfl (by decide) (?_))
    by_cases c : told.length = 300
    · rw [c] at e50
      refine ws_aload_n rfl (rfl) rfl (ws_geti rfl rfl (e50) rfl (ws_sipush (x := 300) rfl rfl rfl (ws_i rfl ⟨fun z => absurd rfl z, fun _ => ?_⟩)))
      refine ws_aload_n rfl (rfl) rfl (ws_iconst (x := 4) rfl rfl rfl (ws_iv rfl rfl rfl ?_))
      refine mv_deep (d := d + 2) (by omega) (y_endA h hi (fun T1 h1 => ?_))
      rw [if_neg (by rw [hw]; decide)] at h1
      refine ws_i rfl ?_
      exact ⟨rfl, hF c T1 h1⟩
    · have lt : told.length < 300 := by omega
      have ne : ¬ nI told.length = 300 := fun z => c ((nI_eq (b := 300) (by omega) (by decide)).mp z)
      have vt : vp_in (nI told.length) 300 := vp_in_nI lt (by decide)
      have ct : (nI told.length).toNatClampNeg = told.length := nI_clamp (by omega)
      refine ws_aload_n rfl (rfl) rfl (ws_geti rfl rfl (e50) rfl (ws_sipush (x := 300) rfl rfl rfl (ws_i rfl ⟨fun _ => ?_, fun z => absurd z ne⟩)))
      refine ws_aload_n rfl (rfl) rfl (ws_getr rfl rfl rfl (ws_aload_n rfl (rfl) rfl (ws_geti rfl rfl (e50) rfl (ws_aload_n rfl (rfl) rfl (ws_iv rfl rfl rfl ?_)))))
      refine mv_deep (d := d + 1) (by omega) (y_popA h (by omega) (fun T1 e1 h1 => ?_))
      have e51 := h1.2.2.2.2.2.2.2.1.1
      refine ws_i rfl ⟨vt, ?_⟩
      rw [ct]
      refine ws_aload_n rfl (rfl) rfl (ws_dup_r rfl rfl (ws_geti rfl rfl (e51) rfl (ws_iconst (x := 1) rfl rfl rfl (ws_iadd rfl (nI_1 _) rfl (?_)))))
      refine ws_puti rfl rfl rfl ?_
      obtain ⟨T2, hT2⟩ : ∃ T2, T2 = mv_pf (mv_pr T1 29 told.length x) 0 50 (nI (told.length + 1)) := ⟨_, rfl⟩
      rw [← hT2]
      have h2 := yA_told (T' := T2) (x := x) h1 lt (fun o f => by rw [hT2, pf_get]; rfl) (fun o i => by rw [hT2]; show (mv_pr T1 29 told.length x).2.1 o i = _; rw [pr_get])
      refine ws_aload_n rfl (rfl) rfl (ws_dup_r rfl rfl (ws_geti rfl rfl (h2.2.2.1.1) rfl (ws_iconst (x := 1) rfl rfl rfl (ws_iadd rfl (nI_1 _) rfl (ws_puti rfl rfl rfl (ws_goto (t := 241) rfl (by decide) (ws_i rfl ?_)))))))
      exact ⟨rfl, hP lt _ (yA_next h2)⟩
  refine ⟨40, ?_⟩
  refine ws_aload_n rfl (rfl) rfl (ws_iconst (x := 0) rfl rfl rfl (ws_iv rfl rfl rfl ?_))
  refine mv_deep (d := d + 1) (by omega) (y_wordA (k := 0) h hi (by decide) ?_)
  rw [show yW T0 (pc + 0) = _ from hw]
  refine ws_istore_n rfl rfl rfl rfl (ws_iload_n rfl (rfl) rfl (ws_bipush (x := 30) rfl rfl rfl (ws_i rfl ⟨fun _ => ?_, fun z => absurd z (show ¬ (15 : Int32) = 30 by decide)⟩)))
  refine ws_iload_n rfl (rfl) rfl (ws_bipush (x := 12) rfl rfl rfl (ws_i rfl ⟨fun _ => ?_, fun z => absurd (show (12 : Int32) ≤ 15 by decide) z⟩))
  refine ws_iload_n rfl (rfl) rfl (ws_bipush (x := 19) rfl rfl rfl (ws_i rfl ⟨fun z => absurd z (show ¬ (19 : Int32) ≤ 15 by decide), fun _ => ?_⟩))
  refine ws_aload_n rfl (rfl) rfl (ws_iload_n rfl (rfl) rfl (ws_iv rfl rfl rfl ?_))
  refine mv_big_mono _ _ (Nat.le_refl _) _ _ _ _ _ (fun r T1 z => ?_) inn
  obtain ⟨rfl, z⟩ := z
  refine ws_goto (t := 58) rfl (by decide) (ws_i rfl ?_)
  exact z
set_option maxHeartbeats 1000000 in
set_option maxRecDepth 8000 in
theorem y_pf17 (h : yA T0 T σ sd rm pc e (r :: rets) (.inl x :: K) (K1 :: Ks) vs mp told most) (hi : yIn T0 pc) (hw : yW T0 pc = 17) (hq : (K ++ (K1 :: Ks).flatten).length < 1990)
    (hP : ∀ T', yA T0 T' σ sd rm r e rets (.inl x :: K1) Ks vs mp told most → P none T') : mv_big layY sysY (d + 6) 58 [.ref 0] T P := by
  have inn : mv_big layY sysY (d + 5) 62 [.ref 0, .int 17] T (fun r T1 => r = none ∧ P none T1) := by
    have e43 : T.1 0 43 = nI (Ks.length + 1) := h.2.2.2.2.1.1
    have c24 : Ks.length + 1 ≤ 24 := h.2.2.2.2.1.2.1
    have bs : (T.2.1 24 (Ks.length + 1) = nI (K1 ++ Ks.flatten).length ∧ T.2.1 23 (Ks.length + 1) = nI r) ∧ yBs T Ks rets := h.2.2.2.2.1.2.2
    have vc : vp_in (nI (Ks.length + 1)) 25 := vp_in_nI (by omega) (by decide)
    have cc : (nI (Ks.length + 1)).toNatClampNeg = Ks.length + 1 := nI_clamp (by omega)
    refine ⟨100, ?_⟩
    refine ws_iload_n rfl (rfl) rfl (ws_tab (t := 172) rfl rfl (by decide) (ws_aload_n rfl (rfl) rfl (ws_iv rfl rfl rfl ?_)))
    refine mv_deep (d := d + 1) (by omega) (y_popA h (by omega) (fun T1 e1 h1 => ?_))
    have f43 : T1.1 0 43 = nI (Ks.length + 1) := h1.2.2.2.2.1.1
    refine ws_istore_n rfl rfl rfl rfl (ws_aload_n rfl (rfl) rfl (ws_aload_n rfl (rfl) rfl (ws_getr rfl rfl rfl (ws_aload_n rfl (rfl) rfl (ws_geti rfl rfl (f43) rfl (ws_i rfl ⟨vc, ?_⟩))))))
    rw [cc, e1, bs.1.1]
    refine ws_puti rfl rfl rfl ?_
    refine ws_aload_n rfl (rfl) rfl (ws_aload_n rfl (rfl) rfl (ws_getr rfl rfl rfl (ws_aload_n rfl (rfl) rfl (ws_geti rfl rfl ((show (mv_pf T1 0 48 (nI (K1 ++ Ks.flatten).length)).1 0 43 = _ by rw [pf_get, if_neg (by omega)]; exact f43)) rfl (ws_i rfl ⟨vc, ?_⟩)))))
    rw [cc, show (mv_pf T1 0 48 (nI (K1 ++ Ks.flatten).length)).2.1 23 = T1.2.1 23 from rfl, e1, bs.1.2]
    refine ws_puti rfl rfl rfl ?_
    refine ws_aload_n rfl (rfl) rfl (ws_dup_r rfl rfl (ws_geti rfl rfl ((show (mv_pf (mv_pf T1 0 48 (nI (K1 ++ Ks.flatten).length)) 0 51 (nI r)).1 0 43 = _ by rw [pf_get, if_neg (by omega), pf_get, if_neg (by omega)]; exact f43)) rfl (ws_iconst (x := 1) rfl rfl rfl (ws_isub rfl (nI_pred _) rfl (?_)))))
    refine ws_puti rfl rfl rfl ?_
    obtain ⟨T2, hT2⟩ : ∃ T2, T2 = mv_pf (mv_pf (mv_pf T1 0 48 (nI (K1 ++ Ks.flatten).length)) 0 51 (nI r)) 0 43 (nI Ks.length) := ⟨_, rfl⟩
    rw [← hT2]
    have f2 : ∀ o f, T2.1 o f = if o = 0 ∧ f = 43 then nI Ks.length else if o = 0 ∧ f = 51 then nI r else if o = 0 ∧ f = 48 then nI (K1 ++ Ks.flatten).length else T1.1 o f := fun o f => by rw [hT2, pf_get, pf_get, pf_get]
    have r2 : ∀ o i, T2.2.1 o i = T1.2.1 o i := fun o i => by rw [hT2]; rfl
    have fl : (K1 :: Ks).flatten = K1 ++ Ks.flatten := List.flatten_cons
    have h2 : yA T0 T2 σ sd rm r e rets K1 Ks vs mp told most := by
      obtain ⟨a1, a2, a3, a4, a5, a6, a7, a8, a9, a10⟩ := id h1
      simp only [List.length_cons] at a6 a7
      have bs1 : yBs T1 Ks rets := yBs_go (T := T) (fun o i _ _ => by rw [e1]) bs.2
      rw [fl] at a4
      refine yA_gen h1 ⟨fun o g a => by rw [f2, if_neg (fun z => a ⟨z.1, by unfold yFs; omega⟩), if_neg (fun z => a ⟨z.1, by unfold yFs; omega⟩), if_neg (fun z => a ⟨z.1, by unfold yFs; omega⟩)], fun o i _ => r2 o i⟩ (fun o i _ _ => r2 o i) ⟨by rw [f2, if_neg (by omega), if_pos ⟨rfl, rfl⟩], by rw [f2, if_neg (by omega), if_neg (by omega), if_neg (by omega)]; exact a3.2⟩ ⟨by rw [f2, if_neg (by omega), if_neg (by omega), if_pos ⟨rfl, rfl⟩], yAs_go (fun o i _ _ => r2 o i) (fun p o _ _ _ => r2 o p) (yAs_app a4.2)⟩ ⟨by rw [f2, if_pos ⟨rfl, rfl⟩], by omega, yBs_go (fun o i _ _ => r2 o i) bs1⟩ ⟨fun i hi => (r2 19 i).trans (a6.1 i hi), fun k hk => (r2 21 k).trans (a6.2 k (by omega))⟩ ⟨fun i hi => by rw [r2 20 i]; exact yTr_hs (fun o i _ _ => r2 o i) (a7.1 i hi), fun k hk => by rw [r2 22 k]; exact yTr_hs (fun o i _ _ => r2 o i) (a7.2 k (by omega))⟩ ⟨by rw [f2, if_neg (by omega), if_neg (by omega), if_neg (by omega)]; exact a8.1, a8.2.1, fun p y hp => (r2 29 p).trans (a8.2.2 p y hp)⟩ (by rw [f2, if_neg (by omega), if_neg (by omega), if_neg (by omega)]; exact a9) (fun U c z => Or.inr ?_)
      rcases z with ⟨i, i1, i2, i3⟩ | ⟨i, i1, i2, i3⟩ | z
      · exact Or.inl ⟨i, i1, i2, by rw [i3]; exact r2 20 i⟩
      · exact Or.inr (Or.inl ⟨i, by simp only [List.length_cons]; omega, i2, by rw [i3]; exact r2 22 i⟩)
      · rw [fl]
        exact Or.inr (Or.inr (yZr_app (yZr_go (fun p _ => r2 26 p) z)))
    refine ws_aload_n rfl (rfl) rfl (ws_iload_n rfl (rfl) rfl (ws_iv rfl rfl rfl ?_))
    refine mv_deep (d := d + 1) (by omega) (y_pushA h2 (by have := hq; rw [fl, List.length_append] at this; omega) (fun T3 h3 => ?_))
    refine ws_goto (t := 241) rfl (by decide) (ws_i rfl ?_)
    exact ⟨rfl, hP T3 h3⟩
  refine ⟨40, ?_⟩
  refine ws_aload_n rfl (rfl) rfl (ws_iconst (x := 0) rfl rfl rfl (ws_iv rfl rfl rfl ?_))
  refine mv_deep (d := d + 1) (by omega) (y_wordA (k := 0) h hi (by decide) ?_)
  rw [show yW T0 (pc + 0) = _ from hw]
  refine ws_istore_n rfl rfl rfl rfl (ws_iload_n rfl (rfl) rfl (ws_bipush (x := 30) rfl rfl rfl (ws_i rfl ⟨fun _ => ?_, fun z => absurd z (show ¬ (17 : Int32) = 30 by decide)⟩)))
  refine ws_iload_n rfl (rfl) rfl (ws_bipush (x := 12) rfl rfl rfl (ws_i rfl ⟨fun _ => ?_, fun z => absurd (show (12 : Int32) ≤ 17 by decide) z⟩))
  refine ws_iload_n rfl (rfl) rfl (ws_bipush (x := 19) rfl rfl rfl (ws_i rfl ⟨fun z => absurd z (show ¬ (19 : Int32) ≤ 17 by decide), fun _ => ?_⟩))
  refine ws_aload_n rfl (rfl) rfl (ws_iload_n rfl (rfl) rfl (ws_iv rfl rfl rfl ?_))
  refine mv_big_mono _ _ (Nat.le_refl _) _ _ _ _ _ (fun r T1 z => ?_) inn
  obtain ⟨rfl, z⟩ := z
  refine ws_goto (t := 58) rfl (by decide) (ws_i rfl ?_)
  exact z
set_option maxHeartbeats 1000000 in
set_option maxRecDepth 8000 in
theorem y_mapOfA (h : yA T0 T σ sd rm pc e rets K Ks vs mp told most) (hv : v < 6) (hP : ∀ c, yTr T σ (mp (aMP Ks.length v)) c → yRt T (K ++ Ks.flatten) Ks.length mp (mp (aMP Ks.length v)) c → P (some (.int c)) T) : mv_big layY sysY (d + 1) 64 [.ref 0, .int (nI v)] T P := by
  have n24 := h.2.2.2.2.1.2.1
  have e43 := h.2.2.2.2.1.1
  refine ⟨30, ?_⟩
  by_cases c : v < 4
  · have vv : vp_in (nI v) 4 := vp_in_nI c (by decide)
    have cv : (nI v).toNatClampNeg = v := nI_clamp (by omega)
    have ea : aMP Ks.length v = v := if_pos c
    rw [ea] at hP
    refine ws_iload_n rfl (rfl) rfl (ws_iconst (x := 4) rfl rfl rfl (ws_i rfl ⟨fun z => absurd z (nI_ge (b := 4) (by omega) (by decide)), fun _ => ?_⟩))
    refine ws_aload_n rfl (rfl) rfl (ws_getr rfl rfl rfl (ws_iload_n rfl (rfl) rfl (ws_i rfl ⟨vv, ?_⟩)))
    rw [cv]
    refine ws_goto (t := 29) rfl (by decide) (ws_i rfl ?_)
    exact hP _ (h.2.2.2.2.2.2.1.1 v c) (Or.inl ⟨v, c, rfl, rfl⟩)
  · have ea : aMP Ks.length v = 4 + (2 * Ks.length + v - 4) := by unfold aMP; rw [if_neg c]; omega
    have vv : vp_in (nI (2 * Ks.length + v - 4)) 50 := vp_in_nI (by omega) (by decide)
    have cv : (nI (2 * Ks.length + v - 4)).toNatClampNeg = 2 * Ks.length + v - 4 := nI_clamp (by omega)
    rw [ea] at hP
    have ex := y_ix v hv c Ks.length (by omega)
    refine ws_iload_n rfl (rfl) rfl (ws_iconst (x := 4) rfl rfl rfl (ws_i rfl ⟨fun _ => ?_, fun z => absurd (nI_le (a := 4) (by omega) (by omega)) z⟩))
    refine ws_aload_n rfl (rfl) rfl (ws_getr rfl rfl rfl (ws_iconst (x := 2) rfl rfl rfl (ws_aload_n rfl (rfl) rfl (ws_geti rfl rfl (e43) rfl (ws_imul rfl (rfl) rfl (ws_iload_n rfl (rfl) rfl (ws_iadd rfl (rfl) rfl (ws_iconst (x := 4) rfl rfl rfl (ws_isub rfl (ex) rfl (ws_i rfl ⟨vv, ?_⟩))))))))))
    rw [cv]
    refine ws_i rfl ?_
    exact hP _ (h.2.2.2.2.2.2.1.2 _ (by omega)) (Or.inr (Or.inl ⟨_, by omega, rfl, rfl⟩))
set_option maxHeartbeats 1000000 in
set_option maxRecDepth 8000 in
theorem y_pf19 (h : yA T0 T σ sd rm pc e rets K Ks vs mp told most) (hi : yIn T0 pc) (hw : yW T0 pc = 19) (hx : yW T0 (pc + 1) = nI v) (hv : v < 6) (hq : (K ++ Ks.flatten).length < 1990)
    (hP : ∀ T', yA T0 T' σ sd rm (pc + 2) e rets (.inr (mp (aMP Ks.length v), none) :: K) Ks vs mp told most → P none T') : mv_big layY sysY (d + 6) 58 [.ref 0] T P := by
  have inn : mv_big layY sysY (d + 5) 65 [.ref 0, .int 19] T (fun r T1 => r = none ∧ P none T1) := by
    refine ⟨60, ?_⟩
    refine ws_iload_n rfl (rfl) rfl (ws_tab (t := 60) rfl rfl (by decide) (ws_aload_n rfl (rfl) rfl (ws_aload_n rfl (rfl) rfl (ws_aload_n rfl (rfl) rfl (ws_iconst (x := 1) rfl rfl rfl (ws_iv rfl rfl rfl ?_))))))
    refine mv_deep (d := d + 1) (by omega) (y_wordA (k := 1) h hi (by decide) ?_)
    rw [hx]
    refine ws_iv rfl rfl rfl ?_
    refine mv_deep (d := d + 1) (by omega) (y_mapOfA h hv (fun c h1 h2 => ?_))
    refine ws_iv rfl rfl rfl ?_
    refine mv_deep (d := d + 1) (by omega) (y_pushMapA h (by omega) h1 (Or.inr h2) (fun T1 h3 => ?_))
    refine ws_aload_n rfl (rfl) rfl (ws_dup_r rfl rfl (ws_geti rfl rfl (h3.2.2.1.1) rfl (ws_iconst (x := 2) rfl rfl rfl (ws_iadd rfl (nI_add _ 2) rfl (ws_puti rfl rfl rfl (ws_goto (t := 179) rfl (by decide) (ws_i rfl ?_)))))))
    exact ⟨rfl, hP _ (yA_next h3)⟩
  refine ⟨40, ?_⟩
  refine ws_aload_n rfl (rfl) rfl (ws_iconst (x := 0) rfl rfl rfl (ws_iv rfl rfl rfl ?_))
  refine mv_deep (d := d + 1) (by omega) (y_wordA (k := 0) h hi (by decide) ?_)
  rw [show yW T0 (pc + 0) = _ from hw]
  refine ws_istore_n rfl rfl rfl rfl (ws_iload_n rfl (rfl) rfl (ws_bipush (x := 30) rfl rfl rfl (ws_i rfl ⟨fun _ => ?_, fun z => absurd z (show ¬ (19 : Int32) = 30 by decide)⟩)))
  refine ws_iload_n rfl (rfl) rfl (ws_bipush (x := 12) rfl rfl rfl (ws_i rfl ⟨fun _ => ?_, fun z => absurd (show (12 : Int32) ≤ 19 by decide) z⟩))
  refine ws_iload_n rfl (rfl) rfl (ws_bipush (x := 19) rfl rfl rfl (ws_i rfl ⟨fun _ => ?_, fun z => absurd (show (19 : Int32) ≤ 19 by decide) z⟩))
  refine ws_aload_n rfl (rfl) rfl (ws_iload_n rfl (rfl) rfl (ws_iv rfl rfl rfl ?_))
  refine mv_big_mono _ _ (Nat.le_refl _) _ _ _ _ _ (fun r T1 z => ?_) inn
  obtain ⟨rfl, z⟩ := z
  refine ws_i rfl ?_
  exact z
set_option maxHeartbeats 1000000 in
set_option maxRecDepth 8000 in
theorem y_pf21 (h : yA T0 T σ sd rm pc e rets K Ks vs mp told most) (hi : yIn T0 pc) (hw : yW T0 pc = 21) (hq : (K ++ Ks.flatten).length < 1990)
    (hP : ∀ T', yA T0 T' σ sd rm (pc + 1) e rets (.inr (.leaf, none) :: K) Ks vs mp told most → P none T') : mv_big layY sysY (d + 6) 58 [.ref 0] T P := by
  have inn : mv_big layY sysY (d + 5) 65 [.ref 0, .int 21] T (fun r T1 => r = none ∧ P none T1) := by
    refine ⟨60, ?_⟩
    refine ws_iload_n rfl (rfl) rfl (ws_tab (t := 141) rfl rfl (by decide) (ws_aload_n rfl (rfl) rfl (ws_iconst (x := 0) rfl rfl rfl (ws_iv rfl rfl rfl ?_))))
    refine mv_deep (d := d + 1) (by omega) (y_pushMapA (U := .leaf) h (by omega) rfl (Or.inl rfl) (fun T1 h3 => ?_))
    refine ws_aload_n rfl (rfl) rfl (ws_dup_r rfl rfl (ws_geti rfl rfl (h3.2.2.1.1) rfl (ws_iconst (x := 1) rfl rfl rfl (ws_iadd rfl (nI_1 _) rfl (ws_puti rfl rfl rfl (ws_goto (t := 179) rfl (by decide) (ws_i rfl ?_)))))))
    exact ⟨rfl, hP _ (yA_next h3)⟩
  refine ⟨40, ?_⟩
  refine ws_aload_n rfl (rfl) rfl (ws_iconst (x := 0) rfl rfl rfl (ws_iv rfl rfl rfl ?_))
  refine mv_deep (d := d + 1) (by omega) (y_wordA (k := 0) h hi (by decide) ?_)
  rw [show yW T0 (pc + 0) = _ from hw]
  refine ws_istore_n rfl rfl rfl rfl (ws_iload_n rfl (rfl) rfl (ws_bipush (x := 30) rfl rfl rfl (ws_i rfl ⟨fun _ => ?_, fun z => absurd z (show ¬ (21 : Int32) = 30 by decide)⟩)))
  refine ws_iload_n rfl (rfl) rfl (ws_bipush (x := 12) rfl rfl rfl (ws_i rfl ⟨fun _ => ?_, fun z => absurd (show (12 : Int32) ≤ 21 by decide) z⟩))
  refine ws_iload_n rfl (rfl) rfl (ws_bipush (x := 19) rfl rfl rfl (ws_i rfl ⟨fun _ => ?_, fun z => absurd (show (19 : Int32) ≤ 21 by decide) z⟩))
  refine ws_aload_n rfl (rfl) rfl (ws_iload_n rfl (rfl) rfl (ws_iv rfl rfl rfl ?_))
  refine mv_big_mono _ _ (Nat.le_refl _) _ _ _ _ _ (fun r T1 z => ?_) inn
  obtain ⟨rfl, z⟩ := z
  refine ws_i rfl ?_
  exact z
theorem yA_take (h : yA T0 T σ sd rm pc e rets (.inr (U, q) :: K) Ks vs mp told most) (hv : v < 6) (f' : ∀ o f, T'.1 o f = if o = 0 ∧ f = 48 then nI (K ++ Ks.flatten).length else T.1 o f) (r' : ∀ o i, T'.2.1 o i = if (o = 20 ∧ i = v ∧ v < 4) ∨ (o = 22 ∧ i = 2 * Ks.length + v - 4 ∧ ¬ v < 4) then T.2.1 26 (K ++ Ks.flatten).length else T.2.1 o i) : yA T0 T' σ sd rm pc e rets K Ks vs (aUp mp (aMP Ks.length v) U) told most := by
  have h0 := h
  obtain ⟨a1, a2, a3, a4, a5, a6, a7, a8, a9, a10⟩ := h
  have top : yTr T σ U (T.2.1 26 (K ++ Ks.flatten).length) := a4.2.1.2.1
  have f : ∀ o f, ¬ (o = 0 ∧ f = 48) → T'.1 o f = T.1 o f := fun o f a => by rw [f', if_neg a]
  have r : ∀ o i, o ≠ 20 → o ≠ 22 → T'.2.1 o i = T.2.1 o i := fun o i a b => by
    rw [r', if_neg (by omega)]
  have hs : yHs T T' := fun o i _ _ => r o i (by omega) (by omega)
  have m20 : ∀ i, i < 4 → (aUp mp (aMP Ks.length v) U i = U ∧ T'.2.1 20 i = T.2.1 26 (K ++ Ks.flatten).length) ∨ (aUp mp (aMP Ks.length v) U i = mp i ∧ T'.2.1 20 i = T.2.1 20 i) := fun i hi => by
    unfold aUp aMP
    rw [r']
    by_cases c : v < 4
    · rw [if_pos c]
      by_cases e : i = v
      · rw [if_pos e, if_pos (Or.inl ⟨rfl, e, c⟩)]; exact Or.inl ⟨rfl, rfl⟩
      · rw [if_neg e, if_neg (by omega)]; exact Or.inr ⟨rfl, rfl⟩
    · rw [if_neg c, if_neg (by omega), if_neg (by omega)]; exact Or.inr ⟨rfl, rfl⟩
  have m22 : ∀ k, k < 2 + 2 * Ks.length → (aUp mp (aMP Ks.length v) U (4 + k) = U ∧ T'.2.1 22 k = T.2.1 26 (K ++ Ks.flatten).length) ∨ (aUp mp (aMP Ks.length v) U (4 + k) = mp (4 + k) ∧ T'.2.1 22 k = T.2.1 22 k) := fun k hk => by
    unfold aUp aMP
    rw [r']
    by_cases c : v < 4
    · rw [if_pos c, if_neg (by omega), if_neg (by omega)]; exact Or.inr ⟨rfl, rfl⟩
    · rw [if_neg c]
      by_cases e : k = 2 * Ks.length + v - 4
      · rw [if_pos (by omega), if_pos (Or.inr ⟨rfl, e, c⟩)]; exact Or.inl ⟨rfl, rfl⟩
      · rw [if_neg (by omega), if_neg (by omega)]; exact Or.inr ⟨rfl, rfl⟩
  refine yA_gen h0 ⟨fun o g a => f o g (fun z => a ⟨z.1, by unfold yFs; omega⟩), fun o i a => r o i (by omega) (by omega)⟩ hs ⟨(f 0 51 (by omega)).trans a3.1, (f 0 53 (by omega)).trans a3.2⟩ ⟨by rw [f', if_pos ⟨rfl, rfl⟩], yAs_go hs (fun p o _ _ _ => r o p (by omega) (by omega)) a4.2.2⟩ ⟨(f 0 43 (by omega)).trans a5.1, a5.2.1, yBs_go (fun o i _ _ => r o i (by omega) (by omega)) a5.2.2⟩ ⟨fun i hi => (r 19 i (by decide) (by decide)).trans (a6.1 i hi), fun k hk => (r 21 k (by decide) (by decide)).trans (a6.2 k hk)⟩ ⟨fun i hi => ?_, fun k hk => ?_⟩ ⟨(f 0 50 (by omega)).trans a8.1, a8.2.1, fun p y hp => (r 29 p (by decide) (by decide)).trans (a8.2.2 p y hp)⟩ ((f 0 33 (by omega)).trans a9) (fun U' c z => Or.inr ?_)
  · rcases m20 i hi with ⟨z1, z2⟩ | ⟨z1, z2⟩
    · rw [z1, z2]; exact yTr_hs hs top
    · rw [z1, z2]; exact yTr_hs hs (a7.1 i hi)
  · rcases m22 k hk with ⟨z1, z2⟩ | ⟨z1, z2⟩
    · rw [z1, z2]; exact yTr_hs hs top
    · rw [z1, z2]; exact yTr_hs hs (a7.2 k hk)
  · have tr : yRt T (.inr (U, q) :: K ++ Ks.flatten) Ks.length mp U (T.2.1 26 (K ++ Ks.flatten).length) := Or.inr (Or.inr (Or.inl ⟨rfl, rfl⟩))
    rcases z with ⟨i, i1, i2, i3⟩ | ⟨i, i1, i2, i3⟩ | z
    · rcases m20 i i1 with ⟨z1, z2⟩ | ⟨z1, z2⟩
      · rw [i2, i3, z1, z2]; exact tr
      · exact Or.inl ⟨i, i1, i2.trans z1, i3.trans z2⟩
    · rcases m22 i i1 with ⟨z1, z2⟩ | ⟨z1, z2⟩
      · rw [i2, i3, z1, z2]; exact tr
      · exact Or.inr (Or.inl ⟨i, i1, i2.trans z1, i3.trans z2⟩)
    · exact Or.inr (Or.inr (Or.inr (yZr_go (fun p _ => r 26 p (by decide) (by decide)) z)))
set_option maxHeartbeats 1000000 in
set_option maxRecDepth 8000 in
theorem y_pf20 (h : yA T0 T σ sd rm pc e rets (.inr (U, q) :: K) Ks vs mp told most) (hi : yIn T0 pc) (hw : yW T0 pc = 20) (hx : yW T0 (pc + 1) = nI v) (hv : v < 6) (hq : (K ++ Ks.flatten).length < 1990)
    (hP : ∀ T', yA T0 T' σ sd rm (pc + 2) e rets K Ks vs (aUp mp (aMP Ks.length v) U) told most → P none T') : mv_big layY sysY (d + 6) 58 [.ref 0] T P := by
  have inn : mv_big layY sysY (d + 5) 65 [.ref 0, .int 20] T (fun r T1 => r = none ∧ P none T1) := by
    have n24 := h.2.2.2.2.1.2.1
    have e43 := h.2.2.2.2.1.1
    have e48 : T.1 0 48 = nI ((K ++ Ks.flatten).length + 1) := h.2.2.2.1.1
    refine ⟨80, ?_⟩
    refine ws_iload_n rfl (rfl) rfl (ws_tab (t := 86) rfl rfl (by decide) (ws_aload_n rfl (rfl) rfl (ws_iconst (x := 1) rfl rfl rfl (ws_iv rfl rfl rfl ?_))))
    refine mv_deep (d := d + 1) (by omega) (y_wordA (k := 1) h hi (by decide) ?_)
    rw [hx]
    refine ws_istore_n rfl rfl rfl rfl (ws_aload_n rfl (rfl) rfl (ws_iv rfl rfl rfl ?_))
    refine mv_deep (d := d + 1) (by omega) (y_pop e48 (by omega) ?_)
    by_cases c : v < 4
    · skip
      have vv : vp_in (nI v) 4 := vp_in_nI c (by decide)
      have cv : (nI v).toNatClampNeg = v := nI_clamp (by omega)
      refine ws_istore_n rfl rfl rfl rfl (ws_iload_n rfl (rfl) rfl (ws_iconst (x := 4) rfl rfl rfl (ws_i rfl ⟨fun z => absurd z (nI_ge (b := 4) (by omega) (by decide)), fun _ => ?_⟩)))
      refine ws_aload_n rfl (rfl) rfl (ws_getr rfl rfl rfl (ws_iload_n rfl (rfl) rfl (ws_iload_n rfl (rfl) rfl (ws_i rfl ⟨vv, ?_⟩))))
      rw [cv]
      obtain ⟨T2, hT2⟩ : ∃ T2, T2 = mv_pr (mv_pf T 0 48 (nI (K ++ Ks.flatten).length)) 20 v (T.2.1 26 (K ++ Ks.flatten).length) := ⟨_, rfl⟩
      rw [← hT2]
      have h2 := yA_take (T' := T2) h hv (fun o f => by rw [hT2]; show (mv_pf T 0 48 _).1 o f = _; rw [pf_get]) (fun o i => by
        rw [hT2, pr_get]
        by_cases z : o = 20 ∧ i = v
        · rw [if_pos z, if_pos (by omega)]
        · rw [if_neg z, if_neg (by omega)]; rfl)
      refine ws_goto (t := 128) rfl (by decide) ?_
      refine ws_aload_n rfl (rfl) rfl (ws_dup_r rfl rfl (ws_geti rfl rfl (h2.2.2.1.1) rfl (ws_iconst (x := 2) rfl rfl rfl (ws_iadd rfl (nI_add _ 2) rfl (ws_puti rfl rfl rfl (ws_goto (t := 179) rfl (by decide) (ws_i rfl ?_)))))))
      exact ⟨rfl, hP _ (yA_next h2)⟩
    · skip
      have vv : vp_in (nI (2 * Ks.length + v - 4)) 50 := vp_in_nI (by omega) (by decide)
      have cv : (nI (2 * Ks.length + v - 4)).toNatClampNeg = 2 * Ks.length + v - 4 := nI_clamp (by omega)
      have ex := y_ix v hv c Ks.length (by omega)
      refine ws_istore_n rfl rfl rfl rfl (ws_iload_n rfl (rfl) rfl (ws_iconst (x := 4) rfl rfl rfl (ws_i rfl ⟨fun _ => ?_, fun z => absurd (nI_le (a := 4) (by omega) (by omega)) z⟩)))
      refine ws_aload_n rfl (rfl) rfl (ws_getr rfl rfl rfl (ws_iconst (x := 2) rfl rfl rfl (ws_aload_n rfl (rfl) rfl (ws_geti rfl rfl ((show (mv_pf T 0 48 (nI (K ++ Ks.flatten).length)).1 0 43 = _ by rw [pf_get, if_neg (by omega)]; exact e43)) rfl (ws_imul rfl (rfl) rfl (ws_iload_n rfl (rfl) rfl (ws_iadd rfl (rfl) rfl (ws_iconst (x := 4) rfl rfl rfl (ws_isub rfl (ex) rfl (ws_iload_n rfl (rfl) rfl (ws_i rfl ⟨vv, ?_⟩)))))))))))
      rw [cv]
      obtain ⟨T2, hT2⟩ : ∃ T2, T2 = mv_pr (mv_pf T 0 48 (nI (K ++ Ks.flatten).length)) 22 (2 * Ks.length + v - 4) (T.2.1 26 (K ++ Ks.flatten).length) := ⟨_, rfl⟩
      rw [← hT2]
      have h2 := yA_take (T' := T2) h hv (fun o f => by rw [hT2]; show (mv_pf T 0 48 _).1 o f = _; rw [pf_get]) (fun o i => by
        rw [hT2, pr_get]
        by_cases z : o = 22 ∧ i = (2 * Ks.length + v - 4)
        · rw [if_pos z, if_pos (by omega)]
        · rw [if_neg z, if_neg (by omega)]; rfl)
      refine ws_aload_n rfl (rfl) rfl (ws_dup_r rfl rfl (ws_geti rfl rfl (h2.2.2.1.1) rfl (ws_iconst (x := 2) rfl rfl rfl (ws_iadd rfl (nI_add _ 2) rfl (ws_puti rfl rfl rfl (ws_goto (t := 179) rfl (by decide) (ws_i rfl ?_)))))))
      exact ⟨rfl, hP _ (yA_next h2)⟩
  refine ⟨40, ?_⟩
  refine ws_aload_n rfl (rfl) rfl (ws_iconst (x := 0) rfl rfl rfl (ws_iv rfl rfl rfl ?_))
  refine mv_deep (d := d + 1) (by omega) (y_wordA (k := 0) h hi (by decide) ?_)
  rw [show yW T0 (pc + 0) = _ from hw]
  refine ws_istore_n rfl rfl rfl rfl (ws_iload_n rfl (rfl) rfl (ws_bipush (x := 30) rfl rfl rfl (ws_i rfl ⟨fun _ => ?_, fun z => absurd z (show ¬ (20 : Int32) = 30 by decide)⟩)))
  refine ws_iload_n rfl (rfl) rfl (ws_bipush (x := 12) rfl rfl rfl (ws_i rfl ⟨fun _ => ?_, fun z => absurd (show (12 : Int32) ≤ 20 by decide) z⟩))
  refine ws_iload_n rfl (rfl) rfl (ws_bipush (x := 19) rfl rfl rfl (ws_i rfl ⟨fun _ => ?_, fun z => absurd (show (19 : Int32) ≤ 20 by decide) z⟩))
  refine ws_aload_n rfl (rfl) rfl (ws_iload_n rfl (rfl) rfl (ws_iv rfl rfl rfl ?_))
  refine mv_big_mono _ _ (Nat.le_refl _) _ _ _ _ _ (fun r T1 z => ?_) inn
  obtain ⟨rfl, z⟩ := z
  refine ws_i rfl ?_
  exact z
end YB

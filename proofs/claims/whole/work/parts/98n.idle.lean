/-! THE FACE: the reference's counts; what is left when a run goes -/
section CY
variable {d : Nat} {P : Option Value → mv_S → Prop} {T T0 : mv_S} {w : Int32} {sd e : Int32} {rm pc : Nat} {σ : Nat → Nat} {rets : List Nat} {K : List aI} {Ks : List (List aI)} {vs : Nat → Int32} {mp : Nat → tT} {told : List Int32} {most : Nat} {Ln : List (Nat × Int32)}
set_option maxHeartbeats 1000000 in
theorem y_liveA (h : yA T0 T σ sd rm pc e rets K Ks vs mp told most) (hq : (K ++ Ks.flatten).length ≤ 1250) (hL : hNs (fun U => ∃ c, yRt T (K ++ Ks.flatten) Ks.length mp U c) Ln) (hP : ∀ T', yMf T T' → T'.1 0 30 = nI Ln.length → P none T') : mv_big layY sysY (d + 2) 31 [.ref 0, .int 1] T P := by
  have h0 := h
  obtain ⟨a1, a2, a3, a4, a5, a6, a7, a8, a9, a10⟩ := h
  have ok : ∀ {U : tT} {c : Int32}, yRt T (K ++ Ks.flatten) Ks.length mp U c → hOk 899 (yLive T (K ++ Ks.flatten) Ks.length mp) c := fun {U c} z => hOk_imp (fun i hi => ⟨U, c, z, hi⟩) (hCs_ok (by decide) (yA_cl h0 z)).1
  have hG : ∀ i, yLive T (K ++ Ks.flatten) Ks.length mp i → 1 ≤ i ∧ i ≤ 899 ∧ hOk 899 (yLive T (K ++ Ks.flatten) Ks.length mp) (T.2.1 15 i) ∧ hOk 899 (yLive T (K ++ Ks.flatten) Ks.length mp) (T.2.1 16 i) := fun i hi => by
    obtain ⟨U, c, h1, h2⟩ := hi
    obtain ⟨q1, q2, q3, q4⟩ := (hCs_ok (by decide) (yA_cl h0 h1)).2 i h2
    exact ⟨q1, q2, hOk_imp (fun i hi => ⟨U, c, h1, hi⟩) q3, hOk_imp (fun i hi => ⟨U, c, h1, hi⟩) q4⟩
  have stk : ∀ {A : List aI}, yAs T σ A → (∀ U c, yZr T A U c → hOk 899 (yLive T (K ++ Ks.flatten) Ks.length mp) c) → ∀ p, p < A.length → T.2.1 25 p = 0 ∨ (¬ T.2.1 25 p = 0 ∧ hOk 899 (yLive T (K ++ Ks.flatten) Ks.length mp) (T.2.1 26 p)) := by
    intro A
    induction A with
    | nil => intro _ _ p hp; simp at hp
    | cons t R ih =>
      intro g z p hp
      cases t with
      | inl x =>
        by_cases c : p = R.length
        · rw [c]; exact Or.inl g.1.1
        · exact ih g.2 (fun U c y => z U c y) p (by simp only [List.length_cons] at hp; omega)
      | inr m =>
        by_cases c : p = R.length
        · rw [c]; exact Or.inr ⟨by rw [g.1.1]; decide, z m.1 _ (Or.inl ⟨rfl, rfl⟩)⟩
        · exact ih g.2 (fun U c y => z U c (Or.inr y)) p (by simp only [List.length_cons] at hp; omega)
  have zidx : ∀ {A : List aI} {U : tT} {c : Int32}, yAs T σ A → yZr T A U c → ∃ p, p < A.length ∧ ¬ T.2.1 25 p = 0 ∧ c = T.2.1 26 p := by
    intro A
    induction A with
    | nil => intro U c _ z; exact z.elim
    | cons t R ih =>
      intro U c g z
      cases t with
      | inl x =>
        obtain ⟨p, p1, p2⟩ := ih g.2 z
        exact ⟨p, by simp only [List.length_cons]; omega, p2⟩
      | inr m =>
        rcases z with ⟨z1, z2⟩ | z
        · exact ⟨R.length, by simp, by rw [g.1.1]; decide, z2⟩
        · obtain ⟨p, p1, p2⟩ := ih g.2 z
          exact ⟨p, by simp only [List.length_cons]; omega, p2⟩
  refine y_findLiveA (G := yLive T (K ++ Ks.flatten) Ks.length mp) (cs := Ks.length) (t := (K ++ Ks.flatten).length) hG a5.2.1 (by omega) a5.1 a4.1 (fun p hp => ok (Or.inl ⟨p, hp, rfl, rfl⟩)) (fun p hp => ok (Or.inr (Or.inl ⟨p, hp, rfl, rfl⟩))) (stk a4.2 (fun U c z => ok (Or.inr (Or.inr z)))) (fun T1 V g => ?_)
  obtain ⟨g1, g2, g3, g4, g5⟩ := g
  have mem : ∀ i, i ∈ V ↔ yLive T (K ++ Ks.flatten) Ks.length mp i := fun i => ⟨g4 i, fun hi => by
    obtain ⟨U, c, h1, h2⟩ := hi
    refine hCs_sub (W := fun i => i ∈ V) (by decide) (fun j hj => ?_) (yA_cl h0 h1) (g5 c ?_) i h2
    · have := g3 j hj
      rw [g1.2.1 15 j (by decide) (by decide), g1.2.1 16 j (by decide) (by decide)] at this
      exact this
    · rcases h1 with ⟨p, p1, p2, p3⟩ | ⟨p, p1, p2, p3⟩ | z
      · exact Or.inl (Or.inl ⟨p, p1, p3⟩)
      · exact Or.inl (Or.inr ⟨p, p1, p3⟩)
      · exact Or.inr (zidx a4.2 z)⟩
  have eV : V.length = Ln.length := h_cnt (by decide) (fun U c z => yA_cl h0 z) a10 g2.1 mem hL
  exact hP T1 g1 (by rw [← eV]; exact g2.2.2.1)
theorem y_liveN {cs t : Nat} (hcs : cs ≤ 24) (ht : t ≤ 2000) (e43 : T.1 0 43 = nI cs) (e48 : T.1 0 48 = nI t) (tr : ∀ i, i < 4 → yTr T σ (mp i) (T.2.1 20 i)) (inj : hInj (T.2.1 13) (T.2.1 15) (T.2.1 16) σ (fun U c => ∃ i, i < 4 ∧ U = mp i ∧ c = T.2.1 20 i)) (hL : hNs (fun U => ∃ c, ∃ i, i < 4 ∧ U = mp i ∧ c = T.2.1 20 i) Ln) (hP : ∀ T', yMf T T' → T'.1 0 30 = nI Ln.length → P none T') : mv_big layY sysY (d + 2) 31 [.ref 0, .int 0] T P := by
  have tr' : ∀ U c, (∃ i, i < 4 ∧ U = mp i ∧ c = T.2.1 20 i) → yTr T σ U c := by
    rintro U c ⟨i, i1, rfl, rfl⟩
    exact tr i i1
  have ok : ∀ p, p < 4 → hOk 899 (fun i => ∃ U c, (∃ i, i < 4 ∧ U = mp i ∧ c = T.2.1 20 i) ∧ i ∈ hCs (T.2.1 15) (T.2.1 16) U c) (T.2.1 20 p) := fun p hp => hOk_imp (fun i hi => ⟨mp p, T.2.1 20 p, ⟨p, hp, rfl, rfl⟩, hi⟩) (hCs_ok (by decide) (tr p hp)).1
  have hG : ∀ i, (∃ U c, (∃ i, i < 4 ∧ U = mp i ∧ c = T.2.1 20 i) ∧ i ∈ hCs (T.2.1 15) (T.2.1 16) U c) → 1 ≤ i ∧ i ≤ 899 ∧ hOk 899 (fun i => ∃ U c, (∃ i, i < 4 ∧ U = mp i ∧ c = T.2.1 20 i) ∧ i ∈ hCs (T.2.1 15) (T.2.1 16) U c) (T.2.1 15 i) ∧ hOk 899 (fun i => ∃ U c, (∃ i, i < 4 ∧ U = mp i ∧ c = T.2.1 20 i) ∧ i ∈ hCs (T.2.1 15) (T.2.1 16) U c) (T.2.1 16 i) := fun i hi => by
    obtain ⟨U, c, h1, h2⟩ := hi
    obtain ⟨q1, q2, q3, q4⟩ := (hCs_ok (by decide) (tr' U c h1)).2 i h2
    exact ⟨q1, q2, hOk_imp (fun i hi => ⟨U, c, h1, hi⟩) q3, hOk_imp (fun i hi => ⟨U, c, h1, hi⟩) q4⟩
  refine y_findLiveN (G := fun i => ∃ U c, (∃ i, i < 4 ∧ U = mp i ∧ c = T.2.1 20 i) ∧ i ∈ hCs (T.2.1 15) (T.2.1 16) U c) hG hcs ht e43 e48 ok (fun T1 V g => ?_)
  obtain ⟨g1, g2, g3, g4, g5⟩ := g
  have mem : ∀ i, i ∈ V ↔ ∃ U c, (∃ i, i < 4 ∧ U = mp i ∧ c = T.2.1 20 i) ∧ i ∈ hCs (T.2.1 15) (T.2.1 16) U c := fun i => ⟨g4 i, fun hi => by
    obtain ⟨U, c, h1, h2⟩ := hi
    refine hCs_sub (W := fun i => i ∈ V) (by decide) (fun j hj => ?_) (tr' U c h1) (g5 c ?_) i h2
    · have := g3 j hj
      rw [g1.2.1 15 j (by decide) (by decide), g1.2.1 16 j (by decide) (by decide)] at this
      exact this
    · obtain ⟨q, q1, q2, q3⟩ := h1
      exact ⟨q, q1, q3⟩⟩
  have eV : V.length = Ln.length := h_cnt (by decide) tr' inj g2.1 mem hL
  exact hP T1 g1 (by rw [← eV]; exact g2.2.2.1)
set_option maxHeartbeats 1000000 in
set_option maxRecDepth 8000 in
theorem y_countG (hz : T.1 0 54 = 0 ∨ T.1 0 54 = 1) (h0 : w = 0 → P (some (.int (T.1 0 1))) T) (h1 : w = 1 → P (some (.int (if T.1 0 5 = 0 then 0 else T.1 0 7))) T) (h2 : w = 2 → P (some (.int (T.1 0 52))) T) (h3 : w = 3 → mv_big layY sysY (d + 2) 31 [.ref 0, .int (T.1 0 54)] T (fun r T' => r = none ∧ P (some (.int (T'.1 0 30))) T')) (h4 : w = 4 → P (some (.int (T.1 0 33))) T) (h5 : w = 5 → P (some (.int (if T.1 0 54 = 0 then 0 else T.1 0 43))) T) (h6 : w = 6 → P (some (.int (if T.1 0 54 = 0 then -1 else T.1 0 51))) T) (h7 : w = 7 → P (some (.int (if T.1 0 54 = 0 then 6 else T.1 0 53))) T) (hb : ¬ (0 ≤ w ∧ w < 8) → P (some (.int (-2))) T) : mv_big layY sysY (d + 3) 73 [.ref 0, .int w] T P := by
  refine ⟨40, ?_⟩
  by_cases c : 0 ≤ w ∧ w < 8
  · rcases w_8 c with rfl | rfl | rfl | rfl | rfl | rfl | rfl | rfl
    · refine ws_iload_n rfl (rfl) rfl (ws_tab (t := 48) rfl rfl (by decide) (ws_aload_n rfl (rfl) rfl (ws_geti rfl rfl (rfl) rfl (ws_i rfl ?_))))
      exact h0 rfl
    · have hh := h1 rfl
      by_cases c2 : T.1 0 5 = 0
      · refine ws_iload_n rfl (rfl) rfl (ws_tab (t := 53) rfl rfl (by decide) (ws_aload_n rfl (rfl) rfl (ws_getz rfl rfl (rfl) rfl (ws_i rfl ⟨fun _ => ?_, fun z => absurd c2 z⟩))))
        refine ws_iconst (x := 0) rfl rfl rfl (ws_i rfl ?_)
        rw [if_pos c2] at hh
        exact hh
      · refine ws_iload_n rfl (rfl) rfl (ws_tab (t := 53) rfl rfl (by decide) (ws_aload_n rfl (rfl) rfl (ws_getz rfl rfl (rfl) rfl (ws_i rfl ⟨fun z => absurd z c2, fun _ => ?_⟩))))
        refine ws_aload_n rfl (rfl) rfl (ws_geti rfl rfl (rfl) rfl (ws_goto (t := 68) rfl (by decide) (ws_i rfl ?_)))
        rw [if_neg c2] at hh
        exact hh
    · refine ws_iload_n rfl (rfl) rfl (ws_tab (t := 69) rfl rfl (by decide) (ws_aload_n rfl (rfl) rfl (ws_geti rfl rfl (rfl) rfl (ws_i rfl ?_))))
      exact h2 rfl
    · refine ws_iload_n rfl (rfl) rfl (ws_tab (t := 74) rfl rfl (by decide) (ws_aload_n rfl (rfl) rfl (ws_aload_n rfl (rfl) rfl (ws_getz rfl rfl (rfl) rfl (ws_iv rfl rfl rfl ?_)))))
      refine mv_big_mono _ _ (Nat.le_refl _) _ _ _ _ _ (fun r S1 z => ?_) (h3 rfl)
      obtain ⟨rfl, z⟩ := z
      refine ws_aload_n rfl (rfl) rfl (ws_geti rfl rfl (rfl) rfl (ws_i rfl ?_))
      exact z
    · refine ws_iload_n rfl (rfl) rfl (ws_tab (t := 87) rfl rfl (by decide) (ws_aload_n rfl (rfl) rfl (ws_geti rfl rfl (rfl) rfl (ws_i rfl ?_))))
      exact h4 rfl
    · have hh := h5 rfl
      by_cases c2 : T.1 0 54 = 0
      · refine ws_iload_n rfl (rfl) rfl (ws_tab (t := 92) rfl rfl (by decide) (ws_aload_n rfl (rfl) rfl (ws_getz rfl rfl (rfl) rfl (ws_i rfl ⟨fun _ => ?_, fun z => absurd c2 z⟩))))
        refine ws_iconst (x := 0) rfl rfl rfl (ws_i rfl ?_)
        rw [if_pos c2] at hh
        exact hh
      · refine ws_iload_n rfl (rfl) rfl (ws_tab (t := 92) rfl rfl (by decide) (ws_aload_n rfl (rfl) rfl (ws_getz rfl rfl (rfl) rfl (ws_i rfl ⟨fun z => absurd z c2, fun _ => ?_⟩))))
        refine ws_aload_n rfl (rfl) rfl (ws_geti rfl rfl (rfl) rfl (ws_goto (t := 107) rfl (by decide) (ws_i rfl ?_)))
        rw [if_neg c2] at hh
        exact hh
    · have hh := h6 rfl
      by_cases c2 : T.1 0 54 = 0
      · refine ws_iload_n rfl (rfl) rfl (ws_tab (t := 108) rfl rfl (by decide) (ws_aload_n rfl (rfl) rfl (ws_getz rfl rfl (rfl) rfl (ws_i rfl ⟨fun _ => ?_, fun z => absurd c2 z⟩))))
        refine ws_iconst (x := (-1)) rfl rfl rfl (ws_i rfl ?_)
        rw [if_pos c2] at hh
        exact hh
      · refine ws_iload_n rfl (rfl) rfl (ws_tab (t := 108) rfl rfl (by decide) (ws_aload_n rfl (rfl) rfl (ws_getz rfl rfl (rfl) rfl (ws_i rfl ⟨fun z => absurd z c2, fun _ => ?_⟩))))
        refine ws_aload_n rfl (rfl) rfl (ws_geti rfl rfl (rfl) rfl (ws_goto (t := 123) rfl (by decide) (ws_i rfl ?_)))
        rw [if_neg c2] at hh
        exact hh
    · have hh := h7 rfl
      by_cases c2 : T.1 0 54 = 0
      · refine ws_iload_n rfl (rfl) rfl (ws_tab (t := 124) rfl rfl (by decide) (ws_aload_n rfl (rfl) rfl (ws_getz rfl rfl (rfl) rfl (ws_i rfl ⟨fun _ => ?_, fun z => absurd c2 z⟩))))
        refine ws_bipush (x := 6) rfl rfl rfl (ws_i rfl ?_)
        rw [if_pos c2] at hh
        exact hh
      · refine ws_iload_n rfl (rfl) rfl (ws_tab (t := 124) rfl rfl (by decide) (ws_aload_n rfl (rfl) rfl (ws_getz rfl rfl (rfl) rfl (ws_i rfl ⟨fun z => absurd z c2, fun _ => ?_⟩))))
        refine ws_aload_n rfl (rfl) rfl (ws_geti rfl rfl (rfl) rfl (ws_goto (t := 140) rfl (by decide) (ws_i rfl ?_)))
        rw [if_neg c2] at hh
        exact hh
  · refine ws_iload_n rfl (rfl) rfl (ws_tab (t := 141) rfl rfl ?_ ?_)
    · show (1 : Int) + mv_pick w 140 (mv_tb 0 [47, 52, 68, 73, 86, 91, 107, 123]) = 141
      rw [pick_8 c]; rfl
    · refine ws_bipush (x := (-2)) rfl rfl rfl (ws_i rfl ?_)
      exact hb c
end CY
section AE
variable {w par : Nat → Int32} {fa : Nat → Nat} {L rm : Nat} {sd x : Int32} {s s' : aMs} {D : aDt} {c : Int32}
theorem aMk_e {m : Nat} {R : tT} {K' : List aI} (h : ¬ (aMk rm m R K' D).1 = 1) : (aMk rm m R K' D).2 = D := by
  obtain ⟨K, Ks, vs, mp, told, most, st⟩ := D
  rw [aMk_eq] at h ⊢
  split at h
  · rename_i c
    rw [if_pos c] 
    split at h
    · exact absurd rfl h
    · rename_i c2
      rw [if_neg c2]
  · rename_i c
    rw [if_neg c]
theorem aAp_e {k : Nat} (hk : aDw k) (h : ¬ (aAp sd rm k x D).1 = 1) : (aAp sd rm k x D).2 = D := by
  obtain ⟨K, Ks, vs, mp, told, most, st⟩ := D
  unfold aDw at hk
  match k, hk, h with
  | 0, hk, _ => omega
  | 1, _, h => exact absurd rfl h
  | 2, _, h => exact absurd rfl h
  | 3, _, h => exact absurd rfl h
  | 4, _, h =>
    rw [aPx_4] at h ⊢
    split at h
    · rename_i c
      rw [if_pos c]
    · exact absurd rfl h
  | 5, _, h =>
    rw [aPx_5] at h ⊢
    split at h
    · rename_i c
      rw [if_pos c]
    · exact absurd rfl h
  | 6, _, h =>
    rw [aPx_6] at h ⊢
    split at h
    · rename_i c
      rw [if_pos c]
    · exact absurd rfl h
  | 7, _, h =>
    rw [aPx_7] at h ⊢
    split at h
    · rename_i c
      rw [if_pos c]
    · exact absurd rfl h
  | 8, _, h =>
    rw [aPx_8] at h ⊢
    split at h
    · rename_i c
      rw [if_pos c]
    · exact absurd rfl h
  | 9, _, h =>
    rw [aPx_9] at h ⊢
    split at h
    · rename_i c
      rw [if_pos c]
    · exact absurd rfl h
  | 10, _, h =>
    rw [aPx_10] at h ⊢
    split at h
    · rename_i c
      rw [if_pos c]
    · exact absurd rfl h
  | 11, _, h => exact absurd rfl h
  | 12, hk, _ => omega
  | 13, hk, _ => omega
  | 14, hk, _ => omega
  | 15, _, h =>
    rw [aPx_15] at h ⊢
    split at h
    · rename_i c
      rw [if_pos c]
    · exact absurd rfl h
  | 16, hk, _ => omega
  | 17, hk, _ => omega
  | 18, _, h => exact absurd rfl h
  | 19, _, h => exact absurd rfl h
  | 20, _, h => exact absurd rfl h
  | 21, _, h => exact absurd rfl h
  | 22, _, h => exact aMk_e h
  | 23, _, h => exact aMk_e h
  | 24, _, h => exact aMk_e h
  | 25, _, h => exact absurd rfl h
  | 26, _, h => exact absurd rfl h
  | 27, _, h => exact absurd rfl h
  | 28, _, h => exact absurd rfl h
  | k + 29, hk, _ => omega
/-- where it ends, what is held stays -/
theorem aSt_e (hv : aInv w par L sd rm s) (h : ¬ (aSt w par fa sd rm s).1 = 1) : (aSt w par fa sd rm s).2.2.2 = s.2.2 := by
  obtain ⟨k, hk, hw⟩ := aInv_k hv
  rw [aSt_k hw hk] at h ⊢
  by_cases hd : aDw k
  · rw [aSw_d hd] at h ⊢
    exact aAp_e hd h
  · have hk' : k = 0 ∨ k = 12 ∨ k = 13 ∨ k = 14 ∨ k = 16 ∨ k = 17 ∨ k = 29 ∨ k = 30 := by unfold aDw at hd; omega
    rcases hk' with rfl | rfl | rfl | rfl | rfl | rfl | rfl | rfl
    · rfl
    · exact absurd rfl h
    · exact absurd rfl h
    · exact absurd rfl h
    · have e : aSw w par fa sd rm s.1 s.2.1 s.2.2 16 = if s.2.2.2.1.length = 24 then (3, s.1 + 2, s.2.1, s.2.2) else (1, fa (w (s.1 + 1)).toNatClampNeg, (s.1 + 2) :: s.2.1, aEnt (par (w (s.1 + 1)).toNatClampNeg).toNatClampNeg s.2.2) := rfl
      rw [e] at h ⊢
      split at h
      · rename_i c
        rw [if_pos c]
      · exact absurd rfl h
    · exact absurd rfl h
    · have e : aSw w par fa sd rm s.1 s.2.1 s.2.2 29 = tSel (tNx (aQ s.2.2.1) (aT s.2.2.1)) (1, (w (s.1 + 3)).toNatClampNeg, s.2.1, (s.2.2.1.tail, s.2.2.2)) (1, s.1 + 4, s.2.1, aCo (w (s.1 + 1)).toNatClampNeg (w (s.1 + 2)).toNatClampNeg s.2.2) := rfl
      rw [e] at h
      rcases tSel_cases (tNx (aQ s.2.2.1) (aT s.2.2.1)) ((1 : Int32), (((w (s.1 + 3)).toNatClampNeg, s.2.1, (s.2.2.1.tail, s.2.2.2)) : aMs)) (1, s.1 + 4, s.2.1, aCo (w (s.1 + 1)).toNatClampNeg (w (s.1 + 2)).toNatClampNeg s.2.2) with ⟨_, z⟩ | ⟨_, z⟩ <;> rw [z] at h <;> exact absurd rfl h
    · exact absurd rfl h
/-- what stays of a run at its end -/
def aBd (sd : Int32) (rm : Nat) (s : aMs) : Prop := aOk sd rm s.2.2 ∧ (s.2.2.1 ++ s.2.2.2.1.flatten).length ≤ 1250 ∧ s.2.2.2.1.length ≤ 24 ∧ (aMap s.2.2.1).length ≤ 17
theorem aInv_bd (hv : aInv w par L sd rm s) : aBd sd rm s := ⟨hv.2.2.2, (aInv_b hv).2.2, hv.2.2.1, (aInv_b hv).2.1⟩
theorem aSt_bd (hv : aInv w par L sd rm s) (h : ¬ (aSt w par fa sd rm s).1 = 1) : aBd sd rm (aSt w par fa sd rm s).2 := by
  have e := aSt_e hv h
  have b := aInv_bd hv
  unfold aBd at b ⊢
  rw [e]; exact b
theorem aRun_bd (hfn : ∀ f, f < 8 → ¬ par f = -1 → tyA w par L false (fa f) []) (hrm : rm ≤ 400) : ∀ (n : Nat) (s : aMs), aInv w par L sd rm s → aBd sd rm (aRun w par fa sd rm n s).2.2 ∧ ((aRun w par fa sd rm n s).1 = 1 → aInv w par L sd rm (aRun w par fa sd rm n s).2.2)
  | 0, s, hv => ⟨aInv_bd hv, fun _ => hv⟩
  | n + 1, s, hv => by
    rw [aRun]
    by_cases c : (aSt w par fa sd rm s).1 = 1
    · rw [if_pos c]
      exact aRun_bd hfn hrm n _ (aSt_inv hfn hrm hv c)
    · rw [if_neg c]
      exact ⟨aSt_bd hv c, fun z => absurd z c⟩
theorem aGo_bd (hfn : ∀ f, f < 8 → ¬ par f = -1 → tyA w par L false (fa f) []) (hrm : rm ≤ 400) {lr : Nat} : ∀ (f k : Nat) (s : aMs), aInv w par L sd rm s → aGo w par fa sd rm f k s = some (c, lr, s') → aBd sd rm s'
  | 0, _, _, _, h => by rw [aGo] at h; cases h
  | f + 1, k, s, hv, h => by
    rw [aGo] at h
    split at h
    · simp only [Option.some.injEq, Prod.mk.injEq] at h
      obtain ⟨rfl, rfl, rfl⟩ := h
      exact aInv_bd hv
    · by_cases c1 : (aSt w par fa sd rm s).1 = 1
      · rw [if_pos c1] at h
        exact aGo_bd hfn hrm f _ _ (aSt_inv hfn hrm hv c1) h
      · rw [if_neg c1] at h
        simp only [Option.some.injEq, Prod.mk.injEq] at h
        obtain ⟨rfl, rfl, rfl⟩ := h
        exact aSt_bd hv c1
end AE
/-- without a run: the class -/
def xId (S : mv_S) (vs : Nat → Int32) (mp : Nat → tT) (told : List Int32) (most B : Nat) : Prop := ∃ σ, xVe S σ vs mp told most B ∧ S.1 6 2 = 0 ∧ S.1 4 13 = 0 ∧ S.1 4 12 = 0 ∧ (∀ i, 4 ≤ i → i < 54 → S.2.1 24 i = 0) ∧ hInj (S.2.1 15) (S.2.1 18) (S.2.1 19) σ (fun T c => ∃ i, i < 4 ∧ T = mp i ∧ c = S.2.1 24 i)
/-- the reference -/
def yId (T : mv_S) (vs : Nat → Int32) (mp : Nat → tT) (told : List Int32) (most : Nat) : Prop := ∃ σ, yVe T σ vs mp told most ∧ T.1 0 54 = 0 ∧ hInj (T.2.1 13) (T.2.1 15) (T.2.1 16) σ (fun U c => ∃ i, i < 4 ∧ U = mp i ∧ c = T.2.1 20 i) ∧ ∃ cs t, cs ≤ 24 ∧ t ≤ 2000 ∧ T.1 0 43 = nI cs ∧ T.1 0 48 = nI t
section ID
variable {S0 S S' T0 T T' : mv_S} {vs : Nat → Int32} {mp : Nat → tT} {told : List Int32} {most B rm : Nat} {sd c : Int32} {rets : List Nat} {D : aDt} {s : aMs}
theorem xD_ve (h : xD S0 S sd rm B rets D) : ∃ σ, xVe S σ D.2.2.1 D.2.2.2.1 D.2.2.2.2.1 D.2.2.2.2.2.1 B ∧ hInj (S.2.1 15) (S.2.1 18) (S.2.1 19) σ (fun T c => ∃ i, i < 4 ∧ T = D.2.2.2.1 i ∧ c = S.2.1 24 i) := by
  obtain ⟨σ, fb, h⟩ := h
  obtain ⟨a1, a2, a3, a4, a5, a6, a7, a8, a9, a10⟩ := h
  refine ⟨σ, ⟨fun i hi => a6 i (by omega), fun i hi => xCl_tr (a7 i (by omega)), a8, a9, a2.2.2.2.2.2.2.2.2⟩, ?_⟩
  intro T c T' c' i j h1 h2
  obtain ⟨q, q1, q2, q3⟩ := h1
  obtain ⟨q', q1', q2', q3'⟩ := h2
  exact a10 T c T' c' i j (Or.inl ⟨q, by omega, q2, q3⟩) (Or.inl ⟨q', by omega, q2', q3'⟩)
theorem xTr_ro {σ : Nat → Nat} {U : tT} {c : Int32} (r : ∀ o i, 15 ≤ o → o ≤ 19 → S'.2.1 o i = S.2.1 o i) (h : xTr S σ U c) : xTr S' σ U c := by
  have e15 : S'.2.1 15 = S.2.1 15 := funext (fun i => r 15 i (by decide) (by decide))
  have e16 : S'.2.1 16 = S.2.1 16 := funext (fun i => r 16 i (by decide) (by decide))
  have e18 : S'.2.1 18 = S.2.1 18 := funext (fun i => r 18 i (by decide) (by decide))
  have e19 : S'.2.1 19 = S.2.1 19 := funext (fun i => r 19 i (by decide) (by decide))
  show hTr (S'.2.1 15) (S'.2.1 16) (S'.2.1 18) (S'.2.1 19) σ 800 U c
  rw [e15, e16, e18, e19]; exact h
theorem xVe_go {σ : Nat → Nat} (h : xVe S σ vs mp told most B) (f3 : S'.1 3 10 = S.1 3 10) (f14 : S'.1 4 14 = S.1 4 14) (f16 : S'.1 4 16 = S.1 4 16) (r : ∀ o i, (15 ≤ o ∧ o ≤ 19) ∨ o = 21 ∨ o = 23 ∨ o = 31 → S'.2.1 o i = S.2.1 o i) (r24 : ∀ i, i < 4 → S'.2.1 24 i = S.2.1 24 i) : xVe S' σ vs mp told most B := by
  obtain ⟨a, b, c, e, rr, r1, r2⟩ := h
  refine ⟨fun i hi => (r 23 i (by omega)).trans (a i hi), fun i hi => ?_, ⟨f14.trans c.1, c.2.1, fun p x hp => (r 31 p (by omega)).trans (c.2.2 p x hp)⟩, f16.trans e, rr, r1, f3.trans r2.1, fun i i1 i2 => ?_⟩
  · rw [r24 i hi]
    exact xTr_ro (fun o j h1 h2 => r o j (Or.inl ⟨h1, h2⟩)) (b i hi)
  · rw [r 21 i (by omega)]; exact r2.2 i i1 i2
theorem xInj_go {σ : Nat → Nat} (h : hInj (S.2.1 15) (S.2.1 18) (S.2.1 19) σ (fun T c => ∃ i, i < 4 ∧ T = mp i ∧ c = S.2.1 24 i)) (r : ∀ o i, 15 ≤ o → o ≤ 19 → S'.2.1 o i = S.2.1 o i) (r24 : ∀ i, i < 4 → S'.2.1 24 i = S.2.1 24 i) : hInj (S'.2.1 15) (S'.2.1 18) (S'.2.1 19) σ (fun T c => ∃ i, i < 4 ∧ T = mp i ∧ c = S'.2.1 24 i) := by
  have e15 : S'.2.1 15 = S.2.1 15 := funext (fun i => r 15 i (by decide) (by decide))
  have e18 : S'.2.1 18 = S.2.1 18 := funext (fun i => r 18 i (by decide) (by decide))
  have e19 : S'.2.1 19 = S.2.1 19 := funext (fun i => r 19 i (by decide) (by decide))
  rw [e15, e18, e19]
  intro T c T' c' i j h1 h2
  obtain ⟨q, q1, q2, q3⟩ := h1
  obtain ⟨q', q1', q2', q3'⟩ := h2
  exact h T c T' c' i j ⟨q, q1, q2, by rw [q3]; exact r24 q q1⟩ ⟨q', q1', q2', by rw [q3']; exact r24 q' q1'⟩
theorem xLR_f (S : mv_S) (o f : Nat) : (xLR S).1 o f = if o = 4 ∧ (f = 11 ∨ f = 12 ∨ f = 13) then 0 else if o = 6 ∧ f = 2 then 0 else S.1 o f := by
  show (mv_pf (mv_pf (mv_pf (mv_pf S 6 2 0) 4 13 0) 4 11 0) 4 12 0).1 o f = _
  rw [pf_get, pf_get, pf_get, pf_get]
  by_cases h : o = 4 ∧ (f = 11 ∨ f = 12 ∨ f = 13)
  · rw [if_pos h]
    obtain ⟨rfl, h⟩ := h
    rcases h with rfl | rfl | rfl <;> simp
  · rw [if_neg h, if_neg (by omega), if_neg (by omega), if_neg (by omega)]
theorem xLR_r (S : mv_S) (o i : Nat) : (xLR S).2.1 o i = if o = 24 ∧ 4 ≤ i ∧ i < 54 then 0 else S.2.1 o i := by
  show va_up S.2.1 24 (rFill (S.2.1 24) 4 54 0) o i = _
  by_cases h : o = 24
  · subst h
    by_cases h2 : 4 ≤ i ∧ i < 54
    · simp [va_up, rFill, h2]
    · simp [va_up, rFill, h2]
  · simp [va_up, h]
theorem xId_of {σ : Nat → Nat} (h : xVe S σ vs mp told most B) (inj : hInj (S.2.1 15) (S.2.1 18) (S.2.1 19) σ (fun T c => ∃ i, i < 4 ∧ T = mp i ∧ c = S.2.1 24 i)) : xId (xLR S) vs mp told most B := by
  have ff := xLR_f S
  have rr := xLR_r S
  refine ⟨σ, xVe_go h ?_ ?_ ?_ (fun o i a => ?_) (fun i hi => ?_), ?_, ?_, ?_, fun i h1 h2 => ?_, xInj_go inj (fun o i a b => ?_) (fun i hi => ?_)⟩
  · rw [ff, if_neg (by omega), if_neg (by omega)]
  · rw [ff, if_neg (by omega), if_neg (by omega)]
  · rw [ff, if_neg (by omega), if_neg (by omega)]
  · rw [rr, if_neg (by omega)]
  · rw [rr, if_neg (by omega)]
  · rw [ff, if_neg (by omega), if_pos ⟨rfl, rfl⟩]
  · rw [ff, if_pos ⟨rfl, by omega⟩]
  · rw [ff, if_pos ⟨rfl, by omega⟩]
  · rw [rr, if_pos ⟨rfl, h1, h2⟩]
  · rw [rr, if_neg (by omega)]
  · rw [rr, if_neg (by omega)]
theorem xId_LR (h : xId S vs mp told most B) : xId (xLR S) vs mp told most B := by
  obtain ⟨σ, a, _, _, _, _, b⟩ := h
  exact xId_of a b
theorem xId_D (h : xD S0 S sd rm B rets D) : xId (xLR S) D.2.2.1 D.2.2.2.1 D.2.2.2.2.1 D.2.2.2.2.2.1 B := by
  obtain ⟨σ, a, b⟩ := xD_ve h
  exact xId_of a b
theorem xId_go (h : xId S vs mp told most B) (f : ∀ o g, o = 3 ∨ o = 4 ∨ o = 6 → S'.1 o g = S.1 o g) (r : ∀ o i, 15 ≤ o → o < 35 → S'.2.1 o i = S.2.1 o i) : xId S' vs mp told most B := by
  obtain ⟨σ, a, b, c, e, g, i⟩ := h
  exact ⟨σ, xVe_go a (f 3 10 (by omega)) (f 4 14 (by omega)) (f 4 16 (by omega)) (fun o i a => r o i (by omega) (by omega)) (fun i _ => r 24 i (by decide) (by decide)), (f 6 2 (by omega)).trans b, (f 4 13 (by omega)).trans c, (f 4 12 (by omega)).trans e, fun i h1 h2 => (r 24 i (by decide) (by decide)).trans (g i h1 h2), xInj_go i (fun o i a b => r o i a (by omega)) (fun i _ => r 24 i (by decide) (by decide))⟩
theorem xId_B {B' : Nat} (h : xId S vs mp told most B) (hB : B ≤ B') : xId S vs mp told most B' := by
  obtain ⟨σ, ⟨a1, a2, a3, a4, r, r1, r2⟩, b⟩ := h
  exact ⟨σ, ⟨a1, a2, a3, a4, r, by omega, r2⟩, b⟩
theorem yTr_ro {σ : Nat → Nat} {U : tT} {c : Int32} (r : ∀ o i, 13 ≤ o → o ≤ 16 → T'.2.1 o i = T.2.1 o i) (h : yTr T σ U c) : yTr T' σ U c := yTr_hs (fun o i a b => r o i a b) h
theorem yId_go (h : yId T vs mp told most) (f : ∀ g, g = 33 ∨ g = 43 ∨ g = 48 ∨ g = 50 → T'.1 0 g = T.1 0 g) (h54 : T'.1 0 54 = 0) (r : ∀ o i, (13 ≤ o ∧ o ≤ 16) ∨ o = 19 ∨ o = 20 ∨ o = 29 → T'.2.1 o i = T.2.1 o i) : yId T' vs mp told most := by
  obtain ⟨σ, ⟨a1, a2, a3, a4⟩, b, c, cs, t, e1, e2, e3, e4⟩ := h
  refine ⟨σ, ⟨fun i hi => (r 19 i (by omega)).trans (a1 i hi), fun i hi => ?_, ⟨(f 50 (by omega)).trans a3.1, a3.2.1, fun p x hp => (r 29 p (by omega)).trans (a3.2.2 p x hp)⟩, (f 33 (by omega)).trans a4⟩, h54, ?_, cs, t, e1, e2, (f 43 (by omega)).trans e3, (f 48 (by omega)).trans e4⟩
  · rw [r 20 i (by omega)]
    exact yTr_ro (fun o j h1 h2 => r o j (Or.inl ⟨h1, h2⟩)) (a2 i hi)
  · have e13 : T'.2.1 13 = T.2.1 13 := funext (fun i => r 13 i (by omega))
    have e15 : T'.2.1 15 = T.2.1 15 := funext (fun i => r 15 i (by omega))
    have e16 : T'.2.1 16 = T.2.1 16 := funext (fun i => r 16 i (by omega))
    have e20 : T'.2.1 20 = T.2.1 20 := funext (fun i => r 20 i (by omega))
    rw [e13, e15, e16, e20]; exact c
theorem yM_ve (h : yM T0 T sd rm c s) : ∃ σ, yVe T σ s.2.2.2.2.1 s.2.2.2.2.2.1 s.2.2.2.2.2.2.1 s.2.2.2.2.2.2.2.1 ∧ hInj (T.2.1 13) (T.2.1 15) (T.2.1 16) σ (fun U c => ∃ i, i < 4 ∧ U = s.2.2.2.2.2.1 i ∧ c = T.2.1 20 i) := by
  obtain ⟨σ, h⟩ := h
  obtain ⟨a1, a2, a3, a4, a5, a6, a7, a8, a9, a10⟩ := h
  refine ⟨σ, ⟨a6.1, a7.1, a8, a9⟩, ?_⟩
  intro U c U' c' i j h1 h2
  exact a10 U c U' c' i j (Or.inl h1) (Or.inl h2)
theorem yM_id (h : yM T0 T sd rm c s) (hq : (s.2.2.1 ++ s.2.2.2.1.flatten).length ≤ 1250) (f : ∀ g, g = 33 ∨ g = 43 ∨ g = 48 ∨ g = 50 → T'.1 0 g = T.1 0 g) (h54 : T'.1 0 54 = 0) (r : ∀ o i, (13 ≤ o ∧ o ≤ 16) ∨ o = 19 ∨ o = 20 ∨ o = 29 → T'.2.1 o i = T.2.1 o i) : yId T' s.2.2.2.2.1 s.2.2.2.2.2.1 s.2.2.2.2.2.2.1 s.2.2.2.2.2.2.2.1 := by
  obtain ⟨σ, ⟨a1, a2, a3, a4⟩, b⟩ := yM_ve h
  obtain ⟨σ', h⟩ := h
  refine ⟨σ, ⟨fun i hi => (r 19 i (by omega)).trans (a1 i hi), fun i hi => ?_, ⟨(f 50 (by omega)).trans a3.1, a3.2.1, fun p x hp => (r 29 p (by omega)).trans (a3.2.2 p x hp)⟩, (f 33 (by omega)).trans a4⟩, h54, ?_, s.2.2.2.1.length, (s.2.2.1 ++ s.2.2.2.1.flatten).length, h.2.2.2.2.1.2.1, by omega, (f 43 (by omega)).trans h.2.2.2.2.1.1, (f 48 (by omega)).trans h.2.2.2.1.1⟩
  · rw [r 20 i (by omega)]
    exact yTr_ro (fun o j h1 h2 => r o j (Or.inl ⟨h1, h2⟩)) (a2 i hi)
  · have e13 : T'.2.1 13 = T.2.1 13 := funext (fun i => r 13 i (by omega))
    have e15 : T'.2.1 15 = T.2.1 15 := funext (fun i => r 15 i (by omega))
    have e16 : T'.2.1 16 = T.2.1 16 := funext (fun i => r 16 i (by omega))
    have e20 : T'.2.1 20 = T.2.1 20 := funext (fun i => r 20 i (by omega))
    rw [e13, e15, e16, e20]; exact b
theorem aOk_m (h : aOk sd rm D) (hrm : rm ≤ 400) : mOk D.2.2.2.1 := by
  intro i hi
  have hd : aHd D (D.2.2.2.1 i) := Or.inl ⟨i, by omega, rfl⟩
  have := h.1 _ hd
  refine ⟨this.1, ?_⟩
  have := aN_le hd this.1
  have := h.2.2
  omega
end ID

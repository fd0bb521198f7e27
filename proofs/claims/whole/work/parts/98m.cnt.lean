/-! THE FACE: counts, code, beginnings of runs -/
theorem pick_8 {w : Int32} {a0 a1 a2 a3 a4 a5 a6 a7 f : Int} (h : ¬ (0 ≤ w ∧ w < 8)) : mv_pick w f (mv_tb 0 [a0, a1, a2, a3, a4, a5, a6, a7]) = f := by
  show (if w = Int32.ofInt 0 then a0 else if w = Int32.ofInt (0 + 1) then a1 else if w = Int32.ofInt (0 + 1 + 1) then a2 else if w = Int32.ofInt (0 + 1 + 1 + 1) then a3 else if w = Int32.ofInt (0 + 1 + 1 + 1 + 1) then a4 else if w = Int32.ofInt (0 + 1 + 1 + 1 + 1 + 1) then a5 else if w = Int32.ofInt (0 + 1 + 1 + 1 + 1 + 1 + 1) then a6 else if w = Int32.ofInt (0 + 1 + 1 + 1 + 1 + 1 + 1 + 1) then a7 else f) = f
  have ne : ∀ x : Int32, (0 ≤ x ∧ x < 8) → ¬ w = x := fun x hx e => h (by rw [e]; exact hx)
  rw [if_neg (ne _ (by decide)), if_neg (ne _ (by decide)), if_neg (ne _ (by decide)), if_neg (ne _ (by decide)), if_neg (ne _ (by decide)), if_neg (ne _ (by decide)), if_neg (ne _ (by decide)), if_neg (ne _ (by decide))]
theorem w_8 {w : Int32} (h : 0 ≤ w ∧ w < 8) : w = 0 ∨ w = 1 ∨ w = 2 ∨ w = 3 ∨ w = 4 ∨ w = 5 ∨ w = 6 ∨ w = 7 := by
  obtain ⟨u1, u2⟩ := aN_of (n := 8) rfl (by decide) h.1 h.2
  have : w.toNatClampNeg = 0 ∨ w.toNatClampNeg = 1 ∨ w.toNatClampNeg = 2 ∨ w.toNatClampNeg = 3 ∨ w.toNatClampNeg = 4 ∨ w.toNatClampNeg = 5 ∨ w.toNatClampNeg = 6 ∨ w.toNatClampNeg = 7 := by omega
  rcases this with e | e | e | e | e | e | e | e <;> rw [e] at u1
  · exact Or.inl u1
  · exact Or.inr (Or.inl u1)
  · exact Or.inr (Or.inr (Or.inl u1))
  · exact Or.inr (Or.inr (Or.inr (Or.inl u1)))
  · exact Or.inr (Or.inr (Or.inr (Or.inr (Or.inl u1))))
  · exact Or.inr (Or.inr (Or.inr (Or.inr (Or.inr (Or.inl u1)))))
  · exact Or.inr (Or.inr (Or.inr (Or.inr (Or.inr (Or.inr (Or.inl u1))))))
  · exact Or.inr (Or.inr (Or.inr (Or.inr (Or.inr (Or.inr (Or.inr u1))))))
section CX
variable {d : Nat} {P : Option Value → mv_S → Prop} {S : mv_S} {w arg n : Int32} {sd : Int32} {rm r : Nat}
set_option maxHeartbeats 1000000 in
set_option maxRecDepth 8000 in
theorem x_countG (hz : S.1 6 2 = 0 ∨ S.1 6 2 = 1) (h0 : w = 0 → P (some (.int (S.1 1 9))) S) (h1 : w = 1 → P (some (.int (if S.1 1 11 = 0 then 0 else S.1 1 10))) S) (h2 : w = 2 → P (some (.int (S.1 4 15))) S) (h3 : w = 3 → mv_big layX sysX (d + 3) 122 [.ref 4] S (fun r S' => ∃ x, r = some (.int x) ∧ P r S')) (h4 : w = 4 → P (some (.int (S.1 4 16))) S) (h5 : w = 5 → P (some (.int (S.1 4 13))) S) (h6 : w = 6 → P (some (.int (if S.1 6 2 = 0 then -1 else S.1 6 3))) S) (h7 : w = 7 → P (some (.int (if S.1 6 2 = 0 then 6 else S.1 6 4))) S) (hb : ¬ (0 ≤ w ∧ w < 8) → P (some (.int (-2))) S) : mv_big layX sysX (d + 4) 170 [.ref 0, .int w] S P := by
  refine ⟨40, ?_⟩
  by_cases c : 0 ≤ w ∧ w < 8
  · rcases w_8 c with rfl | rfl | rfl | rfl | rfl | rfl | rfl | rfl
    · refine ws_iload_n rfl (rfl) rfl (ws_tab (t := 48) rfl rfl (by decide) (ws_aload_n rfl (rfl) rfl (ws_getr rfl rfl rfl (ws_iv rfl rfl rfl ?_))))
      refine mv_deep (d := d + 1) (by omega) (x_size ?_)
      refine ws_i rfl ?_
      exact h0 rfl
    · refine ws_iload_n rfl (rfl) rfl (ws_tab (t := 56) rfl rfl (by decide) (ws_aload_n rfl (rfl) rfl (ws_getr rfl rfl rfl (ws_iv rfl rfl rfl ?_))))
      refine mv_deep (d := d + 1) (by omega) (x_wordCount ?_)
      refine ws_i rfl ?_
      exact h1 rfl
    · refine ws_iload_n rfl (rfl) rfl (ws_tab (t := 64) rfl rfl (by decide) (ws_aload_n rfl (rfl) rfl (ws_getr rfl rfl rfl (ws_iv rfl rfl rfl ?_))))
      refine mv_deep (d := d + 1) (by omega) (x_steps ?_)
      refine ws_i rfl ?_
      exact h2 rfl
    · refine ws_iload_n rfl (rfl) rfl (ws_tab (t := 72) rfl rfl (by decide) (ws_aload_n rfl (rfl) rfl (ws_getr rfl rfl rfl (ws_iv rfl rfl rfl ?_))))
      refine mv_big_mono _ _ (Nat.le_refl _) _ _ _ _ _ (fun r S1 z => ?_) (h3 rfl)
      obtain ⟨x, rfl, z⟩ := z
      refine ws_i rfl ?_
      exact z
    · refine ws_iload_n rfl (rfl) rfl (ws_tab (t := 80) rfl rfl (by decide) (ws_aload_n rfl (rfl) rfl (ws_getr rfl rfl rfl (ws_iv rfl rfl rfl ?_))))
      refine mv_deep (d := d + 1) (by omega) (x_mostMade ?_)
      refine ws_i rfl ?_
      exact h4 rfl
    · refine ws_iload_n rfl (rfl) rfl (ws_tab (t := 88) rfl rfl (by decide) (ws_aload_n rfl (rfl) rfl (ws_getr rfl rfl rfl (ws_iv rfl rfl rfl ?_))))
      refine mv_deep (d := d + 1) (by omega) (x_calls ?_)
      refine ws_i rfl ?_
      exact h5 rfl
    · refine ws_iload_n rfl (rfl) rfl (ws_tab (t := 96) rfl rfl (by decide) (ws_aload_n rfl (rfl) rfl (ws_getr rfl rfl rfl (ws_iv rfl rfl rfl ?_))))
      refine mv_deep (d := d + 1) (by omega) (x_there hz ?_)
      have hh := h6 rfl
      by_cases c2 : S.1 6 2 = 0
      · refine ws_i rfl ⟨fun _ => ?_, fun z => absurd c2 z⟩
        refine ws_iconst (x := (-1)) rfl rfl rfl (ws_i rfl ?_)
        rw [if_pos c2] at hh
        exact hh
      · refine ws_i rfl ⟨fun z => absurd z c2, fun _ => ?_⟩
        refine ws_aload_n rfl (rfl) rfl (ws_getr rfl rfl rfl (ws_iv rfl rfl rfl ?_))
        refine mv_deep (d := d + 1) (by omega) (x_nextWord ?_)
        refine ws_goto (t := 117) rfl (by decide) (ws_i rfl ?_)
        rw [if_neg c2] at hh
        exact hh
    · refine ws_iload_n rfl (rfl) rfl (ws_tab (t := 118) rfl rfl (by decide) (ws_aload_n rfl (rfl) rfl (ws_getr rfl rfl rfl (ws_iv rfl rfl rfl ?_))))
      refine mv_deep (d := d + 1) (by omega) (x_there hz ?_)
      have hh := h7 rfl
      by_cases c2 : S.1 6 2 = 0
      · refine ws_i rfl ⟨fun _ => ?_, fun z => absurd c2 z⟩
        refine ws_bipush (x := 6) rfl rfl rfl (ws_i rfl ?_)
        rw [if_pos c2] at hh
        exact hh
      · refine ws_i rfl ⟨fun z => absurd z c2, fun _ => ?_⟩
        refine ws_aload_n rfl (rfl) rfl (ws_getr rfl rfl rfl (ws_iv rfl rfl rfl ?_))
        refine mv_deep (d := d + 1) (by omega) (x_end ?_)
        refine ws_goto (t := 140) rfl (by decide) (ws_i rfl ?_)
        rw [if_neg c2] at hh
        exact hh
  · refine ws_iload_n rfl (rfl) rfl (ws_tab (t := 141) rfl rfl ?_ ?_)
    · show (1 : Int) + mv_pick w 140 (mv_tb 0 [47, 55, 63, 71, 79, 87, 95, 117]) = 141
      rw [pick_8 c]; rfl
    · refine ws_bipush (x := (-2)) rfl rfl rfl (ws_i rfl ?_)
      exact hb c
set_option maxHeartbeats 1000000 in
set_option maxRecDepth 8000 in
theorem x_start1 (h11 : S.1 1 11 = 1) (hR : xRo S r) (hr : r + 1 < 2 ^ 31) (e12 : S.1 3 12 = sd) (e13 : S.1 3 13 = nI rm) (hrm : rm ≤ 400) (hP : ∀ S', (∀ o f, o ≠ 3 → o ≠ 4 → ¬ (o = 6 ∧ (f = 2 ∨ f = 3 ∨ f = 4)) → S'.1 o f = S.1 o f) → (∀ o i, (o < 15 ∨ 35 ≤ o) → S'.2.1 o i = S.2.1 o i) → S'.1 4 15 = 0 → S'.1 6 2 = 1 → S'.1 6 3 = S.1 1 7 → S'.1 6 4 = 1 → xD S' S' sd rm (r + 1) [] (aD0 arg) → P (some (.int 0)) S') : mv_big layX sysX (d + 5) 163 [.ref 0, .int arg] S P := by
  refine ⟨40, ?_⟩
  refine ws_aload_n rfl (rfl) rfl (ws_getr rfl rfl rfl (ws_iv rfl rfl rfl ?_))
  refine mv_deep (d := d + 1) (by omega) (x_ready (Or.inr h11) ?_)
  rw [h11]
  refine ws_i rfl ⟨fun _ => ?_, fun z => absurd z (show ¬ (1 : Int32) = 0 by decide)⟩
  refine ws_aload_n rfl (rfl) rfl (ws_getr rfl rfl rfl (ws_iload_n rfl (rfl) rfl (ws_iv rfl rfl rfl ?_)))
  refine mv_deep (d := d + 4) (by omega) (x_begin hR hr e12 e13 hrm (fun S1 g1 g2 g3 g4 => ?_))
  refine ws_aload_n rfl (rfl) rfl (ws_getr rfl rfl rfl (ws_iv rfl rfl rfl ?_))
  refine mv_deep (d := d + 2) (by omega) (x_rbegin ?_)
  refine ws_iconst (x := 0) rfl rfl rfl (ws_i rfl ?_)
  obtain ⟨S2, eS⟩ : ∃ S2, S2 = mv_pf (mv_pf (mv_pf S1 6 2 1) 6 3 (S1.1 1 7)) 6 4 1 := ⟨_, rfl⟩
  rw [← eS]
  have f2 : ∀ o f, S2.1 o f = if o = 6 ∧ f = 4 then 1 else if o = 6 ∧ f = 3 then S1.1 1 7 else if o = 6 ∧ f = 2 then 1 else S1.1 o f := fun o f => by rw [eS, pf_get, pf_get, pf_get]
  have r2 : S2.2 = S1.2 := by rw [eS]; rfl
  refine hP S2 (fun o f a b e => ?_) (fun o i a => ?_) ?_ ?_ ?_ ?_ (xD_out g4 (fun f => ?_) (fun f _ => ?_) (fun o i _ _ => by rw [r2]) (by rw [r2]))
  · rw [f2, if_neg (by omega), if_neg (by omega), if_neg (by omega)]; exact g1 o f a b
  · rw [r2]; exact g2 o i a
  · rw [f2, if_neg (by omega), if_neg (by omega), if_neg (by omega)]; exact g3
  · rw [f2, if_neg (by omega), if_neg (by omega), if_pos ⟨rfl, rfl⟩]
  · rw [f2, if_neg (by omega), if_pos ⟨rfl, rfl⟩]; exact g1 1 7 (by decide) (by decide)
  · rw [f2, if_pos ⟨rfl, rfl⟩]
  · rw [f2, if_neg (by omega), if_neg (by omega), if_neg (by omega)]
  · rw [f2, if_neg (by omega), if_neg (by omega), if_neg (by omega)]
set_option maxHeartbeats 1000000 in
set_option maxRecDepth 8000 in
theorem x_run1 (h2 : S.1 6 2 = 1) (hb : ¬ (1 ≤ n ∧ n ≤ 5000) → P (some (.int (-2))) S) (hg : 1 ≤ n ∧ n ≤ 5000 → mv_big layX sysX (d + 8) 87 [.ref 6, .int n] S (fun r S' => ∃ x, r = some (.int x) ∧ P r S')) : mv_big layX sysX (d + 9) 164 [.ref 0, .int n] S P := by
  refine ⟨40, ?_⟩
  refine ws_iload_n rfl (rfl) rfl (ws_is rfl rfl rfl ?_)
  refine mv_deep (d := d + 1) (by omega) (x_grant (fun c => ?_) (fun c => ?_))
  · refine ws_i rfl ⟨fun z => absurd rfl z, fun _ => ?_⟩
    refine ws_bipush (x := (-2)) rfl rfl rfl (ws_i rfl ?_)
    exact hb c
  · refine ws_i rfl ⟨fun _ => ?_, fun z => absurd z (show ¬ (1 : Int32) = 0 by decide)⟩
    refine ws_aload_n rfl (rfl) rfl (ws_getr rfl rfl rfl (ws_iv rfl rfl rfl ?_))
    refine mv_deep (d := d + 1) (by omega) (x_there (Or.inr h2) ?_)
    rw [h2]
    refine ws_i rfl ⟨fun z => absurd z (show ¬ (1 : Int32) = 0 by decide), fun _ => ?_⟩
    refine ws_aload_n rfl (rfl) rfl (ws_getr rfl rfl rfl (ws_iload_n rfl (rfl) rfl (ws_iv rfl rfl rfl ?_)))
    refine mv_big_mono _ _ (Nat.le_refl _) _ _ _ _ _ (fun r S1 z => ?_) (hg c)
    obtain ⟨x, rfl, z⟩ := z
    refine ws_goto (t := 33) rfl (by decide) (ws_i rfl ?_)
    exact z
set_option maxHeartbeats 1000000 in
set_option maxRecDepth 8000 in
theorem x_interpret1 (h11 : S.1 1 11 = 1) (hR : xRo S r) (hr : r + 1 < 2 ^ 31) (e12 : S.1 3 12 = sd) (e13 : S.1 3 13 = nI rm) (hrm : rm ≤ 400) (hb : ¬ (1 ≤ n ∧ n ≤ 5000) → P (some (.int (-2))) S) (hg : 1 ≤ n ∧ n ≤ 5000 → ∀ S', (∀ o f, o ≠ 3 → o ≠ 4 → S'.1 o f = S.1 o f) → (∀ o i, (o < 15 ∨ 35 ≤ o) → S'.2.1 o i = S.2.1 o i) → S'.1 4 15 = 0 → xD S' S' sd rm (r + 1) [] (aD0 arg) → mv_big layX sysX (d + 8) 138 [.ref 7, .int n] S' (fun r S' => ∃ x, r = some (.int x) ∧ P r (xLR S'))) : mv_big layX sysX (d + 9) 165 [.ref 0, .int arg, .int n] S P := by
  refine ⟨60, ?_⟩
  refine ws_iload_n rfl (rfl) rfl (ws_is rfl rfl rfl ?_)
  refine mv_deep (d := d + 1) (by omega) (x_grant (fun c => ?_) (fun c => ?_))
  · refine ws_i rfl ⟨fun z => absurd rfl z, fun _ => ?_⟩
    refine ws_bipush (x := (-2)) rfl rfl rfl (ws_i rfl ?_)
    exact hb c
  · refine ws_i rfl ⟨fun _ => ?_, fun z => absurd z (show ¬ (1 : Int32) = 0 by decide)⟩
    refine ws_aload_n rfl (rfl) rfl (ws_getr rfl rfl rfl (ws_iv rfl rfl rfl ?_))
    refine mv_deep (d := d + 1) (by omega) (x_ready (Or.inr h11) ?_)
    rw [h11]
    refine ws_i rfl ⟨fun _ => ?_, fun z => absurd z (show ¬ (1 : Int32) = 0 by decide)⟩
    refine ws_aload_n rfl (rfl) rfl (ws_getr rfl rfl rfl (ws_iload_n rfl (rfl) rfl (ws_iv rfl rfl rfl ?_)))
    refine mv_deep (d := d + 4) (by omega) (x_begin hR hr e12 e13 hrm (fun S1 g1 g2 g3 g4 => ?_))
    refine ws_aload_n rfl (rfl) rfl (ws_getr rfl rfl rfl (ws_iload_n rfl (rfl) rfl (ws_iv rfl rfl rfl ?_)))
    refine mv_big_mono _ _ (Nat.le_refl _) _ _ _ _ _ (fun r S2 z => ?_) (hg c S1 g1 g2 g3 g4)
    obtain ⟨x, rfl, z⟩ := z
    refine ws_istore_n rfl rfl rfl rfl (ws_aload_n rfl (rfl) rfl (ws_iv rfl rfl rfl ?_))
    refine mv_deep (d := d + 2) (by omega) (x_leaveRun ?_)
    refine ws_iload_n rfl (rfl) rfl (ws_i rfl ?_)
    exact z
end CX
theorem yCL_f (T : mv_S) (a : Int32) (o f : Nat) : (yCL T a).1 o f = if o = 0 ∧ (f = 43 ∨ f = 48 ∨ f = 50) then 0 else T.1 o f := by
  show (mv_pf (mv_pf (mv_pf T 0 43 0) 0 48 0) 0 50 0).1 o f = _
  rw [pf_get, pf_get, pf_get]
  by_cases h : o = 0 ∧ (f = 43 ∨ f = 48 ∨ f = 50)
  · rw [if_pos h]
    obtain ⟨rfl, h⟩ := h
    rcases h with rfl | rfl | rfl <;> simp
  · rw [if_neg h, if_neg (by omega), if_neg (by omega), if_neg (by omega)]
theorem yCL_r (T : mv_S) (a : Int32) (o i : Nat) : (yCL T a).2.1 o i = if o = 24 ∧ i = 0 then 0 else if o = 22 ∧ i < 2 then 0 else if o = 21 ∧ i < 6 then 0 else if o = 20 ∧ i < 4 then 0 else if o = 19 ∧ i = 0 then a else if o = 19 ∧ i < 8 then 0 else T.2.1 o i := by
  unfold yCL
  rw [yCO_r]
  have e48 : (mv_pf (mv_pf (mv_pf (stR (mv_pr (stR T 19 (rFill (T.2.1 19) 0 8 0)) 19 0 a) 20 (rFill (T.2.1 20) 0 4 0)) 0 43 0) 0 48 0) 0 50 0).1 0 48 = 0 := by rw [pf_get, if_neg (by omega), pf_get, if_pos ⟨rfl, rfl⟩]
  rw [e48]
  have rr : (mv_pf (mv_pf (mv_pf (stR (mv_pr (stR T 19 (rFill (T.2.1 19) 0 8 0)) 19 0 a) 20 (rFill (T.2.1 20) 0 4 0)) 0 43 0) 0 48 0) 0 50 0).2.1 o i = if o = 20 ∧ i < 4 then 0 else if o = 19 ∧ i = 0 then a else if o = 19 ∧ i < 8 then 0 else T.2.1 o i := by
    show va_up (mv_pr (stR T 19 (rFill (T.2.1 19) 0 8 0)) 19 0 a).2.1 20 (rFill (T.2.1 20) 0 4 0) o i = _
    by_cases h : o = 20
    · subst h
      by_cases h2 : i < 4 <;> simp [va_up, rFill, h2]
    · have e : va_up (mv_pr (stR T 19 (rFill (T.2.1 19) 0 8 0)) 19 0 a).2.1 20 (rFill (T.2.1 20) 0 4 0) o i = (mv_pr (stR T 19 (rFill (T.2.1 19) 0 8 0)) 19 0 a).2.1 o i := by simp [va_up, h]
      rw [e, pr_get, if_neg (show ¬ (o = 20 ∧ i < 4) from fun z => h z.1)]
      by_cases h1 : o = 19
      · subst h1
        by_cases h3 : i = 0
        · rw [if_pos ⟨rfl, h3⟩, if_pos ⟨rfl, h3⟩]
        · rw [if_neg (fun z => h3 z.2), if_neg (fun z => h3 z.2)]
          by_cases h2 : i < 8 <;> simp [stR, va_up, rFill, h2]
      · rw [if_neg (show ¬ (o = 19 ∧ i = 0) from fun z => h1 z.1), if_neg (show ¬ (o = 19 ∧ i = 0) from fun z => h1 z.1), if_neg (show ¬ (o = 19 ∧ i < 8) from fun z => h1 z.1)]
        simp [stR, va_up, h1]
  rw [rr]
  by_cases a1 : o = 24 ∧ i = 0
  · rw [if_pos a1, if_pos a1]
  · rw [if_neg a1, if_neg a1]
    by_cases a2 : o = 22 ∧ i < 2
    · rw [if_pos a2]
      by_cases a3 : i = 1
      · rw [if_pos (show o = 22 ∧ i = 2 * 0 + 1 by omega)]
      · rw [if_neg (show ¬ (o = 22 ∧ i = 2 * 0 + 1) by omega), if_pos (show o = 22 ∧ i = 2 * 0 by omega)]
    · rw [if_neg (show ¬ (o = 22 ∧ i = 2 * 0 + 1) by omega), if_neg (show ¬ (o = 22 ∧ i = 2 * 0) by omega), if_neg a2]
      by_cases a4 : o = 21 ∧ i < 6
      · rw [if_pos (show o = 21 ∧ 6 * 0 ≤ i ∧ i < 6 * 0 + 6 by omega), if_pos a4]
      · rw [if_neg (show ¬ (o = 21 ∧ 6 * 0 ≤ i ∧ i < 6 * 0 + 6) by omega), if_neg a4]
section CY
variable {d : Nat} {P : Option Value → mv_S → Prop} {T T0 : mv_S} {w arg n i : Int32} {sd c : Int32} {rm L pc : Nat} {σ : Nat → Nat} {vs : Nat → Int32} {mp : Nat → tT} {told : List Int32} {most : Nat} {s : aMs} {par : Nat → Int32} {fa : Nat → Nat}
/-- the reference stands at a beginning -/
theorem yM_0 (e35 : T.1 0 35 = sd) (e36 : T.1 0 36 = nI rm) (e51 : T.1 0 51 = nI pc) (e53 : T.1 0 53 = 1) (e43 : T.1 0 43 = 0) (e48 : T.1 0 48 = 0) (e50 : T.1 0 50 = 0) (e33 : T.1 0 33 = 0) (r19 : ∀ i, i < 8 → T.2.1 19 i = if i = 0 then arg else 0) (r20 : ∀ i, i < 4 → T.2.1 20 i = 0) (r21 : ∀ i, i < 6 → T.2.1 21 i = 0) (r22 : ∀ i, i < 2 → T.2.1 22 i = 0) : yM T T sd rm 1 (pc, [], aD0 arg) := by
  refine ⟨fun _ => 0, ⟨fun _ _ _ => rfl, fun _ _ _ => rfl⟩, ⟨e35, e36⟩, ⟨e51, e53⟩, ⟨e48, trivial⟩, ⟨e43, Nat.zero_le _, trivial⟩, ⟨fun i hi => r19 i hi, fun k hk => ?_⟩, ⟨fun i hi => r20 i hi, fun k hk => ?_⟩, ⟨e50, Nat.zero_le _, fun p x hp => by cases hp⟩, e33, ?_⟩
  · have hk : k < 6 := hk
    show T.2.1 21 k = if 8 + k = 0 then arg else 0
    rw [if_neg (by omega)]; exact r21 k hk
  · have hk : k < 2 := hk
    exact r22 k hk
  · intro U c U' c' i j h1 h2 hi
    exfalso
    rcases h1 with ⟨q, _, e, _⟩ | ⟨q, _, e, _⟩ | z
    · have e : U = .leaf := e
      rw [e] at hi; cases hi
    · have e : U = .leaf := e
      rw [e] at hi; cases hi
    · exact z
set_option maxHeartbeats 1000000 in
set_option maxRecDepth 8000 in
theorem y_go1 {k n0 : Nat} (hrm : rm ≤ 400) (h55 : T0.1 0 55 = 0) (pg : yPg T0 par fa L) (hk : k < 2 ^ 31) (hv : aInv (yW T0) par L sd rm s) (h : yM T0 T sd rm 1 s) (e52 : T.1 0 52 = nI n0) (h99 : ¬ (aRun (yW T0) par fa sd rm k s).1 = 99) (hP : ∀ T0' T', yE T0 T0' → yM T0' T' sd rm (aRun (yW T0) par fa sd rm k s).1 (aRun (yW T0) par fa sd rm k s).2.2 → T'.1 0 52 = nI (n0 + (aRun (yW T0) par fa sd rm k s).2.1) → P none T') : mv_big layY sysY (d + 8) 52 [.ref 0, .int (nI k)] T P := by
  refine ⟨60 * k + 70, ?_⟩
  refine ws_iload_n rfl rfl rfl (ws_istore_n rfl rfl rfl rfl ?_)
  exact mv_fuel (n := 60 * k + 60) (by omega) (y_goR hrm k T0 T _ s n0 h55 pg rfl rfl hk hv h e52 h99 hP)
theorem y_go2 {k n0 f : Nat} {cr : Int32} {lr : Nat} {sr : aMs} (hrm : rm ≤ 400) (h55 : ¬ T0.1 0 55 = 0) (pg : yPg T0 par fa L) (hk : k < 2 ^ 31) (hv : aInv (yW T0) par L sd rm s) (h : yM T0 T sd rm 1 s) (e52 : T.1 0 52 = nI n0) (hg : aGo (yW T0) par fa sd rm f k s = some (cr, lr, sr)) (h99 : ¬ cr = 99) (hP : ∀ T0' T', yE T0 T0' → yM T0' T' sd rm cr sr → T'.1 0 52 = nI (n0 + k - lr) → lr ≤ k → P none T') : mv_big layY sysY (d + 8) 52 [.ref 0, .int (nI k)] T P := by
  refine ⟨60 * f + 70, ?_⟩
  refine ws_iload_n rfl rfl rfl (ws_istore_n rfl rfl rfl rfl ?_)
  exact mv_fuel (n := 60 * f + 60) (by omega) (y_goS hrm f k T0 T _ s n0 h55 pg rfl rfl hk hv h e52 hg h99 hP)
set_option maxHeartbeats 1000000 in
set_option maxRecDepth 8000 in
theorem y_goE (e53 : T.1 0 53 = c) (hc : ¬ c = 1) (hP : P none T) : mv_big layY sysY (d + 1) 52 [.ref 0, .int n] T P := by
  refine ⟨20, ?_⟩
  refine ws_iload_n rfl rfl rfl (ws_istore_n rfl rfl rfl rfl ?_)
  refine ws_aload_n rfl (rfl) rfl (ws_geti rfl rfl (e53) rfl (ws_iconst (x := 1) rfl rfl rfl (ws_i rfl ⟨fun _ => ?_, fun z => absurd z hc⟩)))
  refine ws_i rfl ?_
  exact hP
set_option maxHeartbeats 1000000 in
set_option maxRecDepth 8000 in
theorem y_start1 (h5 : T.1 0 5 = 1) (hP : ∀ T', (∀ o f, ¬ (o = 0 ∧ (f = 43 ∨ f = 48 ∨ f = 50 ∨ f = 52 ∨ f = 33 ∨ f = 51 ∨ f = 54 ∨ f = 55 ∨ f = 53)) → T'.1 o f = T.1 o f) → (∀ o i, o < 19 → T'.2.1 o i = T.2.1 o i) → T'.1 0 52 = 0 → T'.1 0 54 = 1 → T'.1 0 55 = 0 → (∀ sd rm pc, T.1 0 35 = sd → T.1 0 36 = nI rm → T.1 0 10 = nI pc → yM T' T' sd rm 1 (pc, [], aD0 arg)) → P (some (.int 0)) T') : mv_big layY sysY (d + 3) 46 [.ref 0, .int arg] T P := by
  refine ⟨60, ?_⟩
  refine ws_aload_n rfl (rfl) rfl (ws_getz rfl rfl (h5) rfl (ws_i rfl ⟨fun _ => ?_, fun z => absurd z (show ¬ (1 : Int32) = 0 by decide)⟩))
  refine ws_aload_n rfl (rfl) rfl (ws_iload_n rfl (rfl) rfl (ws_iv rfl rfl rfl ?_))
  refine mv_deep (d := d + 2) (by omega) (y_clear ?_)
  have fC := yCL_f T arg
  have rC := yCL_r T arg
  obtain ⟨T1, eT⟩ : ∃ T1, T1 = yCL T arg := ⟨_, rfl⟩
  rw [← eT] at fC rC ⊢
  refine ws_aload_n rfl (rfl) rfl (ws_iconst (x := 0) rfl rfl rfl (ws_puti rfl rfl rfl (ws_aload_n rfl (rfl) rfl (ws_iconst (x := 0) rfl rfl rfl (ws_puti rfl rfl rfl (ws_aload_n rfl (rfl) rfl (ws_aload_n rfl (rfl) rfl (ws_geti rfl rfl (rfl) rfl (ws_puti rfl rfl rfl (ws_aload_n rfl (rfl) rfl (ws_iconst (x := 1) rfl rfl rfl (ws_putz rfl rfl (Or.inr rfl) rfl (ws_aload_n rfl (rfl) rfl (ws_iconst (x := 0) rfl rfl rfl (ws_putz rfl rfl (Or.inl rfl) rfl (ws_aload_n rfl (rfl) rfl (ws_iconst (x := 1) rfl rfl rfl (ws_puti rfl rfl rfl (ws_iconst (x := 0) rfl rfl rfl (ws_i rfl ?_))))))))))))))))))))
  obtain ⟨T2, eT2⟩ : ∃ T2, T2 = mv_pf (mv_pf (mv_pf (mv_pf (mv_pf (mv_pf T1 0 52 0) 0 33 0) 0 51 ((mv_pf (mv_pf T1 0 52 0) 0 33 0).1 0 10)) 0 54 1) 0 55 0) 0 53 1 := ⟨_, rfl⟩
  rw [← eT2]
  have f2 : ∀ o f, T2.1 o f = if o = 0 ∧ f = 53 then 1 else if o = 0 ∧ f = 55 then 0 else if o = 0 ∧ f = 54 then 1 else if o = 0 ∧ f = 51 then T1.1 0 10 else if o = 0 ∧ f = 33 then 0 else if o = 0 ∧ f = 52 then 0 else T1.1 o f := fun o f => by rw [eT2, pf_get, pf_get, pf_get, pf_get, pf_get, pf_get, pf_get, pf_get, if_neg (show ¬ (0 = 0 ∧ 10 = 33) by decide), if_neg (show ¬ (0 = 0 ∧ 10 = 52) by decide)]
  have r2 : ∀ o i, T2.2.1 o i = T1.2.1 o i := fun o i => by rw [eT2]; rfl
  refine hP T2 (fun o f a => ?_) (fun o i a => ?_) ?_ ?_ ?_ (fun sd rm pc q1 q2 q3 => ?_)
  · rw [f2, if_neg (by omega), if_neg (by omega), if_neg (by omega), if_neg (by omega), if_neg (by omega), if_neg (by omega), fC, if_neg (by omega)]
  · rw [r2, rC, if_neg (by omega), if_neg (by omega), if_neg (by omega), if_neg (by omega), if_neg (by omega), if_neg (by omega)]
  · rw [f2, if_neg (by omega), if_neg (by omega), if_neg (by omega), if_neg (by omega), if_neg (by omega), if_pos ⟨rfl, rfl⟩]
  · rw [f2, if_neg (by omega), if_neg (by omega), if_pos ⟨rfl, rfl⟩]
  · rw [f2, if_neg (by omega), if_pos ⟨rfl, rfl⟩]
  · refine yM_0 ?_ ?_ ?_ ?_ ?_ ?_ ?_ ?_ (fun i hi => ?_) (fun i hi => ?_) (fun i hi => ?_) (fun i hi => ?_)
    · rw [f2, if_neg (by omega), if_neg (by omega), if_neg (by omega), if_neg (by omega), if_neg (by omega), if_neg (by omega), fC, if_neg (by omega)]; exact q1
    · rw [f2, if_neg (by omega), if_neg (by omega), if_neg (by omega), if_neg (by omega), if_neg (by omega), if_neg (by omega), fC, if_neg (by omega)]; exact q2
    · rw [f2, if_neg (by omega), if_neg (by omega), if_neg (by omega), if_pos ⟨rfl, rfl⟩, fC, if_neg (by omega)]; exact q3
    · rw [f2, if_pos ⟨rfl, rfl⟩]
    · rw [f2, if_neg (by omega), if_neg (by omega), if_neg (by omega), if_neg (by omega), if_neg (by omega), if_neg (by omega), fC, if_pos ⟨rfl, by omega⟩]
    · rw [f2, if_neg (by omega), if_neg (by omega), if_neg (by omega), if_neg (by omega), if_neg (by omega), if_neg (by omega), fC, if_pos ⟨rfl, by omega⟩]
    · rw [f2, if_neg (by omega), if_neg (by omega), if_neg (by omega), if_neg (by omega), if_neg (by omega), if_neg (by omega), fC, if_pos ⟨rfl, by omega⟩]
    · rw [f2, if_neg (by omega), if_neg (by omega), if_neg (by omega), if_neg (by omega), if_pos ⟨rfl, rfl⟩]
    · rw [r2, rC, if_neg (by omega), if_neg (by omega), if_neg (by omega), if_neg (by omega)]
      by_cases z : i = 0
      · rw [if_pos ⟨rfl, z⟩, if_pos z]
      · rw [if_neg (fun y => z y.2), if_pos ⟨rfl, hi⟩, if_neg z]
    · rw [r2, rC, if_neg (by omega), if_neg (by omega), if_neg (by omega), if_pos ⟨rfl, hi⟩]
    · rw [r2, rC, if_neg (by omega), if_neg (by omega), if_pos ⟨rfl, hi⟩]
    · rw [r2, rC, if_neg (by omega), if_pos ⟨rfl, hi⟩]
set_option maxHeartbeats 1000000 in
set_option maxRecDepth 8000 in
theorem y_run1 (h54 : T.1 0 54 = 1) (hb : ¬ (1 ≤ n ∧ n ≤ 5000) → P (some (.int (-2))) T) (hg : 1 ≤ n ∧ n ≤ 5000 → mv_big layY sysY (d + 8) 52 [.ref 0, .int n] T (fun r T' => r = none ∧ P (some (.int (T'.1 0 53))) T')) : mv_big layY sysY (d + 9) 47 [.ref 0, .int n] T P := by
  refine ⟨40, ?_⟩
  refine ws_iload_n rfl (rfl) rfl (ws_iconst (x := 1) rfl rfl rfl (ws_sipush (x := 5000) rfl rfl rfl (ws_is rfl rfl rfl ?_)))
  refine mv_deep (d := d + 1) (by omega) (y_in (fun c => ?_) (fun c => ?_))
  · refine ws_i rfl ⟨fun z => absurd rfl z, fun _ => ?_⟩
    refine ws_bipush (x := (-2)) rfl rfl rfl (ws_i rfl ?_)
    exact hb c
  · refine ws_i rfl ⟨fun _ => ?_, fun z => absurd z (show ¬ (1 : Int32) = 0 by decide)⟩
    refine ws_aload_n rfl (rfl) rfl (ws_getz rfl rfl (h54) rfl (ws_i rfl ⟨fun _ => ?_, fun z => absurd z (show ¬ (1 : Int32) = 0 by decide)⟩))
    refine ws_aload_n rfl (rfl) rfl (ws_iload_n rfl (rfl) rfl (ws_iv rfl rfl rfl ?_))
    refine mv_big_mono _ _ (Nat.le_refl _) _ _ _ _ _ (fun r T1 z => ?_) (hg c)
    obtain ⟨rfl, z⟩ := z
    refine ws_aload_n rfl (rfl) rfl (ws_geti rfl rfl (rfl) rfl (ws_i rfl ?_))
    exact z
set_option maxHeartbeats 1000000 in
set_option maxRecDepth 8000 in
theorem y_interpret1 (h5 : T.1 0 5 = 1) (hb : ¬ (1 ≤ n ∧ n ≤ 5000) → P (some (.int (-2))) T) (hg : 1 ≤ n ∧ n ≤ 5000 → ∀ T', (∀ o f, ¬ (o = 0 ∧ (f = 43 ∨ f = 48 ∨ f = 50 ∨ f = 52 ∨ f = 33 ∨ f = 51 ∨ f = 54 ∨ f = 55 ∨ f = 53)) → T'.1 o f = T.1 o f) → (∀ o i, o < 19 → T'.2.1 o i = T.2.1 o i) → T'.1 0 52 = 0 → T'.1 0 54 = 0 → T'.1 0 55 = 1 → (∀ sd rm pc, T.1 0 35 = sd → T.1 0 36 = nI rm → T.1 0 11 = nI pc → yM T' T' sd rm 1 (pc, [], aD0 arg)) → mv_big layY sysY (d + 8) 52 [.ref 0, .int n] T' (fun r T' => r = none ∧ P (some (.int (T'.1 0 53))) T')) : mv_big layY sysY (d + 9) 48 [.ref 0, .int arg, .int n] T P := by
  refine ⟨80, ?_⟩
  refine ws_iload_n rfl (rfl) rfl (ws_iconst (x := 1) rfl rfl rfl (ws_sipush (x := 5000) rfl rfl rfl (ws_is rfl rfl rfl ?_)))
  refine mv_deep (d := d + 1) (by omega) (y_in (fun c => ?_) (fun c => ?_))
  · refine ws_i rfl ⟨fun z => absurd rfl z, fun _ => ?_⟩
    refine ws_bipush (x := (-2)) rfl rfl rfl (ws_i rfl ?_)
    exact hb c
  · refine ws_i rfl ⟨fun _ => ?_, fun z => absurd z (show ¬ (1 : Int32) = 0 by decide)⟩
    refine ws_aload_n rfl (rfl) rfl (ws_getz rfl rfl (h5) rfl (ws_i rfl ⟨fun _ => ?_, fun z => absurd z (show ¬ (1 : Int32) = 0 by decide)⟩))
    refine ws_aload_n rfl (rfl) rfl (ws_iload_n rfl (rfl) rfl (ws_iv rfl rfl rfl ?_))
    refine mv_deep (d := d + 2) (by omega) (y_clear ?_)
    have fC := yCL_f T arg
    have rC := yCL_r T arg
    obtain ⟨T1, eT⟩ : ∃ T1, T1 = yCL T arg := ⟨_, rfl⟩
    rw [← eT] at fC rC ⊢
    refine ws_aload_n rfl (rfl) rfl (ws_iconst (x := 0) rfl rfl rfl (ws_puti rfl rfl rfl (ws_aload_n rfl (rfl) rfl (ws_iconst (x := 0) rfl rfl rfl (ws_puti rfl rfl rfl (ws_aload_n rfl (rfl) rfl (ws_aload_n rfl (rfl) rfl (ws_geti rfl rfl (rfl) rfl (ws_puti rfl rfl rfl (ws_aload_n rfl (rfl) rfl (ws_iconst (x := 0) rfl rfl rfl (ws_putz rfl rfl (Or.inl rfl) rfl (ws_aload_n rfl (rfl) rfl (ws_iconst (x := 1) rfl rfl rfl (ws_putz rfl rfl (Or.inr rfl) rfl (ws_aload_n rfl (rfl) rfl (ws_iconst (x := 1) rfl rfl rfl (ws_puti rfl rfl rfl (ws_aload_n rfl (rfl) rfl (ws_iload_n rfl (rfl) rfl (ws_iv rfl rfl rfl ?_)))))))))))))))))))))
    obtain ⟨T2, eT2⟩ : ∃ T2, T2 = mv_pf (mv_pf (mv_pf (mv_pf (mv_pf (mv_pf T1 0 52 0) 0 33 0) 0 51 ((mv_pf (mv_pf T1 0 52 0) 0 33 0).1 0 11)) 0 54 0) 0 55 1) 0 53 1 := ⟨_, rfl⟩
    rw [← eT2]
    have f2 : ∀ o f, T2.1 o f = if o = 0 ∧ f = 53 then 1 else if o = 0 ∧ f = 55 then 1 else if o = 0 ∧ f = 54 then 0 else if o = 0 ∧ f = 51 then T1.1 0 11 else if o = 0 ∧ f = 33 then 0 else if o = 0 ∧ f = 52 then 0 else T1.1 o f := fun o f => by rw [eT2, pf_get, pf_get, pf_get, pf_get, pf_get, pf_get, pf_get, pf_get, if_neg (show ¬ (0 = 0 ∧ 11 = 33) by decide), if_neg (show ¬ (0 = 0 ∧ 11 = 52) by decide)]
    have r2 : ∀ o i, T2.2.1 o i = T1.2.1 o i := fun o i => by rw [eT2]; rfl
    refine mv_big_mono _ _ (Nat.le_refl _) _ _ _ _ _ (fun r T3 z => ?_) (hg c T2 (fun o f a => ?_) (fun o i a => ?_) ?_ ?_ ?_ (fun sd rm pc q1 q2 q3 => ?_))
    rotate_left
    · rw [f2, if_neg (by omega), if_neg (by omega), if_neg (by omega), if_neg (by omega), if_neg (by omega), if_neg (by omega), fC, if_neg (by omega)]
    · rw [r2, rC, if_neg (by omega), if_neg (by omega), if_neg (by omega), if_neg (by omega), if_neg (by omega), if_neg (by omega)]
    · rw [f2, if_neg (by omega), if_neg (by omega), if_neg (by omega), if_neg (by omega), if_neg (by omega), if_pos ⟨rfl, rfl⟩]
    · rw [f2, if_neg (by omega), if_neg (by omega), if_pos ⟨rfl, rfl⟩]
    · rw [f2, if_neg (by omega), if_pos ⟨rfl, rfl⟩]
    · refine yM_0 ?_ ?_ ?_ ?_ ?_ ?_ ?_ ?_ (fun i hi => ?_) (fun i hi => ?_) (fun i hi => ?_) (fun i hi => ?_)
      · rw [f2, if_neg (by omega), if_neg (by omega), if_neg (by omega), if_neg (by omega), if_neg (by omega), if_neg (by omega), fC, if_neg (by omega)]; exact q1
      · rw [f2, if_neg (by omega), if_neg (by omega), if_neg (by omega), if_neg (by omega), if_neg (by omega), if_neg (by omega), fC, if_neg (by omega)]; exact q2
      · rw [f2, if_neg (by omega), if_neg (by omega), if_neg (by omega), if_pos ⟨rfl, rfl⟩, fC, if_neg (by omega)]; exact q3
      · rw [f2, if_pos ⟨rfl, rfl⟩]
      · rw [f2, if_neg (by omega), if_neg (by omega), if_neg (by omega), if_neg (by omega), if_neg (by omega), if_neg (by omega), fC, if_pos ⟨rfl, by omega⟩]
      · rw [f2, if_neg (by omega), if_neg (by omega), if_neg (by omega), if_neg (by omega), if_neg (by omega), if_neg (by omega), fC, if_pos ⟨rfl, by omega⟩]
      · rw [f2, if_neg (by omega), if_neg (by omega), if_neg (by omega), if_neg (by omega), if_neg (by omega), if_neg (by omega), fC, if_pos ⟨rfl, by omega⟩]
      · rw [f2, if_neg (by omega), if_neg (by omega), if_neg (by omega), if_neg (by omega), if_pos ⟨rfl, rfl⟩]
      · rw [r2, rC, if_neg (by omega), if_neg (by omega), if_neg (by omega), if_neg (by omega)]
        by_cases z : i = 0
        · rw [if_pos ⟨rfl, z⟩, if_pos z]
        · rw [if_neg (fun y => z y.2), if_pos ⟨rfl, hi⟩, if_neg z]
      · rw [r2, rC, if_neg (by omega), if_neg (by omega), if_neg (by omega), if_pos ⟨rfl, hi⟩]
      · rw [r2, rC, if_neg (by omega), if_neg (by omega), if_pos ⟨rfl, hi⟩]
      · rw [r2, rC, if_neg (by omega), if_pos ⟨rfl, hi⟩]
    obtain ⟨rfl, z⟩ := z
    refine ws_aload_n rfl (rfl) rfl (ws_geti rfl rfl (rfl) rfl (ws_i rfl ?_))
    exact z
set_option maxHeartbeats 1000000 in
set_option maxRecDepth 8000 in
theorem y_code1 (h5 : T.1 0 5 = 1) (h7 : T.1 0 7 = nI L) (hL : L ≤ 1500) (h1 : ¬ (∃ j, j < L ∧ i = nI j) → P (some (.int (-1))) T) (h2 : ∀ j, j < L → i = nI j → P (some (.int (T.2.1 2 j))) T) : mv_big layY sysY (d + 2) 27 [.ref 0, .int i] T P := by
  refine ⟨40, ?_⟩
  refine ws_aload_n rfl (rfl) rfl (ws_getz rfl rfl (h5) rfl (ws_i rfl ⟨fun z => absurd z (show ¬ (1 : Int32) = 0 by decide), fun _ => ?_⟩))
  refine ws_iload_n rfl (rfl) rfl (ws_iconst (x := 0) rfl rfl rfl (ws_aload_n rfl (rfl) rfl (ws_geti rfl rfl (h7) rfl (ws_iconst (x := 1) rfl rfl rfl (ws_isub rfl rfl rfl (ws_is rfl rfl rfl ?_))))))
  refine mv_deep (d := d + 1) (by omega) (y_in (fun c => ?_) (fun c => ?_))
  · refine ws_i rfl ⟨fun _ => ?_, fun z => absurd rfl z⟩
    refine ws_iconst (x := (-1)) rfl rfl rfl (ws_i rfl ?_)
    refine h1 (fun z => c ?_)
    obtain ⟨j, j1, rfl⟩ := z
    refine ⟨nI_pos' (by omega), ?_⟩
    have e : nI L - 1 = nI (L - 1) := by rw [show L = L - 1 + 1 by omega]; exact nI_pred _
    rw [e]; exact nI_le (by omega) (by omega)
  · obtain ⟨j, j1, j2⟩ := nI_of (Int32.not_lt.mpr c.1)
    have jL : j < L := by
      have c2 := c.2
      rw [j2] at c2
      by_cases z : L = 0
      · rw [z] at c2
        exact absurd (Int32.le_trans (nI_pos' j1) c2) (by decide)
      · have e : nI L - 1 = nI (L - 1) := by rw [show L = L - 1 + 1 by omega]; exact nI_pred _
        rw [e] at c2
        have := (nI_leI j1 (by omega)).mp c2
        omega
    refine ws_i rfl ⟨fun z => absurd z (show ¬ (1 : Int32) = 0 by decide), fun _ => ?_⟩
    refine ws_aload_n rfl (rfl) rfl (ws_getr rfl rfl rfl (ws_iload_n rfl (rfl) rfl (ws_i rfl ⟨(by rw [j2]; exact vp_in_nI (by omega) (by decide)), ?_⟩)))
    refine ws_goto (t := 31) rfl (by decide) (ws_i rfl ?_)
    rw [j2, nI_clamp j1]
    exact h2 j jL j2
end CY

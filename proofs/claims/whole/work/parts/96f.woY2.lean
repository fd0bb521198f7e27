/-! THE REFERENCE'S WITHOUT: the method, whole -/
theorem tPth_fnd (k : Int32) : ∀ T : tT, ¬ tFnd k T = .leaf → (tPth k T).length + tN (tFnd k T) ≤ tN T
  | .leaf, h => absurd rfl h
  | .inner t k' v' l r, h => by
    unfold tPth tFnd at *
    by_cases e : k' = k
    · rw [if_pos e, if_pos e]; simp
    · rw [if_neg e] at h ⊢
      rw [if_neg e, List.length_cons]
      simp only [tN]
      by_cases c : k < k'
      · rw [if_pos c] at h ⊢
        rw [if_pos c]
        have := tPth_fnd k l h
        omega
      · rw [if_neg c] at h ⊢
        rw [if_neg c]
        have := tPth_fnd k r h
        omega
section YM
variable {d : Nat} {P : Option Value → mv_S → Prop} {S0 S : mv_S} {σ : Nat → Nat} {st lv rm m N : Nat}
set_option maxHeartbeats 2000000 in
set_option maxRecDepth 8000 in
theorem y_without {key c sd : Int32} {T : tT} (h : yMk S0 S lv rm m N) (hT : yV S0 S σ st N T c) (hsd : S.1 0 35 = sd) (hn : tN T ≤ 800)
    (h0 : tFnd key T = .leaf → P (some (.int c)) S)
    (hf : ¬ tFnd key T = .leaf → rm < lv + (m + tWoN (xRank sd) key T) → ∀ x S', yFull S0 S' lv rm 402 → P (some (.int x)) S')
    (ho : ¬ tFnd key T = .leaf → lv + (m + tWoN (xRank sd) key T) ≤ rm → ∀ S' N' c', yMt S0 S S' σ st lv rm (m + tWoN (xRank sd) key T) N N' (tWo (xRank sd) st key T) c' → P (some (.int c')) S') : mv_big layY sysY (d + 3) 38 [.ref 0, .int c, .int key] S P := by
  obtain ⟨R, hR⟩ : ∃ R, R = xRank sd := ⟨_, rfl⟩
  rw [← hR] at hf ho
  have hlv : lv ≤ 400 ∧ m ≤ 400 := by have := h.2.2.2.2.2.2.1; have := h.2.2.2.1; omega
  obtain ⟨cf, hcf, hcf2⟩ := y_fnd (k := key) (n := tN T + 1) (by omega) hT.1
  by_cases hl : tFnd key T = .leaf
  · rw [hl] at hcf2
    have hcf2 : cf = 0 := hcf2
    refine ⟨30, ?_⟩
    refine y_find hcf ?_
    rw [hcf2]
    exact ⟨fun z => absurd rfl z, fun _ => h0 hl⟩
  have hf := hf hl
  have ho := ho hl
  have hne : ¬ cf = 0 := fun z => hl ((hTr_leaf (by decide) hcf2).mp z)
  have wl := tWo_len R key T hl
  have wf := tWo_fold R st key T hl
  have pl := tPth_fnd key T hl
  obtain ⟨F, hF⟩ : ∃ F, F = tFnd key T := ⟨_, rfl⟩
  rw [← hF] at wl wf pl hl
  obtain ⟨A0, hA0⟩ : ∃ A0, A0 = tL F := ⟨_, rfl⟩
  obtain ⟨B0, hB0⟩ : ∃ B0, B0 = tR F := ⟨_, rfl⟩
  rw [← hA0, ← hB0] at wl wf
  have nAB : tN A0 + tN B0 + 1 ≤ tN F := by
    rw [hA0, hB0]
    match F, hl with
    | .leaf, hl => exact absurd rfl hl
    | .inner t k v l r, _ => simp [tL, tR, tN]
  have jl := tJP_le R A0 B0
  rw [tJn_fold] at wf
  obtain ⟨w, hw⟩ : ∃ w, w = (tPth key T).length := ⟨_, rfl⟩
  rw [← hw] at wl pl
  obtain ⟨M, hM⟩ : ∃ M, M = m + (tJP R A0 B0).length := ⟨_, rfl⟩
  have eM : m + tWoN R key T = M + w := by omega
  rw [eM] at hf ho
  have upl := fun c3 c5 c6 => @yWo_up d P S0 S σ st lv rm N key c c3 c5 c6 (tWo R st key T) (List.foldr (tJst st) (tJE R A0 B0) (tJP R A0 B0)) w M (tPth key T) (by omega) hw (fun x hx => tPth_inner key T x hx) wf.symm hf ho
  -- the way up, from where the join ends
  have fin : ∀ (c3 a b : Int32) (A B : tT) (S' : mv_S) (l0 : List (Nat × Value)), (l0 = [(6, .int b), (5, .int a), (4, .int (nI w)), (3, .int c3), (0, .ref 0), (1, .int c), (2, .int key)] ∨ ∃ x, l0 = [(6, .int b), (5, .int a), (7, .int x), (4, .int (nI w)), (3, .int c3), (0, .ref 0), (1, .int c), (2, .int key)]) → (A = .leaf ∨ B = .leaf) → tJP R A0 B0 = tJP R A0 B0 ++ tJP R A B → tJE R A0 B0 = tJE R A B → yV S0 S σ st N A a → yV S0 S σ st N B b → yWs S S' → S'.1 0 57 = nI (w + (tJP R A0 B0).length) → (∀ i x, (tJP R A0 B0)[i]? = some x → yJc S0 S σ st N x (S'.2.1 30 (w + i))) → (∀ i x, (tPth key T)[i]? = some x → yV S0 S σ st N x (S'.2.1 30 i)) → yWw P d (80 * ((tJP R A0 B0).length + 1) + 10) 204 l0 S' := by
    intro c3 a b A B S' l0 hl0 hAB e1 e2 hA hB ws hc hjw hpw
    have go : ∀ (t : Int32) (E : tT), yV S0 S σ st N E t → tJE R A B = E → yWw P d (80 * ((tJP R A0 B0).length + 1)) 218 [(7, .int t), (6, .int b), (5, .int a), (4, .int (nI w)), (3, .int c3), (0, .ref 0), (1, .int c), (2, .int key)] S' := by
      intro t E hE eE
      refine upl c3 a b (tJP R A0 B0).length (tJP R A0 B0) E t S' m N _ rfl (Or.inl rfl) hM.symm (by omega) ⟨yMk_ws h ws, Nat.le_refl _, fun _ _ z => yV_ws z ws, yV_ws hE ws⟩ hc (by rw [← eE, ← e2]) (fun i x hx => ?_) (fun i x hx => yV_ws (hpw i x hx) ws)
      obtain ⟨q, q1, q2, q3, q4, q5⟩ := hjw i x hx
      exact ⟨q, q1, q2, q3, yV_ws q4 ws, q5⟩
    have st1 : ∀ l1 : List (Nat × Value), mv_at 5 l1 = some (.int a) → mv_at 6 l1 = some (.int b) → (∀ t, mv_sv 7 (.int t) l1 = [(7, .int t), (6, .int b), (5, .int a), (4, .int (nI w)), (3, .int c3), (0, .ref 0), (1, .int c), (2, .int key)]) → yWw P d (80 * ((tJP R A0 B0).length + 1) + 10) 204 l1 S' := by
      intro l1 a5 a6 a7
      match A, hA, hAB, go with
      | .leaf, hA, _, go =>
        have ha : a = 0 := hA.1
        subst ha
        refine ws_iload rfl a5 rfl (ws_i rfl ⟨fun _ => ?_, fun z => absurd (show (0 : Int32) ≤ 0 by decide) z⟩)
        exact ws_iload rfl a6 rfl (ws_istore rfl rfl (a7 b) rfl (mv_fuel (by omega) (go b B hB rfl)))
      | .inner t1 k1 v1 l1 r1, hA, hAB, go =>
        have hBl : B = .leaf := hAB.elim (fun z => by cases z) id
        subst hBl
        have hA' := hA
        obtain ⟨i, i1, i2, rfl, _⟩ := yV_cells hA
        refine ws_iload rfl a5 rfl (ws_i rfl ⟨fun z => absurd z (nI_nle (by omega) (by omega)), fun _ => ?_⟩)
        exact ws_iload rfl a5 rfl (ws_goto (t := 216) rfl (by decide) (ws_istore rfl rfl (a7 _) rfl (mv_fuel (by omega) (go _ _ hA' rfl))))
    rcases hl0 with rfl | ⟨x, rfl⟩
    · exact st1 _ rfl rfl (fun _ => rfl)
    · exact st1 _ rfl rfl (fun _ => rfl)
  obtain ⟨BG, hBG⟩ : ∃ BG, BG = 80 * ((tJP R A0 B0).length + 1) + 30 := ⟨_, rfl⟩
  have jdown : ∀ (n : Nat) (c3 a b : Int32) (A B : tT) (js : List (Bool × tT)) (S' : mv_S) (l0 : List (Nat × Value)), tN A + tN B ≤ n → (l0 = [(6, .int b), (5, .int a), (4, .int (nI w)), (3, .int c3), (0, .ref 0), (1, .int c), (2, .int key)] ∨ ∃ x, l0 = [(6, .int b), (5, .int a), (7, .int x), (4, .int (nI w)), (3, .int c3), (0, .ref 0), (1, .int c), (2, .int key)]) → tJP R A0 B0 = js ++ tJP R A B → tJE R A0 B0 = tJE R A B → yV S0 S σ st N A a → yV S0 S σ st N B b → yWs S S' → S'.1 0 57 = nI (w + js.length) → (∀ i x, js[i]? = some x → yJc S0 S σ st N x (S'.2.1 30 (w + i))) → (∀ i x, (tPth key T)[i]? = some x → yV S0 S σ st N x (S'.2.1 30 i)) → yWw P d (BG + 80 * (n + 1)) 99 l0 S' := by
    intro n
    induction n with
    | zero =>
      intro c3 a b A B js S' l0 hN hl0 e1 e2 hA hB ws hc hjw hpw
      have hAl : A = .leaf := by
        match A, hN with
        | .leaf, _ => rfl
        | .inner t1 k1 v1 l1 r1, hN => simp only [tN] at hN; omega
      subst hAl
      have ejs : js = tJP R A0 B0 := by rw [e1]; simp [tJP]
      subst ejs
      have ha : a = 0 := hA.1
      have fn := fin c3 a b .leaf B S' l0 hl0 (Or.inl rfl) (by simp [tJP]) e2 hA hB ws hc hjw hpw
      subst ha
      rcases hl0 with rfl | ⟨x, rfl⟩
      · exact ws_iload rfl rfl rfl (ws_i rfl ⟨fun _ => mv_fuel (by omega) fn, fun z => absurd (show (0 : Int32) ≤ 0 by decide) z⟩)
      · exact ws_iload rfl rfl rfl (ws_i rfl ⟨fun _ => mv_fuel (by omega) fn, fun z => absurd (show (0 : Int32) ≤ 0 by decide) z⟩)
    | succ n ih =>
      intro c3 a b A B js S' l0 hN hl0 e1 e2 hA hB ws hc hjw hpw
      match A, hA, e1, e2, hN with
      | .leaf, hA, e1, e2, hN =>
        have ejs : js = tJP R A0 B0 := by rw [e1]; simp [tJP]
        subst ejs
        have ha : a = 0 := hA.1
        have fn := fin c3 a b .leaf B S' l0 hl0 (Or.inl rfl) (by simp [tJP]) e2 hA hB ws hc hjw hpw
        subst ha
        refine mv_fuel (n := BG + 6) (by omega) ?_
        rcases hl0 with rfl | ⟨x, rfl⟩
        · exact ws_iload rfl rfl rfl (ws_i rfl ⟨fun _ => mv_fuel (by omega) fn, fun z => absurd (show (0 : Int32) ≤ 0 by decide) z⟩)
        · exact ws_iload rfl rfl rfl (ws_i rfl ⟨fun _ => mv_fuel (by omega) fn, fun z => absurd (show (0 : Int32) ≤ 0 by decide) z⟩)
      | .inner t1 k1 v1 l1 r1, hA, e1, e2, hN =>
        have hA' := hA
        obtain ⟨i, i1, i2, rfl, i4, i5, i6, i7⟩ := yV_cells hA
        have ei : (nI i).toNatClampNeg = i := nI_clamp (by omega)
        have vi : vp_in (nI i) 900 := vp_in_nI (by omega) (by decide)
        match B, hB, e1, e2, hN with
        | .leaf, hB, e1, e2, hN =>
          have ejs : js = tJP R A0 B0 := by rw [e1, (tJP_r _).1]; simp
          subst ejs
          have hb : b = 0 := hB.1
          have fn := fin c3 _ b (.inner t1 k1 v1 l1 r1) .leaf S' l0 hl0 (Or.inr rfl) (by rw [(tJP_r _).1]; simp) e2 hA' hB ws hc hjw hpw
          subst hb
          refine mv_fuel (n := BG + 6) (by omega) ?_
          rcases hl0 with rfl | ⟨x, rfl⟩
          · exact ws_iload rfl rfl rfl (ws_i rfl ⟨fun z => absurd z (nI_nle (by omega) (by omega)), fun _ => ws_iload rfl rfl rfl (ws_i rfl ⟨fun _ => mv_fuel (by omega) fn, fun z => absurd (show (0 : Int32) ≤ 0 by decide) z⟩)⟩)
          · exact ws_iload rfl rfl rfl (ws_i rfl ⟨fun z => absurd z (nI_nle (by omega) (by omega)), fun _ => ws_iload rfl rfl rfl (ws_i rfl ⟨fun _ => mv_fuel (by omega) fn, fun z => absurd (show (0 : Int32) ≤ 0 by decide) z⟩)⟩)
        | .inner t2 k2 v2 l2 r2, hB, e1, e2, hN =>
          have hB' := hB
          obtain ⟨j, j1, j2, rfl, j4, j5, j6, j7⟩ := yV_cells hB
          have ej : (nI j).toNatClampNeg = j := nI_clamp (by omega)
          have vj : vp_in (nI j) 900 := vp_in_nI (by omega) (by decide)
          have ek1 : S'.2.1 13 i = k1 := by rw [ws.2.1 13 i (by decide)]; exact i4
          have ek2 : S'.2.1 13 j = k2 := by rw [ws.2.1 13 j (by decide)]; exact j4
          have es : S'.1 0 35 = sd := by rw [ws.1 0 35 (by decide)]; exact hsd
          have js1 : js.length + 1 ≤ (tJP R A0 B0).length := by
            rw [e1, tJP_s.1]
            split <;> simp <;> omega
          have v57 : vp_in (S'.1 0 57) 900 := by rw [hc]; exact vp_in_nI (by omega) (by decide)
          simp only [tN] at hN
          -- the round, from the place where left is known
          have body : ∀ (y : Int32) (l1x : List (Nat × Value)), l1x = [(7, .int y), (6, .int (nI j)), (5, .int (nI i)), (4, .int (nI w)), (3, .int c3), (0, .ref 0), (1, .int c), (2, .int key)] → (R k2 < R k1 → y = 1) → (¬ R k2 < R k1 → y = 0) → yWw P d (BG + 80 * (n + 1) + 45) 131 l1x S' := by
            rintro y _ rfl hy1 hy0
            have push : ∀ (q : Int32) (x : Bool × tT), yJc S0 S σ st N x q → ∃ S2, S2 = mv_pf (mv_pr S' 30 (S'.1 0 57).toNatClampNeg q) 0 57 ((mv_pr S' 30 (S'.1 0 57).toNatClampNeg q).1 0 57 + 1) ∧ yWs S S2 ∧ S2.1 0 57 = nI (w + (js ++ [x]).length) ∧ (∀ a1 x1, (js ++ [x])[a1]? = some x1 → yJc S0 S σ st N x1 (S2.2.1 30 (w + a1))) ∧ (∀ a1 x1, (tPth key T)[a1]? = some x1 → yV S0 S σ st N x1 (S2.2.1 30 a1)) := by
              intro q x hx
              refine ⟨_, rfl, ?_, ?_, fun a1 x1 h1 => ?_, fun a1 x1 h1 => ?_⟩
              · exact yWs_trans ws (yWs_trans (yWs_pr (by decide)) (yWs_pf (Or.inl rfl)))
              · rw [pf_get, if_pos ⟨rfl, rfl⟩]
                show S'.1 0 57 + 1 = _
                rw [hc, nI_1, List.length_append]; rfl
              · show yJc S0 S σ st N x1 ((mv_pr S' 30 (S'.1 0 57).toNatClampNeg q).2.1 30 (w + a1))
                rw [pr_get, hc, nI_clamp (by omega)]
                by_cases ha : a1 < js.length
                · rw [List.getElem?_append_left ha] at h1
                  rw [if_neg (by omega)]; exact hjw a1 x1 h1
                · rw [List.getElem?_append_right (by omega)] at h1
                  obtain ⟨z, e⟩ := List.getElem?_eq_some_iff.mp h1
                  simp at z
                  have ha2 : a1 = js.length := by omega
                  subst ha2
                  rw [if_pos ⟨rfl, rfl⟩]
                  simp at e
                  rw [← e]; exact hx
              · show yV S0 S σ st N x1 ((mv_pr S' 30 (S'.1 0 57).toNatClampNeg q).2.1 30 a1)
                have := (List.getElem?_eq_some_iff.mp h1).1
                rw [pr_get, hc, nI_clamp (by omega), if_neg (by omega)]; exact hpw a1 x1 h1
            refine ws_aload_n rfl rfl rfl (ws_getr rfl rfl rfl (ws_aload_n rfl rfl rfl (ws_geti rfl rfl rfl rfl ?_)))
            by_cases cr : R k2 < R k1
            · obtain rfl := hy1 cr
              rw [tJP_s.1, if_pos cr] at e1
              rw [tJP_s.2, if_pos cr] at e2
              obtain ⟨S2, hS2, ws2, hc2, hjw2, hpw2⟩ := push (nI i) (true, .inner t1 k1 v1 l1 r1) ⟨i, i1, i2, rfl, hA', by simp⟩
              refine ws_iload rfl rfl rfl (ws_i rfl ⟨fun z => absurd (show (1 : Int32) = 0 from z) (by decide), fun _ => ?_⟩)
              refine ws_iload rfl rfl rfl (ws_goto (t := 152) rfl (by decide) (ws_i rfl ⟨v57, ?_⟩))
              refine ws_aload_n rfl rfl rfl (ws_dup_r rfl rfl (ws_geti rfl rfl rfl rfl (ws_iconst (x := 1) rfl rfl rfl (ws_iadd rfl rfl rfl (ws_puti rfl rfl rfl ?_)))))
              rw [← hS2]
              refine ws_iload rfl rfl rfl (ws_i rfl ⟨fun z => absurd (show (1 : Int32) = 0 from z) (by decide), fun _ => ?_⟩)
              refine ws_aload_n rfl rfl rfl (ws_getr rfl rfl rfl (ws_iload rfl rfl rfl (ws_i rfl ⟨vi, ?_⟩)))
              rw [ei, ws2.2.1 16 i (by decide)]
              refine ws_goto (t := 180) rfl (by decide) (ws_istore rfl rfl rfl rfl ?_)
              refine ws_iload rfl rfl rfl (ws_i rfl ⟨fun z => absurd (show (1 : Int32) = 0 from z) (by decide), fun _ => ?_⟩)
              refine ws_iload rfl rfl rfl (ws_goto (t := 199) rfl (by decide) (ws_istore rfl rfl rfl rfl (ws_goto (t := 99) rfl (by decide) (mv_fuel (n := BG + 80 * (n + 1)) (by omega) ?_))))
              exact ih c3 (S.2.1 16 i) (nI j) r1 _ (js ++ [(true, .inner t1 k1 v1 l1 r1)]) S2 _ (by simp only [tN]; omega) (Or.inr ⟨1, rfl⟩) (by rw [e1]; simp) e2 i7 hB' ws2 hc2 hjw2 hpw2
            · obtain rfl := hy0 cr
              rw [tJP_s.1, if_neg cr] at e1
              rw [tJP_s.2, if_neg cr] at e2
              obtain ⟨S2, hS2, ws2, hc2, hjw2, hpw2⟩ := push (-nI j) (false, .inner t2 k2 v2 l2 r2) ⟨j, j1, j2, rfl, hB', by simp⟩
              refine ws_iload rfl rfl rfl (ws_i rfl ⟨fun _ => ?_, fun z => absurd rfl z⟩)
              refine ws_iload rfl rfl rfl (ws_ineg rfl rfl (ws_i rfl ⟨v57, ?_⟩))
              refine ws_aload_n rfl rfl rfl (ws_dup_r rfl rfl (ws_geti rfl rfl rfl rfl (ws_iconst (x := 1) rfl rfl rfl (ws_iadd rfl rfl rfl (ws_puti rfl rfl rfl ?_)))))
              rw [← hS2]
              refine ws_iload rfl rfl rfl (ws_i rfl ⟨fun _ => ?_, fun z => absurd rfl z⟩)
              refine ws_iload rfl rfl rfl (ws_istore rfl rfl rfl rfl ?_)
              refine ws_iload rfl rfl rfl (ws_i rfl ⟨fun _ => ?_, fun z => absurd rfl z⟩)
              refine ws_aload_n rfl rfl rfl (ws_getr rfl rfl rfl (ws_iload rfl rfl rfl (ws_i rfl ⟨vj, ?_⟩)))
              rw [ej, ws2.2.1 15 j (by decide)]
              refine ws_istore rfl rfl rfl rfl (ws_goto (t := 99) rfl (by decide) (mv_fuel (n := BG + 80 * (n + 1)) (by omega) ?_))
              exact ih c3 (nI i) (S.2.1 15 j) _ l2 (js ++ [(false, .inner t2 k2 v2 l2 r2)]) S2 _ (by simp only [tN]; omega) (Or.inr ⟨0, rfl⟩) (by rw [e1]; simp) e2 hA' j6 ws2 hc2 hjw2 hpw2
          have go : ∀ l1x : List (Nat × Value), mv_at 0 l1x = some (.ref 0) → mv_at 5 l1x = some (.int (nI i)) → mv_at 6 l1x = some (.int (nI j)) → (∀ y, mv_sv 7 (.int y) l1x = [(7, .int y), (6, .int (nI j)), (5, .int (nI i)), (4, .int (nI w)), (3, .int c3), (0, .ref 0), (1, .int c), (2, .int key)]) → yWw P d (BG + 80 * (n + 1) + 45 + 30) 99 l1x S' := by
            intro l1x a0 a5 a6 a7
            refine ws_iload rfl a5 rfl (ws_i rfl ⟨fun z => absurd z (nI_nle (by omega) (by omega)), fun _ => ?_⟩)
            refine ws_iload rfl a6 rfl (ws_i rfl ⟨fun z => absurd z (nI_nle (by omega) (by omega)), fun _ => ?_⟩)
            refine ws_aload_n rfl a0 rfl (ws_iload rfl a5 rfl (ws_iv rfl rfl rfl ?_))
            refine y_rankOf (sd := sd) (by omega) ek1 es ?_
            refine ws_aload_n rfl a0 rfl (ws_iload rfl a6 rfl (ws_iv rfl rfl rfl ?_))
            refine y_rankOf (sd := sd) (by omega) ek2 es ?_
            rw [← hR]
            by_cases cr : R k2 < R k1
            · refine ws_i rfl ⟨fun z => absurd cr (Int32.not_lt.mpr z), fun _ => ?_⟩
              exact ws_iconst (x := 1) rfl rfl rfl (ws_goto (t := 129) rfl (by decide) (ws_istore rfl rfl rfl rfl (mv_fuel (n := BG + 80 * (n + 1) + 45) (by omega) (body 1 _ (a7 1) (fun _ => rfl) (fun z => absurd cr z)))))
            · refine ws_i rfl ⟨fun _ => ?_, fun z => absurd (Int32.not_lt.mp cr) z⟩
              exact ws_iconst (x := 0) rfl rfl rfl (ws_istore rfl rfl rfl rfl (mv_fuel (n := BG + 80 * (n + 1) + 45) (by omega) (body 0 _ (a7 0) (fun z => absurd z cr) (fun _ => rfl))))
          refine mv_fuel (n := BG + 80 * (n + 1) + 45 + 30) (by omega) ?_
          rcases hl0 with rfl | ⟨x, rfl⟩
          · exact go _ rfl rfl rfl (fun _ => rfl)
          · exact go _ rfl rfl rfl (fun _ => rfl)
  have pdown : ∀ (T' : tT) (c' : Int32) (ps : List tT) (S' : mv_S), tPth key T = ps ++ tPth key T' → tFnd key T = tFnd key T' → ¬ tFnd key T' = .leaf → yV S0 S σ st N T' c' → yWs S S' → S'.1 0 57 = nI ps.length → yWay S0 S S' σ st N 0 ps → yWw P d (BG + 80 * (tN A0 + tN B0 + 1) + 40 + 60 * (tN T' + 1)) 18 [(3, .int c'), (0, .ref 0), (1, .int c), (2, .int key)] S' := by
    intro T'
    induction T' with
    | leaf =>
      intro c' ps S' e1 e2 hnl
      exact absurd rfl hnl
    | inner t k' v' l r ihl ihr =>
      intro c' ps S' e1 e2 hnl hv ws hc hwy
      have hv0 := hv
      obtain ⟨i, i1, i2, rfl, i4, i5, i6, i7⟩ := yV_cells hv
      have ei : (nI i).toNatClampNeg = i := nI_clamp (by omega)
      have vi : vp_in (nI i) 900 := vp_in_nI (by omega) (by decide)
      have ek : S'.2.1 13 i = k' := by rw [ws.2.1 13 i (by decide)]; exact i4
      have psl : ps.length ≤ w := by rw [hw, e1, List.length_append]; omega
      simp only [tN]
      refine mv_fuel (n := BG + 80 * (tN A0 + tN B0 + 1) + 40 + 60 * (tN l + tN r + 1) + 60) (by omega) ?_
      refine ws_aload_n rfl rfl rfl (ws_getr rfl rfl rfl (ws_iload_n rfl rfl rfl (ws_i rfl ⟨vi, ?_⟩)))
      rw [ei, ek]
      by_cases e : k' = key
      · refine ws_iload_n rfl rfl rfl (ws_i rfl ⟨fun _ => ?_, fun z => absurd e z⟩)
        have e1' : tPth key T = ps := by rw [e1, tPth, if_pos e, List.append_nil]
        have e2' : F = .inner t k' v' l r := by rw [hF, e2, tFnd, if_pos e]
        have eA : A0 = l := by rw [hA0, e2']; rfl
        have eB : B0 = r := by rw [hB0, e2']; rfl
        have ew : ps.length = w := by rw [hw, e1']
        rw [ew] at hc
        refine ws_aload_n rfl rfl rfl (ws_geti rfl rfl hc rfl (ws_istore rfl rfl rfl rfl ?_))
        refine ws_aload_n rfl rfl rfl (ws_getr rfl rfl rfl (ws_iload_n rfl rfl rfl (ws_i rfl ⟨vi, ?_⟩)))
        rw [ei, ws.2.1 15 i (by decide)]
        refine ws_istore rfl rfl rfl rfl ?_
        refine ws_aload_n rfl rfl rfl (ws_getr rfl rfl rfl (ws_iload_n rfl rfl rfl (ws_i rfl ⟨vi, ?_⟩)))
        rw [ei, ws.2.1 16 i (by decide)]
        refine ws_istore rfl rfl rfl rfl (mv_fuel (n := BG + 80 * (tN A0 + tN B0 + 1)) (by omega) ?_)
        refine jdown (tN A0 + tN B0) (nI i) (S.2.1 15 i) (S.2.1 16 i) A0 B0 [] S' _ (Nat.le_refl _) (Or.inl rfl) rfl rfl (by rw [eA]; exact i6) (by rw [eB]; exact i7) ws (by rw [hc]; rfl) (fun a x hx => by simp at hx) (fun a x hx => ?_)
        rw [e1'] at hx
        have := hwy a x hx
        rw [Nat.zero_add] at this
        exact this
      · refine ws_iload_n rfl rfl rfl (ws_i rfl ⟨fun z => absurd z e, fun _ => ?_⟩)
        have v57 : vp_in (S'.1 0 57) 900 := by rw [hc]; exact vp_in_nI (by omega) (by decide)
        refine ws_aload_n rfl rfl rfl (ws_getr rfl rfl rfl (ws_aload_n rfl rfl rfl (ws_geti rfl rfl rfl rfl (ws_iload_n rfl rfl rfl (ws_i rfl ⟨v57, ?_⟩)))))
        refine ws_aload_n rfl rfl rfl (ws_dup_r rfl rfl (ws_geti rfl rfl rfl rfl (ws_iconst (x := 1) rfl rfl rfl (ws_iadd rfl rfl rfl (ws_puti rfl rfl rfl ?_)))))
        obtain ⟨S2, hS2⟩ : ∃ S2, S2 = mv_pf (mv_pr S' 30 (S'.1 0 57).toNatClampNeg (nI i)) 0 57 ((mv_pr S' 30 (S'.1 0 57).toNatClampNeg (nI i)).1 0 57 + 1) := ⟨_, rfl⟩
        rw [← hS2]
        have eS2 : S2 = mv_pf (mv_pr S' 30 (0 + ps.length) (nI i)) 0 57 (nI (0 + ps.length + 1)) := by
          rw [hS2]
          show mv_pf (mv_pr S' 30 (S'.1 0 57).toNatClampNeg (nI i)) 0 57 (S'.1 0 57 + 1) = _
          rw [hc, nI_clamp (by omega), nI_1, Nat.zero_add]
        have ws2 : yWs S S2 := by rw [eS2]; exact yWs_trans ws (yWs_trans (yWs_pr (by decide)) (yWs_pf (Or.inl rfl)))
        have ek2 : S2.2.1 13 i = k' := by rw [ws2.2.1 13 i (by decide)]; exact i4
        have hc2 : S2.1 0 57 = nI (ps ++ [Std.DTreeMap.Internal.Impl.inner t k' v' l r]).length := by
          rw [eS2, pf_get, if_pos ⟨rfl, rfl⟩, List.length_append, Nat.zero_add]; rfl
        have hwy2 : yWay S0 S S2 σ st N 0 (ps ++ [.inner t k' v' l r]) := by rw [eS2]; exact yWay_push hwy hv0
        refine ws_iload_n rfl rfl rfl (ws_aload_n rfl rfl rfl (ws_getr rfl rfl rfl (ws_iload_n rfl rfl rfl (ws_i rfl ⟨vi, ?_⟩))))
        rw [ei, ek2]
        rw [tFnd, if_neg e] at e2 hnl
        rw [tPth, if_neg e] at e1
        by_cases ck : key < k'
        · rw [if_pos ck] at e1 e2 hnl
          refine ws_i rfl ⟨fun z => absurd ck (Int32.not_lt.mpr z), fun _ => ?_⟩
          refine ws_aload_n rfl rfl rfl (ws_getr rfl rfl rfl (ws_iload_n rfl rfl rfl (ws_i rfl ⟨vi, ?_⟩)))
          rw [ei, ws2.2.1 15 i (by decide)]
          have rr1 := ihl (S.2.1 15 i) (ps ++ [.inner t k' v' l r]) S2 (by rw [e1]; simp) e2 hnl i6 ws2 hc2 hwy2
          exact ws_goto (t := 73) rfl (by decide) (ws_istore_n rfl rfl rfl rfl (ws_goto (t := 18) rfl (by decide) (mv_fuel (by omega) rr1)))
        · rw [if_neg ck] at e1 e2 hnl
          refine ws_i rfl ⟨fun _ => ?_, fun z => absurd (Int32.not_lt.mp ck) z⟩
          refine ws_aload_n rfl rfl rfl (ws_getr rfl rfl rfl (ws_iload_n rfl rfl rfl (ws_i rfl ⟨vi, ?_⟩)))
          rw [ei, ws2.2.1 16 i (by decide)]
          have rr1 := ihr (S.2.1 16 i) (ps ++ [.inner t k' v' l r]) S2 (by rw [e1]; simp) e2 hnl i7 ws2 hc2 hwy2
          exact ws_istore_n rfl rfl rfl rfl (ws_goto (t := 18) rfl (by decide) (mv_fuel (by omega) rr1))
  refine ⟨BG + 80 * (tN A0 + tN B0 + 1) + 40 + 60 * (tN T + 1) + 12, ?_⟩
  refine ws_aload_n rfl rfl rfl (ws_iload_n rfl rfl rfl (ws_iload_n rfl rfl rfl (ws_iv rfl rfl rfl ?_)))
  refine y_find hcf ?_
  refine ws_i rfl ⟨fun _ => ?_, fun z => absurd z hne⟩
  refine ws_aload_n rfl rfl rfl (ws_iconst (x := 0) rfl rfl rfl (ws_puti rfl rfl rfl ?_))
  refine ws_iload_n rfl rfl rfl (ws_istore_n rfl rfl rfl rfl ?_)
  exact mv_fuel (by omega) (pdown T c [] _ rfl rfl (by rw [← hF]; exact hl) hT (yWs_pf (Or.inl rfl)) (by rw [pf_get, if_pos ⟨rfl, rfl⟩]; rfl) (fun i x hx => by simp at hx))
end YM

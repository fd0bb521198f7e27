/-! THE REFERENCE SPLITS A TREE: the method, whole -/
theorem tPth_le (k : Int32) : ∀ T : tT, (tPth k T).length ≤ tN T := fun T => by rw [tPth_len]; exact tSpN_le
section YM
variable {d : Nat} {P : Option Value → mv_S → Prop} {S0 S : mv_S} {σ : Nat → Nat} {st lv rm m N : Nat}
set_option maxHeartbeats 1000000 in
theorem y_split {key c : Int32} {T : tT} {w : Nat} (h : yMk S0 S lv rm m N) (hT : yV S0 S σ st N T c) (h57 : S.1 0 57 = nI w) (hw : w + tN T ≤ 899)
    (hf : rm < lv + (m + tSpN key T) → ∀ S', ySpF S0 S S' lv rm w → P none S')
    (ho : lv + (m + tSpN key T) ≤ rm → ∀ S' N', ySpl S0 S S' σ st lv rm (m + tSpN key T) N N' w (tLo st key T) (tHi st key T) → P none S') : mv_big layY sysY (d + 2) 34 [.ref 0, .int c, .int key] S P := by
  have up := fun c4 => @ySpl_up d P S0 S σ st lv rm m N key c T w hw hf ho c4
  have mid : ∀ (T' : tT) (c' : Int32) (ps : List tT) (S' : mv_S), tPth key T = ps → tFnd key T = T' → yV S0 S σ st N T' c' → yWs S S' → S'.1 0 57 = nI (w + ps.length) → (∀ i, i < w → S'.2.1 30 i = S.2.1 30 i) → (∀ o i, 31 ≤ o → o ≤ 36 → S'.2.1 o i = S.2.1 o i) → yWay S0 S S' σ st N w ps → ySw P d (80 * (tSpN key T + 1) + 30) 78 [(4, .int c'), (3, .int (nI w)), (0, .ref 0), (1, .int c), (2, .int key)] S' := by
    intro T' c' ps S' e1 e2 hv ws hc hw3 hu hwy
    have el : ps.length = tSpN key T := by rw [← e1, tPth_len]
    have lp := tPth_le key T
    rw [e1] at lp
    have fin : ∀ lo hi L H, yV S0 S σ st N L lo → yV S0 S σ st N H hi → L = tL T' → H = tR T' → ySw P d (80 * (tSpN key T + 1)) 118 [(4, .int c'), (3, .int (nI w)), (0, .ref 0), (1, .int c), (2, .int key)] (mv_pf (mv_pf S' 0 58 lo) 0 59 hi) := by
      intro lo hi L H hL hH eL eH
      have ws2 : yWs S (mv_pf (mv_pf S' 0 58 lo) 0 59 hi) := yWs_trans ws (yWs_trans (yWs_pf (Or.inr (Or.inl rfl))) (yWs_pf (Or.inr (Or.inr rfl))))
      rw [← el]
      refine up c' ps.length ps L H _ m N _ rfl (Or.inl rfl) (by rw [el]) (by omega) ⟨yMk_ws h ws2, Nat.le_refl _, fun T0 c0 z => yV_ws z ws2, ?_, ?_, ?_, fun o i a b => hu o i a b⟩ (fun i hi => hw3 i hi) ?_ (fun x hx => tPth_inner key T x (by rw [e1]; exact hx)) (fun i x hx => yV_ws (hwy i x hx) ws2)
      · rw [pf_get, if_neg (by decide), pf_get, if_pos ⟨rfl, rfl⟩]; exact yV_ws hL ws2
      · rw [pf_get, if_pos ⟨rfl, rfl⟩]; exact yV_ws hH ws2
      · rw [pf_get, if_neg (by decide), pf_get, if_neg (by decide)]; exact hc
      · have := tPth_fold st key T
        rw [e1, e2] at this
        rw [eL, eH]; exact this
    match T', hv, e2, fin with
    | .leaf, hv, e2, fin =>
      have hc0 : c' = 0 := hv.1
      subst hc0
      refine ws_aload_n rfl rfl rfl (ws_iload rfl rfl rfl (ws_i rfl ⟨fun _ => ?_, fun z => absurd (show (0 : Int32) ≤ 0 by decide) z⟩))
      refine ws_iconst (x := 0) rfl rfl rfl (ws_puti rfl rfl rfl ?_)
      refine ws_aload_n rfl rfl rfl (ws_iload rfl rfl rfl (ws_i rfl ⟨fun _ => ?_, fun z => absurd (show (0 : Int32) ≤ 0 by decide) z⟩))
      refine ws_iconst (x := 0) rfl rfl rfl (ws_puti rfl rfl rfl ?_)
      exact mv_fuel (by omega) (fin 0 0 .leaf .leaf ⟨rfl, fun i hi => by simp [hCs] at hi⟩ ⟨rfl, fun i hi => by simp [hCs] at hi⟩ rfl rfl)
    | .inner t k' v' l r, hv, e2, fin =>
      obtain ⟨i, i1, i2, rfl, i4, i5, i6, i7⟩ := yV_cells hv
      have ei : (nI i).toNatClampNeg = i := nI_clamp (by omega)
      have vi : vp_in (nI i) 900 := vp_in_nI (by omega) (by decide)
      have npos : ¬ nI i ≤ 0 := nI_nle (by omega) (by omega)
      have e15 : S'.2.1 15 i = S.2.1 15 i := ws.2.1 15 i (by decide)
      have e16 : S'.2.1 16 i = S.2.1 16 i := ws.2.1 16 i (by decide)
      refine ws_aload_n rfl rfl rfl (ws_iload rfl rfl rfl (ws_i rfl ⟨fun z => absurd z npos, fun _ => ?_⟩))
      refine ws_aload_n rfl rfl rfl (ws_getr rfl rfl rfl (ws_iload rfl rfl rfl (ws_i rfl ⟨vi, ?_⟩)))
      rw [ei, e15]
      refine ws_goto (t := 95) rfl (by decide) (ws_puti rfl rfl rfl ?_)
      refine ws_aload_n rfl rfl rfl (ws_iload rfl rfl rfl (ws_i rfl ⟨fun z => absurd z npos, fun _ => ?_⟩))
      refine ws_aload_n rfl rfl rfl (ws_getr rfl rfl rfl (ws_iload rfl rfl rfl (ws_i rfl ⟨vi, ?_⟩)))
      have e16' : (mv_pf S' 0 58 (S.2.1 15 i)).2.1 16 (nI i).toNatClampNeg = S.2.1 16 i := by rw [ei]; exact e16
      rw [e16']
      refine ws_goto (t := 115) rfl (by decide) (ws_puti rfl rfl rfl ?_)
      exact mv_fuel (by omega) (fin _ _ l r i6 i7 rfl rfl)
  have down : ∀ (T' : tT) (c' : Int32) (ps : List tT) (S' : mv_S), tPth key T = ps ++ tPth key T' → tFnd key T = tFnd key T' → w + ps.length + tN T' ≤ 899 → yV S0 S σ st N T' c' → yWs S S' → S'.1 0 57 = nI (w + ps.length) → (∀ i, i < w → S'.2.1 30 i = S.2.1 30 i) → (∀ o i, 31 ≤ o → o ≤ 36 → S'.2.1 o i = S.2.1 o i) → yWay S0 S S' σ st N w ps → ySw P d (80 * (tSpN key T + 1) + 30 + 60 * (tN T' + 1)) 8 [(4, .int c'), (3, .int (nI w)), (0, .ref 0), (1, .int c), (2, .int key)] S' := by
    intro T'
    induction T' with
    | leaf =>
      intro c' ps S' e1 e2 hb hv ws hc hw3 hu hwy
      have hc0 : c' = 0 := hv.1
      rw [tPth, List.append_nil] at e1
      have md := mid .leaf c' ps S' e1 e2 hv ws hc hw3 hu hwy
      subst hc0
      refine ws_iload rfl rfl rfl (ws_i rfl ⟨fun _ => ?_, fun z => absurd (show (0 : Int32) ≤ 0 by decide) z⟩)
      exact mv_fuel (by omega) md
    | inner t k' v' l r ihl ihr =>
      intro c' ps S' e1 e2 hb hv ws hc hw3 hu hwy
      have hv0 := hv
      obtain ⟨i, i1, i2, rfl, i4, i5, i6, i7⟩ := yV_cells hv
      have ei : (nI i).toNatClampNeg = i := nI_clamp (by omega)
      have vi : vp_in (nI i) 900 := vp_in_nI (by omega) (by decide)
      have npos : ¬ nI i ≤ 0 := nI_nle (by omega) (by omega)
      have ek : S'.2.1 13 i = k' := by rw [ws.2.1 13 i (by decide)]; exact i4
      simp only [tN] at hb
      simp only [tN]
      refine mv_fuel (n := 80 * (tSpN key T + 1) + 30 + 60 * (tN l + tN r + 1) + 60) (by omega) ?_
      refine ws_iload rfl rfl rfl (ws_i rfl ⟨fun z => absurd z npos, fun _ => ?_⟩)
      refine ws_aload_n rfl rfl rfl (ws_getr rfl rfl rfl (ws_iload rfl rfl rfl (ws_i rfl ⟨vi, ?_⟩)))
      rw [ei, ek]
      by_cases e : k' = key
      · refine ws_iload_n rfl rfl rfl (ws_i rfl ⟨fun _ => ?_, fun z => absurd e z⟩)
        have e1' : tPth key T = ps := by rw [e1, tPth, if_pos e, List.append_nil]
        have e2' : tFnd key T = .inner t k' v' l r := by rw [e2, tFnd, if_pos e]
        exact mv_fuel (by omega) (mid _ (nI i) ps S' e1' e2' hv0 ws hc hw3 hu hwy)
      · refine ws_iload_n rfl rfl rfl (ws_i rfl ⟨fun z => absurd z e, fun _ => ?_⟩)
        have v57 : vp_in (S'.1 0 57) 900 := by rw [hc]; exact vp_in_nI (by omega) (by decide)
        refine ws_aload_n rfl rfl rfl (ws_getr rfl rfl rfl (ws_aload_n rfl rfl rfl (ws_geti rfl rfl rfl rfl (ws_iload rfl rfl rfl (ws_i rfl ⟨v57, ?_⟩)))))
        refine ws_aload_n rfl rfl rfl (ws_dup_r rfl rfl (ws_geti rfl rfl rfl rfl (ws_iconst (x := 1) rfl rfl rfl (ws_iadd rfl rfl rfl (ws_puti rfl rfl rfl ?_)))))
        obtain ⟨S2, hS2⟩ : ∃ S2, S2 = mv_pf (mv_pr S' 30 (S'.1 0 57).toNatClampNeg (nI i)) 0 57 ((mv_pr S' 30 (S'.1 0 57).toNatClampNeg (nI i)).1 0 57 + 1) := ⟨_, rfl⟩
        rw [← hS2]
        have eS2 : S2 = mv_pf (mv_pr S' 30 (w + ps.length) (nI i)) 0 57 (nI (w + ps.length + 1)) := by
          rw [hS2]
          show mv_pf (mv_pr S' 30 (S'.1 0 57).toNatClampNeg (nI i)) 0 57 (S'.1 0 57 + 1) = _
          rw [hc, nI_clamp (by omega), nI_1]
        have ws2 : yWs S S2 := by rw [eS2]; exact yWs_trans ws (yWs_trans (yWs_pr (by decide)) (yWs_pf (Or.inl rfl)))
        have ek2 : S2.2.1 13 i = k' := by rw [ws2.2.1 13 i (by decide)]; exact i4
        have hc2 : S2.1 0 57 = nI (w + (ps ++ [Std.DTreeMap.Internal.Impl.inner t k' v' l r]).length) := by
          rw [eS2, pf_get, if_pos ⟨rfl, rfl⟩, List.length_append]; rfl
        have hw4 : ∀ a, a < w → S2.2.1 30 a = S.2.1 30 a := fun a ha => by
          rw [eS2]
          show (mv_pr S' 30 (w + ps.length) (nI i)).2.1 30 a = _
          rw [pr_get, if_neg (by omega)]; exact hw3 a ha
        have hu2 : ∀ o a, 31 ≤ o → o ≤ 36 → S2.2.1 o a = S.2.1 o a := fun o a o1 o2 => by
          rw [eS2]
          show (mv_pr S' 30 (w + ps.length) (nI i)).2.1 o a = _
          rw [pr_get, if_neg (by omega)]; exact hu o a o1 o2
        have hwy2 : yWay S0 S S2 σ st N w (ps ++ [.inner t k' v' l r]) := by rw [eS2]; exact yWay_push hwy hv0
        refine ws_iload_n rfl rfl rfl (ws_aload_n rfl rfl rfl (ws_getr rfl rfl rfl (ws_iload rfl rfl rfl (ws_i rfl ⟨vi, ?_⟩))))
        rw [ei, ek2]
        by_cases ck : key < k'
        · refine ws_i rfl ⟨fun z => absurd ck (Int32.not_lt.mpr z), fun _ => ?_⟩
          refine ws_aload_n rfl rfl rfl (ws_getr rfl rfl rfl (ws_iload rfl rfl rfl (ws_i rfl ⟨vi, ?_⟩)))
          rw [ei, ws2.2.1 15 i (by decide)]
          have rr1 := ihl (S.2.1 15 i) (ps ++ [.inner t k' v' l r]) S2 (by rw [e1, tPth, if_neg e, if_pos ck]; simp) (by rw [e2, tFnd, if_neg e, if_pos ck]) (by simp; omega) i6 ws2 hc2 hw4 hu2 hwy2
          exact ws_goto (t := 73) rfl (by decide) (ws_istore rfl rfl rfl rfl (ws_goto (t := 8) rfl (by decide) (mv_fuel (by omega) rr1)))
        · refine ws_i rfl ⟨fun _ => ?_, fun z => absurd (Int32.not_lt.mp ck) z⟩
          refine ws_aload_n rfl rfl rfl (ws_getr rfl rfl rfl (ws_iload rfl rfl rfl (ws_i rfl ⟨vi, ?_⟩)))
          rw [ei, ws2.2.1 16 i (by decide)]
          have rr1 := ihr (S.2.1 16 i) (ps ++ [.inner t k' v' l r]) S2 (by rw [e1, tPth, if_neg e, if_neg ck]; simp) (by rw [e2, tFnd, if_neg e, if_neg ck]) (by simp; omega) i7 ws2 hc2 hw4 hu2 hwy2
          exact ws_istore rfl rfl rfl rfl (ws_goto (t := 8) rfl (by decide) (mv_fuel (by omega) rr1))
  refine ⟨80 * (tSpN key T + 1) + 30 + 60 * (tN T + 1) + 5, ?_⟩
  refine ws_aload_n rfl rfl rfl (ws_geti rfl rfl h57 rfl (ws_istore_n rfl rfl rfl rfl (ws_iload_n rfl rfl rfl (ws_istore rfl rfl rfl rfl ?_))))
  exact down T c [] S rfl rfl (by simp; omega) hT (yWs_refl S) h57 (fun _ _ => rfl) (fun _ _ _ _ => rfl) (fun i x hx => by simp at hx)
end YM

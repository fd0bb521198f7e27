/-! THE REFERENCE'S PUT -/
def tPP (R : Int32 → Int32) (k : Int32) : tT → List tT
  | .leaf => []
  | .inner t k' v' l r => if k' = k then [] else if R k < R k' then .inner t k' v' l r :: (if k < k' then tPP R k l else tPP R k r) else []
def tPE (R : Int32 → Int32) (k : Int32) : tT → tT
  | .leaf => .leaf
  | .inner t k' v' l r => if k' = k then .inner t k' v' l r else if R k < R k' then (if k < k' then tPE R k l else tPE R k r) else .inner t k' v' l r
theorem tPP_fold (R : Int32 → Int32) (s : Nat) (k v : Int32) : ∀ T : tT, tPut R s k v T = List.foldr (tClm s k) (.inner s k v (tLo s k (tPE R k T)) (tHi s k (tPE R k T))) (tPP R k T)
  | .leaf => rfl
  | .inner t k' v' l r => by
    unfold tPut tPE tPP
    by_cases e : k' = k
    · rw [if_pos e, if_pos e, if_pos e]
      simp only [List.foldr_nil, tLo, tHi]
      rw [if_pos e, if_pos e]
    · rw [if_neg e, if_neg e, if_neg e]
      by_cases c : R k < R k'
      · rw [if_pos c, if_pos c, if_pos c]
        by_cases c2 : k < k'
        · rw [if_pos c2, if_pos c2, if_pos c2, List.foldr_cons, ← tPP_fold R s k v l]
          simp only [tClm]
          rw [if_pos c2]
        · rw [if_neg c2, if_neg c2, if_neg c2, List.foldr_cons, ← tPP_fold R s k v r]
          simp only [tClm]
          rw [if_neg c2]
      · rw [if_neg c, if_neg c, if_neg c]
        rfl
theorem tPP_len (R : Int32 → Int32) (k : Int32) : ∀ T : tT, tPutN R k T = (tPP R k T).length + tSpN k (tPE R k T) + 1
  | .leaf => rfl
  | .inner t k' v' l r => by
    unfold tPutN tPE tPP
    by_cases e : k' = k
    · rw [if_pos e, if_pos e, if_pos e]
      simp only [tSpN]
      rw [if_pos e]; rfl
    · rw [if_neg e, if_neg e, if_neg e]
      by_cases c : R k < R k'
      · rw [if_pos c, if_pos c, if_pos c]
        by_cases c2 : k < k'
        · rw [if_pos c2, if_pos c2, if_pos c2, List.length_cons, tPP_len R k l]; omega
        · rw [if_neg c2, if_neg c2, if_neg c2, List.length_cons, tPP_len R k r]; omega
      · rw [if_neg c, if_neg c, if_neg c]
        simp
theorem tPP_inner (R : Int32 → Int32) (k : Int32) : ∀ (T : tT) x, x ∈ tPP R k T → ∃ t k' v' l r, x = .inner t k' v' l r ∧ ¬ k' = k
  | .leaf, x, h => by simp [tPP] at h
  | .inner t k' v' l r, x, h => by
    unfold tPP at h
    by_cases e : k' = k
    · rw [if_pos e] at h; simp at h
    · rw [if_neg e] at h
      by_cases c0 : R k < R k'
      · rw [if_pos c0] at h
        rcases List.mem_cons.mp h with h | h
        · exact ⟨t, k', v', l, r, h, e⟩
        · by_cases c : k < k'
          · rw [if_pos c] at h; exact tPP_inner R k l x h
          · rw [if_neg c] at h; exact tPP_inner R k r x h
      · rw [if_neg c0] at h; simp at h
theorem tPE_le (R : Int32 → Int32) (k : Int32) : ∀ T : tT, (tPP R k T).length + tN (tPE R k T) ≤ tN T
  | .leaf => by simp [tPP, tPE, tN]
  | .inner t k' v' l r => by
    unfold tPE tPP
    by_cases e : k' = k
    · rw [if_pos e, if_pos e]; simp
    · rw [if_neg e, if_neg e]
      by_cases c : R k < R k'
      · rw [if_pos c, if_pos c]
        have h1 := tPE_le R k l
        have h2 := tPE_le R k r
        simp only [tN]
        by_cases c2 : k < k'
        · rw [if_pos c2, if_pos c2, List.length_cons]; omega
        · rw [if_neg c2, if_neg c2, List.length_cons]; omega
      · rw [if_neg c, if_neg c]; simp
section YM
variable {d : Nat} {P : Option Value → mv_S → Prop} {S0 S : mv_S} {σ : Nat → Nat} {st lv rm m N : Nat}
theorem yFull_le {bd bd' : Nat} (h : yFull S0 S lv rm bd) (hb : bd ≤ bd') : yFull S0 S lv rm bd' := by
  obtain ⟨h1, h2, h3, h4, h5, k, h6, h7, h8⟩ := h
  exact ⟨h1, h2, h3, h4, h5, k, h6, by omega, h8⟩
theorem y_rankOf {i : Nat} {k sd : Int32} (hi : i < 900) (hk : S.2.1 13 i = k) (hs : S.1 0 35 = sd) (h : P (some (.int (xRank sd k))) S) : mv_big layY sysY (d + 2) 29 [.ref 0, .int (nI i)] S P := by
  refine ⟨30, vp_in_nI hi (by decide), ?_⟩
  have e : S.2.1 13 (nI i).toNatClampNeg = k := by rw [nI_clamp (by omega)]; exact hk
  rw [← e, ← hs] at h
  exact y_rank h
abbrev yPw (P : Option Value → mv_S → Prop) (d F pc : Nat) (l : List (Nat × Value)) (S : mv_S) : Prop := mv_wp layY sysY tT11 7 (some .int) mX11_put.2.2.2.2.2.2.2 (mv_big layY sysY (d + 2)) P F pc l [] S
set_option maxHeartbeats 1000000 in
theorem y_put {key val c sd : Int32} {T : tT} (h : yMk S0 S lv rm m N) (hT : yV S0 S σ st N T c) (hsd : S.1 0 35 = sd) (hn : tN T ≤ 800)
    (hf : rm < lv + (m + tPutN (xRank sd) key T) → ∀ x S', yFull S0 S' lv rm 402 → P (some (.int x)) S')
    (ho : lv + (m + tPutN (xRank sd) key T) ≤ rm → ∀ S' N' c', yMt S0 S S' σ st lv rm (m + tPutN (xRank sd) key T) N N' (tPut (xRank sd) st key val T) c' → P (some (.int c')) S') : mv_big layY sysY (d + 3) 36 [.ref 0, .int c, .int key, .int val] S P := by
  obtain ⟨R, hR⟩ : ∃ R, R = xRank sd := ⟨_, rfl⟩
  rw [← hR] at hf ho
  have hRi : ∀ a b, R a = R b → a = b := by rw [hR]; exact xRank_inj sd
  have hlv : lv ≤ 400 := by have := h.2.2.2.2.2.2.1; have := h.2.2.2.1; omega
  have hpe := tPE_le R key T
  have hpl := tPP_len R key T
  -- the end: climb
  have tailO : ∀ (F : Nat) (c4 c5 : Int32) (S2 : mv_S) (m2 N2 : Nat) (e : Int32) (E : tT), 20 ≤ F → m2 + (tPP R key T).length = m + tPutN R key T → yMk S0 S2 lv rm m2 N2 → N ≤ N2 → (∀ T0 c0, yV S0 S σ st N T0 c0 → yV S0 S2 σ st N2 T0 c0) → yV S0 S2 σ st N2 E e → S2.1 0 57 = nI (tPP R key T).length → (∀ i x, (tPP R key T)[i]? = some x → yV S0 S2 σ st N2 x (S2.2.1 30 i)) → List.foldr (tClm st key) E (tPP R key T) = tPut R st key val T → yPw P d F 179 [(6, .int e), (5, .int c5), (4, .int c4), (0, .ref 0), (1, .int c), (2, .int key), (3, .int val)] S2 := by
    intro F c4 c5 S2 m2 N2 e E hF hm hmk hN2 mono hE h57 hwy hfo
    refine mv_fuel (n := 20) hF ?_
    refine ws_aload_n rfl rfl rfl (ws_iload_n rfl rfl rfl (ws_iload rfl rfl rfl (ws_iv rfl rfl rfl ?_)))
    refine y_climb hmk hE h57 (by omega) (fun x hx => tPP_inner R key T x hx) hwy (fun hlt x S' g => ?_) (fun hle S' N' c' g => ?_)
    · exact hf (by omega) x S' (yFull_le g (by decide))
    · rw [hm] at g hle
      rw [hfo] at g
      exact ho hle S' N' c' ⟨g.1, Nat.le_trans hN2 g.2.1, fun T0 c0 z => g.2.2.1 T0 c0 (mono T0 c0 z), g.2.2.2⟩
  have tailF : ∀ (F : Nat) (c4 c5 : Int32) (S2 : mv_S) (e : Int32), 20 ≤ F → rm < lv + (m + tPutN R key T) → yFull S0 S2 lv rm 402 → yPw P d F 179 [(6, .int e), (5, .int c5), (4, .int c4), (0, .ref 0), (1, .int c), (2, .int key), (3, .int val)] S2 := by
    intro F c4 c5 S2 e hF hlt g
    refine mv_fuel (n := 20) hF ?_
    refine ws_aload_n rfl rfl rfl (ws_iload_n rfl rfl rfl (ws_iload rfl rfl rfl (ws_iv rfl rfl rfl ?_)))
    exact y_climbF g (hf hlt e S2 g)
  -- what the cell leaves
  have afterO : ∀ (F : Nat) (c4 c5 : Int32) (S1 S2 : mv_S) (m1 N1 j : Nat) (a b : Int32) (L H : tT), 20 ≤ F → S2 = yMc S1 m1 j key val a b → N1 ≤ j → S0.2.1 17 j = 0 → m1 + 1 + (tPP R key T).length = m + tPutN R key T → N ≤ N1 → (∀ T0 c0, yV S0 S σ st N T0 c0 → yV S0 S1 σ st N1 T0 c0) → yMk S0 S2 lv rm (m1 + 1) (j + 1) → yV S0 S2 σ st (j + 1) (.inner st key val L H) (nI j) → S1.1 0 57 = nI (tPP R key T).length → (∀ i x, (tPP R key T)[i]? = some x → yV S0 S1 σ st N1 x (S1.2.1 30 i)) → L = tLo st key (tPE R key T) → H = tHi st key (tPE R key T) → yPw P d F 179 [(6, .int (nI j)), (5, .int c5), (4, .int c4), (0, .ref 0), (1, .int c), (2, .int key), (3, .int val)] S2 := by
    intro F c4 c5 S1 S2 m1 N1 j a b L H hF eS hj hj0 hm hN1 mono hmk htr h57 hwy eL eH
    refine tailO F c4 c5 S2 (m1 + 1) (j + 1) (nI j) _ hF (by omega) hmk (by omega) (fun T0 c0 z => ?_) htr ?_ (fun i x hx => ?_) ?_
    · rw [eS]; exact yV_mono hj0 hj (mono T0 c0 z)
    · rw [eS, yMc_f, if_neg (by decide), if_neg (by decide)]; exact h57
    · rw [eS, yMc_r, if_neg (by omega), if_neg (by omega), if_neg (by omega), if_neg (by omega)]
      exact yV_mono hj0 hj (hwy i x hx)
    · rw [eL, eH, tPP_fold R st key val T]
  have mid : ∀ (T' : tT) (c' c4 : Int32) (S' : mv_S), tPE R key T = T' → (T' = .leaf ∨ (∃ t k' v' l r, T' = .inner t k' v' l r ∧ (k' = key ∨ ¬ R key < R k'))) → yV S0 S σ st N T' c' → yWs S S' → S'.1 0 57 = nI (tPP R key T).length → yWay S0 S S' σ st N 0 (tPP R key T) → yPw P d 100 99 [(5, .int c'), (4, .int c4), (0, .ref 0), (1, .int c), (2, .int key), (3, .int val)] S' := by
    intro T' c' c4 S' e2 hend hv ws hc hwy
    have mk' := yMk_ws h ws
    have mono : ∀ T0 c0, yV S0 S σ st N T0 c0 → yV S0 S' σ st N T0 c0 := fun T0 c0 z => yV_ws z ws
    have hwy' : ∀ i x, (tPP R key T)[i]? = some x → yV S0 S' σ st N x (S'.2.1 30 i) := fun i x hx => by
      have := mono _ _ (hwy i x hx)
      rw [Nat.zero_add] at this; exact this
    refine ws_iconst (x := 0) rfl rfl rfl (ws_istore rfl rfl rfl rfl ?_)
    rcases hend with rfl | ⟨t, k', v', l, r, rfl, hk⟩
    · have hc0 : c' = 0 := hv.1
      subst hc0
      rw [e2] at hpl
      have lf : yV S0 S' σ st N .leaf 0 := ⟨rfl, fun i hi => by simp [hCs] at hi⟩
      refine ws_iload rfl rfl rfl (ws_i rfl ⟨fun z => absurd rfl z, fun _ => ?_⟩)
      refine ws_aload_n rfl rfl rfl (ws_iload_n rfl rfl rfl (ws_iload_n rfl rfl rfl (ws_iconst (x := 0) rfl rfl rfl (ws_iconst (x := 0) rfl rfl rfl (ws_iv rfl rfl rfl ?_)))))
      have e0 : tSpN key (.leaf : tT) = 0 := rfl
      refine y_cell mk' lf lf (fun hlt S2 g1 _ _ => ?_) (fun hle j hj hj0 hmk htr => ?_)
      · exact ws_istore rfl rfl rfl rfl (ws_goto (t := 179) rfl (by decide) (tailF _ c4 0 S2 0 (by decide) (by omega) (yFull_le g1 (by decide))))
      · exact ws_istore rfl rfl rfl rfl (ws_goto (t := 179) rfl (by decide) (afterO _ c4 0 S' _ m N j 0 0 .leaf .leaf (by decide) rfl hj hj0 (by omega) (Nat.le_refl _) mono hmk htr hc hwy' (by rw [e2]; rfl) (by rw [e2]; rfl)))
    · have hv0 := hv
      obtain ⟨i, i1, i2, rfl, i4, i5, i6, i7⟩ := yV_cells hv
      have ei : (nI i).toNatClampNeg = i := nI_clamp (by omega)
      have vi : vp_in (nI i) 900 := vp_in_nI (by omega) (by decide)
      have ek : S'.2.1 13 i = k' := by rw [ws.2.1 13 i (by decide)]; exact i4
      have e15 : S'.2.1 15 i = S.2.1 15 i := ws.2.1 15 i (by decide)
      have e16 : S'.2.1 16 i = S.2.1 16 i := ws.2.1 16 i (by decide)
      refine ws_iload rfl rfl rfl (ws_i rfl ⟨fun _ => ?_, fun z => absurd z (nI_ne0 (by omega) (by omega))⟩)
      refine ws_aload_n rfl rfl rfl (ws_getr rfl rfl rfl (ws_iload rfl rfl rfl (ws_i rfl ⟨vi, ?_⟩)))
      rw [ei, ek]
      by_cases ekk : k' = key
      · refine ws_iload_n rfl rfl rfl (ws_i rfl ⟨fun z => absurd ekk z, fun _ => ?_⟩)
        have e0 : tSpN key (tPE R key T) = 0 := by rw [e2, tSpN, if_pos ekk]
        rw [e0] at hpl
        refine ws_aload_n rfl rfl rfl (ws_iload_n rfl rfl rfl (ws_iload_n rfl rfl rfl (ws_aload_n rfl rfl rfl (ws_getr rfl rfl rfl (ws_iload rfl rfl rfl (ws_i rfl ⟨vi, ?_⟩))))))
        refine ws_aload_n rfl rfl rfl (ws_getr rfl rfl rfl (ws_iload rfl rfl rfl (ws_i rfl ⟨vi, ?_⟩)))
        rw [ei, e15, e16]
        refine ws_iv rfl rfl rfl ?_
        refine y_cell mk' (mono _ _ i6) (mono _ _ i7) (fun hlt S2 g1 _ _ => ?_) (fun hle j hj hj0 hmk htr => ?_)
        · exact ws_istore rfl rfl rfl rfl (ws_goto (t := 179) rfl (by decide) (tailF _ c4 _ S2 0 (by decide) (by omega) (yFull_le g1 (by decide))))
        · exact ws_istore rfl rfl rfl rfl (ws_goto (t := 179) rfl (by decide) (afterO _ c4 _ S' _ m N j _ _ l r (by decide) rfl hj hj0 (by omega) (Nat.le_refl _) mono hmk htr hc hwy' (by rw [e2, tLo, if_pos ekk]) (by rw [e2, tHi, if_pos ekk])))
      · refine ws_iload_n rfl rfl rfl (ws_i rfl ⟨fun _ => ?_, fun z => absurd z ekk⟩)
        refine ws_aload_n rfl rfl rfl (ws_iload rfl rfl rfl (ws_iload_n rfl rfl rfl (ws_iv rfl rfl rfl ?_)))
        rw [e2] at hpe
        refine y_split (w := (tPP R key T).length) mk' (mono _ _ hv0) hc (by omega) (fun hlt S2 g => ?_) (fun hle S2 N2 g => ?_)
        · rw [← e2] at hlt
          refine ws_aload_n rfl rfl rfl (ws_iload_n rfl rfl rfl (ws_iload_n rfl rfl rfl (ws_aload_n rfl rfl rfl (ws_geti rfl rfl rfl rfl (ws_aload_n rfl rfl rfl (ws_geti rfl rfl rfl rfl (ws_iv rfl rfl rfl ?_)))))))
          refine y_cellF g.1 (by decide) (by omega) (fun S3 g2 _ _ => ?_)
          exact ws_istore rfl rfl rfl rfl (tailF _ c4 _ S3 0 (by decide) (by omega) g2)
        · rw [← e2] at hle g
          obtain ⟨⟨q1, q2, q3, q4, q5, q6, q7⟩, q8⟩ := g
          refine ws_aload_n rfl rfl rfl (ws_iload_n rfl rfl rfl (ws_iload_n rfl rfl rfl (ws_aload_n rfl rfl rfl (ws_geti rfl rfl rfl rfl (ws_aload_n rfl rfl rfl (ws_geti rfl rfl rfl rfl (ws_iv rfl rfl rfl ?_)))))))
          refine y_cell q1 q4 q5 (fun hlt S3 g1 _ _ => ?_) (fun hle2 j hj hj0 hmk htr => ?_)
          · exact ws_istore rfl rfl rfl rfl (tailF _ c4 _ S3 0 (by decide) (by omega) (yFull_le g1 (by decide)))
          · refine ws_istore rfl rfl rfl rfl (afterO _ c4 _ S2 _ _ N2 j _ _ _ _ (by decide) rfl hj hj0 (by omega) q2 (fun T0 c0 z => q3 T0 c0 (mono T0 c0 z)) hmk htr q6 (fun a x hx => ?_) rfl rfl)
            have hlt := (List.getElem?_eq_some_iff.mp hx).1
            rw [q8 a hlt]
            exact q3 _ _ (hwy' a x hx)
  have down : ∀ (T' : tT) (c' : Int32) (ps : List tT) (S' : mv_S), tPP R key T = ps ++ tPP R key T' → tPE R key T = tPE R key T' → ps.length + tN T' ≤ 899 → yV S0 S σ st N T' c' → yWs S S' → S'.1 0 57 = nI ps.length → yWay S0 S S' σ st N 0 ps → yPw P d (120 + 80 * (tN T' + 1)) 18 [(5, .int c'), (4, .int (R key)), (0, .ref 0), (1, .int c), (2, .int key), (3, .int val)] S' := by
    intro T'
    induction T' with
    | leaf =>
      intro c' ps S' e1 e2 hb hv ws hc hwy
      have hc0 : c' = 0 := hv.1
      rw [tPP, List.append_nil] at e1
      rw [← e1] at hc hwy
      have md := mid .leaf c' (R key) S' e2 (Or.inl rfl) hv ws hc hwy
      subst hc0
      refine ws_iload rfl rfl rfl (ws_i rfl ⟨fun _ => ?_, fun z => absurd (show (0 : Int32) ≤ 0 by decide) z⟩)
      exact mv_fuel (by omega) md
    | inner t k' v' l r ihl ihr =>
      intro c' ps S' e1 e2 hb hv ws hc hwy
      have hv0 := hv
      obtain ⟨i, i1, i2, rfl, i4, i5, i6, i7⟩ := yV_cells hv
      have ei : (nI i).toNatClampNeg = i := nI_clamp (by omega)
      have vi : vp_in (nI i) 900 := vp_in_nI (by omega) (by decide)
      have npos : ¬ nI i ≤ 0 := nI_nle (by omega) (by omega)
      have ek : S'.2.1 13 i = k' := by rw [ws.2.1 13 i (by decide)]; exact i4
      simp only [tN] at hb
      simp only [tN]
      refine mv_fuel (n := 120 + 80 * (tN l + tN r + 1) + 80) (by omega) ?_
      refine ws_iload rfl rfl rfl (ws_i rfl ⟨fun z => absurd z npos, fun _ => ?_⟩)
      refine ws_aload_n rfl rfl rfl (ws_getr rfl rfl rfl (ws_iload rfl rfl rfl (ws_i rfl ⟨vi, ?_⟩)))
      rw [ei, ek]
      by_cases e : k' = key
      · refine ws_iload_n rfl rfl rfl (ws_i rfl ⟨fun _ => ?_, fun z => absurd e z⟩)
        have e1' : tPP R key T = ps := by rw [e1, tPP, if_pos e, List.append_nil]
        have e2' : tPE R key T = .inner t k' v' l r := by rw [e2, tPE, if_pos e]
        rw [← e1'] at hc hwy
        exact mv_fuel (by omega) (mid _ (nI i) (R key) S' e2' (Or.inr ⟨t, k', v', l, r, rfl, Or.inl e⟩) hv0 ws hc hwy)
      · refine ws_iload_n rfl rfl rfl (ws_i rfl ⟨fun z => absurd z e, fun _ => ?_⟩)
        refine ws_aload_n rfl rfl rfl (ws_iload rfl rfl rfl (ws_iv rfl rfl rfl ?_))
        refine y_rankOf (sd := sd) (by omega) ek (by rw [ws.1 0 35 (by decide)]; exact hsd) ?_
        rw [← hR]
        by_cases cr : R key < R k'
        · refine ws_iload rfl rfl rfl (ws_i rfl ⟨fun z => absurd cr (Int32.not_lt.mpr (Int32.le_of_lt z)), fun _ => ?_⟩)
          have v57 : vp_in (S'.1 0 57) 900 := by rw [hc]; exact vp_in_nI (by omega) (by decide)
          refine ws_aload_n rfl rfl rfl (ws_getr rfl rfl rfl (ws_aload_n rfl rfl rfl (ws_geti rfl rfl rfl rfl (ws_iload rfl rfl rfl (ws_i rfl ⟨v57, ?_⟩)))))
          refine ws_aload_n rfl rfl rfl (ws_dup_r rfl rfl (ws_geti rfl rfl rfl rfl (ws_iconst (x := 1) rfl rfl rfl (ws_iadd rfl rfl rfl (ws_puti rfl rfl rfl ?_)))))
          obtain ⟨S2, hS2⟩ : ∃ S2, S2 = mv_pf (mv_pr S' 30 (S'.1 0 57).toNatClampNeg (nI i)) 0 57 ((mv_pr S' 30 (S'.1 0 57).toNatClampNeg (nI i)).1 0 57 + 1) := ⟨_, rfl⟩
          rw [← hS2]
          have eS2 : S2 = mv_pf (mv_pr S' 30 (0 + ps.length) (nI i)) 0 57 (nI (0 + ps.length + 1)) := by
            rw [hS2]
            show mv_pf (mv_pr S' 30 (S'.1 0 57).toNatClampNeg (nI i)) 0 57 (S'.1 0 57 + 1) = _
            rw [hc, nI_clamp (by omega), nI_1, Nat.zero_add]
          have ws2 : yWs S S2 := by rw [eS2]; exact yWs_trans ws (yWs_trans (yWs_pr (by decide)) (yWs_pf (Or.inl rfl)))
          have ek2 : S2.2.1 13 i = k' := by rw [ws2.2.1 13 i (by decide)]; exact i4
          have hc2 : S2.1 0 57 = nI (ps ++ [Std.DTreeMap.Internal.Impl.inner t k' v' l r]).length := by
            rw [eS2, pf_get, if_pos ⟨rfl, rfl⟩, List.length_append, Nat.zero_add]; rfl
          have hwy2 : yWay S0 S S2 σ st N 0 (ps ++ [.inner t k' v' l r]) := by rw [eS2]; exact yWay_push hwy hv0
          refine ws_iload_n rfl rfl rfl (ws_aload_n rfl rfl rfl (ws_getr rfl rfl rfl (ws_iload rfl rfl rfl (ws_i rfl ⟨vi, ?_⟩))))
          rw [ei, ek2]
          by_cases ck : key < k'
          · refine ws_i rfl ⟨fun z => absurd ck (Int32.not_lt.mpr z), fun _ => ?_⟩
            refine ws_aload_n rfl rfl rfl (ws_getr rfl rfl rfl (ws_iload rfl rfl rfl (ws_i rfl ⟨vi, ?_⟩)))
            rw [ei, ws2.2.1 15 i (by decide)]
            have rr1 := ihl (S.2.1 15 i) (ps ++ [.inner t k' v' l r]) S2 (by rw [e1, tPP, if_neg e, if_pos cr, if_pos ck]; simp) (by rw [e2, tPE, if_neg e, if_pos cr, if_pos ck]) (by simp; omega) i6 ws2 hc2 hwy2
            exact ws_goto (t := 94) rfl (by decide) (ws_istore rfl rfl rfl rfl (ws_goto (t := 18) rfl (by decide) (mv_fuel (by omega) rr1)))
          · refine ws_i rfl ⟨fun _ => ?_, fun z => absurd (Int32.not_lt.mp ck) z⟩
            refine ws_aload_n rfl rfl rfl (ws_getr rfl rfl rfl (ws_iload rfl rfl rfl (ws_i rfl ⟨vi, ?_⟩)))
            rw [ei, ws2.2.1 16 i (by decide)]
            have rr1 := ihr (S.2.1 16 i) (ps ++ [.inner t k' v' l r]) S2 (by rw [e1, tPP, if_neg e, if_pos cr, if_neg ck]; simp) (by rw [e2, tPE, if_neg e, if_pos cr, if_neg ck]) (by simp; omega) i7 ws2 hc2 hwy2
            exact ws_istore rfl rfl rfl rfl (ws_goto (t := 18) rfl (by decide) (mv_fuel (by omega) rr1))
        · have lt : R k' < R key := i_tri (fun z => e (hRi _ _ z)) cr
          refine ws_iload rfl rfl rfl (ws_i rfl ⟨fun _ => ?_, fun z => absurd lt z⟩)
          have e1' : tPP R key T = ps := by rw [e1, tPP, if_neg e, if_neg cr, List.append_nil]
          have e2' : tPE R key T = .inner t k' v' l r := by rw [e2, tPE, if_neg e, if_neg cr]
          rw [← e1'] at hc hwy
          exact mv_fuel (by omega) (mid _ (nI i) (R key) S' e2' (Or.inr ⟨t, k', v', l, r, rfl, Or.inr cr⟩) hv0 ws hc hwy)
  refine ⟨120 + 80 * (tN T + 1) + 12, ?_⟩
  refine ws_aload_n rfl rfl rfl (ws_iconst (x := 0) rfl rfl rfl (ws_puti rfl rfl rfl ?_))
  have ws1 : yWs S (mv_pf S 0 57 0) := yWs_pf (Or.inl rfl)
  refine ws_iload_n rfl rfl rfl (ws_aload_n rfl rfl rfl (ws_geti rfl rfl (show (mv_pf S 0 57 0).1 0 35 = sd by rw [pf_get, if_neg (by decide)]; exact hsd) rfl (ws_is rfl rfl rfl ?_)))
  refine y_rank ?_
  rw [← hR]
  refine ws_istore rfl rfl rfl rfl (ws_iload_n rfl rfl rfl (ws_istore rfl rfl rfl rfl ?_))
  exact mv_fuel (by omega) (down T c [] _ rfl rfl (by simp; omega) hT ws1 (by rw [pf_get, if_pos ⟨rfl, rfl⟩]; rfl) (fun i x hx => by simp at hx))
end YM

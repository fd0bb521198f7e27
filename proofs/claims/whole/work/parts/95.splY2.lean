/-! THE REFERENCE SPLITS A TREE: the method -/
theorem tPth_inner (k : Int32) : ∀ (T : tT) x, x ∈ tPth k T → ∃ t k' v' l r, x = .inner t k' v' l r ∧ ¬ k' = k
  | .leaf, x, h => by simp [tPth] at h
  | .inner t k' v' l r, x, h => by
    unfold tPth at h
    by_cases e : k' = k
    · rw [if_pos e] at h; simp at h
    · rw [if_neg e] at h
      rcases List.mem_cons.mp h with h | h
      · exact ⟨t, k', v', l, r, h, e⟩
      · by_cases c : k < k'
        · rw [if_pos c] at h; exact tPth_inner k l x h
        · rw [if_neg c] at h; exact tPth_inner k r x h
section YM
variable {d : Nat} {P : Option Value → mv_S → Prop} {S0 S : mv_S} {σ : Nat → Nat} {st lv rm m N : Nat}
/-- what split leaves: lo and hi -/
def ySpC (S0 S S' : mv_S) (σ : Nat → Nat) (st lv rm m N N' w : Nat) (L H : tT) : Prop :=
  yMk S0 S' lv rm m N' ∧ N ≤ N' ∧ (∀ T0 c0, yV S0 S σ st N T0 c0 → yV S0 S' σ st N' T0 c0) ∧ yV S0 S' σ st N' L (S'.1 0 58) ∧ yV S0 S' σ st N' H (S'.1 0 59) ∧ S'.1 0 57 = nI w ∧ (∀ o i, 31 ≤ o → o ≤ 36 → S'.2.1 o i = S.2.1 o i)
def ySpl (S0 S S' : mv_S) (σ : Nat → Nat) (st lv rm m N N' w : Nat) (L H : tT) : Prop :=
  ySpC S0 S S' σ st lv rm m N N' w L H ∧ (∀ i, i < w → S'.2.1 30 i = S.2.1 30 i)
def ySpF (S0 S S' : mv_S) (lv rm w : Nat) : Prop := yFull S0 S' lv rm 401 ∧ S'.1 0 57 = nI w ∧ (∀ i, i < w → S'.2.1 30 i = S.2.1 30 i) ∧ (∀ o i, 31 ≤ o → o ≤ 36 → S'.2.1 o i = S.2.1 o i)
abbrev ySw (P : Option Value → mv_S → Prop) (d F pc : Nat) (l : List (Nat × Value)) (S : mv_S) : Prop := mv_wp layY sysY tT11 6 none mX11_split.2.2.2.2.2.2.2 (mv_big layY sysY (d + 1)) P F pc l [] S
set_option maxHeartbeats 1000000 in
theorem ySpl_up {key c : Int32} {T : tT} {w : Nat} (hw : w + tN T ≤ 899)
    (hf : rm < lv + (m + tSpN key T) → ∀ S', ySpF S0 S S' lv rm w → P none S')
    (ho : lv + (m + tSpN key T) ≤ rm → ∀ S' N', ySpl S0 S S' σ st lv rm (m + tSpN key T) N N' w (tLo st key T) (tHi st key T) → P none S')
    {c4 : Int32} : ∀ (k : Nat) (qs : List tT) (L H : tT) (S2 : mv_S) (m' N' : Nat) (l : List (Nat × Value)), k = qs.length → (l = [(4, .int c4), (3, .int (nI w)), (0, .ref 0), (1, .int c), (2, .int key)] ∨ ∃ z, l = [(5, .int z), (4, .int c4), (3, .int (nI w)), (0, .ref 0), (1, .int c), (2, .int key)]) → m' + qs.length = m + tSpN key T → w + qs.length ≤ 899 → ySpC S0 S S2 σ st lv rm m' N N' (w + qs.length) L H → (∀ i, i < w → S2.2.1 30 i = S.2.1 30 i) → List.foldr (tStp st key) (L, H) qs = (tLo st key T, tHi st key T) → (∀ x, x ∈ qs → ∃ t k' v' l r, x = .inner t k' v' l r ∧ ¬ k' = key) → (∀ i x, qs[i]? = some x → yV S0 S2 σ st N' x (S2.2.1 30 (w + i))) → ySw P d (80 * (k + 1)) 118 l S2 := by
  intro k
  induction k with
  | zero =>
    intro qs L H S2 m' N' l hk hl hm hw2 hs hw3 hfo hin hwy
    have hq : qs = [] := List.length_eq_zero_iff.mp hk.symm
    subst hq
    obtain ⟨h1, h2, h3, h4, h5, h6, h8⟩ := hs
    simp only [List.length_nil, Nat.add_zero, List.foldr_nil, Prod.mk.injEq] at hm h6 hfo
    obtain ⟨rfl, rfl⟩ := hfo
    have hP := ho (by rw [← hm]; exact h1.2.2.2.2.2.2.1) (mv_pf S2 0 57 (nI w)) N' (by
      rw [pf_self h6]
      exact ⟨⟨by rw [← hm]; exact h1, h2, h3, h4, h5, h6, h8⟩, hw3⟩)
    have le : S2.1 0 57 ≤ nI w := by rw [h6]; exact Int32.le_refl _
    rcases hl with rfl | ⟨z, rfl⟩
    · exact ⟨fun _ => hP, fun z => absurd le z⟩
    · exact ⟨fun _ => hP, fun z => absurd le z⟩
  | succ k ih =>
    intro qs L H S2 m' N' l hk hl hm hw2 hs hw3 hfo hin hwy
    obtain ⟨qs0, x, rfl⟩ : ∃ q0 x, qs = q0 ++ [x] := by
      have hne : qs ≠ [] := by intro z; rw [z] at hk; simp at hk
      exact ⟨qs.dropLast, qs.getLast hne, (List.dropLast_concat_getLast hne).symm⟩
    obtain ⟨h1, h2, h3, h4, h5, h6, h8⟩ := hs
    have eq0 : (qs0 ++ [x]).length = qs0.length + 1 := by simp
    rw [eq0] at hk hm hw2 h6
    obtain ⟨t, k', v', xl, xr, rfl, hne⟩ := hin x (by simp)
    have hx : yV S0 S2 σ st N' (.inner t k' v' xl xr) (S2.2.1 30 (w + qs0.length)) := hwy qs0.length _ (by simp)
    obtain ⟨i, i1, i2, i3, i4, i5, i6, i7⟩ := yV_cells hx
    have full0 : S2.1 0 34 = 0 := h1.2.2.2.2.1
    have nle : ¬ S2.1 0 57 ≤ nI w := by rw [h6]; exact nI_ge (by omega) (by omega)
    obtain ⟨S3, hS3⟩ : ∃ S3, S3 = mv_pf S2 0 57 (S2.1 0 57 - 1) := ⟨_, rfl⟩
    have f3 : S3.1 0 57 = nI (w + qs0.length) := by rw [hS3, pf_get, if_pos ⟨rfl, rfl⟩, h6, show w + (qs0.length + 1) = w + qs0.length + 1 by omega, nI_pred]
    have ws3 : yWs S2 S3 := by rw [hS3]; exact yWs_pf (Or.inl rfl)
    have mk3 := yMk_ws h1 ws3
    have r3 : ∀ o a, S3.2.1 o a = S2.2.1 o a := fun o a => by rw [hS3]; rfl
    have vw : vp_in (S3.1 0 57) 900 := by rw [f3]; exact vp_in_nI (by omega) (by decide)
    have ed : S3.2.1 30 (S3.1 0 57).toNatClampNeg = nI i := by rw [f3, nI_clamp (by omega), r3]; exact i3
    have ei : (nI i).toNatClampNeg = i := nI_clamp (by omega)
    have vi : vp_in (nI i) 900 := vp_in_nI (by omega) (by decide)
    have ek : S3.2.1 13 i = k' := by rw [r3]; exact i4
    have ev : S3.2.1 14 i = v' := by rw [r3]; exact i5
    have e15 : S3.2.1 15 i = S2.2.1 15 i := r3 15 i
    have e16 : S3.2.1 16 i = S2.2.1 16 i := r3 16 i
    have e58 : S3.1 0 58 = S2.1 0 58 := by rw [hS3, pf_get, if_neg (by decide)]
    have e59 : S3.1 0 59 = S2.1 0 59 := by rw [hS3, pf_get, if_neg (by decide)]
    -- the loop's body from the cell on
    have body : ySw P d (80 * (k + 1) + 40) 154 [(5, .int (nI i)), (4, .int c4), (3, .int (nI w)), (0, .ref 0), (1, .int c), (2, .int key)] S3 := by
      refine ws_iload_n rfl rfl rfl (ws_aload_n rfl rfl rfl (ws_getr rfl rfl rfl (ws_iload rfl rfl rfl (ws_i rfl ⟨vi, ?_⟩))))
      rw [ei, ek]
      have vfull : ∀ S', yFull S0 S' lv rm 401 → (∀ o i, S'.2.1 o i = S3.2.1 o i) → (∀ f, f ≠ 32 → f ≠ 34 → S'.1 0 f = S3.1 0 f) → ∀ q x0, q = 58 ∨ q = 59 → rm < lv + (m + tSpN key T) → ySw P d 80 118 [(5, .int (nI i)), (4, .int c4), (3, .int (nI w)), (0, .ref 0), (1, .int c), (2, .int key)] (mv_pf S' 0 q x0) := by
        intro S' g1 g2 g3 q x0 hq hlt
        have g := yFull_ws g1 (yWs_pf (S := S') (k := q) (x := x0) (by omega))
        have nf : ¬ (mv_pf S' 0 q x0).1 0 34 = 0 := by rw [g.2.2.2.2.1]; decide
        have hP : P none (mv_pf (mv_pf S' 0 q x0) 0 57 (nI w)) := by
          refine hf hlt _ ⟨yFull_ws g (yWs_pf (Or.inl rfl)), by rw [pf_get, if_pos ⟨rfl, rfl⟩], fun a ha => ?_, fun o a ho1 ho2 => ?_⟩
          · show S'.2.1 30 a = _
            rw [g2, r3]; exact hw3 a ha
          · show S'.2.1 o a = _
            rw [g2, r3]; exact h8 o a ho1 ho2
        exact ⟨fun _ => hP, fun _ => ⟨fun _ => hP, fun z => absurd z nf⟩⟩
      have cont : ∀ (q j : Nat) (Ln Hn : tT) (a b : Int32), q = 58 ∨ q = 59 → N' ≤ j → S0.2.1 17 j = 0 → yMk S0 (yMc S3 m' j k' v' a b) lv rm (m' + 1) (j + 1) → List.foldr (tStp st key) (Ln, Hn) qs0 = (tLo st key T, tHi st key T) → yV S0 (yMc S3 m' j k' v' a b) σ st (j + 1) Ln (if q = 58 then nI j else S2.1 0 58) → yV S0 (yMc S3 m' j k' v' a b) σ st (j + 1) Hn (if q = 59 then nI j else S2.1 0 59) → ySw P d (80 * (k + 1)) 118 [(5, .int (nI i)), (4, .int c4), (3, .int (nI w)), (0, .ref 0), (1, .int c), (2, .int key)] (mv_pf (yMc S3 m' j k' v' a b) 0 q (nI j)) := by
        intro q j Ln Hn a b hq hj hj0 hmk hfold hLn hHn
        have wsq : yWs (yMc S3 m' j k' v' a b) (mv_pf (yMc S3 m' j k' v' a b) 0 q (nI j)) := yWs_pf (by omega)
        have mono : ∀ T0 c0, yV S0 S2 σ st N' T0 c0 → yV S0 (mv_pf (yMc S3 m' j k' v' a b) 0 q (nI j)) σ st (j + 1) T0 c0 := fun T0 c0 z => yV_ws (yV_mono hj0 hj (yV_ws z ws3)) wsq
        have rr : ∀ o a1, ¬ (13 ≤ o ∧ o ≤ 16) → (mv_pf (yMc S3 m' j k' v' a b) 0 q (nI j)).2.1 o a1 = S2.2.1 o a1 := fun o a1 ho => by
          show (yMc S3 m' j k' v' a b).2.1 o a1 = _
          rw [yMc_r, if_neg (by omega), if_neg (by omega), if_neg (by omega), if_neg (by omega), r3]
        refine ih qs0 Ln Hn _ (m' + 1) (j + 1) _ (by omega) (Or.inr ⟨_, rfl⟩) (by omega) (by omega) ⟨yMk_ws hmk wsq, by omega, fun T0 c0 z => mono T0 c0 (h3 T0 c0 z), ?_, ?_, ?_, fun o a1 o1 o2 => by rw [rr o a1 (by omega)]; exact h8 o a1 o1 o2⟩ (fun a1 ha => by rw [rr 30 a1 (by decide)]; exact hw3 a1 ha) hfold (fun x hx => hin x (by simp [hx])) (fun a1 x hx => ?_)
        · have e : (mv_pf (yMc S3 m' j k' v' a b) 0 q (nI j)).1 0 58 = if q = 58 then nI j else S2.1 0 58 := by
            rw [pf_get]
            by_cases c5 : q = 58
            · rw [if_pos ⟨rfl, c5.symm⟩, if_pos c5]
            · rw [if_neg (by omega), if_neg c5, yMc_f, if_neg (by decide), if_neg (by decide)]; exact e58
          rw [e]; exact yV_ws hLn wsq
        · have e : (mv_pf (yMc S3 m' j k' v' a b) 0 q (nI j)).1 0 59 = if q = 59 then nI j else S2.1 0 59 := by
            rw [pf_get]
            by_cases c5 : q = 59
            · rw [if_pos ⟨rfl, c5.symm⟩, if_pos c5]
            · rw [if_neg (by omega), if_neg c5, yMc_f, if_neg (by decide), if_neg (by decide)]; exact e59
          rw [e]; exact yV_ws hHn wsq
        · rw [pf_get, if_neg (by omega), yMc_f, if_neg (by decide), if_neg (by decide)]; exact f3
        · rw [rr 30 _ (by decide)]
          have hlt := (List.getElem?_eq_some_iff.mp hx).1
          exact mono _ _ (hwy a1 x (by rw [List.getElem?_append_left hlt]; exact hx))
      rw [List.foldr_append] at hfo
      simp only [List.foldr_cons, List.foldr_nil, tStp] at hfo
      by_cases ck : key < k'
      · rw [if_pos ck] at hfo
        refine ws_i rfl ⟨fun z => absurd ck (Int32.not_lt.mpr z), fun _ => ?_⟩
        refine ws_aload_n rfl rfl rfl (ws_aload_n rfl rfl rfl (ws_aload_n rfl rfl rfl (ws_getr rfl rfl rfl (ws_iload rfl rfl rfl (ws_i rfl ⟨vi, ?_⟩)))))
        refine ws_aload_n rfl rfl rfl (ws_getr rfl rfl rfl (ws_iload rfl rfl rfl (ws_i rfl ⟨vi, ?_⟩)))
        refine ws_aload_n rfl rfl rfl (ws_geti rfl rfl e59 rfl (ws_aload_n rfl rfl rfl (ws_getr rfl rfl rfl (ws_iload rfl rfl rfl (ws_i rfl ⟨vi, ?_⟩)))))
        rw [ei, ek, ev, e16]
        refine ws_iv rfl rfl rfl ?_
        refine y_cell mk3 (yV_ws h5 ws3) (yV_ws i7 ws3) (fun hlt S' g1 g2 g3 => ?_) (fun hle j hj hj0 hmk htr => ?_)
        · exact ws_puti rfl rfl rfl (ws_goto (t := 234) rfl (by decide) (ws_goto (t := 118) rfl (by decide) (mv_fuel (n := 80) (by omega) (vfull S' g1 g2 g3 59 _ (Or.inr rfl) (by omega)))))
        · refine ws_puti rfl rfl rfl (ws_goto (t := 234) rfl (by decide) (ws_goto (t := 118) rfl (by decide) (mv_fuel (n := 80 * (k + 1)) (by omega) (cont 59 j L (.inner st k' v' H xr) _ _ (Or.inr rfl) hj hj0 hmk hfo ?_ ?_))))
          · rw [if_neg (by decide)]; exact yV_mono hj0 hj (yV_ws h4 ws3)
          · rw [if_pos rfl]; exact htr
      · rw [if_neg ck] at hfo
        refine ws_i rfl ⟨fun _ => ?_, fun z => absurd (Int32.not_lt.mp ck) z⟩
        refine ws_aload_n rfl rfl rfl (ws_aload_n rfl rfl rfl (ws_aload_n rfl rfl rfl (ws_getr rfl rfl rfl (ws_iload rfl rfl rfl (ws_i rfl ⟨vi, ?_⟩)))))
        refine ws_aload_n rfl rfl rfl (ws_getr rfl rfl rfl (ws_iload rfl rfl rfl (ws_i rfl ⟨vi, ?_⟩)))
        refine ws_aload_n rfl rfl rfl (ws_getr rfl rfl rfl (ws_iload rfl rfl rfl (ws_i rfl ⟨vi, ?_⟩)))
        rw [ei, ek, ev, e15]
        refine ws_aload_n rfl rfl rfl (ws_geti rfl rfl e58 rfl (ws_iv rfl rfl rfl ?_))
        refine y_cell mk3 (yV_ws i6 ws3) (yV_ws h4 ws3) (fun hlt S' g1 g2 g3 => ?_) (fun hle j hj hj0 hmk htr => ?_)
        · exact ws_puti rfl rfl rfl (ws_goto (t := 118) rfl (by decide) (mv_fuel (n := 80) (by omega) (vfull S' g1 g2 g3 58 _ (Or.inl rfl) (by omega))))
        · refine ws_puti rfl rfl rfl (ws_goto (t := 118) rfl (by decide) (mv_fuel (n := 80 * (k + 1)) (by omega) (cont 58 j (.inner st k' v' xl L) H _ _ (Or.inl rfl) hj hj0 hmk hfo ?_ ?_)))
          · rw [if_pos rfl]; exact htr
          · rw [if_neg (by decide)]; exact yV_mono hj0 hj (yV_ws h5 ws3)
    have head : ∀ l0 : List (Nat × Value), l0 = [(4, .int c4), (3, .int (nI w)), (0, .ref 0), (1, .int c), (2, .int key)] ∨ (∃ z, l0 = [(5, .int z), (4, .int c4), (3, .int (nI w)), (0, .ref 0), (1, .int c), (2, .int key)]) → ySw P d (80 * (k + 1) + 40 + 20) 118 l0 S2 := by
      intro l0 hl0
      have go : ∀ l1 : List (Nat × Value), mv_at 0 l1 = some (.ref 0) → mv_at 3 l1 = some (.int (nI w)) → mv_sv 5 (.int (nI i)) l1 = [(5, .int (nI i)), (4, .int c4), (3, .int (nI w)), (0, .ref 0), (1, .int c), (2, .int key)] → ySw P d (80 * (k + 1) + 40 + 20) 118 l1 S2 := by
        intro l1 a0 a3 a5
        refine ws_aload_n rfl a0 rfl (ws_geti rfl rfl rfl rfl (ws_iload_n rfl a3 rfl (ws_i rfl ⟨fun z => absurd z nle, fun _ => ?_⟩)))
        refine ws_aload_n rfl a0 rfl (ws_getz rfl rfl rfl rfl (ws_i rfl ⟨fun z => absurd full0 z, fun _ => ?_⟩))
        refine ws_aload_n rfl a0 rfl (ws_dup_r rfl rfl (ws_geti rfl rfl rfl rfl (ws_iconst (x := 1) rfl rfl rfl (ws_isub rfl rfl rfl (ws_puti rfl rfl rfl ?_)))))
        rw [← hS3]
        refine ws_aload_n rfl a0 rfl (ws_getr rfl rfl rfl (ws_aload_n rfl a0 rfl (ws_geti rfl rfl rfl rfl (ws_i rfl ⟨vw, ?_⟩))))
        rw [ed]
        exact ws_istore rfl rfl a5 rfl (mv_fuel (n := 80 * (k + 1) + 40) (by omega) body)
      rcases hl0 with rfl | ⟨z, rfl⟩
      · exact go _ rfl rfl rfl
      · exact go _ rfl rfl rfl
    exact mv_fuel (n := 80 * (k + 1) + 40 + 20) (by omega) (head l hl)
end YM

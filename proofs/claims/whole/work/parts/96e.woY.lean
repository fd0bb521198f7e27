/-! THE REFERENCE'S WITHOUT -/
section WS
variable {lay : List mv_D} {sys : List mv_M} {T : mv_T} {nL : Nat} {z : Option FieldType} {il : List (Nat × Instr)} {Call : mv_Call} {P : Option Value → mv_S → Prop} {n pc : Nat} {lv : List (Nat × Value)} {st : List Value} {S : mv_S}
theorem ws_ineg {x : Int32} {t : Nat} (hi : mv_at pc il = some .ineg) (ht : pc + 1 = t) (h : mv_wp lay sys T nL z il Call P n t lv (.int (-x) :: st) S) : mv_wp lay sys T nL z il Call P (n + 1) pc lv (.int x :: st) S := by
  subst ht
  exact ws_i hi h
end WS
section YM
variable {d : Nat} {P : Option Value → mv_S → Prop} {S0 S : mv_S} {σ : Nat → Nat} {st lv rm m N : Nat}
/-- a place of the way of a join: a cell, or less than 0 a cell of the greater tree -/
def yJc (S0 S : mv_S) (σ : Nat → Nat) (st N : Nat) (x : Bool × tT) (c : Int32) : Prop := ∃ i, 1 ≤ i ∧ i ≤ 899 ∧ c = (if x.1 then nI i else -nI i) ∧ yV S0 S σ st N x.2 (nI i) ∧ ¬ x.2 = .leaf
theorem yJc_e {x : Bool × tT} {c : Int32} (h : yJc S0 S σ st N x c) : ∃ t k v l r i, x.2 = .inner t k v l r ∧ 1 ≤ i ∧ i ≤ 899 ∧ c = (if x.1 then nI i else -nI i) ∧ S.2.1 13 i = k ∧ S.2.1 14 i = v ∧ yV S0 S σ st N l (S.2.1 15 i) ∧ yV S0 S σ st N r (S.2.1 16 i) := by
  obtain ⟨i, h1, h2, h3, h4, h5⟩ := h
  match hx : x.2, h4, h5 with
  | .leaf, _, h5 => exact absurd rfl h5
  | .inner t k v l r, h4, _ =>
    obtain ⟨j, j1, j2, j3, j4, j5, j6, j7⟩ := yV_cells h4
    obtain rfl := (nI_eq (by omega) (by omega)).mp j3
    exact ⟨t, k, v, l, r, i, rfl, h1, h2, h3, j4, j5, j6, j7⟩
abbrev yWw (P : Option Value → mv_S → Prop) (d F pc : Nat) (l : List (Nat × Value)) (S : mv_S) : Prop := mv_wp layY sysY tT11 9 (some .int) mX11_without.2.2.2.2.2.2.2 (mv_big layY sysY (d + 2)) P F pc l [] S
theorem nI_neg_lt {i : Nat} (h1 : 1 ≤ i) (h2 : i < 2 ^ 31) : -nI i ≤ 0 ∧ -(-nI i) = nI i := by
  refine ⟨?_, Int32.neg_neg⟩
  rw [Int32.le_iff_toInt_le, Int32.toInt_neg, nI_toInt h2]
  have : (-(i : Int)).bmod (2 ^ 32) = -(i : Int) := by
    apply Int.bmod_eq_of_le <;> omega
  rw [this]
  show -(i : Int) ≤ 0
  omega
set_option maxHeartbeats 1000000 in
set_option maxRecDepth 8000 in
theorem yWo_up {key c c3 c5 c6 : Int32} {G E0 : tT} {w M : Nat} {ps : List tT} (hM : M + w ≤ 2000) (hw : w = ps.length)
    (hin : ∀ x, x ∈ ps → ∃ t k' v' l r, x = .inner t k' v' l r ∧ ¬ k' = key)
    (hfold : List.foldr (tClm st key) E0 ps = G)
    (hf : rm < lv + (M + w) → ∀ x S', yFull S0 S' lv rm 402 → P (some (.int x)) S')
    (ho : lv + (M + w) ≤ rm → ∀ S' N' c', yMt S0 S S' σ st lv rm (M + w) N N' G c' → P (some (.int c')) S') : ∀ (k : Nat) (js : List (Bool × tT)) (E : tT) (t : Int32) (S2 : mv_S) (m' N' : Nat) (l : List (Nat × Value)), k = js.length → (l = [(7, .int t), (6, .int c6), (5, .int c5), (4, .int (nI w)), (3, .int c3), (0, .ref 0), (1, .int c), (2, .int key)] ∨ ∃ z, l = [(7, .int t), (8, .int z), (6, .int c6), (5, .int c5), (4, .int (nI w)), (3, .int c3), (0, .ref 0), (1, .int c), (2, .int key)]) → m' + js.length = M → w + js.length ≤ 899 → yMt S0 S S2 σ st lv rm m' N N' E t → S2.1 0 57 = nI (w + js.length) → List.foldr (tJst st) E js = E0 → (∀ i x, js[i]? = some x → yJc S0 S2 σ st N' x (S2.2.1 30 (w + i))) → (∀ i x, ps[i]? = some x → yV S0 S2 σ st N' x (S2.2.1 30 i)) → yWw P d (80 * (k + 1)) 218 l S2 := by
  intro k
  induction k with
  | zero =>
    intro js E t S2 m' N' l hk hl hm hw2 hs h6 hfo hwy hpy
    have hq : js = [] := List.length_eq_zero_iff.mp hk.symm
    subst hq
    simp only [List.length_nil, Nat.add_zero, List.foldr_nil] at hm h6 hfo
    subst hfo
    have le : S2.1 0 57 ≤ nI w := by rw [h6]; exact Int32.le_refl _
    obtain ⟨h1, h2, h3, h4⟩ := hs
    have fin : ∀ l0 : List (Nat × Value), mv_at 0 l0 = some (.ref 0) → mv_at 2 l0 = some (.int key) → mv_at 4 l0 = some (.int (nI w)) → mv_at 7 l0 = some (.int t) → yWw P d 40 325 l0 S2 := by
      intro l0 a0 a2 a4 a7
      refine ws_aload_n rfl a0 rfl (ws_iload rfl a4 rfl (ws_puti rfl rfl rfl ?_))
      rw [pf_self h6]
      refine ws_aload_n rfl a0 rfl (ws_iload_n rfl a2 rfl (ws_iload rfl a7 rfl (ws_iv rfl rfl rfl ?_)))
      refine y_climb (qs := ps) h1 h4 (by rw [h6, hw]) (by omega) hin hpy (fun hlt x S' g => ?_) (fun hle S' N'' c' g => ?_)
      · exact hf (by omega) x S' (yFull_le g (by decide))
      · rw [hfold] at g
        rw [hm, ← hw] at g hle
        exact ho hle S' N'' c' ⟨g.1, Nat.le_trans h2 g.2.1, fun T0 c0 z => g.2.2.1 T0 c0 (h3 T0 c0 z), g.2.2.2⟩
    rcases hl with rfl | ⟨z, rfl⟩
    · exact ws_aload_n rfl rfl rfl (ws_geti rfl rfl rfl rfl (ws_iload rfl rfl rfl (ws_i rfl ⟨fun _ => mv_fuel (n := 40) (by decide) (fin _ rfl rfl rfl rfl), fun z => absurd le z⟩)))
    · exact ws_aload_n rfl rfl rfl (ws_geti rfl rfl rfl rfl (ws_iload rfl rfl rfl (ws_i rfl ⟨fun _ => mv_fuel (n := 40) (by decide) (fin _ rfl rfl rfl rfl), fun z => absurd le z⟩)))
  | succ k ih =>
    intro js E t S2 m' N' l hk hl hm hw2 hs h6 hfo hwy hpy
    obtain ⟨js0, x, rfl⟩ : ∃ q0 x, js = q0 ++ [x] := by
      have hne : js ≠ [] := by intro z; rw [z] at hk; simp at hk
      exact ⟨js.dropLast, js.getLast hne, (List.dropLast_concat_getLast hne).symm⟩
    obtain ⟨h1, h2, h3, h4⟩ := hs
    have eq0 : (js0 ++ [x]).length = js0.length + 1 := by simp
    rw [eq0] at hk hm hw2 h6
    obtain ⟨tx, k', v', xl, xr, i, ex, i1, i2, i3, i4, i5, i6, i7⟩ := yJc_e (hwy js0.length x (by simp))
    have full0 : S2.1 0 34 = 0 := h1.2.2.2.2.1
    have nle : ¬ S2.1 0 57 ≤ nI w := by rw [h6]; exact nI_ge (by omega) (by omega)
    obtain ⟨S3, hS3⟩ : ∃ S3, S3 = mv_pf S2 0 57 (S2.1 0 57 - 1) := ⟨_, rfl⟩
    have f3 : S3.1 0 57 = nI (w + js0.length) := by rw [hS3, pf_get, if_pos ⟨rfl, rfl⟩, h6, show w + (js0.length + 1) = w + js0.length + 1 by omega, nI_pred]
    have ws3 : yWs S2 S3 := by rw [hS3]; exact yWs_pf (Or.inl rfl)
    have mk3 := yMk_ws h1 ws3
    have r3 : ∀ o a, S3.2.1 o a = S2.2.1 o a := fun o a => by rw [hS3]; rfl
    have vw : vp_in (S3.1 0 57) 900 := by rw [f3]; exact vp_in_nI (by omega) (by decide)
    have ed : S3.2.1 30 (S3.1 0 57).toNatClampNeg = (if x.1 then nI i else -nI i) := by rw [f3, nI_clamp (by omega), r3]; exact i3
    have ei : (nI i).toNatClampNeg = i := nI_clamp (by omega)
    have vi : vp_in (nI i) 900 := vp_in_nI (by omega) (by decide)
    have ek : S3.2.1 13 i = k' := by rw [r3]; exact i4
    have ev : S3.2.1 14 i = v' := by rw [r3]; exact i5
    have e15 : S3.2.1 15 i = S2.2.1 15 i := r3 15 i
    have e16 : S3.2.1 16 i = S2.2.1 16 i := r3 16 i
    have vfull : ∀ S' y x0, rm < lv + (M + w) → yFull S0 S' lv rm 401 → yWw P d 80 218 [(7, .int x0), (8, .int y), (6, .int c6), (5, .int c5), (4, .int (nI w)), (3, .int c3), (0, .ref 0), (1, .int c), (2, .int key)] S' := by
      intro S' y x0 hlt g
      have nf : ¬ S'.1 0 34 = 0 := by rw [g.2.2.2.2.1]; decide
      have fin : yWw P d 40 325 [(7, .int x0), (8, .int y), (6, .int c6), (5, .int c5), (4, .int (nI w)), (3, .int c3), (0, .ref 0), (1, .int c), (2, .int key)] S' := by
        refine ws_aload_n rfl rfl rfl (ws_iload rfl rfl rfl (ws_puti rfl rfl rfl ?_))
        have g' := yFull_ws g (yWs_pf (S := S') (k := 57) (x := nI w) (Or.inl rfl))
        refine ws_aload_n rfl rfl rfl (ws_iload_n rfl rfl rfl (ws_iload rfl rfl rfl (ws_iv rfl rfl rfl ?_)))
        exact y_climbF g' (hf hlt x0 _ (yFull_le g' (by decide)))
      refine ws_aload_n rfl rfl rfl (ws_geti rfl rfl rfl rfl (ws_iload rfl rfl rfl (ws_i rfl ⟨fun _ => mv_fuel (n := 40) (by decide) fin, fun _ => ?_⟩)))
      exact ws_aload_n rfl rfl rfl (ws_getz rfl rfl rfl rfl (ws_i rfl ⟨fun _ => mv_fuel (n := 40) (by decide) fin, fun z => absurd z nf⟩))
    have cont : ∀ (y : Int32) (j : Nat) (En : tT) (a b : Int32), N' ≤ j → S0.2.1 17 j = 0 → yMk S0 (yMc S3 m' j k' v' a b) lv rm (m' + 1) (j + 1) → List.foldr (tJst st) En js0 = E0 → yV S0 (yMc S3 m' j k' v' a b) σ st (j + 1) En (nI j) → yWw P d (80 * (k + 1)) 218 [(7, .int (nI j)), (8, .int y), (6, .int c6), (5, .int c5), (4, .int (nI w)), (3, .int c3), (0, .ref 0), (1, .int c), (2, .int key)] (yMc S3 m' j k' v' a b) := by
      intro y j En a b hj hj0 hmk hfold2 hEn
      have mono : ∀ T0 c0, yV S0 S2 σ st N' T0 c0 → yV S0 (yMc S3 m' j k' v' a b) σ st (j + 1) T0 c0 := fun T0 c0 z => yV_mono hj0 hj (yV_ws z ws3)
      have rr : ∀ a1, (yMc S3 m' j k' v' a b).2.1 30 a1 = S2.2.1 30 a1 := fun a1 => by
        rw [yMc_r, if_neg (by omega), if_neg (by omega), if_neg (by omega), if_neg (by omega), r3]
      refine ih js0 En (nI j) _ (m' + 1) (j + 1) _ (by omega) (Or.inr ⟨y, rfl⟩) (by omega) (by omega) ⟨hmk, by omega, fun T0 c0 z => mono T0 c0 (h3 T0 c0 z), hEn⟩ ?_ hfold2 (fun a1 x1 hx => ?_) (fun a1 x1 hx => by rw [rr]; exact mono _ _ (hpy a1 x1 hx))
      · rw [yMc_f, if_neg (by decide), if_neg (by decide)]; exact f3
      · rw [rr]
        have hlt := (List.getElem?_eq_some_iff.mp hx).1
        obtain ⟨q, q1, q2, q3, q4, q5⟩ := hwy a1 x1 (by rw [List.getElem?_append_left hlt]; exact hx)
        exact ⟨q, q1, q2, q3, mono _ _ q4, q5⟩
    rw [List.foldr_append] at hfo
    simp only [List.foldr_cons, List.foldr_nil, tJst, ex] at hfo
    have body : ∀ y : Int32, y = (if x.1 then nI i else -nI i) → yWw P d (80 * (k + 1) + 40) 255 [(8, .int y), (7, .int t), (6, .int c6), (5, .int c5), (4, .int (nI w)), (3, .int c3), (0, .ref 0), (1, .int c), (2, .int key)] S3 := by
      intro y hy
      by_cases cx : x.1 = true
      · rw [if_pos cx] at hy hfo
        subst hy
        refine ws_iload rfl rfl rfl (ws_i rfl ⟨fun z => absurd z (nI_nle (by omega) (by omega)), fun _ => ?_⟩)
        refine ws_aload_n rfl rfl rfl (ws_aload_n rfl rfl rfl (ws_getr rfl rfl rfl (ws_iload rfl rfl rfl (ws_i rfl ⟨vi, ?_⟩))))
        refine ws_aload_n rfl rfl rfl (ws_getr rfl rfl rfl (ws_iload rfl rfl rfl (ws_i rfl ⟨vi, ?_⟩)))
        refine ws_aload_n rfl rfl rfl (ws_getr rfl rfl rfl (ws_iload rfl rfl rfl (ws_i rfl ⟨vi, ?_⟩)))
        rw [ei, ek, ev, e15]
        refine ws_iload rfl rfl rfl (ws_iv rfl rfl rfl ?_)
        refine y_cell mk3 (yV_ws i6 ws3) (yV_ws h4 ws3) (fun hlt S' g1 g2 g3 => ?_) (fun hle j hj hj0 hmk htr => ?_)
        · exact ws_goto (t := 320) rfl (by decide) (ws_istore rfl rfl rfl rfl (ws_goto (t := 218) rfl (by decide) (mv_fuel (n := 80) (by omega) (vfull S' _ 0 (by omega) g1))))
        · exact ws_goto (t := 320) rfl (by decide) (ws_istore rfl rfl rfl rfl (ws_goto (t := 218) rfl (by decide) (mv_fuel (n := 80 * (k + 1)) (by omega) (cont _ j _ _ _ hj hj0 hmk hfo htr))))
      · rw [if_neg cx] at hy hfo
        subst hy
        have ng := nI_neg_lt i1 (by omega)
        have vn : vp_in (- -nI i) 900 := by rw [ng.2]; exact vi
        have en : (- -nI i).toNatClampNeg = i := by rw [ng.2]; exact ei
        refine ws_iload rfl rfl rfl (ws_i rfl ⟨fun _ => ?_, fun z => absurd ng.1 z⟩)
        refine ws_aload_n rfl rfl rfl (ws_aload_n rfl rfl rfl (ws_getr rfl rfl rfl (ws_iload rfl rfl rfl (ws_ineg rfl rfl (ws_i rfl ⟨vn, ?_⟩)))))
        refine ws_aload_n rfl rfl rfl (ws_getr rfl rfl rfl (ws_iload rfl rfl rfl (ws_ineg rfl rfl (ws_i rfl ⟨vn, ?_⟩))))
        refine ws_iload rfl rfl rfl ?_
        refine ws_aload_n rfl rfl rfl (ws_getr rfl rfl rfl (ws_iload rfl rfl rfl (ws_ineg rfl rfl (ws_i rfl ⟨vn, ?_⟩))))
        rw [en, ek, ev, e16]
        refine ws_iv rfl rfl rfl ?_
        refine y_cell mk3 (yV_ws h4 ws3) (yV_ws i7 ws3) (fun hlt S' g1 g2 g3 => ?_) (fun hle j hj hj0 hmk htr => ?_)
        · exact ws_istore rfl rfl rfl rfl (ws_goto (t := 218) rfl (by decide) (mv_fuel (n := 80) (by omega) (vfull S' _ 0 (by omega) g1)))
        · exact ws_istore rfl rfl rfl rfl (ws_goto (t := 218) rfl (by decide) (mv_fuel (n := 80 * (k + 1)) (by omega) (cont _ j _ _ _ hj hj0 hmk hfo htr)))
    have go : ∀ l1 : List (Nat × Value), mv_at 0 l1 = some (.ref 0) → mv_at 4 l1 = some (.int (nI w)) → (∀ y, mv_sv 8 (.int y) l1 = [(8, .int y), (7, .int t), (6, .int c6), (5, .int c5), (4, .int (nI w)), (3, .int c3), (0, .ref 0), (1, .int c), (2, .int key)]) → yWw P d (80 * (k + 1) + 40 + 30) 218 l1 S2 := by
      intro l1 a0 a4 b8
      refine ws_aload_n rfl a0 rfl (ws_geti rfl rfl rfl rfl (ws_iload rfl a4 rfl (ws_i rfl ⟨fun z => absurd z nle, fun _ => ?_⟩)))
      refine ws_aload_n rfl a0 rfl (ws_getz rfl rfl rfl rfl (ws_i rfl ⟨fun z => absurd full0 z, fun _ => ?_⟩))
      refine ws_aload_n rfl a0 rfl (ws_dup_r rfl rfl (ws_geti rfl rfl rfl rfl (ws_iconst (x := 1) rfl rfl rfl (ws_isub rfl rfl rfl (ws_puti rfl rfl rfl ?_)))))
      rw [← hS3]
      refine ws_aload_n rfl a0 rfl (ws_getr rfl rfl rfl (ws_aload_n rfl a0 rfl (ws_geti rfl rfl rfl rfl (ws_i rfl ⟨vw, ?_⟩))))
      exact ws_istore rfl rfl (b8 _) rfl (mv_fuel (n := 80 * (k + 1) + 40) (by omega) (body _ ed))
    refine mv_fuel (n := 80 * (k + 1) + 40 + 30) (by omega) ?_
    rcases hl with rfl | ⟨z, rfl⟩
    · exact go _ rfl rfl (fun _ => rfl)
    · exact go _ rfl rfl (fun _ => rfl)
end YM

/-! THE REFERENCE CLIMBS: the way up with a new tree below -/
def tClm (s : Nat) (k : Int32) (x t : tT) : tT :=
  match x with
  | .leaf => t
  | .inner _ k' v' l r => if k < k' then .inner s k' v' t r else .inner s k' v' l t
section YM
variable {d : Nat} {P : Option Value → mv_S → Prop} {S0 S : mv_S} {σ : Nat → Nat} {st lv rm m N : Nat}
/-- what the making of one tree leaves -/
def yMt (S0 S S' : mv_S) (σ : Nat → Nat) (st lv rm m N N' : Nat) (T : tT) (c : Int32) : Prop := yMk S0 S' lv rm m N' ∧ N ≤ N' ∧ (∀ T0 c0, yV S0 S σ st N T0 c0 → yV S0 S' σ st N' T0 c0) ∧ yV S0 S' σ st N' T c
abbrev yCb (P : Option Value → mv_S → Prop) (d F pc : Nat) (l : List (Nat × Value)) (S : mv_S) : Prop := mv_wp layY sysY tT11 6 (some .int) mX11_climb.2.2.2.2.2.2.2 (mv_big layY sysY (d + 1)) P F pc l [] S
set_option maxHeartbeats 1000000 in
theorem yClimb_up {key e : Int32} {G : tT} {M : Nat} (hM : M ≤ 2000)
    (hf : rm < lv + M → ∀ x S', yFull S0 S' lv rm 401 → P (some (.int x)) S')
    (ho : lv + M ≤ rm → ∀ S' N' c', yMt S0 S S' σ st lv rm M N N' G c' → P (some (.int c')) S') : ∀ (k : Nat) (qs : List tT) (E : tT) (t : Int32) (S2 : mv_S) (m' N' : Nat) (l : List (Nat × Value)), k = qs.length → (l = [(3, .int t), (0, .ref 0), (1, .int key), (2, .int e)] ∨ ∃ y z, l = [(3, .int t), (5, .int y), (4, .int z), (0, .ref 0), (1, .int key), (2, .int e)]) → m' + qs.length = M → qs.length ≤ 899 → yMt S0 S S2 σ st lv rm m' N N' E t → S2.1 0 57 = nI qs.length → List.foldr (tClm st key) E qs = G → (∀ x, x ∈ qs → ∃ t k' v' l r, x = .inner t k' v' l r ∧ ¬ k' = key) → (∀ i x, qs[i]? = some x → yV S0 S2 σ st N' x (S2.2.1 30 i)) → yCb P d (80 * (k + 1)) 2 l S2 := by
  intro k
  induction k with
  | zero =>
    intro qs E t S2 m' N' l hk hl hm hw2 hs h6 hfo hin hwy
    have hq : qs = [] := List.length_eq_zero_iff.mp hk.symm
    subst hq
    simp only [List.length_nil, Nat.add_zero, List.foldr_nil] at hm h6 hfo
    subst hfo
    have hP := ho (by rw [← hm]; exact hs.1.2.2.2.2.2.2.1) S2 N' t (by rw [← hm]; exact hs)
    have le : S2.1 0 57 ≤ 0 := by rw [h6]; decide
    rcases hl with rfl | ⟨y, z, rfl⟩
    · exact ⟨fun _ => hP, fun z => absurd le z⟩
    · exact ⟨fun _ => hP, fun z => absurd le z⟩
  | succ k ih =>
    intro qs E t S2 m' N' l hk hl hm hw2 hs h6 hfo hin hwy
    obtain ⟨qs0, x, rfl⟩ : ∃ q0 x, qs = q0 ++ [x] := by
      have hne : qs ≠ [] := by intro z; rw [z] at hk; simp at hk
      exact ⟨qs.dropLast, qs.getLast hne, (List.dropLast_concat_getLast hne).symm⟩
    obtain ⟨h1, h2, h3, h4⟩ := hs
    have eq0 : (qs0 ++ [x]).length = qs0.length + 1 := by simp
    rw [eq0] at hk hm hw2 h6
    obtain ⟨tx, k', v', xl, xr, rfl, hne⟩ := hin x (by simp)
    have hx : yV S0 S2 σ st N' (.inner tx k' v' xl xr) (S2.2.1 30 qs0.length) := hwy qs0.length _ (by simp)
    obtain ⟨i, i1, i2, i3, i4, i5, i6, i7⟩ := yV_cells hx
    have full0 : S2.1 0 34 = 0 := h1.2.2.2.2.1
    have nle : ¬ S2.1 0 57 ≤ 0 := by rw [h6]; exact nI_nle (by omega) (by omega)
    obtain ⟨S3, hS3⟩ : ∃ S3, S3 = mv_pf S2 0 57 (S2.1 0 57 - 1) := ⟨_, rfl⟩
    have f3 : S3.1 0 57 = nI qs0.length := by rw [hS3, pf_get, if_pos ⟨rfl, rfl⟩, h6, nI_pred]
    have ws3 : yWs S2 S3 := by rw [hS3]; exact yWs_pf (Or.inl rfl)
    have mk3 := yMk_ws h1 ws3
    have r3 : ∀ o a, S3.2.1 o a = S2.2.1 o a := fun o a => by rw [hS3]; rfl
    have vw : vp_in (S3.1 0 57) 900 := by rw [f3]; exact vp_in_nI (by omega) (by decide)
    have ed : S3.2.1 30 (S3.1 0 57).toNatClampNeg = nI i := by rw [f3, nI_clamp (by omega), r3]; exact i3
    have ei : (nI i).toNatClampNeg = i := nI_clamp (by omega)
    have vi : vp_in (nI i) 900 := vp_in_nI (by omega) (by decide)
    have ek : S3.2.1 13 i = k' := by rw [r3]; exact i4
    have ev : S3.2.1 14 i = v' := by rw [r3]; exact i5
    have e15 : S3.2.1 15 i = S2.2.1 15 i := r3 15 i
    have e16 : S3.2.1 16 i = S2.2.1 16 i := r3 16 i
    have vfull : ∀ S' y x0, rm < lv + M → yFull S0 S' lv rm 401 → yCb P d 80 2 [(3, .int x0), (5, .int y), (4, .int (nI i)), (0, .ref 0), (1, .int key), (2, .int e)] S' := by
      intro S' y x0 hlt g
      have nf : ¬ S'.1 0 34 = 0 := by rw [g.2.2.2.2.1]; decide
      exact ⟨fun _ => hf hlt x0 S' g, fun _ => ⟨fun _ => hf hlt x0 S' g, fun z => absurd z nf⟩⟩
    have cont : ∀ (y : Int32) (j : Nat) (En : tT) (a b : Int32), N' ≤ j → S0.2.1 17 j = 0 → yMk S0 (yMc S3 m' j k' v' a b) lv rm (m' + 1) (j + 1) → List.foldr (tClm st key) En qs0 = G → yV S0 (yMc S3 m' j k' v' a b) σ st (j + 1) En (nI j) → yCb P d (80 * (k + 1)) 2 [(3, .int (nI j)), (5, .int y), (4, .int (nI i)), (0, .ref 0), (1, .int key), (2, .int e)] (yMc S3 m' j k' v' a b) := by
      intro y j En a b hj hj0 hmk hfold hEn
      have mono : ∀ T0 c0, yV S0 S2 σ st N' T0 c0 → yV S0 (yMc S3 m' j k' v' a b) σ st (j + 1) T0 c0 := fun T0 c0 z => yV_mono hj0 hj (yV_ws z ws3)
      have rr : ∀ a1, (yMc S3 m' j k' v' a b).2.1 30 a1 = S2.2.1 30 a1 := fun a1 => by
        rw [yMc_r, if_neg (by omega), if_neg (by omega), if_neg (by omega), if_neg (by omega), r3]
      refine ih qs0 En (nI j) _ (m' + 1) (j + 1) _ (by omega) (Or.inr ⟨y, nI i, rfl⟩) (by omega) (by omega) ⟨hmk, by omega, fun T0 c0 z => mono T0 c0 (h3 T0 c0 z), hEn⟩ ?_ hfold (fun x hx => hin x (by simp [hx])) (fun a1 x hx => ?_)
      · rw [yMc_f, if_neg (by decide), if_neg (by decide)]; exact f3
      · rw [rr]
        have hlt := (List.getElem?_eq_some_iff.mp hx).1
        exact mono _ _ (hwy a1 x (by rw [List.getElem?_append_left hlt]; exact hx))
    rw [List.foldr_append] at hfo
    simp only [List.foldr_cons, List.foldr_nil, tClm] at hfo
    -- the cell, from the place where left is known
    have body : ∀ y : Int32, (key < k' → y = 1) → (¬ key < k' → y = 0) → yCb P d (80 * (k + 1) + 40) 55 [(5, .int y), (4, .int (nI i)), (3, .int t), (0, .ref 0), (1, .int key), (2, .int e)] S3 := by
      intro y hy1 hy0
      refine ws_aload_n rfl rfl rfl (ws_aload_n rfl rfl rfl (ws_getr rfl rfl rfl (ws_iload rfl rfl rfl (ws_i rfl ⟨vi, ?_⟩))))
      refine ws_aload_n rfl rfl rfl (ws_getr rfl rfl rfl (ws_iload rfl rfl rfl (ws_i rfl ⟨vi, ?_⟩)))
      rw [ei, ek, ev]
      by_cases ck : key < k'
      · obtain rfl := hy1 ck
        rw [if_pos ck] at hfo
        refine ws_iload rfl rfl rfl (ws_i rfl ⟨fun z => absurd (show (1 : Int32) = 0 from z) (by decide), fun _ => ?_⟩)
        refine ws_iload_n rfl rfl rfl (ws_goto (t := 86) rfl (by decide) ?_)
        refine ws_iload rfl rfl rfl (ws_i rfl ⟨fun z => absurd (show (1 : Int32) = 0 from z) (by decide), fun _ => ?_⟩)
        refine ws_aload_n rfl rfl rfl (ws_getr rfl rfl rfl (ws_iload rfl rfl rfl (ws_i rfl ⟨vi, ?_⟩)))
        rw [ei, e16]
        refine ws_goto (t := 102) rfl (by decide) (ws_iv rfl rfl rfl ?_)
        refine y_cell mk3 (yV_ws h4 ws3) (yV_ws i7 ws3) (fun hlt S' g1 g2 g3 => ?_) (fun hle j hj hj0 hmk htr => ?_)
        · exact ws_istore_n rfl rfl rfl rfl (ws_goto (t := 2) rfl (by decide) (mv_fuel (n := 80) (by omega) (vfull S' 1 0 (by omega) g1)))
        · exact ws_istore_n rfl rfl rfl rfl (ws_goto (t := 2) rfl (by decide) (mv_fuel (n := 80 * (k + 1)) (by omega) (cont 1 j _ _ _ hj hj0 hmk hfo htr)))
      · obtain rfl := hy0 ck
        rw [if_neg ck] at hfo
        refine ws_iload rfl rfl rfl (ws_i rfl ⟨fun _ => ?_, fun z => absurd rfl z⟩)
        refine ws_aload_n rfl rfl rfl (ws_getr rfl rfl rfl (ws_iload rfl rfl rfl (ws_i rfl ⟨vi, ?_⟩)))
        rw [ei, e15]
        refine ws_iload rfl rfl rfl (ws_i rfl ⟨fun _ => ?_, fun z => absurd rfl z⟩)
        refine ws_iload_n rfl rfl rfl (ws_iv rfl rfl rfl ?_)
        refine y_cell mk3 (yV_ws i6 ws3) (yV_ws h4 ws3) (fun hlt S' g1 g2 g3 => ?_) (fun hle j hj hj0 hmk htr => ?_)
        · exact ws_istore_n rfl rfl rfl rfl (ws_goto (t := 2) rfl (by decide) (mv_fuel (n := 80) (by omega) (vfull S' 0 0 (by omega) g1)))
        · exact ws_istore_n rfl rfl rfl rfl (ws_goto (t := 2) rfl (by decide) (mv_fuel (n := 80 * (k + 1)) (by omega) (cont 0 j _ _ _ hj hj0 hmk hfo htr)))
    have go : ∀ l1 : List (Nat × Value), mv_at 0 l1 = some (.ref 0) → mv_at 1 l1 = some (.int key) → mv_at 0 (mv_sv 4 (.int (nI i)) l1) = some (.ref 0) → mv_at 1 (mv_sv 4 (.int (nI i)) l1) = some (.int key) → mv_at 4 (mv_sv 4 (.int (nI i)) l1) = some (.int (nI i)) → (∀ y, mv_sv 5 (.int y) (mv_sv 4 (.int (nI i)) l1) = [(5, .int y), (4, .int (nI i)), (3, .int t), (0, .ref 0), (1, .int key), (2, .int e)]) → yCb P d (80 * (k + 1) + 40 + 38) 2 l1 S2 := by
      intro l1 a0 a1 b0 b1 b4 b5
      refine ws_aload_n rfl a0 rfl (ws_geti rfl rfl rfl rfl (ws_i rfl ⟨fun z => absurd z nle, fun _ => ?_⟩))
      refine ws_aload_n rfl a0 rfl (ws_getz rfl rfl rfl rfl (ws_i rfl ⟨fun z => absurd full0 z, fun _ => ?_⟩))
      refine ws_aload_n rfl a0 rfl (ws_dup_r rfl rfl (ws_geti rfl rfl rfl rfl (ws_iconst (x := 1) rfl rfl rfl (ws_isub rfl rfl rfl (ws_puti rfl rfl rfl ?_)))))
      rw [← hS3]
      refine ws_aload_n rfl a0 rfl (ws_getr rfl rfl rfl (ws_aload_n rfl a0 rfl (ws_geti rfl rfl rfl rfl (ws_i rfl ⟨vw, ?_⟩))))
      rw [ed]
      refine ws_istore rfl rfl rfl rfl ?_
      refine ws_iload_n rfl b1 rfl (ws_aload_n rfl b0 rfl (ws_getr rfl rfl rfl (ws_iload rfl b4 rfl (ws_i rfl ⟨vi, ?_⟩))))
      rw [ei, ek]
      by_cases ck : key < k'
      · refine ws_i rfl ⟨fun z => absurd ck (Int32.not_lt.mpr z), fun _ => ?_⟩
        exact ws_iconst (x := 1) rfl rfl rfl (ws_goto (t := 53) rfl (by decide) (ws_istore rfl rfl (b5 1) rfl (mv_fuel (n := 80 * (k + 1) + 40) (by omega) (body 1 (fun _ => rfl) (fun z => absurd ck z)))))
      · refine ws_i rfl ⟨fun _ => ?_, fun z => absurd (Int32.not_lt.mp ck) z⟩
        exact ws_iconst (x := 0) rfl rfl rfl (ws_istore rfl rfl (b5 0) rfl (mv_fuel (n := 80 * (k + 1) + 40) (by omega) (body 0 (fun z => absurd z ck) (fun _ => rfl))))
    refine mv_fuel (n := 80 * (k + 1) + 40 + 38) (by omega) ?_
    rcases hl with rfl | ⟨y, z, rfl⟩
    · exact go _ rfl rfl rfl rfl rfl (fun _ => rfl)
    · exact go _ rfl rfl rfl rfl rfl (fun _ => rfl)
theorem y_climb {key e : Int32} {E : tT} {qs : List tT} (h : yMk S0 S lv rm m N) (hE : yV S0 S σ st N E e) (h57 : S.1 0 57 = nI qs.length) (hq : qs.length ≤ 899) (hin : ∀ x, x ∈ qs → ∃ t k' v' l r, x = .inner t k' v' l r ∧ ¬ k' = key) (hwy : ∀ i x, qs[i]? = some x → yV S0 S σ st N x (S.2.1 30 i))
    (hf : rm < lv + (m + qs.length) → ∀ x S', yFull S0 S' lv rm 401 → P (some (.int x)) S')
    (ho : lv + (m + qs.length) ≤ rm → ∀ S' N' c', yMt S0 S S' σ st lv rm (m + qs.length) N N' (List.foldr (tClm st key) E qs) c' → P (some (.int c')) S') : mv_big layY sysY (d + 2) 35 [.ref 0, .int key, .int e] S P := by
  have hb : m ≤ 400 := by have := h.2.2.2.2.2.2.1; have := h.2.2.2.1; omega
  refine ⟨80 * (qs.length + 1) + 2, ?_⟩
  refine ws_iload_n rfl rfl rfl (ws_istore_n rfl rfl rfl rfl ?_)
  exact yClimb_up (G := List.foldr (tClm st key) E qs) (M := m + qs.length) (by omega) hf ho qs.length qs E e S m N _ rfl (Or.inl rfl) rfl hq ⟨h, Nat.le_refl _, fun _ _ z => z, hE⟩ h57 rfl hin hwy
theorem y_climbF {key e : Int32} {bd : Nat} (h : yFull S0 S lv rm bd) (hP : P (some (.int e)) S) : mv_big layY sysY (d + 1) 35 [.ref 0, .int key, .int e] S P := by
  have nf : ¬ S.1 0 34 = 0 := by rw [h.2.2.2.2.1]; decide
  exact ⟨60, fun _ => hP, fun _ => ⟨fun _ => hP, fun z => absurd z nf⟩⟩
end YM

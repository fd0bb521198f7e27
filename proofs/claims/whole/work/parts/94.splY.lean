/-! THE REFERENCE SPLITS A TREE -/
def tPth (k : Int32) : tT → List tT
  | .leaf => []
  | .inner t k' v' l r => if k' = k then [] else .inner t k' v' l r :: (if k < k' then tPth k l else tPth k r)
def tL : tT → tT
  | .leaf => .leaf
  | .inner _ _ _ l _ => l
def tR : tT → tT
  | .leaf => .leaf
  | .inner _ _ _ _ r => r
/-- one step up with what was split off below -/
def tStp (s : Nat) (k : Int32) (x : tT) (p : tT × tT) : tT × tT :=
  match x with
  | .leaf => p
  | .inner _ k' v' l r => if k < k' then (p.1, .inner s k' v' p.2 r) else (.inner s k' v' l p.1, p.2)
set_option maxHeartbeats 400000 in
theorem tPth_fold (s : Nat) (k : Int32) : ∀ T : tT, List.foldr (tStp s k) (tL (tFnd k T), tR (tFnd k T)) (tPth k T) = (tLo s k T, tHi s k T)
  | .leaf => rfl
  | .inner t k' v' l r => by
    unfold tPth tFnd tLo tHi
    by_cases e : k' = k
    · rw [if_pos e, if_pos e, if_pos e, if_pos e]; rfl
    · rw [if_neg e, if_neg e, if_neg e, if_neg e]
      by_cases c : k < k'
      · rw [if_pos c, if_pos c, if_pos c, if_pos c, List.foldr_cons, tPth_fold s k l]
        simp only [tStp]
        rw [if_pos c]
      · rw [if_neg c, if_neg c, if_neg c, if_neg c, List.foldr_cons, tPth_fold s k r]
        simp only [tStp]
        rw [if_neg c]
set_option maxHeartbeats 400000 in
theorem tPth_len (k : Int32) : ∀ T : tT, (tPth k T).length = tSpN k T
  | .leaf => rfl
  | .inner t k' v' l r => by
    unfold tPth tSpN
    by_cases e : k' = k
    · rw [if_pos e, if_pos e]; rfl
    · rw [if_neg e, if_neg e]
      by_cases c : k < k'
      · rw [if_pos c, if_pos c, List.length_cons, tPth_len k l]
      · rw [if_neg c, if_neg c, List.length_cons, tPth_len k r]
def yWs (S S' : mv_S) : Prop := (∀ o f, (o = 0 → f ≠ 57 ∧ f ≠ 58 ∧ f ≠ 59) → S'.1 o f = S.1 o f) ∧ (∀ o i, ¬ (30 ≤ o ∧ o ≤ 36) → S'.2.1 o i = S.2.1 o i) ∧ S'.2.2 = S.2.2
set_option maxHeartbeats 400000 in
theorem yWs_refl (S : mv_S) : yWs S S := ⟨fun _ _ _ => rfl, fun _ _ _ => rfl, rfl⟩
set_option maxHeartbeats 400000 in
theorem yWs_trans {S T U : mv_S} (h : yWs S T) (g : yWs T U) : yWs S U := ⟨fun o f a => (g.1 o f a).trans (h.1 o f a), fun o i a => (g.2.1 o i a).trans (h.2.1 o i a), g.2.2.trans h.2.2⟩
set_option maxHeartbeats 400000 in
theorem yWs_pf {S : mv_S} {k : Nat} {x : Int32} (hk : k = 57 ∨ k = 58 ∨ k = 59) : yWs S (mv_pf S 0 k x) := ⟨fun o f a => by rw [pf_get, if_neg (fun z => by have := a z.1; omega)], fun _ _ _ => rfl, rfl⟩
set_option maxHeartbeats 400000 in
theorem yWs_pr {S : mv_S} {q k : Nat} {x : Int32} (hk : 30 ≤ q ∧ q ≤ 36) : yWs S (mv_pr S q k x) := ⟨fun _ _ _ => rfl, fun o i a => by rw [pr_get, if_neg (by omega)], rfl⟩
section YM
variable {d : Nat} {P : Option Value → mv_S → Prop} {S0 S S' : mv_S} {σ : Nat → Nat} {st lv rm m N bd : Nat}
set_option maxHeartbeats 400000 in
theorem yFm_ws (h : yFm S0 S) (g : yWs S S') : yFm S0 S' := ⟨fun o f a => by rw [g.1 o f (fun z => by have := a z; omega)]; exact h.1 o f a, fun o i a b => by rw [g.2.1 o i b]; exact h.2.1 o i a b, g.2.2.trans h.2.2.1, fun i o a b c => by rw [g.2.1 o i (by omega)]; exact h.2.2.2 i o a b c⟩
set_option maxHeartbeats 400000 in
theorem yMk_ws (h : yMk S0 S lv rm m N) (g : yWs S S') : yMk S0 S' lv rm m N := by
  obtain ⟨h1, h2, h3, h4, h5, h6, h7, h8, h9⟩ := h
  exact ⟨yFm_ws h1 g, h2, h3, h4, by rw [g.1 0 34 (by decide)]; exact h5, by rw [g.1 0 32 (by decide)]; exact h6, h7, by rw [g.1 0 31 (by decide)]; exact h8, h9⟩
set_option maxHeartbeats 400000 in
theorem yFull_ws (h : yFull S0 S lv rm bd) (g : yWs S S') : yFull S0 S' lv rm bd := by
  obtain ⟨h1, h2, h3, h4, h5, k, h6, h7⟩ := h
  exact ⟨yFm_ws h1 g, h2, h3, h4, by rw [g.1 0 34 (by decide)]; exact h5, k, by rw [g.1 0 32 (by decide)]; exact h6, h7⟩
set_option maxHeartbeats 400000 in
theorem yV_ws {T : tT} {c : Int32} (h : yV S0 S σ st N T c) (g : yWs S S') : yV S0 S' σ st N T c := by
  have e : ∀ o, ¬ (30 ≤ o ∧ o ≤ 36) → S'.2.1 o = S.2.1 o := fun o ho => funext (fun i => g.2.1 o i ho)
  unfold yV yTr
  rw [e 13 (by decide), e 14 (by decide), e 15 (by decide), e 16 (by decide)]
  exact h
/-- the cells of a list of trees stand in the row way from w on -/
def yWay (S0 S S' : mv_S) (σ : Nat → Nat) (st N w : Nat) (ps : List tT) : Prop := ∀ i x, ps[i]? = some x → yV S0 S σ st N x (S'.2.1 30 (w + i))
set_option maxHeartbeats 400000 in
theorem y_cellF {k v a b : Int32} (h : yFull S0 S lv rm bd) (hb : bd ≤ 2000) (hl : lv ≤ 900)
    (hf : ∀ S', yFull S0 S' lv rm (bd + 1) → (∀ o i, S'.2.1 o i = S.2.1 o i) → (∀ f, f ≠ 32 → f ≠ 34 → S'.1 0 f = S.1 0 f) → P (some (.int 0)) S') : mv_big layY sysY (d + 1) 33 [.ref 0, .int k, .int v, .int a, .int b] S P := by
  obtain ⟨h1, h2, h3, h4, h5, m, h6, h7, h8⟩ := h
  have e30 : S.1 0 30 = nI lv := by rw [h1.1 0 30 (by decide)]; exact h2
  have e36 : S.1 0 36 = nI rm := by rw [h1.1 0 36 (by decide)]; exact h3
  obtain ⟨S1, hS1⟩ : ∃ S1, S1 = mv_pf S 0 32 (S.1 0 32 + 1) := ⟨_, rfl⟩
  have f1 : ∀ o f, S1.1 o f = if o = 0 ∧ f = 32 then nI (m + 1) else S.1 o f := fun o f => by rw [hS1, pf_get, h6, nI_1]
  have es : S1.1 0 30 + S1.1 0 32 = nI (lv + (m + 1)) := by
    rw [f1, f1, if_neg (by decide), if_pos ⟨rfl, rfl⟩, e30, nI_add]
  have er : S1.1 0 36 = nI rm := by rw [f1, if_neg (by decide)]; exact e36
  refine ⟨60, ?_⟩
  refine ws_aload_n rfl rfl rfl (ws_dup_r rfl rfl (ws_geti rfl rfl rfl rfl (ws_iconst (x := 1) rfl rfl rfl (ws_iadd rfl rfl rfl (ws_puti rfl rfl rfl ?_)))))
  rw [← hS1]
  refine ws_aload_n rfl rfl rfl (ws_geti rfl rfl rfl rfl (ws_aload_n rfl rfl rfl (ws_geti rfl rfl rfl rfl (ws_iadd rfl es rfl (ws_aload_n rfl rfl rfl (ws_geti rfl rfl er rfl (ws_i rfl ⟨fun z => absurd ((nI_leI (by omega) (by omega)).mp z) (by omega), fun _ => ?_⟩)))))))
  refine ws_aload_n rfl rfl rfl (ws_iconst (x := 1) rfl rfl rfl (ws_putz rfl rfl (Or.inr rfl) rfl ?_))
  have f2 : ∀ o f, (mv_pf S1 0 34 1).1 o f = if o = 0 ∧ f = 34 then 1 else if o = 0 ∧ f = 32 then nI (m + 1) else S.1 o f := fun o f => by rw [pf_get, f1]
  refine ws_aload_n rfl rfl rfl (ws_getz rfl rfl rfl rfl (ws_i rfl ⟨fun z => ?_, fun _ => ?_⟩))
  · have z : (mv_pf S1 0 34 1).1 0 34 = 0 := z
    rw [pf_get, if_pos ⟨rfl, rfl⟩] at z
    exact absurd z (by decide)
  · refine hf (mv_pf S1 0 34 1) ⟨⟨fun o f z => ?_, fun o i z z2 => ?_, ?_, fun i o z z2 z3 => ?_⟩, h2, h3, h4, by rw [pf_get, if_pos ⟨rfl, rfl⟩], m + 1, by rw [f2, if_neg (by decide), if_pos ⟨rfl, rfl⟩], by omega, by omega⟩ (fun o i => by rw [hS1]; rfl) (fun f z1 z2 => by rw [f2, if_neg (fun y => z2 y.2), if_neg (fun y => z1 y.2)])
    · rw [f2, if_neg (fun y => by have := z y.1; omega), if_neg (fun y => by have := z y.1; omega)]; exact h1.1 o f z
    · rw [hS1]; exact h1.2.1 o i z z2
    · rw [hS1]; exact h1.2.2.1
    · rw [hS1]; exact h1.2.2.2 i o z z2 z3
set_option maxHeartbeats 400000 in
theorem yWay_push {w : Nat} {ps : List tT} {x : tT} {c : Int32} (h : yWay S0 S S' σ st N w ps) (hx : yV S0 S σ st N x c) : yWay S0 S (mv_pf (mv_pr S' 30 (w + ps.length) c) 0 57 (nI (w + ps.length + 1))) σ st N w (ps ++ [x]) := by
  intro i y hy
  show yV S0 S σ st N y ((mv_pr S' 30 (w + ps.length) c).2.1 30 (w + i))
  rw [pr_get]
  by_cases hi : i < ps.length
  · rw [List.getElem?_append_left hi] at hy
    rw [if_neg (by omega)]
    exact h i y hy
  · rw [List.getElem?_append_right (by omega)] at hy
    obtain ⟨z, e⟩ := List.getElem?_eq_some_iff.mp hy
    simp at z
    have hi2 : i = ps.length := by omega
    subst hi2
    rw [if_pos ⟨rfl, rfl⟩]
    simp at e
    rw [← e]; exact hx
end YM

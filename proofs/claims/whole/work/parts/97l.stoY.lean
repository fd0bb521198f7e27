/-! THE REFERENCE'S STORE of what both hold -/
def yFs (f : Nat) : Prop := (30 ≤ f ∧ f ≤ 34) ∨ f = 43 ∨ f = 48 ∨ f = 50 ∨ f = 51 ∨ f = 53 ∨ (57 ≤ f ∧ f ≤ 59)
def yO (T0 T : mv_S) : Prop := (∀ o f, ¬ (o = 0 ∧ yFs f) → T.1 o f = T0.1 o f) ∧ (∀ o i, o < 13 → T.2.1 o i = T0.2.1 o i)
def yGo (T : mv_S) (p : Nat) : Option Int32 → Prop
  | none => T.2.1 27 p = 0
  | some k => T.2.1 27 p = 1 ∧ T.2.1 28 p = k
def yAs (T : mv_S) (σ : Nat → Nat) : List aI → Prop
  | [] => True
  | .inl x :: R => (T.2.1 25 R.length = 0 ∧ T.2.1 26 R.length = x) ∧ yAs T σ R
  | .inr m :: R => (T.2.1 25 R.length = 1 ∧ yTr T σ m.1 (T.2.1 26 R.length) ∧ yGo T R.length m.2) ∧ yAs T σ R
def yBs (T : mv_S) : List (List aI) → List Nat → Prop
  | [], [] => True
  | K :: R, r :: rs => (T.2.1 24 (R.length + 1) = nI (K ++ R.flatten).length ∧ T.2.1 23 (R.length + 1) = nI r) ∧ yBs T R rs
  | _, _ => False
def yZr (T : mv_S) : List aI → tT → Int32 → Prop
  | [], _, _ => False
  | .inl _ :: R, U, c => yZr T R U c
  | .inr m :: R, U, c => (U = m.1 ∧ c = T.2.1 26 R.length) ∨ yZr T R U c
def yRt (T : mv_S) (A : List aI) (n : Nat) (mp : Nat → tT) (U : tT) (c : Int32) : Prop := (∃ i, i < 4 ∧ U = mp i ∧ c = T.2.1 20 i) ∨ (∃ k, k < 2 + 2 * n ∧ U = mp (4 + k) ∧ c = T.2.1 22 k) ∨ yZr T A U c
/-- the word at q, marked or not -/
def yW (T : mv_S) (q : Nat) : Int32 := if T.1 0 55 = 0 then T.2.1 2 q else T.2.1 3 q
def yA (T0 T : mv_S) (σ : Nat → Nat) (sd : Int32) (rm pc : Nat) (e : Int32) (rets : List Nat) (K : List aI) (Ks : List (List aI)) (vs : Nat → Int32) (mp : Nat → tT) (told : List Int32) (most : Nat) : Prop :=
  yO T0 T ∧ (T0.1 0 35 = sd ∧ T0.1 0 36 = nI rm) ∧ (T.1 0 51 = nI pc ∧ T.1 0 53 = e) ∧ (T.1 0 48 = nI (K ++ Ks.flatten).length ∧ yAs T σ (K ++ Ks.flatten)) ∧ (T.1 0 43 = nI Ks.length ∧ Ks.length ≤ 24 ∧ yBs T Ks rets) ∧ ((∀ i, i < 8 → T.2.1 19 i = vs i) ∧ (∀ k, k < 6 + 6 * Ks.length → T.2.1 21 k = vs (8 + k))) ∧ ((∀ i, i < 4 → yTr T σ (mp i) (T.2.1 20 i)) ∧ (∀ k, k < 2 + 2 * Ks.length → yTr T σ (mp (4 + k)) (T.2.1 22 k))) ∧ (T.1 0 50 = nI told.length ∧ told.length ≤ 300 ∧ ∀ p x, told[p]? = some x → T.2.1 29 p = x) ∧ T.1 0 33 = nI most ∧ hInj (T.2.1 13) (T.2.1 15) (T.2.1 16) σ (yRt T (K ++ Ks.flatten) Ks.length mp)
theorem yO_trans {T0 T T' : mv_S} (h : yO T0 T) (g : yO T T') : yO T0 T' := ⟨fun o f a => (g.1 o f a).trans (h.1 o f a), fun o i a => (g.2 o i a).trans (h.2 o i a)⟩
def yHs (T T' : mv_S) : Prop := ∀ o i, 13 ≤ o → o ≤ 16 → T'.2.1 o i = T.2.1 o i
section YA
variable {T0 T T' : mv_S} {σ : Nat → Nat} {sd : Int32} {rm pc pc' : Nat} {e e' : Int32} {rets : List Nat} {K : List aI} {Ks : List (List aI)} {vs : Nat → Int32} {mp : Nat → tT} {told : List Int32} {most : Nat}
theorem yTr_hs (hs : yHs T T') {U : tT} {c : Int32} (h : yTr T σ U c) : yTr T' σ U c := by
  have e13 : T'.2.1 13 = T.2.1 13 := funext (fun i => hs 13 i (by decide) (by decide))
  have e14 : T'.2.1 14 = T.2.1 14 := funext (fun i => hs 14 i (by decide) (by decide))
  have e15 : T'.2.1 15 = T.2.1 15 := funext (fun i => hs 15 i (by decide) (by decide))
  have e16 : T'.2.1 16 = T.2.1 16 := funext (fun i => hs 16 i (by decide) (by decide))
  show hTr (T'.2.1 13) (T'.2.1 14) (T'.2.1 15) (T'.2.1 16) σ 899 U c
  rw [e13, e14, e15, e16]; exact h
theorem yGo_go {p : Nat} (g : ∀ o, 27 ≤ o → o ≤ 28 → T'.2.1 o p = T.2.1 o p) : ∀ {q : Option Int32}, yGo T p q → yGo T' p q
  | none, h => (g 27 (by decide) (by decide)).trans h
  | some k, h => ⟨(g 27 (by decide) (by decide)).trans h.1, (g 28 (by decide) (by decide)).trans h.2⟩
theorem yAs_go (hs : yHs T T') : ∀ {A : List aI}, (∀ p o, p < A.length → 25 ≤ o → o ≤ 28 → T'.2.1 o p = T.2.1 o p) → yAs T σ A → yAs T' σ A
  | [], _, _ => trivial
  | .inl x :: R, g, h => ⟨⟨(g R.length 25 (by simp) (by decide) (by decide)).trans h.1.1, (g R.length 26 (by simp) (by decide) (by decide)).trans h.1.2⟩, yAs_go hs (fun p o hp => g p o (by simp only [List.length_cons]; omega)) h.2⟩
  | .inr m :: R, g, h => ⟨⟨(g R.length 25 (by simp) (by decide) (by decide)).trans h.1.1, by rw [g R.length 26 (by simp) (by decide) (by decide)]; exact yTr_hs hs h.1.2.1, yGo_go (fun o a b => g R.length o (by simp) (by omega) b) h.1.2.2⟩, yAs_go hs (fun p o hp => g p o (by simp only [List.length_cons]; omega)) h.2⟩
theorem yBs_go (g : ∀ o i, 23 ≤ o → o ≤ 24 → T'.2.1 o i = T.2.1 o i) : ∀ {Ks : List (List aI)} {rets : List Nat}, yBs T Ks rets → yBs T' Ks rets
  | [], [], _ => trivial
  | K :: R, r :: rs, h => ⟨⟨(g 24 _ (by decide) (by decide)).trans h.1.1, (g 23 _ (by decide) (by decide)).trans h.1.2⟩, yBs_go g h.2⟩
  | [], _ :: _, h => h.elim
  | _ :: _, [], h => h.elim
theorem yZr_go : ∀ {A : List aI} {U : tT} {c : Int32}, (∀ p, p < A.length → T'.2.1 26 p = T.2.1 26 p) → yZr T' A U c → yZr T A U c
  | [], _, _, _, h => h
  | .inl _ :: R, _, _, g, h => yZr_go (A := R) (fun p hp => g p (by simp only [List.length_cons]; omega)) h
  | .inr m :: R, _, _, g, h => h.elim (fun z => Or.inl ⟨z.1, by rw [z.2]; exact g R.length (by simp)⟩) (fun z => Or.inr (yZr_go (fun p hp => g p (by simp only [List.length_cons]; omega)) z))
theorem yA_gen {K' : List aI} {Ks' : List (List aI)} {rets' : List Nat} {vs' : Nat → Int32} {mp' : Nat → tT} {told' : List Int32} {most' : Nat} (h : yA T0 T σ sd rm pc e rets K Ks vs mp told most) (o : yO T T') (hs : yHs T T') (p3 : T'.1 0 51 = nI pc' ∧ T'.1 0 53 = e') (p4 : T'.1 0 48 = nI (K' ++ Ks'.flatten).length ∧ yAs T' σ (K' ++ Ks'.flatten)) (p5 : T'.1 0 43 = nI Ks'.length ∧ Ks'.length ≤ 24 ∧ yBs T' Ks' rets') (p6 : (∀ i, i < 8 → T'.2.1 19 i = vs' i) ∧ (∀ k, k < 6 + 6 * Ks'.length → T'.2.1 21 k = vs' (8 + k))) (p7 : (∀ i, i < 4 → yTr T' σ (mp' i) (T'.2.1 20 i)) ∧ (∀ k, k < 2 + 2 * Ks'.length → yTr T' σ (mp' (4 + k)) (T'.2.1 22 k))) (p8 : T'.1 0 50 = nI told'.length ∧ told'.length ≤ 300 ∧ ∀ p x, told'[p]? = some x → T'.2.1 29 p = x) (p9 : T'.1 0 33 = nI most')
    (rt : ∀ U c, yRt T' (K' ++ Ks'.flatten) Ks'.length mp' U c → U = .leaf ∨ yRt T (K ++ Ks.flatten) Ks.length mp U c) : yA T0 T' σ sd rm pc' e' rets' K' Ks' vs' mp' told' most' := by
  obtain ⟨a1, a2, a3, a4, a5, a6, a7, a8, a9, a10⟩ := h
  refine ⟨yO_trans a1 o, a2, p3, p4, p5, p6, p7, p8, p9, ?_⟩
  have e13 : T'.2.1 13 = T.2.1 13 := funext (fun i => hs 13 i (by decide) (by decide))
  have e15 : T'.2.1 15 = T.2.1 15 := funext (fun i => hs 15 i (by decide) (by decide))
  have e16 : T'.2.1 16 = T.2.1 16 := funext (fun i => hs 16 i (by decide) (by decide))
  rw [e13, e15, e16]
  intro U c U' c' i j h1 h2 hi hj q1 q2
  rcases rt U c h1 with rfl | z1
  · cases hi
  · rcases rt U' c' h2 with rfl | z2
    · cases hj
    · exact a10 U c U' c' i j z1 z2 hi hj q1 q2
/-- only the stack, the place and the end have changed -/
theorem yA_stk {K' : List aI} (h : yA T0 T σ sd rm pc e rets K Ks vs mp told most) (f : ∀ o f, ¬ (o = 0 ∧ (f = 48 ∨ f = 51 ∨ f = 53)) → T'.1 o f = T.1 o f) (r : ∀ o i, ¬ (25 ≤ o ∧ o ≤ 28) → T'.2.1 o i = T.2.1 o i) (p3 : T'.1 0 51 = nI pc' ∧ T'.1 0 53 = e') (p4 : T'.1 0 48 = nI (K' ++ Ks.flatten).length ∧ yAs T' σ (K' ++ Ks.flatten)) (rt : ∀ U c, yZr T' (K' ++ Ks.flatten) U c → U = .leaf ∨ yRt T (K ++ Ks.flatten) Ks.length mp U c) : yA T0 T' σ sd rm pc' e' rets K' Ks vs mp told most := by
  have h0 := h
  obtain ⟨a1, a2, a3, a4, a5, a6, a7, a8, a9, a10⟩ := h
  have hs : yHs T T' := fun o i _ _ => r o i (by omega)
  refine yA_gen h0 ⟨fun o g a => f o g (fun z => a ⟨z.1, by unfold yFs; omega⟩), fun o i a => r o i (by omega)⟩ hs p3 p4 ⟨(f 0 43 (by omega)).trans a5.1, a5.2.1, yBs_go (fun o i _ _ => r o i (by omega)) a5.2.2⟩ ⟨fun i hi => (r 19 i (by omega)).trans (a6.1 i hi), fun k hk => (r 21 k (by omega)).trans (a6.2 k hk)⟩ ⟨fun i hi => by rw [r 20 i (by omega)]; exact yTr_hs hs (a7.1 i hi), fun k hk => by rw [r 22 k (by omega)]; exact yTr_hs hs (a7.2 k hk)⟩ ⟨(f 0 50 (by omega)).trans a8.1, a8.2.1, fun p x hp => (r 29 p (by omega)).trans (a8.2.2 p x hp)⟩ ((f 0 33 (by omega)).trans a9) (fun U c z => ?_)
  rcases z with ⟨i, i1, i2, i3⟩ | ⟨i, i1, i2, i3⟩ | z
  · exact Or.inr (Or.inl ⟨i, i1, i2, by rw [i3]; exact r 20 i (by omega)⟩)
  · exact Or.inr (Or.inr (Or.inl ⟨i, i1, i2, by rw [i3]; exact r 22 i (by omega)⟩))
  · exact rt U c z
theorem yA_same (h : yA T0 T σ sd rm pc e rets K Ks vs mp told most) (f : ∀ o f, ¬ (o = 0 ∧ (f = 51 ∨ f = 53)) → T'.1 o f = T.1 o f) (r : T'.2 = T.2) (p3 : T'.1 0 51 = nI pc' ∧ T'.1 0 53 = e') : yA T0 T' σ sd rm pc' e' rets K Ks vs mp told most := by
  have rr : ∀ o i, T'.2.1 o i = T.2.1 o i := fun o i => by rw [r]
  exact yA_stk h (fun o g a => f o g (by omega)) (fun o i _ => rr o i) p3 ⟨(f 0 48 (by omega)).trans h.2.2.2.1.1, yAs_go (fun o i _ _ => rr o i) (fun p o _ _ _ => rr o p) h.2.2.2.1.2⟩ (fun U c z => Or.inr (Or.inr (Or.inr (yZr_go (fun p _ => rr 26 p) z))))
theorem yA_next (h : yA T0 T σ sd rm pc e rets K Ks vs mp told most) : yA T0 (mv_pf T 0 51 (nI pc')) σ sd rm pc' e rets K Ks vs mp told most := yA_same h (fun o f a => by rw [pf_get, if_neg (by omega)]) rfl ⟨by rw [pf_get, if_pos ⟨rfl, rfl⟩], by rw [pf_get, if_neg (by omega)]; exact h.2.2.1.2⟩
end YA
section YB
variable {d : Nat} {P : Option Value → mv_S → Prop} {T0 T T' : mv_S} {σ : Nat → Nat} {sd : Int32} {rm pc pc' : Nat} {e e' x : Int32} {rets : List Nat} {K : List aI} {Ks : List (List aI)} {vs : Nat → Int32} {mp : Nat → tT} {told : List Int32} {most v : Nat}
/-- the place is in the code -/
def yIn (T : mv_S) (pc : Nat) : Prop := (T.1 0 55 = 0 → pc + 4 ≤ 6000) ∧ (¬ T.1 0 55 = 0 → pc + 4 ≤ 8000)
theorem y_wordA {k : Nat} (h : yA T0 T σ sd rm pc e rets K Ks vs mp told most) (hi : yIn T0 pc) (hk : k ≤ 3) (hP : P (some (.int (yW T0 (pc + k)))) T) : mv_big layY sysY (d + 1) 49 [.ref 0, .int (nI k)] T P := by
  have e55 : T.1 0 55 = T0.1 0 55 := h.1.1 0 55 (fun z => by unfold yFs at z; omega)
  refine y_word h.2.2.1.1 (fun z => by have := hi.1 (e55.symm.trans z); omega) (fun z => by have := hi.2 (fun y => z (e55.trans y)); omega) ?_
  unfold yWd
  unfold yW at hP
  rw [e55, h.1.2 2 _ (by decide), h.1.2 3 _ (by decide)]
  exact hP
theorem y_pushA (h : yA T0 T σ sd rm pc e rets K Ks vs mp told most) (hq : (K ++ Ks.flatten).length < 2000) (hP : ∀ T', yA T0 T' σ sd rm pc e rets (.inl x :: K) Ks vs mp told most → P none T') : mv_big layY sysY (d + 1) 53 [.ref 0, .int x] T P := by
  obtain ⟨n, hn⟩ : ∃ n, n = (K ++ Ks.flatten).length := ⟨_, rfl⟩
  have a4 := h.2.2.2.1
  refine y_push (a4.1.trans (by rw [← hn])) (by omega) ?_
  obtain ⟨T', hT⟩ : ∃ T', T' = yPush T n x := ⟨_, rfl⟩
  rw [← hT]
  have f' : ∀ o f, T'.1 o f = if o = 0 ∧ f = 48 then nI (n + 1) else T.1 o f := fun o f => by rw [hT]; unfold yPush; rw [pf_get]; rfl
  have r' : ∀ o i, T'.2.1 o i = if o = 26 ∧ i = n then x else if o = 25 ∧ i = n then 0 else T.2.1 o i := fun o i => by
    rw [hT]
    show (mv_pr (mv_pr T 25 n 0) 26 n x).2.1 o i = _
    rw [pr_get, pr_get]
  refine hP T' (yA_stk (K' := .inl x :: K) h (fun o f a => by rw [f', if_neg (by omega)]) (fun o i a => by rw [r', if_neg (by omega), if_neg (by omega)]) ⟨by rw [f', if_neg (by omega)]; exact h.2.2.1.1, by rw [f', if_neg (by omega)]; exact h.2.2.1.2⟩ ⟨by rw [f', if_pos ⟨rfl, rfl⟩, hn]; rfl, ⟨?_, ?_⟩, ?_⟩ (fun U c z => Or.inr (Or.inr (Or.inr (yZr_go (fun p hp => ?_) z)))))
  · show T'.2.1 25 (K ++ Ks.flatten).length = 0
    rw [r', if_neg (by omega), if_pos ⟨rfl, hn.symm⟩]
  · show T'.2.1 26 (K ++ Ks.flatten).length = x
    rw [r', if_pos ⟨rfl, hn.symm⟩]
  · exact yAs_go (fun o i _ _ => by rw [r', if_neg (by omega), if_neg (by omega)]) (fun p o hp _ _ => by
      have hp : p < (K ++ Ks.flatten).length := hp
      rw [r', if_neg (by omega), if_neg (by omega)]) a4.2
  · have hp : p < (K ++ Ks.flatten).length := hp
    rw [r', if_neg (by omega), if_neg (by omega)]
theorem y_popA (h : yA T0 T σ sd rm pc e rets (.inl x :: K) Ks vs mp told most) (hq : (K ++ Ks.flatten).length < 2000) (hP : ∀ T', T'.2 = T.2 → yA T0 T' σ sd rm pc e rets K Ks vs mp told most → P (some (.int x)) T') : mv_big layY sysY (d + 1) 55 [.ref 0] T P := by
  have e48 : T.1 0 48 = nI ((K ++ Ks.flatten).length + 1) := h.2.2.2.1.1
  have as : (T.2.1 25 (K ++ Ks.flatten).length = 0 ∧ T.2.1 26 (K ++ Ks.flatten).length = x) ∧ yAs T σ (K ++ Ks.flatten) := h.2.2.2.1.2
  refine y_pop e48 (by omega) ?_
  rw [as.1.2]
  exact hP _ rfl (yA_stk (K' := K) h (fun o f a => by rw [pf_get, if_neg (by omega)]) (fun o i a => rfl) ⟨by rw [pf_get, if_neg (by omega)]; exact h.2.2.1.1, by rw [pf_get, if_neg (by omega)]; exact h.2.2.1.2⟩ ⟨by rw [pf_get, if_pos ⟨rfl, rfl⟩], yAs_go (T := T) (T' := mv_pf T 0 48 (nI (K ++ Ks.flatten).length)) (fun o i _ _ => rfl) (fun p o hp _ _ => rfl) as.2⟩ (fun U c z => Or.inr (Or.inr (Or.inr (yZr_go (T := T) (T' := mv_pf T 0 48 (nI (K ++ Ks.flatten).length)) (fun p hp => rfl) z)))))
theorem y_pushMapA {U : tT} {c : Int32} (h : yA T0 T σ sd rm pc e rets K Ks vs mp told most) (hq : (K ++ Ks.flatten).length < 2000) (hc : yTr T σ U c) (hr : U = .leaf ∨ yRt T (K ++ Ks.flatten) Ks.length mp U c) (hP : ∀ T', yA T0 T' σ sd rm pc e rets (.inr (U, none) :: K) Ks vs mp told most → P none T') : mv_big layY sysY (d + 1) 54 [.ref 0, .int c] T P := by
  obtain ⟨n, hn⟩ : ∃ n, n = (K ++ Ks.flatten).length := ⟨_, rfl⟩
  have a4 := h.2.2.2.1
  refine y_pushMap (a4.1.trans (by rw [← hn])) (by omega) ?_
  obtain ⟨T', hT⟩ : ∃ T', T' = yPushM T n c := ⟨_, rfl⟩
  rw [← hT]
  have f' : ∀ o f, T'.1 o f = if o = 0 ∧ f = 48 then nI (n + 1) else T.1 o f := fun o f => by rw [hT]; unfold yPushM; rw [pf_get]; rfl
  have r' : ∀ o i, T'.2.1 o i = if o = 26 ∧ i = n then c else if o = 27 ∧ i = n then 0 else if o = 25 ∧ i = n then 1 else T.2.1 o i := fun o i => by
    rw [hT]
    show (mv_pr (mv_pr (mv_pr T 25 n 1) 27 n 0) 26 n c).2.1 o i = _
    rw [pr_get, pr_get, pr_get]
  have hs : yHs T T' := fun o i _ _ => by rw [r', if_neg (by omega), if_neg (by omega), if_neg (by omega)]
  refine hP T' (yA_stk (K' := .inr (U, none) :: K) h (fun o f a => by rw [f', if_neg (by omega)]) (fun o i a => by rw [r', if_neg (by omega), if_neg (by omega), if_neg (by omega)]) ⟨by rw [f', if_neg (by omega)]; exact h.2.2.1.1, by rw [f', if_neg (by omega)]; exact h.2.2.1.2⟩ ⟨by rw [f', if_pos ⟨rfl, rfl⟩, hn]; rfl, ⟨?_, ?_, ?_⟩, ?_⟩ (fun U' c' z => ?_))
  · show T'.2.1 25 (K ++ Ks.flatten).length = 1
    rw [r', if_neg (by omega), if_neg (by omega), if_pos ⟨rfl, hn.symm⟩]
  · show yTr T' σ U (T'.2.1 26 (K ++ Ks.flatten).length)
    rw [r', if_pos ⟨rfl, hn.symm⟩]; exact yTr_hs hs hc
  · show T'.2.1 27 (K ++ Ks.flatten).length = 0
    rw [r', if_neg (by omega), if_pos ⟨rfl, hn.symm⟩]
  · exact yAs_go hs (fun p o hp _ _ => by
      have hp : p < (K ++ Ks.flatten).length := hp
      rw [r', if_neg (by omega), if_neg (by omega), if_neg (by omega)]) a4.2
  · rcases z with ⟨z1, z2⟩ | z
    · have z2 : c' = T'.2.1 26 (K ++ Ks.flatten).length := z2
      rw [r', if_pos ⟨rfl, hn.symm⟩] at z2
      rw [z1, z2]; exact hr
    · exact Or.inr (Or.inr (Or.inr (yZr_go (fun p hp => by
        have hp : p < (K ++ Ks.flatten).length := hp
        rw [r', if_neg (by omega), if_neg (by omega), if_neg (by omega)]) z)))
theorem y_varA (h : yA T0 T σ sd rm pc e rets K Ks vs mp told most) (hv : v < 14) (hP : P (some (.int (vs (aVP Ks.length v)))) T) : mv_big layY sysY (d + 1) 56 [.ref 0, .int (nI v), .int (if v < 8 then 0 else 1)] T P := by
  have n24 := h.2.2.2.2.1.2.1
  unfold aVP at hP
  by_cases c : v < 8
  · rw [if_pos c] at hP ⊢
    exact y_variable0 c (by rw [h.2.2.2.2.2.1.1 v c]; exact hP)
  · rw [if_neg c] at hP ⊢
    refine y_variable1 h.2.2.2.2.1.1 (by omega) (by omega) hv ?_
    rw [h.2.2.2.2.2.1.2 _ (by omega), show 8 + (6 * Ks.length + (v - 8)) = v + 6 * Ks.length by omega]
    exact hP
theorem y_setVarA (h : yA T0 T σ sd rm pc e rets K Ks vs mp told most) (hv : v < 14) (hP : ∀ T', (∀ o i, o ≠ 19 → o ≠ 21 → T'.2.1 o i = T.2.1 o i) → yA T0 T' σ sd rm pc e rets K Ks (aUp vs (aVP Ks.length v) x) mp told most → P none T') : mv_big layY sysY (d + 1) 57 [.ref 0, .int (nI v), .int x] T P := by
  have h0 := h
  obtain ⟨a1, a2, a3, a4, a5, a6, a7, a8, a9, a10⟩ := h
  have n24 := a5.2.1
  refine y_setVariable a5.1 (by omega) hv ?_
  obtain ⟨T', hT⟩ : ∃ T', T' = (if v < 8 then mv_pr T 19 v x else mv_pr T 21 (6 * Ks.length + (v - 8)) x) := ⟨_, rfl⟩
  rw [← hT]
  have f : ∀ o f, T'.1 o f = T.1 o f := fun o f => by rw [hT]; split <;> rfl
  have r : ∀ o i, o ≠ 19 → o ≠ 21 → T'.2.1 o i = T.2.1 o i := fun o i a b => by
    rw [hT]
    split
    · rw [pr_get, if_neg (fun z => a z.1)]
    · rw [pr_get, if_neg (fun z => b z.1)]
  have hs : yHs T T' := fun o i _ _ => r o i (by omega) (by omega)
  refine hP T' r (yA_gen h0 ⟨fun o g _ => f o g, fun o i a => r o i (by omega) (by omega)⟩ hs ⟨(f 0 51).trans a3.1, (f 0 53).trans a3.2⟩ ⟨(f 0 48).trans a4.1, yAs_go hs (fun p o _ _ _ => r o p (by omega) (by omega)) a4.2⟩ ⟨(f 0 43).trans a5.1, a5.2.1, yBs_go (fun o i _ _ => r o i (by omega) (by omega)) a5.2.2⟩ ⟨fun i hi => ?_, fun k hk => ?_⟩ ⟨fun i hi => by rw [r 20 i (by decide) (by decide)]; exact yTr_hs hs (a7.1 i hi), fun k hk => by rw [r 22 k (by decide) (by decide)]; exact yTr_hs hs (a7.2 k hk)⟩ ⟨(f 0 50).trans a8.1, a8.2.1, fun p y hp => (r 29 p (by decide) (by decide)).trans (a8.2.2 p y hp)⟩ ((f 0 33).trans a9) (fun U c z => Or.inr ?_))
  · unfold aUp aVP
    rw [hT]
    by_cases c : v < 8
    · rw [if_pos c, if_pos c, pr_get]
      by_cases e : i = v
      · rw [if_pos ⟨rfl, e⟩, if_pos e]
      · rw [if_neg (fun z => e z.2), if_neg e]; exact a6.1 i hi
    · rw [if_neg c, if_neg c, pr_get, if_neg (by omega), if_neg (by omega)]; exact a6.1 i hi
  · unfold aUp aVP
    rw [hT]
    by_cases c : v < 8
    · rw [if_pos c, if_pos c, pr_get, if_neg (by omega), if_neg (by omega)]; exact a6.2 k hk
    · rw [if_neg c, if_neg c, pr_get]
      by_cases e : k = 6 * Ks.length + (v - 8)
      · rw [if_pos ⟨rfl, e⟩, if_pos (by omega)]
      · rw [if_neg (fun z => e z.2), if_neg (by omega)]; exact a6.2 k hk
  · rcases z with ⟨i, i1, i2, i3⟩ | ⟨i, i1, i2, i3⟩ | z
    · exact Or.inl ⟨i, i1, i2, by rw [i3]; exact r 20 i (by decide) (by decide)⟩
    · exact Or.inr (Or.inl ⟨i, i1, i2, by rw [i3]; exact r 22 i (by decide) (by decide)⟩)
    · exact Or.inr (Or.inr (yZr_go (fun p _ => r 26 p (by decide) (by decide)) z))
theorem y_endA {w : Int32} (h : yA T0 T σ sd rm pc e rets K Ks vs mp told most) (hi : yIn T0 pc) (hP : ∀ T', yA T0 T' σ sd rm (if yW T0 pc = 16 then pc + 2 else pc + 1) w rets K Ks vs mp told most → P none T') : mv_big layY sysY (d + 2) 59 [.ref 0, .int w] T P := by
  have e55 : T.1 0 55 = T0.1 0 55 := h.1.1 0 55 (fun z => by unfold yFs at z; omega)
  have ew : yWd T pc 0 = yW T0 pc := by
    unfold yWd yW
    rw [e55, h.1.2 2 _ (by decide), h.1.2 3 _ (by decide)]; rfl
  refine y_end h.2.2.1.1 (fun z => by have := hi.1 (e55.symm.trans z); omega) (fun z => by have := hi.2 (fun y => z (e55.trans y)); omega) ?_
  rw [ew]
  exact hP _ (yA_same h (fun o f a => by rw [pf_get, if_neg (by omega), pf_get, if_neg (by omega)]) rfl ⟨by rw [pf_get, if_pos ⟨rfl, rfl⟩], by rw [pf_get, if_neg (by omega), pf_get, if_pos ⟨rfl, rfl⟩]⟩)
end YB

/-! THE REFERENCE'S WORDS that make a map -/
theorem lcF_cnt {f : Nat → Int32} : ∀ k a, lcF f a k + ((List.range' a k).filter (fun i => decide (¬ f i = 0))).length = k
  | 0, _ => rfl
  | k + 1, a => by
    have q := lcF_cnt (f := f) k (a + 1)
    unfold lcF
    rw [List.range'_succ]
    by_cases c : f a = 0
    · rw [if_pos c, List.filter_cons_of_neg (by simp [c])]; omega
    · rw [if_neg c, List.filter_cons_of_pos (by simp [c]), List.length_cons]; omega
section YB
variable {d : Nat} {P : Option Value → mv_S → Prop} {T0 T T' T2 T3 : mv_S} {σ σ' : Nat → Nat} {sd : Int32} {rm pc pc' st m N' : Nat} {e e' a b : Int32} {rets : List Nat} {K : List aI} {Ks : List (List aI)} {vs : Nat → Int32} {mp : Nat → tT} {told : List Int32} {most most' : Nat} {U W R : tT} {c' : Int32} {q q2 : Option Int32} {L : List (Nat × Int32)} {V : List Nat}
def yLive (T : mv_S) (A : List aI) (n : Nat) (mp : Nat → tT) (i : Nat) : Prop := ∃ U c, yRt T A n mp U c ∧ i ∈ hCs (T.2.1 15) (T.2.1 16) U c
theorem yAs_cl : ∀ {A : List aI} {U : tT} {c : Int32}, yAs T σ A → yZr T A U c → yTr T σ U c
  | .inl _ :: R, _, _, h, z => yAs_cl (A := R) h.2 z
  | .inr m :: R, _, _, h, z => z.elim (fun y => by rw [y.1, y.2]; exact h.1.2.1) (fun y => yAs_cl (A := R) h.2 y)
theorem yA_cl {U : tT} {c : Int32} (h : yA T0 T σ sd rm pc e rets K Ks vs mp told most) (z : yRt T (K ++ Ks.flatten) Ks.length mp U c) : yTr T σ U c := by
  rcases z with ⟨i, i1, rfl, rfl⟩ | ⟨k, i1, rfl, rfl⟩ | z
  · exact h.2.2.2.2.2.2.1.1 i i1
  · exact h.2.2.2.2.2.2.1.2 k i1
  · exact yAs_cl h.2.2.2.1.2 z
theorem yAs_re (r : ∀ o p, 25 ≤ o → o ≤ 28 → T'.2.1 o p = T.2.1 o p) : ∀ {A : List aI}, yAs T σ A → (∀ U c, yZr T A U c → yTr T' σ' U c) → yAs T' σ' A
  | [], _, _ => trivial
  | .inl x :: R, h, g => ⟨⟨(r 25 _ (by decide) (by decide)).trans h.1.1, (r 26 _ (by decide) (by decide)).trans h.1.2⟩, yAs_re r (A := R) h.2 g⟩
  | .inr m :: R, h, g => ⟨⟨(r 25 _ (by decide) (by decide)).trans h.1.1, by rw [r 26 _ (by decide) (by decide)]; exact g m.1 _ (Or.inl ⟨rfl, rfl⟩), yGo_go (fun o a b => r o _ (by omega) b) h.1.2.2⟩, yAs_re r (A := R) h.2 (fun U c z => g U c (Or.inr z))⟩
theorem yRt_re {A : List aI} {n : Nat} (r : ∀ o p, 19 ≤ o → o ≤ 29 → T'.2.1 o p = T.2.1 o p) {U : tT} {c : Int32} (z : yRt T' A n mp U c) : yRt T A n mp U c := by
  rcases z with ⟨i, i1, i2, i3⟩ | ⟨k, i1, i2, i3⟩ | z
  · exact Or.inl ⟨i, i1, i2, by rw [i3]; exact r 20 i (by decide) (by decide)⟩
  · exact Or.inr (Or.inl ⟨k, i1, i2, by rw [i3]; exact r 22 k (by decide) (by decide)⟩)
  · exact Or.inr (Or.inr (yZr_go (fun p _ => r 26 p (by decide) (by decide)) z))
/-- the store anew: other cells, other steps -/
theorem yA_re (h : yA T0 T σ sd rm pc e rets K Ks vs mp told most) (f : ∀ o f, ¬ (o = 0 ∧ (f = 30 ∨ f = 31 ∨ f = 32 ∨ f = 33 ∨ f = 34 ∨ f = 57 ∨ f = 58 ∨ f = 59)) → T'.1 o f = T.1 o f) (r : ∀ o i, ¬ (13 ≤ o ∧ o ≤ 18) → ¬ (30 ≤ o ∧ o ≤ 36) → T'.2.1 o i = T.2.1 o i) (cl : ∀ U c, yRt T (K ++ Ks.flatten) Ks.length mp U c → yTr T' σ' U c) (inj : hInj (T'.2.1 13) (T'.2.1 15) (T'.2.1 16) σ' (yRt T (K ++ Ks.flatten) Ks.length mp)) (e33 : T'.1 0 33 = nI most') : yA T0 T' σ' sd rm pc e rets K Ks vs mp told most' := by
  obtain ⟨a1, a2, a3, a4, a5, a6, a7, a8, a9, a10⟩ := h
  have rr : ∀ o p, 19 ≤ o → o ≤ 29 → T'.2.1 o p = T.2.1 o p := fun o p _ _ => r o p (by omega) (by omega)
  refine ⟨⟨fun o g a => (f o g (fun z => a ⟨z.1, by unfold yFs; omega⟩)).trans (a1.1 o g a), fun o i a => (r o i (by omega) (by omega)).trans (a1.2 o i a)⟩, a2, ⟨(f 0 51 (by omega)).trans a3.1, (f 0 53 (by omega)).trans a3.2⟩, ⟨(f 0 48 (by omega)).trans a4.1, yAs_re (fun o p _ _ => rr o p (by omega) (by omega)) a4.2 (fun U c z => cl U c (Or.inr (Or.inr z)))⟩, ⟨(f 0 43 (by omega)).trans a5.1, a5.2.1, yBs_go (fun o i _ _ => rr o i (by omega) (by omega)) a5.2.2⟩, ⟨fun i hi => (rr 19 i (by decide) (by decide)).trans (a6.1 i hi), fun k hk => (rr 21 k (by decide) (by decide)).trans (a6.2 k hk)⟩, ⟨fun i hi => by rw [rr 20 i (by decide) (by decide)]; exact cl _ _ (Or.inl ⟨i, hi, rfl, rfl⟩), fun k hk => by rw [rr 22 k (by decide) (by decide)]; exact cl _ _ (Or.inr (Or.inl ⟨k, hk, rfl, rfl⟩))⟩, ⟨(f 0 50 (by omega)).trans a8.1, a8.2.1, fun p x hp => (rr 29 p (by decide) (by decide)).trans (a8.2.2 p x hp)⟩, e33, ?_⟩
  intro U c U' c2 i j h1 h2
  exact inj U c U' c2 i j (yRt_re rr h1) (yRt_re rr h2)
/-- a making begins: the live cells are marked -/
def yBm (T T2 : mv_S) (V : List Nat) (A : List aI) (n : Nat) (mp : Nat → tT) (lv rm : Nat) : Prop := (∀ o f, ¬ (o = 0 ∧ (f = 30 ∨ f = 31 ∨ f = 32 ∨ f = 34)) → T2.1 o f = T.1 o f) ∧ (∀ o i, o ≠ 17 → o ≠ 18 → T2.2.1 o i = T.2.1 o i) ∧ yMk T2 T2 lv rm 0 1 ∧ (∀ i, i ∈ V ↔ yLive T A n mp i) ∧ (∀ i, i < 900 → (i ∈ V ∧ T2.2.1 17 i = 1) ∨ (¬ i ∈ V ∧ T2.2.1 17 i = 0)) ∧ V.Nodup ∧ V.length = lv
set_option maxHeartbeats 1000000 in
set_option maxRecDepth 8000 in
theorem y_begin (h : yA T0 T σ sd rm pc e rets K Ks vs mp told most) (hq : (K ++ Ks.flatten).length < 1990) (hrm : rm ≤ 400) (hL : hNs (fun U => ∃ c, yRt T (K ++ Ks.flatten) Ks.length mp U c) L) (hlv : L.length ≤ rm) (hP : ∀ T2 V, yBm T T2 V (K ++ Ks.flatten) Ks.length mp L.length rm → P none T2) : mv_big layY sysY (d + 3) 32 [.ref 0] T P := by
  have h0 := h
  obtain ⟨a1, a2, a3, a4, a5, a6, a7, a8, a9, a10⟩ := h
  have ok : ∀ {U : tT} {c : Int32}, yRt T (K ++ Ks.flatten) Ks.length mp U c → hOk 899 (yLive T (K ++ Ks.flatten) Ks.length mp) c := fun {U c} z => hOk_imp (fun i hi => ⟨U, c, z, hi⟩) (hCs_ok (by decide) (yA_cl h0 z)).1
  have hG : ∀ i, yLive T (K ++ Ks.flatten) Ks.length mp i → 1 ≤ i ∧ i ≤ 899 ∧ hOk 899 (yLive T (K ++ Ks.flatten) Ks.length mp) (T.2.1 15 i) ∧ hOk 899 (yLive T (K ++ Ks.flatten) Ks.length mp) (T.2.1 16 i) := fun i hi => by
    obtain ⟨U, c, h1, h2⟩ := hi
    obtain ⟨q1, q2, q3, q4⟩ := (hCs_ok (by decide) (yA_cl h0 h1)).2 i h2
    exact ⟨q1, q2, hOk_imp (fun i hi => ⟨U, c, h1, hi⟩) q3, hOk_imp (fun i hi => ⟨U, c, h1, hi⟩) q4⟩
  have stk : ∀ {A : List aI}, yAs T σ A → (∀ U c, yZr T A U c → hOk 899 (yLive T (K ++ Ks.flatten) Ks.length mp) c) → ∀ p, p < A.length → T.2.1 25 p = 0 ∨ (¬ T.2.1 25 p = 0 ∧ hOk 899 (yLive T (K ++ Ks.flatten) Ks.length mp) (T.2.1 26 p)) := by
    intro A
    induction A with
    | nil => intro _ _ p hp; simp at hp
    | cons t R ih =>
      intro g z p hp
      cases t with
      | inl x =>
        by_cases c : p = R.length
        · rw [c]; exact Or.inl g.1.1
        · exact ih g.2 (fun U c y => z U c y) p (by simp only [List.length_cons] at hp; omega)
      | inr m =>
        by_cases c : p = R.length
        · rw [c]; exact Or.inr ⟨by rw [g.1.1]; decide, z m.1 _ (Or.inl ⟨rfl, rfl⟩)⟩
        · exact ih g.2 (fun U c y => z U c (Or.inr y)) p (by simp only [List.length_cons] at hp; omega)
  have zidx : ∀ {A : List aI} {U : tT} {c : Int32}, yAs T σ A → yZr T A U c → ∃ p, p < A.length ∧ ¬ T.2.1 25 p = 0 ∧ c = T.2.1 26 p := by
    intro A
    induction A with
    | nil => intro U c _ z; exact z.elim
    | cons t R ih =>
      intro U c g z
      cases t with
      | inl x =>
        obtain ⟨p, p1, p2⟩ := ih g.2 z
        exact ⟨p, by simp only [List.length_cons]; omega, p2⟩
      | inr m =>
        rcases z with ⟨z1, z2⟩ | z
        · exact ⟨R.length, by simp, by rw [g.1.1]; decide, z2⟩
        · obtain ⟨p, p1, p2⟩ := ih g.2 z
          exact ⟨p, by simp only [List.length_cons]; omega, p2⟩
  refine ⟨30, ?_⟩
  refine ws_aload_n rfl (rfl) rfl (ws_iconst (x := 1) rfl rfl rfl (ws_iv rfl rfl rfl ?_))
  refine mv_deep (d := d + 2) (by omega) (y_findLiveA (G := yLive T (K ++ Ks.flatten) Ks.length mp) (cs := Ks.length) (t := (K ++ Ks.flatten).length) hG a5.2.1 (by omega) a5.1 a4.1 (fun p hp => ok (Or.inl ⟨p, hp, rfl, rfl⟩)) (fun p hp => ok (Or.inr (Or.inl ⟨p, hp, rfl, rfl⟩))) (stk a4.2 (fun U c z => ok (Or.inr (Or.inr z)))) (fun T1 V g => ?_))
  obtain ⟨g1, g2, g3, g4, g5⟩ := g
  have mem : ∀ i, i ∈ V ↔ yLive T (K ++ Ks.flatten) Ks.length mp i := fun i => ⟨g4 i, fun hi => by
    obtain ⟨U, c, h1, h2⟩ := hi
    refine hCs_sub (W := fun i => i ∈ V) (by decide) (fun j hj => ?_) (yA_cl h0 h1) (g5 c ?_) i h2
    · have := g3 j hj
      rw [g1.2.1 15 j (by decide) (by decide), g1.2.1 16 j (by decide) (by decide)] at this
      exact this
    · rcases h1 with ⟨p, p1, p2, p3⟩ | ⟨p, p1, p2, p3⟩ | z
      · exact Or.inl (Or.inl ⟨p, p1, p3⟩)
      · exact Or.inl (Or.inr ⟨p, p1, p3⟩)
      · exact Or.inr (zidx a4.2 z)⟩
  have eV : V.length = L.length := h_cnt (by decide) (fun U c z => yA_cl h0 z) a10 g2.1 mem hL
  refine ws_aload_n rfl rfl rfl (ws_iconst (x := 1) rfl rfl rfl (ws_puti rfl rfl rfl (ws_aload_n rfl rfl rfl (ws_iconst (x := 0) rfl rfl rfl (ws_puti rfl rfl rfl (ws_aload_n rfl rfl rfl (ws_iconst (x := 0) rfl rfl rfl (ws_putz rfl rfl (Or.inl rfl) rfl (ws_i rfl ?_)))))))))
  obtain ⟨T2, hT2⟩ : ∃ T2, T2 = mv_pf (mv_pf (mv_pf T1 0 31 1) 0 32 0) 0 34 0 := ⟨_, rfl⟩
  rw [← hT2]
  have f2 : ∀ o f, T2.1 o f = if o = 0 ∧ f = 34 then 0 else if o = 0 ∧ f = 32 then 0 else if o = 0 ∧ f = 31 then 1 else T1.1 o f := fun o f => by rw [hT2, pf_get, pf_get, pf_get]
  have r2 : ∀ o i, T2.2.1 o i = T1.2.1 o i := fun o i => by rw [hT2]; rfl
  refine hP T2 V ⟨fun o f a => by rw [f2, if_neg (by omega), if_neg (by omega), if_neg (by omega)]; exact g1.1 o f (by omega), fun o i a b => (r2 o i).trans (g1.2.1 o i a b), ⟨⟨fun _ _ _ => rfl, fun _ _ _ _ => rfl, rfl, fun _ _ _ _ _ => rfl⟩, ?_, ?_, hrm, ?_, ?_, by omega, ?_, by decide, by decide, ?_⟩, mem, fun i hi => by rw [r2]; exact g2.2.2.2.2 i hi, g2.1, eV⟩
  · rw [f2, if_neg (by omega), if_neg (by omega), if_neg (by omega), ← eV]; exact g2.2.2.1
  · rw [f2, if_neg (by omega), if_neg (by omega), if_neg (by omega), g1.1 0 36 (by omega), a1.1 0 36 (fun z => by unfold yFs at z; omega)]; exact a2.2
  · rw [f2, if_pos ⟨rfl, rfl⟩]
  · rw [f2, if_neg (by omega), if_pos ⟨rfl, rfl⟩]; rfl
  · rw [f2, if_neg (by omega), if_neg (by omega), if_pos ⟨rfl, rfl⟩]; rfl
  · have cn := lcF_cnt (f := T2.2.1 17) 899 1
    have en : ((List.range' 1 899).filter (fun i => decide (¬ T2.2.1 17 i = 0))).length = V.length := by
      refine nd_same (List.Pairwise.filter _ List.nodup_range') g2.1 (fun i => ?_)
      rw [List.mem_filter, List.mem_range'_1]
      constructor
      · rintro ⟨z1, z2⟩
        have z2 := of_decide_eq_true z2
        rw [r2] at z2
        rcases g2.2.2.2.2 i (by omega) with ⟨y, _⟩ | ⟨_, y⟩
        · exact y
        · exact absurd y z2
      · intro z
        have bd := g2.2.1 i z
        rcases g2.2.2.2.2 i (by omega) with ⟨_, y⟩ | ⟨y, _⟩
        · exact ⟨by omega, decide_eq_true (by rw [r2, y]; decide)⟩
        · exact absurd z y
    show lcF (T2.2.1 17) 1 899 + 0 + L.length = 899
    omega
end YB

/-! WHAT BOTH HOLD: numbers and maps on stacks, calls, variables, maps, what was told. First the class's store of it -/
abbrev aI : Type := Int32 ⊕ (tT × Option Int32)
def aNum : List aI → List Int32
  | [] => []
  | .inl x :: R => x :: aNum R
  | .inr _ :: R => aNum R
def aMap : List aI → List (tT × Option Int32)
  | [] => []
  | .inl _ :: R => aMap R
  | .inr m :: R => m :: aMap R
def aSh : List aI → shT
  | [] => []
  | .inl _ :: R => false :: aSh R
  | .inr _ :: R => true :: aSh R
theorem aNum_app : ∀ (A B : List aI), aNum (A ++ B) = aNum A ++ aNum B
  | [], _ => rfl
  | .inl x :: R, B => by
    show x :: aNum (R ++ B) = x :: (aNum R ++ aNum B)
    rw [aNum_app R B]
  | .inr _ :: R, B => aNum_app R B
theorem aMap_app : ∀ (A B : List aI), aMap (A ++ B) = aMap A ++ aMap B
  | [], _ => rfl
  | .inl _ :: R, B => aMap_app R B
  | .inr m :: R, B => by
    show m :: aMap (R ++ B) = m :: (aMap R ++ aMap B)
    rw [aMap_app R B]
theorem aNum_sh : ∀ (A : List aI), (aNum A).length = shN (aSh A)
  | [] => rfl
  | .inl x :: R => by
    show (aNum R).length + 1 = (false :: aSh R).count false
    rw [List.count_cons_self, aNum_sh R]; rfl
  | .inr _ :: R => by
    show (aNum R).length = (true :: aSh R).count false
    rw [List.count_cons_of_ne (by decide), aNum_sh R]; rfl
theorem aMap_sh : ∀ (A : List aI), (aMap A).length = shM (aSh A)
  | [] => rfl
  | .inl x :: R => by
    show (aMap R).length = (false :: aSh R).count true
    rw [List.count_cons_of_ne (by decide), aMap_sh R]; rfl
  | .inr _ :: R => by
    show (aMap R).length + 1 = (true :: aSh R).count true
    rw [List.count_cons_self, aMap_sh R]; rfl
theorem aLen : ∀ (A : List aI), A.length = (aNum A).length + (aMap A).length
  | [] => rfl
  | .inl x :: R => by
    show R.length + 1 = (aNum R).length + 1 + (aMap R).length
    have := aLen R
    omega
  | .inr _ :: R => by
    show R.length + 1 = (aNum R).length + ((aMap R).length + 1)
    have := aLen R
    omega
/-- where the search for the next key begins -/
def aNx : Option Int32 → Int64
  | none => -2147483648
  | some k => k.toInt64 + 1
/-- the place of a variable, of a map, with n calls -/
def aVP (n v : Nat) : Nat := if v < 8 then v else v + 6 * n
def aMP (n v : Nat) : Nat := if v < 4 then v else v + 2 * n
def aUp {α : Type} (f : Nat → α) (k : Nat) (x : α) : Nat → α := fun i => if i = k then x else f i
def xNs (S : mv_S) : List Int32 → Prop
  | [] => True
  | x :: R => S.2.1 25 R.length = x ∧ xNs S R
def xZs (S : mv_S) (σ : Nat → Nat) (sd : Int32) (fb : Nat) : List (tT × Option Int32) → Prop
  | [] => True
  | (T, o) :: R => (xCl (S.2.1 20) fb xNo S σ sd T (S.2.1 26 R.length) ∧ S.2.2 27 R.length = aNx o) ∧ xZs S σ sd fb R
def xBs (S : mv_S) : List (List aI) → List Nat → Prop
  | [], [] => True
  | K :: R, r :: rs => (S.2.1 28 (R.length + 1) = nI (aNum (K ++ R.flatten)).length ∧ S.2.1 29 (R.length + 1) = nI (aMap (K ++ R.flatten)).length ∧ S.2.1 30 (R.length + 1) = nI r ∧ (aNum K).length ≤ 33 ∧ (aMap K).length ≤ 17) ∧ xBs S R rs
  | _, _ => False
def xZr (S : mv_S) : List (tT × Option Int32) → tT → Int32 → Prop
  | [], _, _ => False
  | (T, _) :: R, T', c => (T' = T ∧ c = S.2.1 26 R.length) ∨ xZr S R T' c
/-- the trees that are held, and where -/
def xRt (S : mv_S) (Z : List (tT × Option Int32)) (n : Nat) (mp : Nat → tT) (T : tT) (c : Int32) : Prop := (∃ i, i < 6 + 2 * n ∧ T = mp i ∧ c = S.2.1 24 i) ∨ xZr S Z T c
def xHp (S : mv_S) (sd : Int32) (rm fb B : Nat) : Prop := S.1 3 12 = sd ∧ S.1 3 13 = nI rm ∧ rm ≤ 400 ∧ S.1 3 8 = nI fb ∧ 800 ≤ fb + rm ∧ fb ≤ 800 ∧ (∀ p, p < fb → ∃ i, 1 ≤ i ∧ i ≤ 800 ∧ S.2.1 20 p = nI i) ∧ (∀ p q, p < fb → q < fb → S.2.1 20 p = S.2.1 20 q → p = q) ∧ ∃ r, r ≤ B ∧ xRo S r
/-- all that isn't the machine's store -/
def xO (S0 S : mv_S) : Prop := (∀ o f, o ≠ 3 → o ≠ 4 → o ≠ 5 → S.1 o f = S0.1 o f) ∧ S.1 4 15 = S0.1 4 15 ∧ (∀ o i, (o < 15 ∨ 35 ≤ o) → S.2.1 o i = S0.2.1 o i)
def xHs (S S' : mv_S) : Prop := (∀ f, S'.1 3 f = S.1 3 f) ∧ (∀ o i, 15 ≤ o → o ≤ 22 → S'.2.1 o i = S.2.1 o i)
/-- the class's store holds: numbers and maps K (this call's) and Ks (those of the calls before), where they go back to, variables, maps, what was told, the most made -/
def xA (S0 S : mv_S) (σ : Nat → Nat) (sd : Int32) (rm fb B : Nat) (rets : List Nat) (K : List aI) (Ks : List (List aI)) (vs : Nat → Int32) (mp : Nat → tT) (told : List Int32) (most : Nat) : Prop :=
  xO S0 S ∧ xHp S sd rm fb B ∧ (S.1 4 11 = nI (aNum (K ++ Ks.flatten)).length ∧ xNs S (aNum (K ++ Ks.flatten))) ∧ (S.1 4 12 = nI (aMap (K ++ Ks.flatten)).length ∧ xZs S σ sd fb (aMap (K ++ Ks.flatten))) ∧ (S.1 4 13 = nI Ks.length ∧ Ks.length ≤ 24 ∧ xBs S Ks rets) ∧ (∀ i, i < 14 + 6 * Ks.length → S.2.1 23 i = vs i) ∧ (∀ i, i < 6 + 2 * Ks.length → xCl (S.2.1 20) fb xNo S σ sd (mp i) (S.2.1 24 i)) ∧ (S.1 4 14 = nI told.length ∧ told.length ≤ 300 ∧ ∀ p x, told[p]? = some x → S.2.1 31 p = x) ∧ S.1 4 16 = nI most ∧ hInj (S.2.1 15) (S.2.1 18) (S.2.1 19) σ (xRt S (aMap (K ++ Ks.flatten)) Ks.length mp)
theorem xO_refl {S : mv_S} : xO S S := ⟨fun _ _ _ _ _ => rfl, rfl, fun _ _ _ => rfl⟩
theorem xO_trans {S0 S S' : mv_S} (h : xO S0 S) (g : xO S S') : xO S0 S' := ⟨fun o f a b c => (g.1 o f a b c).trans (h.1 o f a b c), g.2.1.trans h.2.1, fun o i a => (g.2.2 o i a).trans (h.2.2 o i a)⟩
section XA
variable {S0 S S' : mv_S} {σ : Nat → Nat} {sd : Int32} {rm fb B : Nat} {rets : List Nat} {K : List aI} {Ks : List (List aI)} {vs : Nat → Int32} {mp : Nat → tT} {told : List Int32} {most : Nat}
theorem xHs_20 (h : xHs S S') : S'.2.1 20 = S.2.1 20 := funext (fun i => h.2 20 i (by decide) (by decide))
theorem xCl_hs (h : xHs S S') {T : tT} {c : Int32} (a : xCl (S.2.1 20) fb xNo S σ sd T c) : xCl (S'.2.1 20) fb xNo S' σ sd T c := by
  rw [xHs_20 h]
  refine xCl_go (M := 801) (by decide) (S := S) (H := xNo) (fc := fb) ⟨Nat.le_refl _, fun i _ _ => ⟨fun o a b => h.2 o i a (by omega), fun b _ => h.2 _ i (by have := xRw_b b; omega) (by have := xRw_b b; omega)⟩, fun b i z => z.elim⟩ a
theorem xNs_go : ∀ {N : List Int32}, (∀ p, p < N.length → S'.2.1 25 p = S.2.1 25 p) → xNs S N → xNs S' N
  | [], _, _ => trivial
  | x :: R, g, h => ⟨(g R.length (by simp)).trans h.1, xNs_go (fun p hp => g p (by simp only [List.length_cons]; omega)) h.2⟩
theorem xZs_go (hs : xHs S S') : ∀ {Z : List (tT × Option Int32)}, (∀ p, p < Z.length → S'.2.1 26 p = S.2.1 26 p ∧ S'.2.2 27 p = S.2.2 27 p) → xZs S σ sd fb Z → xZs S' σ sd fb Z
  | [], _, _ => trivial
  | (T, o) :: R, g, h => ⟨⟨by rw [(g R.length (by simp)).1]; exact xCl_hs hs h.1.1, (g R.length (by simp)).2.trans h.1.2⟩, xZs_go hs (fun p hp => g p (by simp only [List.length_cons]; omega)) h.2⟩
theorem xBs_go (g : ∀ o i, 28 ≤ o → o ≤ 30 → S'.2.1 o i = S.2.1 o i) : ∀ {Ks : List (List aI)} {rets : List Nat}, xBs S Ks rets → xBs S' Ks rets
  | [], [], _ => trivial
  | K :: R, r :: rs, h => ⟨⟨(g 28 _ (by decide) (by decide)).trans h.1.1, (g 29 _ (by decide) (by decide)).trans h.1.2.1, (g 30 _ (by decide) (by decide)).trans h.1.2.2.1, h.1.2.2.2⟩, xBs_go g h.2⟩
  | [], _ :: _, h => h.elim
  | _ :: _, [], h => h.elim
theorem xZr_go : ∀ {Z : List (tT × Option Int32)} {T : tT} {c : Int32}, (∀ p, p < Z.length → S'.2.1 26 p = S.2.1 26 p) → xZr S' Z T c → xZr S Z T c
  | [], _, _, _, h => h
  | (T, o) :: R, _, _, g, h => h.elim (fun z => Or.inl ⟨z.1, by rw [z.2]; exact g R.length (by simp)⟩) (fun z => Or.inr (xZr_go (fun p hp => g p (by simp only [List.length_cons]; omega)) z))
theorem xHp_go (hs : xHs S S') (h : xHp S sd rm fb B) : xHp S' sd rm fb B := by
  obtain ⟨h1, h2, h3, h4, h5, h6, h7, h8, r, h9, h10⟩ := h
  refine ⟨(hs.1 12).trans h1, (hs.1 13).trans h2, h3, (hs.1 8).trans h4, h5, h6, ?_, ?_, r, h9, (hs.1 10).trans h10.1, fun i i1 i2 => ?_⟩
  · rw [xHs_20 hs]; exact h7
  · rw [xHs_20 hs]; exact h8
  · rw [hs.2 21 i (by decide) (by decide)]; exact h10.2 i i1 i2
theorem xBs_len : ∀ {Ks : List (List aI)} {rets : List Nat}, xBs S Ks rets → (aNum Ks.flatten).length ≤ 33 * Ks.length ∧ (aMap Ks.flatten).length ≤ 17 * Ks.length
  | [], [], _ => ⟨Nat.le_refl _, Nat.le_refl _⟩
  | K :: R, r :: rs, h => by
    have q := xBs_len h.2
    have a := h.1.2.2.2
    rw [List.flatten_cons, aNum_app, aMap_app, List.length_append, List.length_append, List.length_cons]
    omega
  | [], _ :: _, h => h.elim
  | _ :: _, [], h => h.elim
theorem xA_gen {K' : List aI} {Ks' : List (List aI)} {rets' : List Nat} {vs' : Nat → Int32} {mp' : Nat → tT} {told' : List Int32} {most' : Nat} (h : xA S0 S σ sd rm fb B rets K Ks vs mp told most) (o : xO S S') (hs : xHs S S')
    (p3 : S'.1 4 11 = nI (aNum (K' ++ Ks'.flatten)).length ∧ xNs S' (aNum (K' ++ Ks'.flatten))) (p4 : S'.1 4 12 = nI (aMap (K' ++ Ks'.flatten)).length ∧ xZs S' σ sd fb (aMap (K' ++ Ks'.flatten))) (p5 : S'.1 4 13 = nI Ks'.length ∧ Ks'.length ≤ 24 ∧ xBs S' Ks' rets') (p6 : ∀ i, i < 14 + 6 * Ks'.length → S'.2.1 23 i = vs' i) (p7 : ∀ i, i < 6 + 2 * Ks'.length → xCl (S'.2.1 20) fb xNo S' σ sd (mp' i) (S'.2.1 24 i)) (p8 : S'.1 4 14 = nI told'.length ∧ told'.length ≤ 300 ∧ ∀ p x, told'[p]? = some x → S'.2.1 31 p = x) (p9 : S'.1 4 16 = nI most')
    (rt : ∀ T c, xRt S' (aMap (K' ++ Ks'.flatten)) Ks'.length mp' T c → T = .leaf ∨ xRt S (aMap (K ++ Ks.flatten)) Ks.length mp T c) : xA S0 S' σ sd rm fb B rets' K' Ks' vs' mp' told' most' := by
  obtain ⟨a1, a2, a3, a4, a5, a6, a7, a8, a9, a10⟩ := h
  refine ⟨xO_trans a1 o, xHp_go hs a2, p3, p4, p5, p6, p7, p8, p9, ?_⟩
  have e15 : S'.2.1 15 = S.2.1 15 := funext (fun i => hs.2 15 i (by decide) (by decide))
  have e18 : S'.2.1 18 = S.2.1 18 := funext (fun i => hs.2 18 i (by decide) (by decide))
  have e19 : S'.2.1 19 = S.2.1 19 := funext (fun i => hs.2 19 i (by decide) (by decide))
  rw [e15, e18, e19]
  intro T c T' c' i j h1 h2 hi hj e1 e2
  rcases rt T c h1 with rfl | z1
  · cases hi
  · rcases rt T' c' h2 with rfl | z2
    · cases hj
    · exact a10 T c T' c' i j z1 z2 hi hj e1 e2
/-- only numbers have changed -/
theorem xA_num {K' : List aI} (h : xA S0 S σ sd rm fb B rets K Ks vs mp told most) (ez : aMap (K' ++ Ks.flatten) = aMap (K ++ Ks.flatten)) (f : ∀ o f, ¬ (o = 4 ∧ f = 11) → S'.1 o f = S.1 o f) (r : ∀ o i, o ≠ 25 → S'.2.1 o i = S.2.1 o i) (l : S'.2.2 = S.2.2) (e : S'.1 4 11 = nI (aNum (K' ++ Ks.flatten)).length) (n : xNs S' (aNum (K' ++ Ks.flatten))) : xA S0 S' σ sd rm fb B rets K' Ks vs mp told most := by
  have h0 := h
  obtain ⟨a1, a2, a3, a4, a5, a6, a7, a8, a9, a10⟩ := h
  have hs : xHs S S' := ⟨fun g => f 3 g (by omega), fun o i _ _ => r o i (by omega)⟩
  refine xA_gen h0 ⟨fun o g a b c => f o g (by omega), f 4 15 (by omega), fun o i _ => r o i (by omega)⟩ hs ⟨e, n⟩ ?_ ⟨(f 4 13 (by omega)).trans a5.1, a5.2.1, xBs_go (fun o i _ _ => r o i (by omega)) a5.2.2⟩ (fun i hi => (r 23 i (by decide)).trans (a6 i hi)) (fun i hi => by rw [r 24 i (by decide)]; exact xCl_hs hs (a7 i hi)) ⟨(f 4 14 (by omega)).trans a8.1, a8.2.1, fun p x hp => (r 31 p (by decide)).trans (a8.2.2 p x hp)⟩ ((f 4 16 (by omega)).trans a9) (fun T c z => ?_)
  · rw [ez]
    exact ⟨(f 4 12 (by omega)).trans a4.1, xZs_go hs (fun p _ => ⟨r 26 p (by decide), by rw [l]⟩) a4.2⟩
  · rw [ez] at z
    refine Or.inr ?_
    rcases z with ⟨i, i1, i2, i3⟩ | z
    · exact Or.inl ⟨i, i1, i2, by rw [i3]; exact r 24 i (by decide)⟩
    · exact Or.inr (xZr_go (fun p _ => r 26 p (by decide)) z)
/-- only maps on the stack have changed -/
theorem xA_map {K' : List aI} (h : xA S0 S σ sd rm fb B rets K Ks vs mp told most) (en : aNum (K' ++ Ks.flatten) = aNum (K ++ Ks.flatten)) (f : ∀ o f, ¬ (o = 4 ∧ f = 12) → S'.1 o f = S.1 o f) (r : ∀ o i, o ≠ 26 → S'.2.1 o i = S.2.1 o i) (p4 : S'.1 4 12 = nI (aMap (K' ++ Ks.flatten)).length ∧ xZs S' σ sd fb (aMap (K' ++ Ks.flatten))) (rt : ∀ T c, xZr S' (aMap (K' ++ Ks.flatten)) T c → T = .leaf ∨ xRt S (aMap (K ++ Ks.flatten)) Ks.length mp T c) : xA S0 S' σ sd rm fb B rets K' Ks vs mp told most := by
  have h0 := h
  obtain ⟨a1, a2, a3, a4, a5, a6, a7, a8, a9, a10⟩ := h
  have hs : xHs S S' := ⟨fun g => f 3 g (by omega), fun o i _ _ => r o i (by omega)⟩
  refine xA_gen h0 ⟨fun o g a b c => f o g (by omega), f 4 15 (by omega), fun o i _ => r o i (by omega)⟩ hs ?_ p4 ⟨(f 4 13 (by omega)).trans a5.1, a5.2.1, xBs_go (fun o i _ _ => r o i (by omega)) a5.2.2⟩ (fun i hi => (r 23 i (by decide)).trans (a6 i hi)) (fun i hi => by rw [r 24 i (by decide)]; exact xCl_hs hs (a7 i hi)) ⟨(f 4 14 (by omega)).trans a8.1, a8.2.1, fun p x hp => (r 31 p (by decide)).trans (a8.2.2 p x hp)⟩ ((f 4 16 (by omega)).trans a9) (fun T c z => ?_)
  · rw [en]
    exact ⟨(f 4 11 (by omega)).trans a3.1, xNs_go (fun p _ => r 25 p (by decide)) a3.2⟩
  · rcases z with ⟨i, i1, i2, i3⟩ | z
    · exact Or.inr (Or.inl ⟨i, i1, i2, by rw [i3]; exact r 24 i (by decide)⟩)
    · exact rt T c z
/-- only variables have changed -/
theorem xA_var {vs' : Nat → Int32} (h : xA S0 S σ sd rm fb B rets K Ks vs mp told most) (f : ∀ o f, S'.1 o f = S.1 o f) (r : ∀ o i, o ≠ 23 → S'.2.1 o i = S.2.1 o i) (l : S'.2.2 = S.2.2) (p6 : ∀ i, i < 14 + 6 * Ks.length → S'.2.1 23 i = vs' i) : xA S0 S' σ sd rm fb B rets K Ks vs' mp told most := by
  have h0 := h
  obtain ⟨a1, a2, a3, a4, a5, a6, a7, a8, a9, a10⟩ := h
  have hs : xHs S S' := ⟨fun g => f 3 g, fun o i _ _ => r o i (by omega)⟩
  refine xA_gen h0 ⟨fun o g a b c => f o g, f 4 15, fun o i _ => r o i (by omega)⟩ hs ⟨(f 4 11).trans a3.1, xNs_go (fun p _ => r 25 p (by decide)) a3.2⟩ ⟨(f 4 12).trans a4.1, xZs_go hs (fun p _ => ⟨r 26 p (by decide), by rw [l]⟩) a4.2⟩ ⟨(f 4 13).trans a5.1, a5.2.1, xBs_go (fun o i _ _ => r o i (by omega)) a5.2.2⟩ p6 (fun i hi => by rw [r 24 i (by decide)]; exact xCl_hs hs (a7 i hi)) ⟨(f 4 14).trans a8.1, a8.2.1, fun p x hp => (r 31 p (by decide)).trans (a8.2.2 p x hp)⟩ ((f 4 16).trans a9) (fun T c z => ?_)
  refine Or.inr ?_
  rcases z with ⟨i, i1, i2, i3⟩ | z
  · exact Or.inl ⟨i, i1, i2, by rw [i3]; exact r 24 i (by decide)⟩
  · exact Or.inr (xZr_go (fun p _ => r 26 p (by decide)) z)
/-- only the maps' row has changed -/
theorem xA_mp {mp' : Nat → tT} (h : xA S0 S σ sd rm fb B rets K Ks vs mp told most) (f : ∀ o f, S'.1 o f = S.1 o f) (r : ∀ o i, o ≠ 24 → S'.2.1 o i = S.2.1 o i) (l : S'.2.2 = S.2.2) (p7 : ∀ i, i < 6 + 2 * Ks.length → xCl (S'.2.1 20) fb xNo S' σ sd (mp' i) (S'.2.1 24 i)) (rt : ∀ i, i < 6 + 2 * Ks.length → mp' i = .leaf ∨ xRt S (aMap (K ++ Ks.flatten)) Ks.length mp (mp' i) (S'.2.1 24 i)) : xA S0 S' σ sd rm fb B rets K Ks vs mp' told most := by
  have h0 := h
  obtain ⟨a1, a2, a3, a4, a5, a6, a7, a8, a9, a10⟩ := h
  have hs : xHs S S' := ⟨fun g => f 3 g, fun o i _ _ => r o i (by omega)⟩
  refine xA_gen h0 ⟨fun o g a b c => f o g, f 4 15, fun o i _ => r o i (by omega)⟩ hs ⟨(f 4 11).trans a3.1, xNs_go (fun p _ => r 25 p (by decide)) a3.2⟩ ⟨(f 4 12).trans a4.1, xZs_go hs (fun p _ => ⟨r 26 p (by decide), by rw [l]⟩) a4.2⟩ ⟨(f 4 13).trans a5.1, a5.2.1, xBs_go (fun o i _ _ => r o i (by omega)) a5.2.2⟩ (fun i hi => (r 23 i (by decide)).trans (a6 i hi)) p7 ⟨(f 4 14).trans a8.1, a8.2.1, fun p x hp => (r 31 p (by decide)).trans (a8.2.2 p x hp)⟩ ((f 4 16).trans a9) (fun T c z => ?_)
  rcases z with ⟨i, i1, i2, i3⟩ | z
  · rw [i2, i3]; exact rt i i1
  · exact Or.inr (Or.inr (xZr_go (fun p _ => r 26 p (by decide)) z))
end XA

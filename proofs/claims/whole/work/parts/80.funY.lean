/-! THE REFERENCE READS WHAT THE FUNCTION SAYS: a function -/
def cFun1 (n : Nat) (tk : Nat → Int32) (mk : Bool) (par : Nat → Int32) (p b : Nat) : cRes :=
  if cHasF par (tk (p + 1)) then .error (-13, p + 1) else
  match cBare n tk 8 (p + 1) with
  | .error e => .error e
  | .ok _ =>
    match cBare n tk 4 (p + 2) with
    | .error e => .error e
    | .ok _ => cApp [1, 0, 17] (cEnd tk (cBlk n tk (upd par (tk (p + 1)).toNatClampNeg (tk (p + 2))) mk false 16 (p + 3) b))
def yKf (S S' : mv_S) : Prop := (∀ o f, (o = 0 → f ≠ 2 ∧ f ≠ 3 ∧ f ≠ 4 ∧ f ≠ 7 ∧ f ≠ 9 ∧ f ≠ 12 ∧ f ≠ 20 ∧ f ≠ 23) → S'.1 o f = S.1 o f) ∧ (∀ o i, ¬ (2 ≤ o ∧ o ≤ 12) → S'.2.1 o i = S.2.1 o i) ∧ S'.2.2 = S.2.2
theorem yKf_refl (S : mv_S) : yKf S S := ⟨fun _ _ _ => rfl, fun _ _ _ => rfl, rfl⟩
theorem yKf_trans {S T U : mv_S} (h : yKf S T) (g : yKf T U) : yKf S U := ⟨fun o f a => (g.1 o f a).trans (h.1 o f a), fun o i a => (g.2.1 o i a).trans (h.2.1 o i a), g.2.2.trans h.2.2⟩
theorem yKp_kf {S T : mv_S} (h : yKp S T) : yKf S T := ⟨fun o f a => h.1 o f (fun z => by have := a z; omega), fun o i a => h.2.1 o i (by omega) (by omega) (by omega), h.2.2⟩
theorem yKp_refl (S : mv_S) : yKp S S := ⟨fun _ _ _ => rfl, fun _ _ _ _ _ => rfl, rfl⟩
theorem yAt_base {S0 S : mv_S} {w fp : Int32} {p : Nat} {ws ms : List Int32} {td : List (Int32 × Int32 × Int32)} {hs : List (Option (Nat × Nat))} (h : yAt S0 S w fp p ws ms td hs) : yAt S S w fp p ws ms td hs := by
  obtain ⟨h1, h2, h3, h4, h5, h6, h7, _⟩ := h
  exact ⟨h1, h2, h3, h4, h5, h6, h7, yKp_refl S⟩
theorem y_readAll {P : Option Value → mv_S → Prop} {S0 S : mv_S} {w fp : Int32} {p : Nat} {ws ms : List Int32} {td : List (Int32 × Int32 × Int32)} {hs : List (Option (Nat × Nat))} (h : yAt S0 S w fp p ws ms td hs) (hr : yRun P S0 w fp p ws ms td hs) : mv_big layY sysY 21 15 [.ref 0] S P := by
  obtain ⟨N, hN⟩ := hr
  exact ⟨N, hN S _ h (Or.inl rfl)⟩
/-- the store with function f noted -/
def yFn (S : mv_S) (f : Nat) (x : Int32) (w m : Nat) : mv_S := mv_pf (mv_pr (mv_pr (mv_pr (mv_pr S 4 f 1) 5 f x) 6 f (nI w)) 7 f (nI m)) 0 12 0
theorem yFn_f (S : mv_S) (f : Nat) (x : Int32) (w m o k : Nat) : (yFn S f x w m).1 o k = if o = 0 ∧ k = 12 then 0 else S.1 o k := by
  unfold yFn
  rw [pf_get]
  rfl
theorem yFn_r (S : mv_S) (f : Nat) (x : Int32) (w m o i : Nat) : (yFn S f x w m).2.1 o i = if o = 7 ∧ i = f then nI m else if o = 6 ∧ i = f then nI w else if o = 5 ∧ i = f then x else if o = 4 ∧ i = f then 1 else S.2.1 o i := by
  show (mv_pr (mv_pr (mv_pr (mv_pr S 4 f 1) 5 f x) 6 f (nI w)) 7 f (nI m)).2.1 o i = _
  rw [pr_get, pr_get, pr_get, pr_get]
theorem yFn_at {S0 S : mv_S} {w fp : Int32} {p : Nat} {ws ms : List Int32} {td : List (Int32 × Int32 × Int32)} {hs : List (Option (Nat × Nat))} (h : yAt S0 S w fp p ws ms td hs) (f : Nat) (x : Int32) (a b : Nat) : yAt (yFn S f x a b) (yFn S f x a b) w fp p ws ms td hs := by
  obtain ⟨h1, h2, h3, ⟨h4, h4'⟩, ⟨h5, h5'⟩, ⟨h6, h6'⟩, ⟨h7, h7'⟩, _⟩ := h
  have g : ∀ k, k ≠ 12 → (yFn S f x a b).1 0 k = S.1 0 k := fun k hk => by rw [yFn_f, if_neg (fun z => hk z.2)]
  have r : ∀ o i, o < 4 ∨ 7 < o → (yFn S f x a b).2.1 o i = S.2.1 o i := fun o i ho => by rw [yFn_r, if_neg (by omega), if_neg (by omega), if_neg (by omega), if_neg (by omega)]
  refine ⟨by rw [g 3 (by decide)]; exact h1, by rw [g 4 (by decide)]; exact h2, by rw [g 2 (by decide)]; exact h3, ⟨by rw [g 7 (by decide)]; exact h4, fun i z hz => by rw [r 2 i (by decide)]; exact h4' i z hz⟩, ⟨by rw [g 9 (by decide)]; exact h5, fun i z hz => by rw [r 3 i (by decide)]; exact h5' i z hz⟩, ⟨by rw [g 20 (by decide)]; exact h6, yTd_congr (S := S) (fun i _ => ⟨r 8 i (by decide), r 9 i (by decide), r 10 i (by decide)⟩) h6'⟩, ⟨by rw [g 23 (by decide)]; exact h7, fun i u v hz => ?_⟩, yKp_refl _⟩
  rw [r 11 i (by decide), r 12 i (by decide)]
  exact h7' i u v hz
theorem yFn_tk {S0 S : mv_S} {n : Nat} {tk par : Nat → Int32} {mn : Bool} {w fp : Int32} {p : Nat} {ws ms : List Int32} {td : List (Int32 × Int32 × Int32)} {hs : List (Option (Nat × Nat))} (hT : yTk S0 n tk par mn) (h : yAt S0 S w fp p ws ms td hs) {f : Nat} {x : Int32} {a b : Nat} (hx : x ≠ -1 ∧ 0 ≤ x ∧ x ≤ 3) : yTk (yFn S f x a b) n tk (upd par f x) false := by
  obtain ⟨h1, h2, h3, h4, h5, h6⟩ := hT
  have k := h.2.2.2.2.2.2.2
  refine ⟨?_, h2, fun i hi => ?_, h4, fun g hg => ?_, ?_⟩
  · rw [yFn_f, if_neg (by decide), k.1 0 1 (by decide)]; exact h1
  · rw [yFn_r, if_neg (by omega), if_neg (by omega), if_neg (by omega), if_neg (by omega), k.2.1 1 i (by decide) (by decide) (by decide)]; exact h3 i hi
  · have r4 : (yFn S f x a b).2.1 4 g = if g = f then 1 else S.2.1 4 g := by
      rw [yFn_r, if_neg (by omega), if_neg (by omega), if_neg (by omega)]; simp
    have r5 : (yFn S f x a b).2.1 5 g = if g = f then x else S.2.1 5 g := by
      rw [yFn_r, if_neg (by omega), if_neg (by omega)]; simp
    rw [r4, r5]
    by_cases e : g = f
    · subst e
      rw [pk_us, if_pos rfl, if_pos rfl]
      exact ⟨fun z => absurd z hx.1, fun _ => ⟨rfl, rfl, hx.2.1, hx.2.2⟩⟩
    · rw [pk_un e, if_neg e, if_neg e, k.2.1 4 g (by decide) (by decide) (by decide), k.2.1 5 g (by decide) (by decide) (by decide)]
      exact h5 g hg
  · rw [yFn_f, if_pos ⟨rfl, rfl⟩]; rfl
/-- no fault is 0 -/
def cNz (a : cRes) : Prop := ∀ q, ¬ a = .error (0, q)
theorem cNz_then {a : cRes} {f : Nat → Nat → cRes} (h : cNz a) (hf : ∀ p w, cNz (f p w)) : cNz (cThen a f) := by
  intro q e
  match ha : a, e with
  | .error e1, e => exact h q (by rw [← e]; rfl)
  | .ok (p1, l1, s1), e =>
    match hb : f p1 l1.length, e with
    | .error e1, e =>
      simp only [cThen] at e
      rw [hb] at e
      exact hf p1 l1.length q (by rw [hb]; exact e)
    | .ok (p2, l2, s2), e =>
      simp only [cThen] at e
      rw [hb] at e
      cases e
theorem cNz_many {f : Nat → Nat → cRes} (hf : ∀ p w, cNz (f p w)) : ∀ k p b, cNz (cMany f k p b)
  | 0, _, _ => fun _ e => by cases e
  | k + 1, p, b => cNz_then (hf p b) (fun p1 w => cNz_many hf k p1 (b + w))
theorem cNz_loop {tk : Nat → Int32} {f : Nat → Nat → cRes} (hf : ∀ p w, cNz (f p w)) : ∀ k p b, cNz (cLoop tk f k p b)
  | 0, _, _ => fun _ e => by cases e
  | k + 1, p, b => fun q e => by
    unfold cLoop at e
    split at e
    · exact cNz_then (hf p b) (fun p1 w => cNz_loop hf k p1 (b + w)) q e
    · cases e
theorem cNz_plain {n : Nat} {tk par : Nat → Int32} {rec : Bool → Nat → Nat → cRes} (hf : ∀ m p w, cNz (rec m p w)) (p b : Nat) : cNz (cPlain n tk par rec p b) := by
  intro q e
  unfold cPlain at e
  match ha : cArg n tk par (tk p) (p + 1), e with
  | .error (v, q1), e =>
    simp only [Except.error.injEq, Prod.mk.injEq] at e
    unfold cArg at ha
    split at ha
    · exact cBare_er ha e.1
    · split at ha
      · exact cBare_er ha e.1
      · split at ha
        · exact cKnown_er ha e.1
        · split at ha
          · split at ha
            · cases ha
            · simp only [Except.error.injEq, Prod.mk.injEq] at ha
              rw [e.1] at ha
              exact absurd ha.1 (by decide)
          · cases ha
  | .ok p1, e =>
    simp only at e
    match hc : cParts rec (tkMaps (tk p)).toNatClampNeg (cNums tk par p).toNatClampNeg p1 b, e with
    | .error e1, e => exact cNz_then (cNz_many (hf true) _ _ _) (fun p2 w => cNz_many (hf false) _ _ _) q (hc.trans e)
    | .ok (p2, l2, s2), e => cases e
theorem cNz_mark {mk : Bool} {note : Nat → List (Bool × Nat × Nat)} {a : cRes} (h : cNz a) : cNz (cMark mk note a) := by
  intro q e
  match ha : a, e with
  | .error e1, e => exact h q (by rw [← e]; rfl)
  | .ok (p1, l1, s1), e => cases e
theorem cNz_EM {n : Nat} {tk par : Nat → Int32} {mk : Bool} : ∀ r m p b, cNz (cEM n tk par mk r m p b) := by
  intro r
  induction r with
  | zero =>
    intro m p b q e
    unfold cEM at e
    split at e <;> simp only [Except.error.injEq, Prod.mk.injEq] at e <;> exact absurd e.1 (by decide)
  | succ r ih =>
    intro m p b q e
    rw [cEM] at e
    split at e
    · refine cNz_mark ?_ q e
      split
      · intro q e
        unfold cEither at e
        match h1 : cEM n tk par mk r false (p + 1) (b + mk.toNat), e with
        | .error e1, e => exact ih _ _ _ q (h1.trans e)
        | .ok (p1, l1, s1), e =>
          simp only at e
          match h2 : cEM n tk par mk r false p1 (b + mk.toNat + l1.length + 2), e with
          | .error e1, e => exact ih _ _ _ q (h2.trans e)
          | .ok (p2, l2, s2), e => cases e
      · exact cNz_plain ih _ _
    · simp only [Except.error.injEq, Prod.mk.injEq] at e; exact absurd e.1 (by decide)
theorem cNz_stm {n : Nat} {tk par : Nat → Int32} {mk mn : Bool} : ∀ r p b, cNz (cStm n tk par mk mn r p b) := by
  intro r
  induction r with
  | zero =>
    intro p b q e
    unfold cStm at e
    simp only [Except.error.injEq, Prod.mk.injEq] at e; exact absurd e.1 (by decide)
  | succ r ih =>
    intro p b
    have hE := cNz_EM (n := n) (tk := tk) (par := par) (mk := mk) r
    have hB := cNz_loop (tk := tk) ih 700
    rw [cStm]
    refine cNz_mark ?_
    have err : ∀ {q q1 : Nat}, ¬ (Except.error (-11, q1) : cRes) = .error (0, q) := by
      intro q q1 e
      simp only [Except.error.injEq, Prod.mk.injEq] at e; exact absurd e.1 (by decide)
    split
    · intro q e
      unfold cIf at e
      match h1 : cEM n tk par mk r false (p + 1) (b + mk.toNat), e with
      | .error e1, e => exact hE _ _ _ q (h1.trans e)
      | .ok (p1, l1, s1), e =>
        simp only at e
        match h2 : cLoop tk (cStm n tk par mk mn r) 700 p1 (b + mk.toNat + l1.length + 2), e with
        | .error e1, e => exact hB _ _ q (h2.trans e)
        | .ok (p2, l2, s2), e =>
          simp only at e
          split at e
          · match h3 : cLoop tk (cStm n tk par mk mn r) 700 (p2 + 1) (b + mk.toNat + l1.length + 2 + l2.length + 2), e with
            | .error e1, e => exact hB _ _ q (h3.trans e)
            | .ok (p3, l3, s3), e =>
              simp only at e
              split at e
              · cases e
              · exact err e
          · split at e
            · cases e
            · exact err e
    · split
      · intro q e
        unfold cWhile at e
        match h1 : cEM n tk par mk r false (p + 1) (b + mk.toNat), e with
        | .error e1, e => exact hE _ _ _ q (h1.trans e)
        | .ok (p1, l1, s1), e =>
          simp only at e
          match h2 : cLoop tk (cStm n tk par mk mn r) 700 p1 (b + mk.toNat + l1.length + 2), e with
          | .error e1, e => exact hB _ _ q (h2.trans e)
          | .ok (p2, l2, s2), e =>
            simp only at e
            split at e
            · cases e
            · exact err e
      · split
        · intro q e
          unfold cEach at e
          match h1 : cBare n tk 6 (p + 1), e with
          | .error (v, q1), e =>
            simp only [Except.error.injEq, Prod.mk.injEq] at e
            exact cBare_er h1 e.1
          | .ok _, e =>
            simp only at e
            match h2 : cBare n tk 14 (p + 2), e with
            | .error (v, q1), e =>
              simp only [Except.error.injEq, Prod.mk.injEq] at e
              exact cBare_er h2 e.1
            | .ok _, e =>
              simp only at e
              match h3 : cBare n tk 14 (p + 3), e with
              | .error (v, q1), e =>
                simp only [Except.error.injEq, Prod.mk.injEq] at e
                exact cBare_er h3 e.1
              | .ok _, e =>
                simp only at e
                match h4 : cLoop tk (cStm n tk par mk mn r) 700 (p + 4) (b + mk.toNat + 6), e with
                | .error e1, e => exact hB _ _ q (h4.trans e)
                | .ok (p2, l2, s2), e =>
                  simp only at e
                  split at e
                  · cases e
                  · exact err e
        · split
          · intro q e
            unfold cAnswer at e
            match h1 : cEM n tk par mk r false (p + 1) (b + mk.toNat), e with
            | .error e1, e => exact hE _ _ _ q (h1.trans e)
            | .ok (p1, l1, s1), e => cases e
          · split
            · intro q e
              match h1 : cPlain n tk par (cEM n tk par mk r) p (b + mk.toNat), e with
              | .error e1, e =>
                exact cNz_plain hE _ _ q (h1.trans e)
              | .ok (p1, l1, s1), e =>
                cases e
            · exact cNz_plain hE _ _
theorem cEnd_er {n : Nat} {tk par : Nat → Int32} {mk mn : Bool} (_ : ∀ p, n ≤ p → tk p = -1) {r k p b q : Nat} (_ : p ≤ n) (e : cEnd tk (cLoop tk (cStm n tk par mk mn r) k p b) = .error (0, q)) : False := by
  match h1 : cLoop tk (cStm n tk par mk mn r) k p b, e with
  | .error e1, e => exact cNz_loop (cNz_stm r) k p b q (h1.trans e)
  | .ok (p1, l1, s1), e =>
    simp only [cEnd] at e
    split at e
    · cases e
    · simp only [Except.error.injEq, Prod.mk.injEq] at e; exact absurd e.1 (by decide)
section YA
variable {P : Option Value → mv_S → Prop} {S : mv_S} {n : Nat} {tk par : Nat → Int32} {mn : Bool} {p : Nat} {ws ms : List Int32} {hs : List (Option (Nat × Nat))}
theorem y_readFunction (hT : yTk S n tk par mn) (h : yAt S S 0 (-1) p ws ms [] hs) (hb : yBd n p ws ms hs) (t10 : tk p = 10)
    (he : ∀ v q S', cFun1 n tk false par p ws.length = .error (v, q) → v ≠ 0 → yKf S S' → (S'.1 0 12 = S.1 0 12 ∨ S'.1 0 12 = 0) → S'.1 0 3 = v → S'.1 0 4 = nI q → P none S')
    (ho : ∀ p1 l s l' s' S', cFun1 n tk false par p ws.length = .ok (p1, l, s) → cFun1 n tk true par p ms.length = .ok (p1, l', s') → yKf S S' → (∃ h', yAt S' S' 0 (-1) p1 (ws ++ l) (ms ++ l') [] (hs ++ h') ∧ h'.length + 2 * p ≤ 2 * p1) → yTk S' n tk (upd par (tk (p + 1)).toNatClampNeg (tk (p + 2))) false → (∀ i, S'.2.1 6 i = if i = (tk (p + 1)).toNatClampNeg then nI ws.length else S.2.1 6 i) → (∀ i, S'.2.1 7 i = if i = (tk (p + 1)).toNatClampNeg then nI ms.length else S.2.1 7 i) → P none S') : mv_big layY sysY 22 24 [.ref 0] S P := by
  have hn := hT.2.1
  have ht := hT.2.2.2.1
  obtain ⟨hb1, hb2, hb3, hb4⟩ := id hb
  have hp : p < n := tk_in ht (by rw [t10]; decide)
  have h1 := yAt_next h
  refine ⟨160, ?_⟩
  refine y_tokenA hT h1 (by omega) ?_
  obtain ⟨S1, hS1⟩ : ∃ S1, S1 = mv_pf S 0 2 (S.1 0 2 + 1) := ⟨_, rfl⟩
  rw [← hS1] at h1
  have ea : S1.1 0 2 = nI (p + 1) := h1.2.2.1
  have en : S1.1 0 1 = nI n := yTk_n hT h1
  have er : ∀ {v q S' a b c d}, yAt S S' v (nI q) a b c d hs → cFun1 n tk false par p ws.length = .error (v, q) → v ≠ 0 → P none S' := fun g e ev => he _ _ _ e ev (yKp_kf g.2.2.2.2.2.2.2) (Or.inl (g.2.2.2.2.2.2.2.1 0 12 (by decide))) g.1 g.2.1
  have rest : ¬ cHasF par (tk (p + 1)) → ∀ F, 120 ≤ F → mv_wp layY sysY tT11 3 none mX11_readFunction.2.2.2.2.2.2.2 (mv_big layY sysY 21) P F 52 [(1, .int (tk (p + 1))), (0, .ref 0)] [] S1 := by
    intro nf F hF
    refine mv_fuel (n := 120) hF ?_
    refine y_numberA (m := 8) hT h1 hp (by decide) (by decide) (fun v q S2 a1 a2 a3 h2 => ?_) (fun S2 a1 h2 => ?_)
    · have f2 : ¬ S2.1 0 3 = 0 := by rw [h2.1]; exact a2
      refine ⟨fun z => absurd z f2, fun _ => er h2 ?_ a2⟩
      unfold cFun1
      rw [if_neg nf, show cBare n tk 8 (p + 1) = .error (v, q) from a1]
    have a1 : cBare n tk 8 (p + 1) = .ok (p + 2) := a1
    have f2 : S2.1 0 3 = 0 := h2.1
    have b1 := cBare_ok a1
    refine ⟨fun _ => ?_, fun z => absurd f2 z⟩
    refine y_numberA (m := 4) hT h2 (by omega) (by decide) (by decide) (fun v q S3 c1 c2 c3 h3 => ?_) (fun S3 c1 h3 => ?_)
    · have f3 : ¬ S3.1 0 3 = 0 := by rw [h3.1]; exact c2
      refine ⟨fun z => absurd z f3, fun _ => er h3 ?_ c2⟩
      unfold cFun1
      rw [if_neg nf, a1]; simp only; rw [show cBare n tk 4 (p + 2) = .error (v, q) from c1]
    have c1 : cBare n tk 4 (p + 2) = .ok (p + 3) := c1
    have f3 : S3.1 0 3 = 0 := h3.1
    have b2 := cBare_ok c1
    refine ⟨fun _ => ?_, fun z => absurd f3 z⟩
    obtain ⟨f, hf, e⟩ := nI_of (Int32.not_lt.mpr b1.2.2.1)
    have hf8 : f < 8 := by
      have := b1.2.2.2
      rw [e] at this
      exact (nI_ltI (b := 8) hf (by decide)).mp this
    have ef : (tk (p + 1)).toNatClampNeg = f := by rw [e, nI_clamp hf]
    have hv : vp_in (tk (p + 1)) 8 := by rw [e]; exact vp_in_nI hf8 (by decide)
    have hx : tk (p + 2) ≠ -1 ∧ 0 ≤ tk (p + 2) ∧ tk (p + 2) ≤ 3 := by
      refine ⟨fun z => ?_, b2.2.2.1, ?_⟩
      · have := b2.2.2.1
        rw [z] at this
        exact absurd this (by decide)
      · exact (lePred (k := 4) (by decide) (by decide)).mpr b2.2.2.2
    refine ⟨Or.inr rfl, hv, hv, hv, hv, Or.inl rfl, ?_⟩
    rw [ef] at ho
    have hw : S3.1 0 7 = nI ws.length := h3.2.2.2.1.1
    have hm : S3.1 0 9 = nI ms.length := h3.2.2.2.2.1.1
    have hA := yFn_at h3 f (tk (p + 2)) ws.length ms.length
    have hT' := yFn_tk (f := f) (a := ws.length) (b := ms.length) hT h3 hx
    have eS : mv_pf (mv_pr (mv_pr (mv_pr (mv_pr S3 4 (tk (p + 1)).toNatClampNeg 1) 5 (tk (p + 1)).toNatClampNeg (tk (p + 2))) 6 (tk (p + 1)).toNatClampNeg (S3.1 0 7)) 7 (tk (p + 1)).toNatClampNeg (S3.1 0 9)) 0 12 0 = yFn S3 f (tk (p + 2)) ws.length ms.length := by
      rw [ef, hw, hm]; rfl
    have kf : yKf S (yFn S3 f (tk (p + 2)) ws.length ms.length) := by
      refine yKf_trans (yKp_kf h3.2.2.2.2.2.2.2) ⟨fun o g a => ?_, fun o i a => ?_, rfl⟩
      · rw [yFn_f, if_neg (fun z => (a z.1).2.2.2.2.2.1 z.2)]
      · rw [yFn_r, if_neg (by omega), if_neg (by omega), if_neg (by omega), if_neg (by omega)]
    rw [← eS] at hA kf
    rw [← eS] at hT'
    refine y_laterA (a := 4) (b := 17) (c := 0) hA (by simp) (fun T1 g1 => ?_)
    refine y_laterA (a := 4) (b := 0) (c := 0) g1 (by simp) (fun T2 g2 => ?_)
    refine y_laterA (a := 4) (b := 1) (c := 0) g2 (by simp) (fun T3 g3 => ?_)
    refine y_laterA (a := 0) (b := 0) (c := 0) g3 (by simp) (fun T4 g4 => ?_)
    refine mv_big_mono 21 21 (Nat.le_refl _) _ _ _ (fun r S' => r = none ∧ P none S') _ (by rintro _ S' ⟨rfl, z⟩; exact z) (y_readAll g4 ?_)
    have hb' : yBd n (p + 3) ws ms hs := ⟨b2.2.1, by omega, by omega, by omega⟩
    have a := yBlock (P := fun r S' => r = none ∧ P none S') (fp := -1) (td := (4, 1, 0) :: (4, 0, 0) :: (4, 17, 0) :: []) hT' hb' (by simp) 0
    have hl : ∀ b p1 l s, cEnd tk (cLoop tk (cStm n tk (upd par f (tk (p + 2))) false false 16) 700 (p + 3) b) = .ok (p1, l, s) → l.length + 8 * (p + 3) ≤ 8 * p1 ∧ p1 ≤ n ∧ p + 3 ≤ p1 := by
      intro b p1 l s z
      obtain ⟨p2, z1, z2, rfl⟩ := cEnd_ok z
      have := cBlk_ln (mk := false) ht b2.2.1 700 _ _ _ z1
      have h8 : l.length + 8 * (p + 3) ≤ 8 * p2 := this.2.2
      have : p2 < n := tk_in ht (by rw [z2]; decide)
      omega
    have hl' : ∀ b p1 l s, cEnd tk (cLoop tk (cStm n tk (upd par f (tk (p + 2))) true false 16) 700 (p + 3) b) = .ok (p1, l, s) → l.length + 9 * (p + 3) ≤ 9 * p1 ∧ p1 ≤ n := by
      intro b p1 l s z
      obtain ⟨p2, z1, z2, rfl⟩ := cEnd_ok z
      have := cBlk_ln (mk := true) ht b2.2.1 700 _ _ _ z1
      have h8 : l.length + 9 * (p + 3) ≤ 9 * p2 := this.2.2
      have : p2 < n := tk_in ht (by rw [z2]; decide)
      omega
    have a2 := yDn_words a (by simp) (fun p1 l s z => by have := hl _ _ _ _ z; omega) (fun p1 l s z => by have := hl' _ _ _ _ z; omega)
    have a3 := yDn_word a2 (by simp) (fun p1 l s z => by
      obtain ⟨l0, z0, rfl⟩ := cApp_ok z
      have := hl _ _ _ _ z0
      simp; omega) (fun p1 l s z => by
      obtain ⟨l0, z0, rfl⟩ := cApp_ok z
      have := hl' _ _ _ _ z0
      simp; omega)
    rw [cApp_app, cApp_app] at a3
    have sp : ∀ mk b, cFun1 n tk mk par p b = cApp ([1, 0] ++ [17]) (cEnd tk (cLoop tk (cStm n tk (upd par f (tk (p + 2))) mk false 16) 700 (p + 3) b)) := by
      intro mk b
      unfold cFun1
      rw [if_neg nf, a1]; simp only; rw [c1, ef]; rfl
    rcases cSh_2 (cSh_end (tk := tk) (cSh_blk (n := n) (tk := tk) (par := upd par f (tk (p + 2))) (mn := false) (mk := false) (mk' := true) 16 700 (p + 3) ws.length ms.length)) with ⟨⟨v, q⟩, z, z'⟩ | ⟨p1, l, s, l', s', z, z'⟩
    · refine a3.1 v q (by rw [z]; rfl) (fun S' _ _ _ _ _ g => ⟨rfl, ?_⟩)
      have ev : v ≠ 0 := by
        intro z0
        rw [z0] at z
        exact cEnd_er ht b2.2.1 z
      exact he v q S' (by rw [sp, z]; rfl) ev (yKf_trans kf (yKp_kf g.2.2.2.2.2.2.2)) (Or.inr (by rw [g.2.2.2.2.2.2.2.1 0 12 (by decide), eS, yFn_f]; rfl)) g.1 g.2.1
    · obtain ⟨h', hh, go⟩ := a3.2 p1 (l ++ ([1, 0] ++ [17])) s (l' ++ ([1, 0] ++ [17])) s' (by rw [z]; rfl) (by rw [z']; rfl)
      refine go (yRun_end (fun S' g => ⟨rfl, ?_⟩))
      have k := g.2.2.2.2.2.2.2
      refine ho p1 _ s _ s' S' (by rw [sp, z]; rfl) (by rw [sp, z']; rfl) (yKf_trans kf (yKp_kf k)) ⟨h', yAt_base g, by omega⟩ ?_ (fun i => ?_) (fun i => ?_)
      · obtain ⟨t1, t2, t3, t4, t5, t6⟩ := hT'
        refine ⟨by rw [k.1 0 1 (by decide)]; exact t1, t2, fun i hi => by rw [k.2.1 1 i (by decide) (by decide) (by decide)]; exact t3 i hi, t4, fun g hg => by rw [k.2.1 4 g (by decide) (by decide) (by decide), k.2.1 5 g (by decide) (by decide) (by decide)]; exact t5 g hg, by rw [k.1 0 12 (by decide)]; exact t6⟩
      · rw [k.2.1 6 i (by decide) (by decide) (by decide), eS, yFn_r, if_neg (by omega)]
        by_cases c : i = f
        · rw [if_pos ⟨rfl, c⟩, if_pos c]
        · rw [if_neg (fun z => c z.2), if_neg (by omega), if_neg (by omega), if_neg c, h3.2.2.2.2.2.2.2.2.1 6 i (by decide) (by decide) (by decide)]
      · rw [k.2.1 7 i (by decide) (by decide) (by decide), eS, yFn_r]
        by_cases c : i = f
        · rw [if_pos ⟨rfl, c⟩, if_pos c]
        · rw [if_neg (fun z => c z.2), if_neg (by omega), if_neg (by omega), if_neg (by omega), if_neg c, h3.2.2.2.2.2.2.2.2.1 7 i (by decide) (by decide) (by decide)]
  have hl1 : ∀ c : ¬ S1.1 0 1 ≤ S1.1 0 2, p + 1 < n := fun c => by
    rw [ea, en, nI_leI (by omega) (by omega)] at c; omega
  rw [hS1] at rest hl1 h1
  refine ⟨fun c => ?_, fun c => ?_⟩
  · have c : (mv_pf S 0 2 (S.1 0 2 + 1)).1 0 1 ≤ (mv_pf S 0 2 (S.1 0 2 + 1)).1 0 2 := c
    rw [← hS1, ea, en, nI_leI (by omega) (by omega)] at c
    refine rest (fun z => ?_) _ (by decide)
    have := z.1
    rw [ht (p + 1) (by omega)] at this
    exact absurd this (by decide)
  · have hlt := hl1 c
    refine y_in (fun c2 => ?_) (fun c2 => ?_)
    · refine ⟨fun _ => rest (fun z => c2 ⟨z.1, (lePred (k := 8) (by decide) (by decide)).mpr z.2.1⟩) _ (by decide), fun z => absurd rfl z⟩
    · refine ⟨fun z => absurd (show (1 : Int32) = 0 from z) (by decide), fun _ => ?_⟩
      have c3 : tk (p + 1) < 8 := (lePred (k := 8) (by decide) (by decide)).mp c2.2
      obtain ⟨f, hf, e⟩ := nI_of (Int32.not_lt.mpr c2.1)
      have hf8 : f < 8 := by
        rw [e] at c3
        exact (nI_ltI (b := 8) hf (by decide)).mp c3
      have ef : (tk (p + 1)).toNatClampNeg = f := by rw [e, nI_clamp hf]
      refine ⟨by rw [e]; exact vp_in_nI hf8 (by decide), fun c4 => ?_, fun c4 => ?_⟩
      · have c4 : (mv_pf S 0 2 (S.1 0 2 + 1)).2.1 4 (tk (p + 1)).toNatClampNeg = 0 := c4
        rw [ef, yTk_isF hT h1 hf8] at c4
        exact rest (fun z => z.2.2 (by rw [ef]; exact c4)) _ (by decide)
      · have c4 : ¬ (mv_pf S 0 2 (S.1 0 2 + 1)).2.1 4 (tk (p + 1)).toNatClampNeg = 0 := c4
        rw [ef, yTk_isF hT h1 hf8] at c4
        refine y_wrongA (v := -13) h1 (fun S2 h2 => er h2 ?_ (by decide))
        unfold cFun1
        rw [if_pos ⟨c2.1, c3, by rw [ef]; exact c4⟩]
end YA

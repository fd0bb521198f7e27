/-! THE CLASS'S COMPILER DOES WHAT THE FUNCTION SAYS: compile -/
def cMain (n : Nat) (tk par : Nat → Int32) (mk : Bool) (p b : Nat) : cRes :=
  if tk p = 11 then
    match cBlk n tk par mk true 16 (p + 1) b with
    | .error e => .error e
    | .ok (p1, l1, s1) => if tk p1 = 0 then (if p1 + 1 < n then .error (-11, p1 + 1) else .ok (p1 + 1, l1 ++ [0], s1)) else .error (-11, p1)
  else .error (-11, p)
theorem cAll_main (n : Nat) (tk : Nat → Int32) (mk : Bool) : cAll n tk mk = match cFuns n tk mk 9 (fun _ => -1) 0 0 with
  | .error e => .error e
  | .ok (p, l, s, par, fs) => match cMain n tk par mk p l.length with
    | .error e => .error e
    | .ok (_, l1, s1) => .ok (l ++ l1, s ++ s1, par, fs, l.length, p) := by
  unfold cAll
  match cFuns n tk mk 9 (fun _ => -1) 0 0 with
  | .error e => rfl
  | .ok (p, l, s, par, fs) =>
    simp only [cMain]
    by_cases h : tk p = 11
    · rw [if_pos h, if_pos h]
      match cBlk n tk par mk true 16 (p + 1) l.length with
      | .error e => rfl
      | .ok (p1, l1, s1) =>
        simp only
        by_cases h0 : tk p1 = 0
        · rw [if_pos h0, if_pos h0]
          by_cases h1 : p1 + 1 < n
          · rw [if_pos h1, if_pos h1]
          · rw [if_neg h1, if_neg h1]
        · rw [if_neg h0, if_neg h0]
    · rw [if_neg h, if_neg h]
def xMn (S : mv_S) : mv_S := mv_pf (mv_pf (mv_pf (mv_pf S 2 3 1) 1 7 (S.1 1 10)) 1 8 (S.1 2 1)) 2 1 (S.1 2 1 + 1)
def xKm (S S' : mv_S) : Prop := (∀ o f, o ≠ 2 → (o = 1 → f ≠ 7 ∧ f ≠ 8 ∧ f ≠ 10) → S'.1 o f = S.1 o f) ∧ (∀ o i, ¬ (9 ≤ o ∧ o ≤ 14) → S'.2.1 o i = S.2.1 o i) ∧ S'.2.2 = S.2.2
theorem xKm_trans {S T U : mv_S} (h : xKm S T) (g : xKm T U) : xKm S U := ⟨fun o f a b => (g.1 o f a b).trans (h.1 o f a b), fun o i a => (g.2.1 o i a).trans (h.2.1 o i a), g.2.2.trans h.2.2⟩
theorem xKf_km {S T : mv_S} (h : xKf S T) : xKm S T := ⟨fun o f a b => h.1 o f (fun z => absurd z a) (fun z => (b z).2.2), h.2.1, h.2.2⟩
theorem xMn_get (S : mv_S) (o f : Nat) : (xMn S).1 o f = if o = 2 ∧ f = 1 then S.1 2 1 + 1 else if o = 1 ∧ f = 8 then S.1 2 1 else if o = 1 ∧ f = 7 then S.1 1 10 else if o = 2 ∧ f = 3 then 1 else S.1 o f := by
  unfold xMn
  rw [pf_get, pf_get, pf_get, pf_get]
theorem xMn_km (S : mv_S) : xKm S (xMn S) := ⟨fun o f a b => by rw [xMn_get, if_neg (fun z => a z.1), if_neg (fun z => (b z.1).2.1 z.2), if_neg (fun z => (b z.1).1 z.2), if_neg (fun z => a z.1)], fun _ _ _ => rfl, rfl⟩
section LX
variable {d : Nat} {S T : mv_S} {P : Option Value → mv_S → Prop} {n : Nat} {tk par : Nat → Int32} {mn : Bool} {p b p1 : Nat} {l : List Int32} {s : List (Bool × Nat × Nat)}
theorem xAt_mn (hA : xAt S n tk par false p b) (hp : p < n) : xAt (xMn S) n tk par true (p + 1) b := by
  obtain ⟨h1, h2, h3, h4, h5, h6, h7, h8, h9, h10⟩ := hA
  refine ⟨?_, h2, h3, h4, h5, ?_, ?_, hp, ?_, by omega⟩
  · rw [xMn_get]; exact h1
  · rw [xMn_get]; rfl
  · rw [xMn_get, if_pos ⟨rfl, rfl⟩, h7, nI_1]
  · rw [xMn_get]; exact h9
theorem x_mainPart (ht : ∀ p, n ≤ p → tk p = -1) (hA : xAt S n tk par false p b)
    (he : ∀ w q S', cMain n tk par false p b = .error (w, q) → xKm S S' → S'.1 2 1 = nI q → S'.1 2 2 = w → P (some (.int 0)) S')
    (ho : ∀ p' l1 s1 S', cMain n tk par false p b = .ok (p', l1, s1) → xGo (xMn S) S' (p + 1) b p' l1 s1 → p < n → p' ≤ n → b + l1.length ≤ 8 * p' → P (some (.int 1)) S') : mv_big layX sysX 400 29 [.ref 2] S P := by
  have hpn := xAt_pn hA
  refine ⟨100, ?_⟩
  refine x_tokN hA ?_
  refine ⟨fun c => ?_, fun c => ?_⟩
  · have c : tk p = 11 := c
    have hp : p < n := tk_in ht (by rw [c]; decide)
    refine ⟨Or.inr rfl, ?_⟩
    refine x_addMain ?_
    have hB := x_blk (mn := true) (par := par) ht 16 (Nat.le_refl _)
    have hbl : ∀ p b, p ≤ n → cLn n 8 p (cLoop tk (cStm n tk par false true 16) 700 p b) := fun p b h => cBlk_ln (mk := false) ht h 700
    have hA1 := xAt_mn hA hp
    refine mv_deep (d := 360) (by decide) (hB (xMn S) _ (p + 1) b trivial hA1 (fun w q S3 e k1 k2 k3 => ?_) (fun p2 l2 s2 S3 e g5 => ?_))
    · refine ⟨fun _ => ⟨Or.inl rfl, he w q S3 ?_ (xKm_trans (xMn_km S) (xKf_km (xKp_kf k1))) k2 k3⟩, fun z => absurd rfl z⟩
      rw [cMain, if_pos c, cBlk, e]
    refine ⟨fun z => absurd (show (1 : Int32) = 0 from z) (by decide), fun _ => ?_⟩
    have hl := hbl _ _ hp _ _ _ e
    have hA2 := xAt_go hA1 g5 hl.2.1 (by omega)
    refine x_passEndA hA2 (fun S4 z0 k1 k2 k3 => ?_) (fun z0 => ?_)
    · refine ⟨fun z => absurd rfl z, fun _ => ⟨Or.inl rfl, he (-11) p2 S4 ?_ (xKm_trans (xMn_km S) (xKf_km (xKp_kf (xKp_trans g5.1 k1)))) k2 k3⟩⟩
      rw [cMain, if_pos c, cBlk, e]; simp only; rw [if_neg z0]
    refine ⟨fun _ => ?_, fun z => absurd (show (1 : Int32) = 0 from z) (by decide)⟩
    have hn2 : p2 < n := tk_in ht (by rw [z0]; decide)
    have g6 := xGo_n g5 hl.1
    refine x_emitA (w := 0) g6 (by omega) (by omega) (fun S5 g7 => ?_)
    have hA3 := xAt_go hA1 g7 hn2 (by simp; omega)
    have hh := xAt_has hA3
    refine x_hasToken (fun z => ?_) (fun z => ?_)
    · refine ⟨fun _ => ⟨Or.inr rfl, ho (p2 + 1) _ _ S5 ?_ g7 hp hn2 (by simp; omega)⟩, fun y => absurd rfl y⟩
      rw [cMain, if_pos c, cBlk, e]; simp only; rw [if_pos z0, if_neg (fun y => z (hh.mpr y))]
    · refine ⟨fun y => absurd (show (1 : Int32) = 0 from y) (by decide), fun _ => ?_⟩
      refine x_fail ?_
      refine ⟨fun _ => ⟨Or.inl rfl, he (-11) (p2 + 1) _ ?_ (xKm_trans (xMn_km S) (xKf_km (xKp_kf (xKp_trans g7.1 (xKp_fault S5 _))))) ((xFl_1 S5 _).trans g7.2.1) (xFl_2 S5 _)⟩, fun y => absurd rfl y⟩
      rw [cMain, if_pos c, cBlk, e]; simp only; rw [if_pos z0, if_pos (hh.mp z)]
  · have c : ¬ tk p = 11 := c
    refine x_fail ⟨Or.inl rfl, he (-11) p _ ?_ (xKf_km (xKp_kf (xKp_fault S _))) ((xFl_1 S _).trans (xAt_p hA)) (xFl_2 S _)⟩
    rw [cMain, if_neg c]
end LX
def xKc (S S' : mv_S) : Prop := (∀ o f, o ≠ 1 → o ≠ 2 → S'.1 o f = S.1 o f) ∧ S'.1 1 9 = S.1 1 9 ∧ (∀ o i, ¬ (9 ≤ o ∧ o ≤ 14) → S'.2.1 o i = S.2.1 o i) ∧ S'.2.2 = S.2.2
/-- the class's store holds the code: words l, notes s, parameters par, functions fs, the main part's first word mw and place mt -/
def xCode (S : mv_S) (l : List Int32) (s : List (Bool × Nat × Nat)) (par : Nat → Int32) (fs : cFs) (mw mt : Nat) : Prop :=
  S.1 1 11 = 1 ∧ S.1 1 12 = -1 ∧ S.1 1 10 = nI l.length ∧ l.length ≤ 1500 ∧ (∀ i x, l[i]? = some x → S.2.1 11 i = x) ∧ (∀ g q e, (g, q, e) ∈ s → q < 700 ∧ S.2.1 (if g then 10 else 9) q = nI e) ∧ (∀ i, i < 8 → S.2.1 12 i = par i) ∧ (∀ f w t, (f, w, t) ∈ fs → f < 8 ∧ par f ≠ -1 ∧ S.2.1 13 f = nI w ∧ S.2.1 14 f = nI t) ∧ S.1 1 7 = nI mw ∧ S.1 1 8 = nI mt
section LX
variable {d : Nat} {S T : mv_S} {P : Option Value → mv_S → Prop} {n : Nat} {tk par : Nat → Int32}
theorem xS0_get (S : mv_S) (o f : Nat) : (mv_pf (mv_pf (xFC S) 2 1 0) 2 3 0).1 o f = if o = 2 ∧ f = 3 then 0 else if o = 2 ∧ f = 1 then 0 else if o = 1 ∧ f = 12 then -1 else if o = 1 ∧ f = 10 then 0 else if o = 1 ∧ f = 11 then 0 else S.1 o f := by
  rw [pf_get, pf_get]
  show (if _ then _ else if _ then _ else (mv_pf (mv_pf (mv_pf S 1 11 0) 1 10 0) 1 12 (-1)).1 o f) = _
  rw [pf_get, pf_get, pf_get]
theorem xS0_row (S : mv_S) (o i : Nat) : (mv_pf (mv_pf (xFC S) 2 1 0) 2 3 0).2.1 o i = if o = 12 ∧ i < 8 then -1 else S.2.1 o i := by
  show (va_up S.2.1 12 (rFill (S.2.1 12) 0 8 (-1))) o i = _
  by_cases h : o = 12
  · subst h
    by_cases h2 : i < 8 <;> simp [va_up, rFill, h2]
  · simp [va_up, h]
theorem x_translate (hn : S.1 1 9 = nI n) (hn2 : n ≤ 700) (hk : ∀ i, i < n → S.2.1 8 i = tk i) (ht : ∀ p, n ≤ p → tk p = -1)
    (he : ∀ w q S', cAll n tk false = .error (w, q) → xKc S S' → S'.1 1 11 = 0 → S'.1 1 12 = nI q → P (some (.int w)) S')
    (hf : ∀ l s par fs mw mt S', cAll n tk false = .ok (l, s, par, fs, mw, mt) → 1500 < l.length → xKc S S' → S'.1 1 11 = 0 → S'.1 1 12 = -1 → P (some (.int (-16))) S')
    (ho : ∀ l s par fs mw mt S', cAll n tk false = .ok (l, s, par, fs, mw, mt) → xKc S S' → xCode S' l s par fs mw mt → P (some (.int (nI l.length))) S') : mv_big layX sysX 401 26 [.ref 2] S P := by
  obtain ⟨S0, hS0⟩ : ∃ S0, S0 = mv_pf (mv_pf (xFC S) 2 1 0) 2 3 0 := ⟨_, rfl⟩
  have r1 : ∀ o f, S0.1 o f = if o = 2 ∧ f = 3 then 0 else if o = 2 ∧ f = 1 then 0 else if o = 1 ∧ f = 12 then -1 else if o = 1 ∧ f = 10 then 0 else if o = 1 ∧ f = 11 then 0 else S.1 o f := fun o f => by rw [hS0]; exact xS0_get S o f
  have r2 : ∀ o i, S0.2.1 o i = if o = 12 ∧ i < 8 then -1 else S.2.1 o i := fun o i => by rw [hS0]; exact xS0_row S o i
  have r3 : S0.2.2 = S.2.2 := by rw [hS0]; rfl
  have hA : xAt S0 n tk (fun _ => -1) false 0 0 := by
    refine ⟨by rw [r1]; exact hn, hn2, fun i hi => by rw [r2, if_neg (by omega)]; exact hk i hi, ht, fun i hi => by rw [r2, if_pos ⟨rfl, hi⟩], by rw [r1]; rfl, by rw [r1]; rfl, Nat.zero_le _, by rw [r1]; rfl, by omega⟩
  have k0 : ∀ S', xKm S0 S' → xKc S S' := by
    intro S' k
    refine ⟨fun o f a b => ?_, ?_, fun o i a => ?_, k.2.2.trans r3⟩
    · rw [k.1 o f b (fun z => absurd z a), r1, if_neg (fun z => b z.1), if_neg (fun z => b z.1), if_neg (fun z => a z.1), if_neg (fun z => a z.1), if_neg (fun z => a z.1)]
    · rw [k.1 1 9 (by decide) (by decide), r1]; rfl
    · rw [k.2.1 o i a, r2, if_neg (by omega)]
  have k1 : ∀ S', xKm S0 S' → S'.1 1 11 = 0 ∧ S'.1 1 12 = -1 := by
    intro S' k
    refine ⟨?_, ?_⟩
    · rw [k.1 1 11 (by decide) (by decide), r1]; rfl
    · rw [k.1 1 12 (by decide) (by decide), r1]; rfl
  have kr : ∀ S' x, xKm S0 S' → xKc S (mv_pf S' 1 12 x) := by
    intro S' x k
    have := k0 S' k
    refine ⟨fun o f a b => ?_, ?_, this.2.2.1, this.2.2.2⟩
    · rw [pf_get, if_neg (fun z => a z.1)]; exact this.1 o f a b
    · rw [pf_get, if_neg (by decide)]; exact this.2.1
  have ka : ∀ S' x, xKm S0 S' → xKc S (mv_pf S' 1 11 x) := by
    intro S' x k
    have := k0 S' k
    refine ⟨fun o f a b => ?_, ?_, this.2.2.1, this.2.2.2⟩
    · rw [pf_get, if_neg (fun z => a z.1)]; exact this.1 o f a b
    · rw [pf_get, if_neg (by decide)]; exact this.2.1
  rw [cAll_main] at he hf ho
  refine ⟨100, ?_⟩
  refine x_forgetCode ?_
  refine ⟨Or.inl rfl, ?_⟩
  refine x_functions (S := mv_pf (mv_pf (xFC S) 2 1 0) 2 3 0) ht (by rw [← hS0]; exact hA) (fun w q S1 e k k2 k3 => ?_) (fun p l s par fs S1 e g h1 h2 => ?_)
  · rw [← hS0] at k
    refine ⟨fun _ => ?_, fun z => absurd rfl z⟩
    refine x_refuse ?_
    have c := k1 S1 (xKf_km k)
    have := he w q (mv_pf S1 1 12 (S1.1 2 1)) (by rw [e]) (kr S1 _ (xKf_km k)) (by rw [pf_get, if_neg (by decide)]; exact c.1) (by rw [pf_get, if_pos ⟨rfl, rfl⟩]; exact k2)
    rw [← k3] at this
    exact this
  · rw [← hS0] at g
    refine ⟨fun z => absurd (show (1 : Int32) = 0 from z) (by decide), fun _ => ?_⟩
    have hA1 := xAt_gf hA g h1 h2
    refine x_mainPart ht hA1 (fun w q S2 e2 k k2 k3 => ?_) (fun p' l1 s1 S2 e2 g2 h3 h4 h5 => ?_)
    · refine ⟨fun z => absurd rfl z, fun _ => ?_⟩
      refine x_refuse ?_
      have km := xKm_trans (xKf_km g.1) k
      have c := k1 S2 km
      have := he w q (mv_pf S2 1 12 (S2.1 2 1)) (by rw [e]; simp only; rw [e2]) (kr S2 _ km) (by rw [pf_get, if_neg (by decide)]; exact c.1) (by rw [pf_get, if_pos ⟨rfl, rfl⟩]; exact k2)
      rw [← k3] at this
      exact this
    · refine ⟨fun _ => ?_, fun z => absurd (show (1 : Int32) = 0 from z) (by decide)⟩
      have km := xKm_trans (xKf_km g.1) (xKm_trans (xMn_km S1) (xKf_km (xKp_kf g2.1)))
      have c := k1 S2 km
      have em : S2.1 1 10 = nI (l.length + l1.length) := g2.2.2.1
      refine x_emittedA (i := nI (l.length + l1.length)) (fun _ => ?_) em
      have hall : (match cFuns n tk false 9 (fun _ => -1) 0 0 with | .error e => (.error e : Except (Int32 × Nat) (List Int32 × List (Bool × Nat × Nat) × (Nat → Int32) × List (Nat × Nat × Nat) × Nat × Nat)) | .ok (p, l, s, par, fs) => match cMain n tk par false p l.length with | .error e => .error e | .ok (_, l1, s1) => .ok (l ++ l1, s ++ s1, par, fs, l.length, p)) = .ok (l ++ l1, s ++ s1, par, fs, l.length, p) := by
        rw [e]; simp only; rw [e2]
      have el : (l ++ l1).length = l.length + l1.length := List.length_append
      refine ⟨fun z => ?_, fun z => ?_⟩
      · have z : nI (l.length + l1.length) ≤ nI 1500 := z
        have z := (nI_leI (by omega) (by decide)).mp z
        obtain ⟨q1, q2, q3, q4, q5, q6, q7⟩ := g2
        obtain ⟨w1, w2, w3, w4, w5, w6, w7⟩ := g
        have code : xCode (mv_pf S2 1 11 1) (l ++ l1) (s ++ s1) par fs l.length p := by
          refine ⟨?_, ?_, ?_, by omega, fun i x hx => ?_, fun a q r hm => ?_, fun i hi => ?_, fun f w t hm => ?_, ?_, ?_⟩
          · rw [pf_get, if_pos ⟨rfl, rfl⟩]
          · rw [pf_get, if_neg (by decide)]; exact c.2
          · rw [pf_get, if_neg (by decide), el]; exact em
          · show S2.2.1 11 i = x
            by_cases hi : i < l.length
            · rw [List.getElem?_append_left hi] at hx
              rw [q4 i hi]
              exact w4 i x hx (by omega)
            · rw [List.getElem?_append_right (by omega)] at hx
              have h6 := (List.getElem?_eq_some_iff.mp hx).1
              have := q5 (i - l.length) x hx (by omega)
              rw [show l.length + (i - l.length) = i by omega] at this
              exact this
          · show q < 700 ∧ S2.2.1 _ q = _
            rcases List.mem_append.mp hm with hm1 | hm1
            · have := w5 a q r hm1
              exact ⟨by omega, by rw [q6 a q (by omega)]; exact this.2⟩
            · have := q7 a q r hm1
              exact ⟨by omega, this.2.2⟩
          · show S2.2.1 12 i = _
            rw [q1.2.1 12 i (by decide) (by decide) (by decide)]; exact w6 i hi
          · show f < 8 ∧ par f ≠ -1 ∧ S2.2.1 13 f = _ ∧ S2.2.1 14 f = _
            rw [q1.2.1 13 f (by decide) (by decide) (by decide), q1.2.1 14 f (by decide) (by decide) (by decide)]
            exact w7 f w t hm
          · rw [pf_get, if_neg (by decide), q1.1 1 7 (by decide) (by decide), xMn_get]; exact w3
          · rw [pf_get, if_neg (by decide), q1.1 1 8 (by decide) (by decide), xMn_get]; exact w2
        have := ho _ _ _ _ _ _ (mv_pf S2 1 11 1) hall (ka S2 1 km) code
        refine ⟨20, Or.inr rfl, ?_⟩
        refine ⟨20, fun y => ?_, fun _ => ?_⟩
        · have y : (mv_pf S2 1 11 1).1 1 11 = 0 := y
          rw [pf_get, if_pos ⟨rfl, rfl⟩] at y
          exact absurd y (by decide)
        · rw [← code.2.2.1] at this
          exact this
      · have z : ¬ nI (l.length + l1.length) ≤ nI 1500 := z
        have z : ¬ l.length + l1.length ≤ 1500 := fun y => z ((nI_leI (by omega) (by decide)).mpr y)
        exact hf _ _ _ _ _ _ S2 hall (by rw [el]; omega) (k0 S2 km) c.1 c.2
theorem x_compile (hn : S.1 1 9 = nI n) (hn2 : n ≤ 700) (hk : ∀ i, i < n → S.2.1 8 i = tk i) (ht : ∀ p, n ≤ p → tk p = -1)
    (he : ∀ w q S', cAll n tk false = .error (w, q) → xKc (xLR S) S' → S'.1 1 11 = 0 → S'.1 1 12 = nI q → P (some (.int w)) S')
    (hf : ∀ l s par fs mw mt S', cAll n tk false = .ok (l, s, par, fs, mw, mt) → 1500 < l.length → xKc (xLR S) S' → S'.1 1 11 = 0 → S'.1 1 12 = -1 → P (some (.int (-16))) S')
    (ho : ∀ l s par fs mw mt S', cAll n tk false = .ok (l, s, par, fs, mw, mt) → xKc (xLR S) S' → xCode S' l s par fs mw mt → P (some (.int (nI l.length))) S') : mv_big layX sysX 402 160 [.ref 0] S P := by
  refine ⟨20, ?_⟩
  refine x_leaveRun ?_
  refine x_translate (S := xLR S) (n := n) (tk := tk) ?_ hn2 ?_ ht he hf ho
  · exact hn
  · exact hk
end LX

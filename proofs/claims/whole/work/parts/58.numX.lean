/-! THE CLASS'S COMPILER DOES WHAT THE FUNCTION SAYS: E and M -/
section LX
variable {n : Nat} {tk par : Nat → Int32} {mn : Bool}
theorem xFl_1 (S : mv_S) (w : Int32) : (mv_pf S 2 2 w).1 2 1 = S.1 2 1 := by rw [pf_get, if_neg (by decide)]
theorem xFl_2 (S : mv_S) (w : Int32) : (mv_pf S 2 2 w).1 2 2 = w := by rw [pf_get, if_pos ⟨rfl, rfl⟩]
theorem xBe_1 (S : mv_S) (i x : Int32) (o f : Nat) : (sR S 9 700 i x).1 o f = S.1 o f := by rw [sR_1]
theorem x_mapPart0 : xDoes 10 43 [.ref 2, .int 16] n tk par mn (fun _ => True) (cEM n tk par false 0 true) := by
  intro S P p b _ hA he ho
  refine ⟨60, ?_⟩
  refine x_tokN hA ?_
  refine x_isMap (fun c => ?_) (fun c => ?_)
  · refine ⟨fun z => absurd rfl z, fun _ => ?_⟩
    refine x_fail ⟨Or.inl rfl, he (-11) p _ ?_ (xKp_fault S _) ((xFl_1 S _).trans (xAt_p hA)) (xFl_2 S _)⟩
    unfold cEM
    rw [if_neg (show ¬ cKind true (tk p) from c)]
  · refine ⟨fun _ => ?_, fun z => absurd (show (1 : Int32) = 0 from z) (by decide)⟩
    refine ⟨fun z => absurd (show (16 : Int32) < 16 from z) (by decide), fun _ => ?_⟩
    refine x_fail ⟨Or.inl rfl, he (-15) p _ ?_ (xKp_fault S _) ((xFl_1 S _).trans (xAt_p hA)) (xFl_2 S _)⟩
    unfold cEM
    rw [if_pos (show cKind true (tk p) from c)]
theorem x_numberPart0 : xDoes 10 42 [.ref 2, .int 16] n tk par mn (fun _ => True) (cEM n tk par false 0 false) := by
  intro S P p b _ hA he ho
  refine ⟨60, ?_⟩
  refine x_tokN hA ?_
  refine x_isNumber (fun c => ?_) (fun c => ?_)
  · refine ⟨fun z => absurd rfl z, fun _ => ?_⟩
    refine x_fail ⟨Or.inl rfl, he (-11) p _ ?_ (xKp_fault S _) ((xFl_1 S _).trans (xAt_p hA)) (xFl_2 S _)⟩
    unfold cEM
    rw [if_neg (show ¬ cKind false (tk p) from c)]
  · refine ⟨fun _ => ?_, fun z => absurd (show (1 : Int32) = 0 from z) (by decide)⟩
    refine ⟨fun z => absurd (show (16 : Int32) < 16 from z) (by decide), fun _ => ?_⟩
    refine x_fail ⟨Or.inl rfl, he (-15) p _ ?_ (xKp_fault S _) ((xFl_1 S _).trans (xAt_p hA)) (xFl_2 S _)⟩
    unfold cEM
    rw [if_pos (show cKind false (tk p) from c)]
theorem cMark_err {mk : Bool} {note : Nat → List (Bool × Nat × Nat)} {a : cRes} {e} (h : a = .error e) : cMark mk note a = .error e := by subst h; rfl
theorem cMark_f {note : Nat → List (Bool × Nat × Nat)} {a : cRes} {p l s} (h : a = .ok (p, l, s)) : cMark false note a = .ok (p, l, s ++ note p) := by subst h; rfl
theorem x_mapPartS {D r : Nat} {k : Int32} (ht : ∀ p, n ≤ p → tk p = -1) (hk : k < 16) (hP : xDoes D 45 [.ref 2, .int k] n tk par mn (fun p => p < n) (cPlain n tk par (cEM n tk par false r))) : xDoes (D + 2) 43 [.ref 2, .int k] n tk par mn (fun _ => True) (cEM n tk par false (r + 1) true) := by
  intro S P p b _ hA he ho
  refine ⟨60, ?_⟩
  refine x_tokN hA ?_
  refine x_isMap (fun c => ?_) (fun c => ?_)
  · refine ⟨fun z => absurd rfl z, fun _ => ?_⟩
    refine x_fail ⟨Or.inl rfl, he (-11) p _ ?_ (xKp_fault S _) ((xFl_1 S _).trans (xAt_p hA)) (xFl_2 S _)⟩
    unfold cEM
    rw [if_neg (show ¬ cKind true (tk p) from c)]
  · refine ⟨fun _ => ?_, fun z => absurd (show (1 : Int32) = 0 from z) (by decide)⟩
    refine ⟨fun _ => ?_, fun z => absurd hk z⟩
    have hc : cKind true (tk p) := c
    have hn : ¬ (tk p = 30 ∨ tk p = 31) := by
      intro z
      have c1 := hc.1
      rcases z with z | z <;> rw [z] at c1 <;> exact absurd c1 (by decide)
    have spec : cEM n tk par false (r + 1) true p b = cMark false (fun p1 => []) (cPlain n tk par (cEM n tk par false r) p b) := by
      rw [cEM, if_pos hc, if_neg hn]; rfl
    rw [spec] at he ho
    refine mv_deep (d := D) (by omega) (hP S _ p b (cKind_in ht hc) hA (fun w q S1 e k1 k2 k3 => ⟨Or.inl rfl, he w q S1 (cMark_err e) k1 k2 k3⟩) (fun p1 l s S1 e g => ⟨Or.inr rfl, ho p1 l s S1 ?_ g⟩))
    rw [cMark_f e, List.append_nil]
theorem x_numberPartS {D r : Nat} {k : Int32} (ht : ∀ p, n ≤ p → tk p = -1) (hk : k < 16) (hP : xDoes D 45 [.ref 2, .int k] n tk par mn (fun p => p < n) (cPlain n tk par (cEM n tk par false r)))
    (h1 : xDoes D 44 [.ref 2, .int k] n tk par mn (fun p => p < n ∧ tk p = 30) (fun p b => cEither (cEM n tk par false r) (tk p) p b)) (h2 : xDoes D 44 [.ref 2, .int k] n tk par mn (fun p => p < n ∧ ¬ tk p = 30) (fun p b => cEither (cEM n tk par false r) (tk p) p b)) : xDoes (D + 3) 42 [.ref 2, .int k] n tk par mn (fun _ => True) (cEM n tk par false (r + 1) false) := by
  intro S P p b _ hA he ho
  have hpn := xAt_pn hA
  have hr : ∀ m p b, p ≤ n → cLn n (8 + (false).toNat) p (cEM n tk par false r m p b) := fun m p b _ => cLs_ln (cEM_ls ht r m p b)
  have hnt : ∀ m p b, p ≤ n → cNt p (cEM n tk par false r m p b) := fun m p b _ => cEM_nt ht r m p b
  refine ⟨100, ?_⟩
  refine x_tokN hA ?_
  refine x_isNumber (fun c => ?_) (fun c => ?_)
  · refine ⟨fun z => absurd rfl z, fun _ => ?_⟩
    refine x_fail ⟨Or.inl rfl, he (-11) p _ ?_ (xKp_fault S _) ((xFl_1 S _).trans (xAt_p hA)) (xFl_2 S _)⟩
    rw [cEM, if_neg (show ¬ cKind false (tk p) from c)]
  · refine ⟨fun _ => ?_, fun z => absurd (show (1 : Int32) = 0 from z) (by decide)⟩
    refine ⟨fun _ => ?_, fun z => absurd hk z⟩
    have hc : cKind false (tk p) := c
    have hp := cKind_in ht hc
    refine ⟨fun c30 => ?_, fun c30 => ⟨fun c31 => ?_, fun c31 => ?_⟩⟩
    · have c30 : tk p = 30 := c30
      have spec : cEM n tk par false (r + 1) false p b = cMark false (fun p1 => [(false, p, p1)]) (cEither (cEM n tk par false r) (tk p) p b) := by
        rw [cEM, if_pos hc, if_pos (Or.inl c30)]; rfl
      rw [spec] at he ho
      refine mv_deep (d := D) (by omega) (h1 S _ p b ⟨hp, c30⟩ hA (fun w q S1 e k1 k2 k3 => ?_) (fun p1 l s S1 e g => ?_))
      · exact x_setBehind ⟨Or.inl rfl, he w q _ (cMark_err e) (xKp_trans k1 (xKp_sR S1 (Or.inl rfl) _ _ _)) ((xBe_1 S1 _ _ _ _).trans k2) ((xBe_1 S1 _ _ _ _).trans k3)⟩
      · have hl := cEither_ls (by decide) hr hp e
        refine x_behindA g (xAt_p hA) g.2.1 (fun z hz => ?_) (by omega) hl.1 (fun S2 g2 => ⟨Or.inr rfl, ho p1 l _ S2 (cMark_f e) g2⟩)
        have := cEither_nt hr hnt hp _ _ _ e false p z hz
        omega
    · have c30 : ¬ tk p = 30 := c30
      have c31 : ¬ tk p = 31 := c31
      have spec : cEM n tk par false (r + 1) false p b = cMark false (fun p1 => [(false, p, p1)]) (cPlain n tk par (cEM n tk par false r) p b) := by
        rw [cEM, if_pos hc, if_neg (fun z => z.elim c30 c31)]; rfl
      rw [spec] at he ho
      refine mv_deep (d := D) (by omega) (hP S _ p b hp hA (fun w q S1 e k1 k2 k3 => ?_) (fun p1 l s S1 e g => ?_))
      · exact x_setBehind ⟨Or.inl rfl, he w q _ (cMark_err e) (xKp_trans k1 (xKp_sR S1 (Or.inl rfl) _ _ _)) ((xBe_1 S1 _ _ _ _).trans k2) ((xBe_1 S1 _ _ _ _).trans k3)⟩
      · have hl := cPlain_ls ht (by decide) hr hp e
        refine x_behindA g (xAt_p hA) g.2.1 (fun z hz => ?_) (by omega) hl.1 (fun S2 g2 => ⟨Or.inr rfl, ho p1 l _ S2 (cMark_f e) g2⟩)
        have := cPlain_nt ht hr hnt hp _ _ _ e false p z hz
        omega
    · have c31 : tk p = 31 := c31
      have c30 : ¬ tk p = 30 := by rw [c31]; decide
      have spec : cEM n tk par false (r + 1) false p b = cMark false (fun p1 => [(false, p, p1)]) (cEither (cEM n tk par false r) (tk p) p b) := by
        rw [cEM, if_pos hc, if_pos (Or.inr c31)]; rfl
      rw [spec] at he ho
      refine mv_deep (d := D) (by omega) (h2 S _ p b ⟨hp, c30⟩ hA (fun w q S1 e k1 k2 k3 => ?_) (fun p1 l s S1 e g => ?_))
      · exact x_setBehind ⟨Or.inl rfl, he w q _ (cMark_err e) (xKp_trans k1 (xKp_sR S1 (Or.inl rfl) _ _ _)) ((xBe_1 S1 _ _ _ _).trans k2) ((xBe_1 S1 _ _ _ _).trans k3)⟩
      · have hl := cEither_ls (by decide) hr hp e
        refine x_behindA g (xAt_p hA) g.2.1 (fun z hz => ?_) (by omega) hl.1 (fun S2 g2 => ⟨Or.inr rfl, ho p1 l _ S2 (cMark_f e) g2⟩)
        have := cEither_nt hr hnt hp _ _ _ e false p z hz
        omega
theorem xDoes_deep {D E j : Nat} {args : List Value} {Q : Nat → Prop} {R : Nat → Nat → cRes} (h : D ≤ E) (x : xDoes D j args n tk par mn Q R) : xDoes E j args n tk par mn Q R := fun S P p b q a he ho => mv_deep h (x S P p b q a he ho)
theorem x_EM (ht : ∀ p, n ≤ p → tk p = -1) : ∀ r, r ≤ 16 → xDoes (8 * r + 10) 43 [.ref 2, .int (nI (16 - r))] n tk par mn (fun _ => True) (cEM n tk par false r true) ∧ xDoes (8 * r + 10) 42 [.ref 2, .int (nI (16 - r))] n tk par mn (fun _ => True) (cEM n tk par false r false) := by
  intro r
  induction r with
  | zero => exact fun _ => ⟨x_mapPart0, x_numberPart0⟩
  | succ r ih =>
    intro hr16
    obtain ⟨iM, iN⟩ := ih (by omega)
    have ek : nI (16 - (r + 1)) + 1 = nI (16 - r) := by rw [nI_1]; congr 1; omega
    rw [← ek] at iM iN
    have hr : ∀ m p b, p ≤ n → cLn n 8 p (cEM n tk par false r m p b) := fun m p b _ => cLs_ln (cEM_ls ht r m p b)
    have hk : nI (16 - (r + 1)) < 16 := nI_lt (b := 16) (by omega) (by decide)
    have hP := x_plain iM iN hr
    have h1 := x_shortcut1 iN hr
    have h2 := x_shortcut2 iN hr
    refine ⟨xDoes_deep (by omega) (x_mapPartS ht hk hP), xDoes_deep (by omega) (x_numberPartS ht hk hP (xDoes_deep (by omega) h1) (xDoes_deep (by omega) h2))⟩
end LX

/-! THE CLASS'S COMPILER: its small parts. P after true / false -/
/-- a fault noted -/
def xFl (S : mv_S) (w : Int32) : mv_S := mv_pf S 2 2 w
/-- a token passed -/
def xNx (S : mv_S) : mv_S := mv_pf S 2 1 (S.1 2 1 + 1)
/-- there is a token at the next place -/
def xHas (S : mv_S) : Prop := 0 ≤ S.1 2 1 ∧ S.1 2 1 < S.1 1 9
section LX
variable {d : Nat} {S : mv_S} {P : Option Value → mv_S → Prop}
theorem x_passEnd (h1 : ¬ xTok S (S.1 2 1) = 0 → P (some (.int 0)) (xFl S (-11))) (h2 : xTok S (S.1 2 1) = 0 → P (some (.int 1)) (xNx S)) : mv_big layX sysX (d + 2) 30 [.ref 2] S P := by
  refine ⟨40, ?_⟩
  refine x_token ?_
  refine ⟨fun c => ⟨Or.inr rfl, h2 c⟩, fun c => ?_⟩
  exact x_fail ⟨Or.inl rfl, h1 c⟩
theorem x_bare {n : Int32} (h1 : ¬ xHas S → P (some (.int 0)) (xFl S (-11))) (h2 : xHas S → ¬ (0 ≤ xTok S (S.1 2 1) ∧ xTok S (S.1 2 1) < n) → P (some (.int 0)) (xFl S (-12))) (h3 : xHas S → 0 ≤ xTok S (S.1 2 1) ∧ xTok S (S.1 2 1) < n → P (some (.int 1)) (xNx S)) : mv_big layX sysX (d + 2) 31 [.ref 2, .int n] S P := by
  refine ⟨60, ?_⟩
  refine x_hasToken (fun c => ?_) (fun c => ?_)
  · refine ⟨fun z => absurd rfl z, fun _ => ?_⟩
    exact x_fail ⟨Or.inl rfl, h1 c⟩
  · refine ⟨fun _ => ?_, fun z => absurd (show (1 : Int32) = 0 from z) (by decide)⟩
    refine x_token ?_
    refine ⟨fun c1 => ?_, fun c1 => ⟨fun c2 => ⟨Or.inr rfl, h3 c ⟨Int32.not_lt.mp c1, c2⟩⟩, fun c2 => ?_⟩⟩
    · exact x_fail ⟨Or.inl rfl, h2 c (fun q => absurd q.1 (Int32.not_le.mpr c1))⟩
    · exact x_fail ⟨Or.inl rfl, h2 c (fun q => c2 q.2)⟩
theorem x_anyNumber (h1 : ¬ xHas S → P (some (.int 0)) (xFl S (-11))) (h2 : xHas S → P (some (.int 1)) (xNx S)) : mv_big layX sysX (d + 2) 32 [.ref 2] S P := by
  refine ⟨60, ?_⟩
  refine x_hasToken (fun c => ?_) (fun c => ?_)
  · refine ⟨fun z => absurd rfl z, fun _ => ?_⟩
    exact x_fail ⟨Or.inl rfl, h1 c⟩
  · exact ⟨fun _ => ⟨Or.inr rfl, h2 c⟩, fun z => absurd (show (1 : Int32) = 0 from z) (by decide)⟩
theorem x_newFunction (h0 : xHasF S (xTok S (S.1 2 1)) → P (some (.int 0)) (xFl S (-13))) (h1 : ¬ xHasF S (xTok S (S.1 2 1)) → ¬ xHas S → P (some (.int 0)) (xFl S (-11))) (h2 : ¬ xHasF S (xTok S (S.1 2 1)) → xHas S → ¬ (0 ≤ xTok S (S.1 2 1) ∧ xTok S (S.1 2 1) < 8) → P (some (.int 0)) (xFl S (-12))) (h3 : ¬ xHasF S (xTok S (S.1 2 1)) → xHas S → 0 ≤ xTok S (S.1 2 1) ∧ xTok S (S.1 2 1) < 8 → P (some (.int 1)) (xNx S)) : mv_big layX sysX (d + 3) 33 [.ref 2] S P := by
  refine ⟨60, ?_⟩
  refine x_token ?_
  refine x_hasFunction (fun c => ?_) (fun c => ?_)
  · refine ⟨fun z => absurd rfl z, fun _ => ?_⟩
    exact x_bare (fun a => ⟨Or.inl rfl, h1 c a⟩) (fun a b => ⟨Or.inl rfl, h2 c a b⟩) (fun a b => ⟨Or.inr rfl, h3 c a b⟩)
  · refine ⟨fun _ => ?_, fun z => absurd (show (1 : Int32) = 0 from z) (by decide)⟩
    exact x_fail ⟨Or.inl rfl, h0 c⟩
theorem x_knownFunction (h0 : xHasF S (xTok S (S.1 2 1)) → P (some (.int 1)) (xNx S)) (h1 : ¬ xHasF S (xTok S (S.1 2 1)) → ¬ xHas S → P (some (.int 0)) (xFl S (-11))) (h2 : ¬ xHasF S (xTok S (S.1 2 1)) → xHas S → ¬ (0 ≤ xTok S (S.1 2 1) ∧ xTok S (S.1 2 1) < 8) → P (some (.int 0)) (xFl S (-12))) (h3 : ¬ xHasF S (xTok S (S.1 2 1)) → xHas S → 0 ≤ xTok S (S.1 2 1) ∧ xTok S (S.1 2 1) < 8 → P (some (.int 0)) (xFl S (-14))) : mv_big layX sysX (d + 3) 34 [.ref 2] S P := by
  refine ⟨60, ?_⟩
  refine x_token ?_
  refine x_hasFunction (fun c => ?_) (fun c => ?_)
  · refine ⟨fun _ => ?_, fun z => absurd rfl z⟩
    refine x_hasToken (fun a => ?_) (fun a => ?_)
    · refine ⟨fun z => absurd rfl z, fun _ => ?_⟩
      exact x_fail ⟨Or.inl rfl, h1 c a⟩
    · refine ⟨fun _ => ?_, fun z => absurd (show (1 : Int32) = 0 from z) (by decide)⟩
      refine ⟨fun c1 => ?_, fun c1 => ⟨fun c2 => ?_, fun c2 => ?_⟩⟩
      · exact x_fail ⟨Or.inl rfl, h2 c a (fun q => absurd q.1 (Int32.not_le.mpr c1))⟩
      · exact x_fail ⟨Or.inl rfl, h3 c a ⟨Int32.not_lt.mp c1, c2⟩⟩
      · exact x_fail ⟨Or.inl rfl, h2 c a (fun q => c2 q.2)⟩
  · exact ⟨fun z => absurd (show (1 : Int32) = 0 from z) (by decide), fun _ => ⟨Or.inr rfl, h0 c⟩⟩
end LX

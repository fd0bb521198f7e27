/-! THE CLASS'S METHODS: the tokens' tables -/
def tkS (t : Int32) : Prop := 1 ≤ t ∧ t ≤ 9 ∧ ¬ t = 4
def tkE (t : Int32) : Prop := 20 ≤ t ∧ t ≤ 36
def tkM (t : Int32) : Prop := 40 ≤ t ∧ t ≤ 44
def tkArg (t : Int32) : Int32 := if t = 1 ∨ t = 2 ∨ t = 8 ∨ t = 20 ∨ t = 21 ∨ t = 36 ∨ t = 40 then 1 else if t = 6 then 3 else 0
def tkMaps (t : Int32) : Int32 := if t = 2 ∨ t = 32 ∨ t = 33 ∨ t = 34 ∨ t = 35 ∨ t = 42 ∨ t = 43 then 1 else if t = 44 then 2 else 0
def tkNums (t : Int32) : Int32 := if 22 ≤ t ∧ t ≤ 28 then 2 else if t = 1 ∨ t = 7 ∨ t = 9 ∨ t = 29 ∨ t = 32 ∨ t = 33 ∨ t = 43 then 1 else if t = 35 ∨ t = 42 then 2 else 0
section LX
variable {d : Nat} {S : mv_S} {P : Option Value → mv_S → Prop}
theorem x_isStatement {t : Int32} (h1 : ¬ tkS t → P (some (.int 0)) S) (h2 : tkS t → P (some (.int 1)) S) : mv_big layX sysX (d + 1) 124 [.int t] S P := by
  refine ⟨20, ?_⟩
  refine ⟨fun c => ⟨Or.inl rfl, h1 (fun q => absurd q.1 (Int32.not_le.mpr c))⟩, fun c => ⟨fun c2 => ⟨Or.inl rfl, ?_⟩, fun c2 => ⟨fun c3 => ⟨Or.inl rfl, h1 (fun q => q.2.2 c3)⟩, fun c3 => ⟨Or.inr rfl, ?_⟩⟩⟩⟩
  · have c2 : (9 : Int32) < t := c2
    exact h1 (fun q => absurd q.2.1 (Int32.not_le.mpr c2))
  · have c2 : ¬ (9 : Int32) < t := c2
    exact h2 ⟨Int32.not_lt.mp c, Int32.not_lt.mp c2, c3⟩
theorem x_isNumber {t : Int32} (h1 : ¬ tkE t → P (some (.int 0)) S) (h2 : tkE t → P (some (.int 1)) S) : mv_big layX sysX (d + 1) 125 [.int t] S P := by
  refine ⟨20, ?_⟩
  refine ⟨fun c => ⟨Or.inl rfl, ?_⟩, fun c => ⟨fun c2 => ⟨Or.inl rfl, ?_⟩, fun c2 => ⟨Or.inr rfl, ?_⟩⟩⟩
  · have c : t < (20 : Int32) := c
    exact h1 (fun q => absurd q.1 (Int32.not_le.mpr c))
  · have c2 : (36 : Int32) < t := c2
    exact h1 (fun q => absurd q.2 (Int32.not_le.mpr c2))
  · have c : ¬ t < (20 : Int32) := c
    have c2 : ¬ (36 : Int32) < t := c2
    exact h2 ⟨Int32.not_lt.mp c, Int32.not_lt.mp c2⟩
theorem x_isMap {t : Int32} (h1 : ¬ tkM t → P (some (.int 0)) S) (h2 : tkM t → P (some (.int 1)) S) : mv_big layX sysX (d + 1) 126 [.int t] S P := by
  refine ⟨20, ?_⟩
  refine ⟨fun c => ⟨Or.inl rfl, ?_⟩, fun c => ⟨fun c2 => ⟨Or.inl rfl, ?_⟩, fun c2 => ⟨Or.inr rfl, ?_⟩⟩⟩
  · have c : t < (40 : Int32) := c
    exact h1 (fun q => absurd q.1 (Int32.not_le.mpr c))
  · have c2 : (44 : Int32) < t := c2
    exact h1 (fun q => absurd q.2 (Int32.not_le.mpr c2))
  · have c : ¬ t < (40 : Int32) := c
    have c2 : ¬ (44 : Int32) < t := c2
    exact h2 ⟨Int32.not_lt.mp c, Int32.not_lt.mp c2⟩
theorem x_arguments {t : Int32} (h : P (some (.int (tkArg t))) S) : mv_big layX sysX (d + 1) 127 [.int t] S P := by
  refine ⟨20, ?_⟩
  refine ⟨fun e => ?_, fun e1 => ⟨fun e => ?_, fun e2 => ⟨fun e => ?_, fun e3 => ⟨fun e => ?_, fun e4 => ⟨fun e => ?_, fun e5 => ⟨fun e => ?_, fun e6 => ⟨fun e => ?_, fun e7 => ⟨fun e => ?_, fun e8 => ?_⟩⟩⟩⟩⟩⟩⟩⟩
  · have e : t = 1 := e
    subst e; exact h
  · have e : t = 2 := e
    subst e; exact h
  · have e : t = 6 := e
    subst e; exact h
  · have e : t = 8 := e
    subst e; exact h
  · have e : t = 20 := e
    subst e; exact h
  · have e : t = 21 := e
    subst e; exact h
  · have e : t = 36 := e
    subst e; exact h
  · have e : t = 40 := e
    subst e; exact h
  · have a1 : ¬ t = 1 := e1
    have a2 : ¬ t = 2 := e2
    have a3 : ¬ t = 6 := e3
    have a4 : ¬ t = 8 := e4
    have a5 : ¬ t = 20 := e5
    have a6 : ¬ t = 21 := e6
    have a7 : ¬ t = 36 := e7
    have a8 : ¬ t = 40 := e8
    have e : tkArg t = 0 := by simp only [tkArg, a1, a2, a3, a4, a5, a6, a7, a8, or_self, if_false]
    rw [e] at h; exact h
theorem x_maps {t : Int32} (h : P (some (.int (tkMaps t))) S) : mv_big layX sysX (d + 1) 128 [.int t] S P := by
  refine ⟨20, ?_⟩
  refine ⟨fun e => ?_, fun e1 => ⟨fun e => ?_, fun e2 => ⟨fun e => ?_, fun e3 => ⟨fun e => ?_, fun e4 => ⟨fun e => ?_, fun e5 => ⟨fun e => ?_, fun e6 => ⟨fun e => ?_, fun e7 => ⟨fun e => ?_, fun e8 => ?_⟩⟩⟩⟩⟩⟩⟩⟩
  · have e : t = 2 := e
    subst e; exact h
  · have e : t = 32 := e
    subst e; exact h
  · have e : t = 33 := e
    subst e; exact h
  · have e : t = 34 := e
    subst e; exact h
  · have e : t = 35 := e
    subst e; exact h
  · have e : t = 42 := e
    subst e; exact h
  · have e : t = 43 := e
    subst e; exact h
  · have e : t = 44 := e
    subst e; exact h
  · have a1 : ¬ t = 2 := e1
    have a2 : ¬ t = 32 := e2
    have a3 : ¬ t = 33 := e3
    have a4 : ¬ t = 34 := e4
    have a5 : ¬ t = 35 := e5
    have a6 : ¬ t = 42 := e6
    have a7 : ¬ t = 43 := e7
    have a8 : ¬ t = 44 := e8
    have e : tkMaps t = 0 := by simp only [tkMaps, a1, a2, a3, a4, a5, a6, a7, a8, or_self, if_false]
    rw [e] at h; exact h
end LX

/-- what an instruction 4 .. 10 makes of two numbers, as the reference says it -/
def opY (w a b : Int32) : Int32 := if w = 4 then a + b else if w = 5 then a - b else if w = 6 then a * b else if w = 7 then (if b = -1 then -a else a / b) else if w = 8 then (if b = -1 then 0 else a - a / b * b) else if w = 9 then (if a < b then 1 else 0) else (if a = b then 1 else 0)
section LY
variable {d : Nat} {S : mv_S} {P : Option Value → mv_S → Prop}
theorem y_of {w a b : Int32} (hz : w = 7 ∨ w = 8 → ¬ b = 0) (h : P (some (.int (opY w a b))) S) : mv_big layY sysY (d + 1) 61 [.int w, .int a, .int b] S P := by
  refine ⟨40, ?_⟩
  refine ⟨fun e => ?_, fun e4 => ⟨fun e => ?_, fun e5 => ⟨fun e => ?_, fun e6 => ⟨fun e => ?_, fun e7 => ⟨fun e => ?_, fun e8 => ⟨fun e => ?_, fun e9 => ?_⟩⟩⟩⟩⟩⟩
  · have e : w = 4 := e
    subst e; exact h
  · have e : w = 5 := e
    subst e; exact h
  · have e : w = 6 := e
    subst e; exact h
  · have e : w = 7 := e
    have hz2 := hz (Or.inl e)
    subst e
    have h : P (some (.int (if b = -1 then -a else a / b))) S := h
    refine ⟨fun c => ⟨hz2, ?_⟩, fun c => ?_⟩
    · have c : ¬ b = -1 := c
      rw [if_neg c] at h; exact h
    · have c : b = -1 := c
      rw [if_pos c] at h; exact h
  · have e : w = 8 := e
    have hz2 := hz (Or.inr e)
    subst e
    have h : P (some (.int (if b = -1 then 0 else a - a / b * b))) S := h
    refine ⟨fun c => ⟨hz2, ?_⟩, fun c => ?_⟩
    · have c : ¬ b = -1 := c
      rw [if_neg c] at h; exact h
    · have c : b = -1 := c
      rw [if_pos c] at h; exact h
  · have e : w = 9 := e
    subst e
    have h : P (some (.int (if a < b then 1 else 0))) S := h
    refine ⟨fun c => ?_, fun c => ?_⟩
    · have c : b ≤ a := c
      rw [if_neg (Int32.not_lt.mpr c)] at h; exact h
    · have c : ¬ b ≤ a := c
      rw [if_pos (Int32.not_le.mp c)] at h; exact h
  · have g4 : ¬ w = 4 := e4
    have g5 : ¬ w = 5 := e5
    have g6 : ¬ w = 6 := e6
    have g7 : ¬ w = 7 := e7
    have g8 : ¬ w = 8 := e8
    have g9 : ¬ w = 9 := e9
    unfold opY at h
    rw [if_neg g4, if_neg g5, if_neg g6, if_neg g7, if_neg g8, if_neg g9] at h
    refine ⟨fun c => ?_, fun c => ?_⟩
    · have c : ¬ a = b := c
      rw [if_neg c] at h; exact h
    · have c : a = b := c
      rw [if_pos c] at h; exact h
end LY

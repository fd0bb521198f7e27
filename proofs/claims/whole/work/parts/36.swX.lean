/-! THE CLASS'S METHODS: tables by switches -/
def tkWord (t : Int32) : Int32 := if 22 ≤ t ∧ t ≤ 29 then 4 + t - 22 else if 32 ≤ t ∧ t ≤ 35 then 25 + t - 32 else if 42 ≤ t ∧ t ≤ 44 then 22 + t - 42 else if t = 1 then 3 else if t = 2 then 20 else if t = 7 then 15 else if t = 8 then 16 else if t = 20 then 1 else if t = 21 then 2 else if t = 36 then 16 else if t = 40 then 19 else if t = 41 then 21 else -1
def wdLen (w : Int32) : Int32 := if w = 1 ∨ w = 2 ∨ w = 3 ∨ w = 12 ∨ w = 13 ∨ w = 14 ∨ w = 16 ∨ w = 19 ∨ w = 20 then 2 else if w = 29 then 4 else 1
section LX
variable {d : Nat} {S : mv_S} {P : Option Value → mv_S → Prop}
theorem x_numbersT {t : Int32} (h : P (some (.int (tkNums t))) S) : mv_big layX sysX (d + 1) 129 [.int t] S P := by
  refine ⟨30, ?_⟩
  have main : ¬ (22 ≤ t ∧ t ≤ 28) → (t = 1 → P (some (.int 1)) S) ∧ (¬ t = 1 → (t = 7 → P (some (.int 1)) S) ∧ (¬ t = 7 → (t = 9 → P (some (.int 1)) S) ∧ (¬ t = 9 → (t = 29 → P (some (.int 1)) S) ∧ (¬ t = 29 → (t = 32 → P (some (.int 1)) S) ∧ (¬ t = 32 → (t = 33 → P (some (.int 1)) S) ∧ (¬ t = 33 → (t = 35 → P (some (.int 2)) S) ∧ (¬ t = 35 → (t = 42 → P (some (.int 2)) S) ∧ (¬ t = 42 → (t = 43 → P (some (.int 1)) S) ∧ (¬ t = 43 → P (some (.int 0)) S))))))))) := by
    intro hn
    refine ⟨fun e => ?_, fun e1 => ⟨fun e => ?_, fun e2 => ⟨fun e => ?_, fun e3 => ⟨fun e => ?_, fun e4 => ⟨fun e => ?_, fun e5 => ⟨fun e => ?_, fun e6 => ⟨fun e => ?_, fun e7 => ⟨fun e => ?_, fun e8 => ⟨fun e => ?_, fun e9 => ?_⟩⟩⟩⟩⟩⟩⟩⟩⟩
    · have e : t = 1 := e
      subst e; exact h
    · have e : t = 7 := e
      subst e; exact h
    · have e : t = 9 := e
      subst e; exact h
    · have e : t = 29 := e
      subst e; exact h
    · have e : t = 32 := e
      subst e; exact h
    · have e : t = 33 := e
      subst e; exact h
    · have e : t = 35 := e
      subst e; exact h
    · have e : t = 42 := e
      subst e; exact h
    · have e : t = 43 := e
      subst e; exact h
    · have a1 : ¬ t = 1 := e1
      have a2 : ¬ t = 7 := e2
      have a3 : ¬ t = 9 := e3
      have a4 : ¬ t = 29 := e4
      have a5 : ¬ t = 32 := e5
      have a6 : ¬ t = 33 := e6
      have a7 : ¬ t = 35 := e7
      have a8 : ¬ t = 42 := e8
      have a9 : ¬ t = 43 := e9
      have e : tkNums t = 0 := by
        unfold tkNums
        rw [if_neg hn]
        simp only [a1, a2, a3, a4, a5, a6, a7, a8, a9, or_self, if_false]
      rw [e] at h; exact h
  refine ⟨fun c => main (fun q => ?_), fun c => ⟨fun c2 => main (fun q => ?_), fun c2 => ?_⟩⟩
  · have c : t < (22 : Int32) := c
    exact absurd q.1 (Int32.not_le.mpr c)
  · have c2 : (28 : Int32) < t := c2
    exact absurd q.2 (Int32.not_le.mpr c2)
  · have c : ¬ t < (22 : Int32) := c
    have c2 : ¬ (28 : Int32) < t := c2
    have e : tkNums t = 2 := by
      unfold tkNums
      rw [if_pos ⟨Int32.not_lt.mp c, Int32.not_lt.mp c2⟩]
    rw [e] at h; exact h
theorem x_length {w : Int32} (h : P (some (.int (wdLen w))) S) : mv_big layX sysX (d + 1) 157 [.int w] S P := by
  refine ⟨20, ?_⟩
  refine ⟨fun e => ?_, fun e1 => ⟨fun e => ?_, fun e2 => ⟨fun e => ?_, fun e3 => ⟨fun e => ?_, fun e4 => ⟨fun e => ?_, fun e5 => ⟨fun e => ?_, fun e6 => ⟨fun e => ?_, fun e7 => ⟨fun e => ?_, fun e8 => ⟨fun e => ?_, fun e9 => ⟨fun e => ?_, fun e10 => ⟨fun e => ?_, fun e11 => ⟨fun e => ?_, fun e12 => ⟨fun e => ?_, fun e13 => ⟨fun e => ?_, fun e14 => ⟨fun e => ?_, fun e15 => ⟨fun e => ?_, fun e16 => ⟨fun e => ?_, fun e17 => ⟨fun e => ?_, fun e18 => ⟨fun e => ?_, fun e19 => ⟨fun e => ?_, fun e20 => ⟨fun e => ?_, fun e21 => ⟨fun e => ?_, fun e22 => ⟨fun e => ?_, fun e23 => ⟨fun e => ?_, fun e24 => ⟨fun e => ?_, fun e25 => ⟨fun e => ?_, fun e26 => ⟨fun e => ?_, fun e27 => ⟨fun e => ?_, fun e28 => ⟨fun e => ?_, fun e29 => ?_⟩⟩⟩⟩⟩⟩⟩⟩⟩⟩⟩⟩⟩⟩⟩⟩⟩⟩⟩⟩⟩⟩⟩⟩⟩⟩⟩⟩⟩
  · have e : w = 1 := e
    subst e; exact h
  · have e : w = 2 := e
    subst e; exact h
  · have e : w = 3 := e
    subst e; exact h
  · have e : w = 4 := e
    subst e; exact h
  · have e : w = 5 := e
    subst e; exact h
  · have e : w = 6 := e
    subst e; exact h
  · have e : w = 7 := e
    subst e; exact h
  · have e : w = 8 := e
    subst e; exact h
  · have e : w = 9 := e
    subst e; exact h
  · have e : w = 10 := e
    subst e; exact h
  · have e : w = 11 := e
    subst e; exact h
  · have e : w = 12 := e
    subst e; exact h
  · have e : w = 13 := e
    subst e; exact h
  · have e : w = 14 := e
    subst e; exact h
  · have e : w = 15 := e
    subst e; exact h
  · have e : w = 16 := e
    subst e; exact h
  · have e : w = 17 := e
    subst e; exact h
  · have e : w = 18 := e
    subst e; exact h
  · have e : w = 19 := e
    subst e; exact h
  · have e : w = 20 := e
    subst e; exact h
  · have e : w = 21 := e
    subst e; exact h
  · have e : w = 22 := e
    subst e; exact h
  · have e : w = 23 := e
    subst e; exact h
  · have e : w = 24 := e
    subst e; exact h
  · have e : w = 25 := e
    subst e; exact h
  · have e : w = 26 := e
    subst e; exact h
  · have e : w = 27 := e
    subst e; exact h
  · have e : w = 28 := e
    subst e; exact h
  · have e : w = 29 := e
    subst e; exact h
  · have a1 : ¬ w = 1 := e1
    have a2 : ¬ w = 2 := e2
    have a3 : ¬ w = 3 := e3
    have a4 : ¬ w = 4 := e4
    have a5 : ¬ w = 5 := e5
    have a6 : ¬ w = 6 := e6
    have a7 : ¬ w = 7 := e7
    have a8 : ¬ w = 8 := e8
    have a9 : ¬ w = 9 := e9
    have a10 : ¬ w = 10 := e10
    have a11 : ¬ w = 11 := e11
    have a12 : ¬ w = 12 := e12
    have a13 : ¬ w = 13 := e13
    have a14 : ¬ w = 14 := e14
    have a15 : ¬ w = 15 := e15
    have a16 : ¬ w = 16 := e16
    have a17 : ¬ w = 17 := e17
    have a18 : ¬ w = 18 := e18
    have a19 : ¬ w = 19 := e19
    have a20 : ¬ w = 20 := e20
    have a21 : ¬ w = 21 := e21
    have a22 : ¬ w = 22 := e22
    have a23 : ¬ w = 23 := e23
    have a24 : ¬ w = 24 := e24
    have a25 : ¬ w = 25 := e25
    have a26 : ¬ w = 26 := e26
    have a27 : ¬ w = 27 := e27
    have a28 : ¬ w = 28 := e28
    have a29 : ¬ w = 29 := e29
    have e : wdLen w = 1 := by simp only [wdLen, a1, a2, a3, a12, a13, a14, a16, a19, a20, a29, or_self, if_false]
    rw [e] at h; exact h
end LX

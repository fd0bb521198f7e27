/-! THE CLASS'S METHODS: program and tokens -/
/-- a word more -/
def xE (S : mv_S) (w : Int32) : mv_S := mv_pf (sR S 11 1500 (S.1 1 10) w) 1 10 (S.1 1 10 + 1)
/-- a hole filled -/
def xF (S : mv_S) (h : Int32) : mv_S := sR S 11 1500 h (S.1 1 10)
def xHasF (S : mv_S) (f : Int32) : Prop := 0 ≤ f ∧ f < 8 ∧ ¬ S.2.1 12 f.toNatClampNeg = -1
section LX
variable {d : Nat} {S : mv_S} {P : Option Value → mv_S → Prop}
theorem x_rank {c : Int32} (h : P (some (.int (xC S 17 c))) S) : mv_big layX sysX (d + 1) 4 [.ref 3, .int c] S P := by
  refine ⟨20, ?_⟩
  unfold xC at h
  refine ⟨fun c1 => ?_, fun c1 => ⟨fun c2 => ?_, fun c2 => ⟨?_, ?_⟩⟩⟩
  · have c1 : c ≤ 0 := c1
    rw [if_neg (fun q => absurd q.1 (Int32.not_lt.mpr c1))] at h; exact h
  · have c2 : (803 : Int32) ≤ c := c2
    rw [if_neg (fun q => absurd q.2 (Int32.not_lt.mpr c2))] at h; exact h
  · exact vp_pos (by decide) (Int32.not_le.mp c1) (Int32.not_le.mp c2)
  · rw [if_pos ⟨Int32.not_le.mp c1, Int32.not_le.mp c2⟩] at h; exact h
theorem x_lesser {c : Int32} (h : P (some (.int (xC S 18 c))) S) : mv_big layX sysX (d + 1) 5 [.ref 3, .int c] S P := by
  refine ⟨20, ?_⟩
  unfold xC at h
  refine ⟨fun c1 => ?_, fun c1 => ⟨fun c2 => ?_, fun c2 => ⟨?_, ?_⟩⟩⟩
  · have c1 : c ≤ 0 := c1
    rw [if_neg (fun q => absurd q.1 (Int32.not_lt.mpr c1))] at h; exact h
  · have c2 : (803 : Int32) ≤ c := c2
    rw [if_neg (fun q => absurd q.2 (Int32.not_lt.mpr c2))] at h; exact h
  · exact vp_pos (by decide) (Int32.not_le.mp c1) (Int32.not_le.mp c2)
  · rw [if_pos ⟨Int32.not_le.mp c1, Int32.not_le.mp c2⟩] at h; exact h
theorem x_greater {c : Int32} (h : P (some (.int (xC S 19 c))) S) : mv_big layX sysX (d + 1) 6 [.ref 3, .int c] S P := by
  refine ⟨20, ?_⟩
  unfold xC at h
  refine ⟨fun c1 => ?_, fun c1 => ⟨fun c2 => ?_, fun c2 => ⟨?_, ?_⟩⟩⟩
  · have c1 : c ≤ 0 := c1
    rw [if_neg (fun q => absurd q.1 (Int32.not_lt.mpr c1))] at h; exact h
  · have c2 : (803 : Int32) ≤ c := c2
    rw [if_neg (fun q => absurd q.2 (Int32.not_lt.mpr c2))] at h; exact h
  · exact vp_pos (by decide) (Int32.not_le.mp c1) (Int32.not_le.mp c2)
  · rw [if_pos ⟨Int32.not_le.mp c1, Int32.not_le.mp c2⟩] at h; exact h
theorem x_behind {i : Int32} (h : P (some (.int (rAt 700 (S.2.1 9) i))) S) : mv_big layX sysX (d + 2) 58 [.ref 1, .int i] S P := ⟨20, x_at_9 h⟩
theorem x_setBehind {i x : Int32} (h : P none (sR S 9 700 i x)) : mv_big layX sysX (d + 2) 59 [.ref 1, .int i, .int x] S P := ⟨20, x_set_9 h⟩
theorem x_turn {i : Int32} (h : P (some (.int (rAt 700 (S.2.1 10) i))) S) : mv_big layX sysX (d + 2) 60 [.ref 1, .int i] S P := ⟨20, x_at_10 h⟩
theorem x_setTurn {i x : Int32} (h : P none (sR S 10 700 i x)) : mv_big layX sysX (d + 2) 61 [.ref 1, .int i, .int x] S P := ⟨20, x_set_10 h⟩
theorem x_firstWord {i : Int32} (h : P (some (.int (rAt 8 (S.2.1 13) i))) S) : mv_big layX sysX (d + 2) 66 [.ref 1, .int i] S P := ⟨20, x_at_13 h⟩
theorem x_firstToken {i : Int32} (h : P (some (.int (rAt 8 (S.2.1 14) i))) S) : mv_big layX sysX (d + 2) 67 [.ref 1, .int i] S P := ⟨20, x_at_14 h⟩
theorem x_hasToken {i : Int32} (h1 : ¬ (0 ≤ i ∧ i < S.1 1 9) → P (some (.int 0)) S) (h2 : 0 ≤ i ∧ i < S.1 1 9 → P (some (.int 1)) S) : mv_big layX sysX (d + 1) 56 [.ref 1, .int i] S P := by
  refine ⟨20, ?_⟩
  refine ⟨fun c => ⟨Or.inl rfl, h1 (fun q => absurd q.1 (Int32.not_le.mpr c))⟩, fun c => ⟨fun c2 => ⟨Or.inl rfl, ?_⟩, fun c2 => ⟨Or.inr rfl, ?_⟩⟩⟩
  · have c2 : S.1 1 9 ≤ i := c2
    exact h1 (fun q => absurd q.2 (Int32.not_lt.mpr c2))
  · have c2 : ¬ S.1 1 9 ≤ i := c2
    exact h2 ⟨Int32.not_lt.mp c, Int32.not_le.mp c2⟩
theorem x_hasFunction {f : Int32} (h1 : ¬ xHasF S f → P (some (.int 0)) S) (h2 : xHasF S f → P (some (.int 1)) S) : mv_big layX sysX (d + 1) 62 [.ref 1, .int f] S P := by
  refine ⟨30, ?_⟩
  refine ⟨fun c => ⟨Or.inl rfl, h1 (fun q => absurd q.1 (Int32.not_le.mpr c))⟩, fun c => ⟨fun c2 => ⟨Or.inl rfl, ?_⟩, fun c2 => ⟨?_, fun c3 => ⟨Or.inl rfl, h1 (fun q => q.2.2 c3)⟩, fun c3 => ⟨Or.inr rfl, ?_⟩⟩⟩⟩
  · have c2 : (8 : Int32) ≤ f := c2
    exact h1 (fun q => absurd q.2.1 (Int32.not_lt.mpr c2))
  · exact rIn_vp (by decide) (rIn_of c c2)
  · have c2 : ¬ (8 : Int32) ≤ f := c2
    exact h2 ⟨Int32.not_lt.mp c, Int32.not_le.mp c2, c3⟩
theorem x_parameters {f : Int32} (h1 : ¬ xHasF S f → P (some (.int 0)) S) (h2 : xHasF S f → P (some (.int (S.2.1 12 f.toNatClampNeg))) S) : mv_big layX sysX (d + 2) 65 [.ref 1, .int f] S P := by
  refine ⟨30, ?_⟩
  refine x_hasFunction (fun c => ?_) (fun c => ?_)
  · exact ⟨fun _ => h1 c, fun z => absurd rfl z⟩
  · refine ⟨fun z => absurd (show (1 : Int32) = 0 from z) (by decide), fun _ => ?_⟩
    refine x_at_12 ?_
    rw [rAt_in ⟨c.1, c.2.1⟩]
    exact h2 c
theorem x_addFunction {f n p : Int32} (h : P none (sR (sR (sR S 12 8 f n) 13 8 f ((sR S 12 8 f n).1 1 10)) 14 8 f p)) : mv_big layX sysX (d + 2) 63 [.ref 1, .int f, .int n, .int p] S P := ⟨40, x_set_12 (x_set_13 (x_set_14 h))⟩
theorem x_addMain {p : Int32} (h : P none (mv_pf (mv_pf S 1 7 (S.1 1 10)) 1 8 p)) : mv_big layX sysX (d + 1) 64 [.ref 1, .int p] S P := ⟨20, h⟩
theorem x_emit {w : Int32} (h : P none (xE S w)) : mv_big layX sysX (d + 2) 71 [.ref 1, .int w] S P := by
  refine ⟨30, ?_⟩
  refine x_set_11 ?_
  unfold xE at h
  have e : (sR S 11 1500 (S.1 1 10) w).1 1 10 = S.1 1 10 := by rw [sR_1]
  rw [← e] at h
  rw [e] at h
  have h3 : P none (mv_pf (sR S 11 1500 (S.1 1 10) w) 1 10 ((sR S 11 1500 (S.1 1 10) w).1 1 10 + 1)) := by rw [e]; exact h
  exact h3
theorem x_emitHole (h : P (some (.int (S.1 1 10))) (xE S 0)) : mv_big layX sysX (d + 3) 72 [.ref 1] S P := by
  refine ⟨30, ?_⟩
  refine x_emit ?_
  have e : (xE S 0).1 1 10 - 1 = S.1 1 10 := by
    show S.1 1 10 + 1 - 1 = S.1 1 10
    rw [Int32.add_sub_cancel]
  have h3 : P (some (.int ((xE S 0).1 1 10 - 1))) (xE S 0) := by rw [e]; exact h
  exact h3
theorem x_fillHole {p : Int32} (h : P none (xF S p)) : mv_big layX sysX (d + 2) 73 [.ref 1, .int p] S P := ⟨20, x_set_11 h⟩
end LX

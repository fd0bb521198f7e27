/-! THE CLASS'S CELLS: hung, made -/
/-- the store with a new cell f -/
def xMk (S : mv_S) (f : Nat) (k v l g : Int32) : mv_S := mv_pr (mv_pr (mv_pr (mv_pr (mv_pr (xCp S f 0) 15 f k) 16 f v) 17 f (xRank (S.1 3 12) k)) 18 f l) 19 f g
theorem vp_neg {h : Int32} (h0 : h < 0) (h1 : -803 < h) : vp_in (-h) 803 := by
  have e1 : (-803 : Int32).toInt = -803 := by decide
  rw [Int32.lt_iff_toInt_lt] at h0 h1
  rw [e1] at h1
  have h0 : h.toInt < 0 := by simpa using h0
  rw [vp_in_iff, Int32.toInt_neg]
  have : (-h.toInt).bmod (2 ^ 32) = -h.toInt := by
    apply Int.bmod_eq_of_le <;> omega
  rw [this]
  omega
section LX
variable {d : Nat} {S : mv_S} {P : Option Value → mv_S → Prop}
theorem x_hang {q t : Int32} (h : P none (xHang S q t)) : mv_big layX sysX (d + 1) 11 [.ref 3, .int q, .int t] S P := by
  unfold xHang at h
  have low : ¬ (0 < q ∧ q < 803) → ((0 ≤ q → P none S) ∧ (¬ 0 ≤ q → (q ≤ -803 → P none S) ∧ (¬ q ≤ -803 → vp_in (-q) 803 ∧ P none (mv_pr S 19 (-q).toNatClampNeg t)))) := by
    intro hn
    rw [if_neg hn] at h
    refine ⟨fun a => ?_, fun a => ⟨fun b => ?_, fun b => ⟨vp_neg (Int32.not_le.mp a) (Int32.not_le.mp b), ?_⟩⟩⟩
    · rw [if_neg (fun z => absurd a (Int32.not_le.mpr z.1))] at h; exact h
    · rw [if_neg (fun z => absurd z.2 (Int32.not_lt.mpr b))] at h; exact h
    · rw [if_pos ⟨Int32.not_le.mp a, Int32.not_le.mp b⟩] at h; exact h
  refine ⟨40, ?_⟩
  refine ⟨fun a => ?_, fun a => ⟨fun b => ?_, fun b => ⟨?_, ?_⟩⟩⟩
  · exact low (fun z => absurd z.1 (Int32.not_lt.mpr a))
  · have b : (803 : Int32) ≤ q := b
    exact low (fun z => absurd z.2 (Int32.not_lt.mpr b))
  · exact vp_pos (by decide) (Int32.not_le.mp a) (Int32.not_le.mp b)
  · rw [if_pos ⟨Int32.not_le.mp a, Int32.not_le.mp b⟩] at h; exact h
end LX

/-! THE CLASS'S CELLS: one more, hung -/
/-- the cell that would be taken -/
def xFr (S : mv_S) : Int32 := if S.1 3 14 < S.1 3 13 ∧ 0 < S.1 3 8 ∧ S.1 3 8 ≤ 803 then S.2.1 20 (S.1 3 8 - 1).toNatClampNeg else 0
def xCpOk (S : mv_S) (c : Int32) : Prop := (1 ≤ xFr S ∧ xFr S < 803) ∧ 0 ≤ c ∧ c < 803
/-- the store with cell c copied to f, which is taken -/
def xCp (S : mv_S) (f c : Nat) : mv_S :=
  let S1 := mv_pf (mv_pf S 3 8 (S.1 3 8 - 1)) 3 14 (S.1 3 14 + 1)
  mv_pr (mv_pr (mv_pr (mv_pr (mv_pr S1 15 f (S.2.1 15 c)) 16 f (S.2.1 16 c)) 17 f (S.2.1 17 c)) 18 f (S.2.1 18 c)) 19 f (S.2.1 19 c)
theorem vp_pred {i : Int32} (h0 : 0 < i) (h1 : i ≤ 803) : vp_in (i - 1) 803 := by
  have e1 : (803 : Int32).toInt = 803 := by decide
  rw [Int32.lt_iff_toInt_lt] at h0
  rw [Int32.le_iff_toInt_le] at h1
  have h0 : 0 < i.toInt := by simpa using h0
  obtain ⟨j, hj, rfl⟩ : ∃ j : Nat, j < 2 ^ 31 ∧ i = nI j := nI_of (by rw [Int32.lt_iff_toInt_lt]; simp; omega)
  rw [nI_toInt hj] at h0 h1
  obtain ⟨k, rfl⟩ : ∃ k, j = k + 1 := ⟨j - 1, by omega⟩
  rw [nI_pred]
  exact vp_in_nI (by omega) (by decide)
section LX
variable {d : Nat} {S : mv_S} {P : Option Value → mv_S → Prop}
set_option maxHeartbeats 4000000 in
set_option maxRecDepth 100000 in
theorem x_copy {c : Int32} (h1 : ¬ xCpOk S c → P (some (.int 0)) (mv_pf S 3 15 1)) (h2 : xCpOk S c → P (some (.int (xFr S))) (xCp S (xFr S).toNatClampNeg c.toNatClampNeg)) : mv_big layX sysX (d + 1) 9 [.ref 3, .int c] S P := by
  have tail : ∀ f : Int32, f = xFr S → ((f < 1 → (1 : Int32) = 0 ∨ (1 : Int32) = 1) ∧ True) := fun f _ => ⟨fun _ => Or.inr rfl, trivial⟩
  have key : (xFr S < 1 → ((1 : Int32) = 0 ∨ (1 : Int32) = 1) ∧ P (some (.int 0)) (mv_pf S 3 15 1)) ∧ (¬ xFr S < 1 → ((803 : Int32) ≤ xFr S → ((1 : Int32) = 0 ∨ (1 : Int32) = 1) ∧ P (some (.int 0)) (mv_pf S 3 15 1)) ∧ (¬ (803 : Int32) ≤ xFr S → (c < 0 → ((1 : Int32) = 0 ∨ (1 : Int32) = 1) ∧ P (some (.int 0)) (mv_pf S 3 15 1)) ∧ (¬ c < 0 → (c < 803 → vp_in c 803 ∧ vp_in (xFr S) 803 ∧ vp_in c 803 ∧ vp_in (xFr S) 803 ∧ vp_in c 803 ∧ vp_in (xFr S) 803 ∧ vp_in c 803 ∧ vp_in (xFr S) 803 ∧ vp_in c 803 ∧ vp_in (xFr S) 803 ∧ P (some (.int (xFr S))) (xCp S (xFr S).toNatClampNeg c.toNatClampNeg)) ∧ (¬ c < 803 → ((1 : Int32) = 0 ∨ (1 : Int32) = 1) ∧ P (some (.int 0)) (mv_pf S 3 15 1))))) := by
    refine ⟨fun a => ⟨Or.inr rfl, h1 (fun q => absurd q.1.1 (Int32.not_le.mpr a))⟩, fun a => ⟨fun b => ⟨Or.inr rfl, h1 (fun q => absurd q.1.2 (Int32.not_lt.mpr b))⟩, fun b => ⟨fun e => ⟨Or.inr rfl, h1 (fun q => absurd q.2.1 (Int32.not_le.mpr e))⟩, fun e => ⟨fun g => ?_, fun g => ⟨Or.inr rfl, h1 (fun q => g q.2.2)⟩⟩⟩⟩⟩
    have hc : vp_in c 803 := rIn_vp (by decide) ⟨Int32.not_lt.mp e, g⟩
    have hf : vp_in (xFr S) 803 := vp_pos (by decide) (Int32.lt_of_lt_of_le (by decide) (Int32.not_lt.mp a)) (Int32.not_le.mp b)
    exact ⟨hc, hf, hc, hf, hc, hf, hc, hf, hc, hf, h2 ⟨⟨Int32.not_lt.mp a, Int32.not_le.mp b⟩, Int32.not_lt.mp e, g⟩⟩
  refine ⟨120, ?_⟩
  unfold xFr at key
  refine ⟨fun a => ?_, fun a => ⟨fun b => ?_, fun b => ⟨fun e => ?_, fun e => ⟨?_, ?_⟩⟩⟩⟩
  · have a : S.1 3 13 ≤ S.1 3 14 := a
    rw [if_neg (fun q => absurd q.1 (Int32.not_lt.mpr a))] at key
    exact key
  · have b : S.1 3 8 ≤ 0 := b
    rw [if_neg (fun q => absurd q.2.1 (Int32.not_lt.mpr b))] at key
    exact key
  · have e : (803 : Int32) < S.1 3 8 := e
    rw [if_neg (fun q => absurd q.2.2 (Int32.not_le.mpr e))] at key
    exact key
  · have b : ¬ S.1 3 8 ≤ 0 := b
    have e : ¬ (803 : Int32) < S.1 3 8 := e
    exact vp_pred (Int32.not_le.mp b) (Int32.not_lt.mp e)
  · have a : ¬ S.1 3 13 ≤ S.1 3 14 := a
    have b : ¬ S.1 3 8 ≤ 0 := b
    have e : ¬ (803 : Int32) < S.1 3 8 := e
    rw [if_pos ⟨Int32.not_le.mp a, Int32.not_le.mp b, Int32.not_lt.mp e⟩] at key
    exact key
end LX

/-- what holds of the two objects together, after n calls -/
def lw_Rel (_ : Nat) (_ _ : mv_S) : Prop := True
theorem lw_R0 : lw_Rel 0 sX0 sY0 := sorry
theorem lw_skip : ∀ n S T, lw_Rel n S T → lw_Rel (n + 1) S T := sorry
theorem lw_step : ∀ n, 4 * n + 4 ≤ 2048 → ∀ S T, lw_Rel n S T → ∀ (k : Nat) (q : Nat × Nat × Nat), lw_T[k]? = some q → ∀ as : List Int32, as.length = q.2.2 → lw_Sim (lw_Rel (n + 1)) q.1 q.2.1 as S T := sorry

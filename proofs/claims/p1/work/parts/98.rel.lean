/-- what holds of the two objects together: they are fresh before the first call -/
def lw_Rel (n : Nat) (S T : mv_S) : Prop := n = 0 → S = sX0 ∧ T = sY0
theorem lw_R0 : lw_Rel 0 sX0 sY0 := fun _ => ⟨rfl, rfl⟩
theorem lw_skip : ∀ n S T, lw_Rel n S T → lw_Rel (n + 1) S T := fun n _ _ _ h => absurd h (by omega)
theorem lw_any {S T : mv_S} : lw_Rel (0 + 1) S T := fun h => absurd h (by omega)
theorem xWd0 (i : Int32) : xWd sX0 i = -1 := by
  unfold xWd
  rw [if_neg]
  rintro ⟨a, b⟩
  have b' : i < 0 := b
  exact absurd a (Int32.not_le.mpr b')
theorem xTold0 (i : Int32) : xTold sX0 i = 0 := by
  unfold xTold
  rw [if_neg]
  rintro ⟨a, b⟩
  have b' : i < 0 := b
  exact absurd a (Int32.not_le.mpr b')
theorem rAt00 (n q : Nat) (j : Int32) : rAt n (sX0.2.1 q) j = 0 := by
  unfold rAt
  split <;> rfl
theorem xVar0 (v : Int32) : xVar sX0 v = 0 := by
  unfold xVar
  split
  · exact rAt00 _ _ _
  · rfl
theorem sim_0 (a b : Int32) : lw_Sim (lw_Rel (0 + 1)) 158 1 [a, b] sX0 sY0 :=
  x_init (fun c => ⟨-2, rfl, y_init (fun _ => ⟨rfl, lw_any⟩) (fun h1 h2 => absurd ⟨h1, h2⟩ c)⟩) (fun h1 h2 => ⟨0, rfl, y_init (fun c => absurd ⟨h1, h2⟩ c) (fun _ _ => ⟨rfl, lw_any⟩)⟩)
theorem sim_1 (a : Int32) : lw_Sim (lw_Rel (0 + 1)) 159 2 [a] sX0 sY0 :=
  x_feed (fun c => absurd c (by decide)) (fun _ => ⟨_, rfl, y_feed (k := 0) rfl (by omega) (fun z => absurd z (by omega)) (fun _ => ⟨rfl, lw_any⟩)⟩)
theorem sim_2 : lw_Sim (lw_Rel (0 + 1)) 160 25 [] sX0 sY0 := x_compile0 rfl ⟨-11, rfl, y_compile0 rfl (fun _ => ⟨rfl, lw_any⟩)⟩
theorem sim_3 : lw_Sim (lw_Rel (0 + 1)) 161 26 [] sX0 sY0 := x_place ⟨_, rfl, y_place ⟨rfl, lw_any⟩⟩
theorem sim_4 (a : Int32) : lw_Sim (lw_Rel (0 + 1)) 162 27 [a] sX0 sY0 := x_code ⟨_, rfl, y_code0 rfl ⟨by rw [xWd0], lw_any⟩⟩
theorem sim_5 (a : Int32) : lw_Sim (lw_Rel (0 + 1)) 163 46 [a] sX0 sY0 := x_start0 rfl ⟨6, rfl, y_start0 rfl ⟨rfl, lw_any⟩⟩
theorem sim_6 (a : Int32) : lw_Sim (lw_Rel (0 + 1)) 164 47 [a] sX0 sY0 :=
  x_run0 rfl (fun c => ⟨-2, rfl, y_run0 rfl (fun _ => ⟨rfl, lw_any⟩) (fun z => absurd z c)⟩) (fun c => ⟨6, rfl, y_run0 rfl (fun z => absurd c z) (fun _ => ⟨rfl, lw_any⟩)⟩)
theorem sim_7 (a b : Int32) : lw_Sim (lw_Rel (0 + 1)) 165 48 [a, b] sX0 sY0 :=
  x_interpret0 rfl (fun c => ⟨-2, rfl, y_interpret0 rfl (fun _ => ⟨rfl, lw_any⟩) (fun z => absurd z c)⟩) (fun c => ⟨6, rfl, y_interpret0 rfl (fun z => absurd c z) (fun _ => ⟨rfl, lw_any⟩)⟩)
theorem sim_8 : lw_Sim (lw_Rel (0 + 1)) 166 69 [] sX0 sY0 := x_outSize ⟨_, rfl, y_outSize ⟨rfl, lw_any⟩⟩
theorem sim_9 (a : Int32) : lw_Sim (lw_Rel (0 + 1)) 167 70 [a] sX0 sY0 := x_out ⟨_, rfl, y_out (k := 0) rfl (by omega) (fun _ => ⟨by rw [xTold0], lw_any⟩) (fun j hj => absurd hj (by omega))⟩
theorem sim_10 (a : Int32) : lw_Sim (lw_Rel (0 + 1)) 168 71 [a] sX0 sY0 := x_variable ⟨_, rfl, y_variable (fun _ => ⟨by rw [xVar0], lw_any⟩) (fun _ => ⟨by rw [xVar0]; rfl, lw_any⟩)⟩
theorem sim_11 (a b c : Int32) : lw_Sim (lw_Rel (0 + 1)) 169 72 [a, b, c] sX0 sY0 :=
  x_map0 (rAt00 54 24) (fun h _ => ⟨0, rfl, y_map0 (fun _ _ => rfl) (fun _ => ⟨rfl, lw_any⟩) (fun z => absurd h z)⟩) (fun h => ⟨-2, rfl, y_map0 (fun _ _ => rfl) (fun z => absurd z h) (fun _ => ⟨rfl, lw_any⟩)⟩)
theorem c8_6 {w : Int32} (h : 0 ≤ w ∧ w < 6) : (0 ≤ w ∧ w < 8) := ⟨h.1, Int32.lt_trans h.2 (by decide)⟩
theorem sim_12 (a : Int32) : lw_Sim (lw_Rel (0 + 1)) 170 73 [a] sX0 sY0 := by
  refine x_count0 rfl rfl rfl rfl rfl (rAt00 54 24) rfl rfl (fun h _ => ⟨0, rfl, ?_⟩) (fun h => ⟨-1, rfl, ?_⟩) (fun h => ⟨6, rfl, ?_⟩) (fun h => ⟨-2, rfl, ?_⟩)
  · refine y_count0 rfl rfl rfl (fun _ _ => rfl) rfl rfl rfl (fun _ _ => ⟨rfl, lw_any⟩) (fun e => ?_) (fun e => ?_) (fun z => absurd (c8_6 h) z)
    · subst e; exact absurd h.2 (by decide)
    · subst e; exact absurd h.2 (by decide)
  · subst h
    exact y_count0 rfl rfl rfl (fun _ _ => rfl) rfl rfl rfl (fun z => absurd z.2 (by decide)) (fun _ => ⟨rfl, lw_any⟩) (fun e => absurd e (by decide)) (fun z => absurd (by decide) z)
  · subst h
    exact y_count0 rfl rfl rfl (fun _ _ => rfl) rfl rfl rfl (fun z => absurd z.2 (by decide)) (fun e => absurd e (by decide)) (fun _ => ⟨rfl, lw_any⟩) (fun z => absurd (by decide) z)
  · refine y_count0 rfl rfl rfl (fun _ _ => rfl) rfl rfl rfl (fun z => absurd (c8_6 z) h) (fun e => ?_) (fun e => ?_) (fun _ => ⟨rfl, lw_any⟩)
    · subst e; exact absurd (by decide) h
    · subst e; exact absurd (by decide) h
theorem lw_step : ∀ n, 4 * n + 4 ≤ 4 → ∀ S T, lw_Rel n S T → ∀ (k : Nat) (q : Nat × Nat × Nat), lw_T[k]? = some q → ∀ as : List Int32, as.length = q.2.2 → lw_Sim (lw_Rel (n + 1)) q.1 q.2.1 as S T := by
  intro n hn S T hR k q hq as has
  obtain rfl : n = 0 := by omega
  obtain ⟨rfl, rfl⟩ := hR rfl
  match k, hq with
  | 0, hq => cases hq; match as, has with | [a, b], _ => exact sim_0 a b
  | 1, hq => cases hq; match as, has with | [a], _ => exact sim_1 a
  | 2, hq => cases hq; match as, has with | [], _ => exact sim_2
  | 3, hq => cases hq; match as, has with | [], _ => exact sim_3
  | 4, hq => cases hq; match as, has with | [a], _ => exact sim_4 a
  | 5, hq => cases hq; match as, has with | [a], _ => exact sim_5 a
  | 6, hq => cases hq; match as, has with | [a], _ => exact sim_6 a
  | 7, hq => cases hq; match as, has with | [a, b], _ => exact sim_7 a b
  | 8, hq => cases hq; match as, has with | [], _ => exact sim_8
  | 9, hq => cases hq; match as, has with | [a], _ => exact sim_9 a
  | 10, hq => cases hq; match as, has with | [a], _ => exact sim_10 a
  | 11, hq => cases hq; match as, has with | [a, b, c], _ => exact sim_11 a b c
  | 12, hq => cases hq; match as, has with | [a], _ => exact sim_12 a
  | k + 13, hq => simp [lw_T] at hq

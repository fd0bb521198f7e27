/-! THE CLASS'S METHODS: what needs no tree and no program -/
/-- what Store.clear leaves -/
def xCL (S : mv_S) : mv_S := mv_pf (mv_pf (mv_pf (xFK (stR (stR S 23 (rFill (S.2.1 23) 0 158 0)) 24 (rFill ((stR S 23 (rFill (S.2.1 23) 0 158 0)).2.1 24) 0 54 0))) 4 14 0) 4 15 0) 4 16 0
/-- what leaveRun leaves -/
def xLR (S : mv_S) : mv_S := xFK (mv_pf S 6 2 0)
/-- what a token more leaves -/
def xAD (S : mv_S) (x : Int32) : mv_S := xFC (mv_pf (sR S 8 700 (S.1 1 9) x) 1 9 (S.1 1 9 + 1))
/-- what init leaves -/
def xIN (S : mv_S) (a b : Int32) : mv_S := xCL (mv_pf (mv_pf (mv_pf (xFC (mv_pf S 1 9 0)) 6 2 0) 3 12 a) 3 13 b)
section LX
variable {d : Nat} {S : mv_S} {P : Option Value → mv_S → Prop}
theorem x_pclear (h : P none (xFC (mv_pf S 1 9 0))) : mv_big layX sysX (d + 2) 48 [.ref 1] S P := ⟨20, x_forgetCode h⟩
theorem x_add {x : Int32} (h1 : 700 ≤ S.1 1 9 → P (some (.int 0)) S) (h2 : S.1 1 9 < 700 → P (some (.int 1)) (xAD S x)) : mv_big layX sysX (d + 2) 49 [.ref 1, .int x] S P := by
  refine ⟨60, ?_⟩
  refine ⟨fun c => ?_, fun c => ?_⟩
  · refine x_set_8 ?_
    refine x_forgetCode ?_
    refine ⟨Or.inr rfl, ?_⟩
    have h3 := h2 c
    unfold xAD at h3
    rw [show (sR S 8 700 (S.1 1 9) x).1 1 9 = S.1 1 9 by rw [sR_1]]
    exact h3
  · exact ⟨Or.inl rfl, h1 (Int32.not_lt.mp c)⟩
theorem x_sclear (h : P none (xCL S)) : mv_big layX sysX (d + 2) 92 [.ref 4] S P := by
  refine ⟨60, ?_⟩
  refine x_zero_23 ?_
  refine x_zero_24 ?_
  refine x_forgetCalls ?_
  exact h
theorem x_leaveRun (h : P none (xLR S)) : mv_big layX sysX (d + 2) 172 [.ref 0] S P := by
  refine ⟨30, ?_⟩
  refine x_drop ?_
  refine x_forgetCalls ?_
  exact h
theorem x_init {a b : Int32} (h1 : ¬ (1 ≤ b ∧ b ≤ 400) → P (some (.int (-2))) S) (h2 : 1 ≤ b → b ≤ 400 → P (some (.int 0)) (xIN S a b)) : mv_big layX sysX (d + 3) 158 [.ref 0, .int a, .int b] S P := by
  refine ⟨60, ?_⟩
  refine ⟨fun c => ?_, fun c => ⟨fun c2 => ?_, fun c2 => ?_⟩⟩
  · exact h1 (fun h => absurd h.1 (Int32.not_le.mpr c))
  · refine x_pclear ?_
    refine x_drop ?_
    refine x_furnish ?_
    refine x_sclear ?_
    exact h2 (Int32.not_lt.mp c) c2
  · exact h1 (fun h => c2 h.2)
theorem x_feed {x : Int32} (h1 : 700 ≤ S.1 1 9 → P (some (.int (-3))) S) (h2 : S.1 1 9 < 700 → P (some (.int ((xLR (xAD S x)).1 1 9))) (xLR (xAD S x))) : mv_big layX sysX (d + 3) 159 [.ref 0, .int x] S P := by
  refine ⟨60, ?_⟩
  refine x_add (fun c => ?_) (fun c => ?_)
  · exact ⟨fun z => absurd rfl z, fun _ => h1 c⟩
  · refine ⟨fun _ => ?_, fun z => absurd (show (1 : Int32) = 0 from z) (by decide)⟩
    refine x_leaveRun ?_
    refine x_size ?_
    exact h2 c
theorem x_place (h : P (some (.int (S.1 1 12))) S) : mv_big layX sysX (d + 2) 161 [.ref 0] S P := ⟨20, x_faultPlace h⟩
theorem x_wordCount (h : P (some (.int (if S.1 1 11 = 0 then 0 else S.1 1 10))) S) : mv_big layX sysX (d + 1) 75 [.ref 1] S P := by
  refine ⟨20, ?_⟩
  refine ⟨fun c => ?_, fun c => ?_⟩
  · have c' : S.1 1 11 = 0 := c
    rw [if_pos c'] at h; exact h
  · have c' : ¬ S.1 1 11 = 0 := c
    rw [if_neg c'] at h; exact h
/-- the word at i -/
def xWd (S : mv_S) (i : Int32) : Int32 := if 0 ≤ i ∧ i < (if S.1 1 11 = 0 then 0 else S.1 1 10) then rAt 1500 (S.2.1 11) i else -1
theorem x_word {i : Int32} (h : P (some (.int (xWd S i))) S) : mv_big layX sysX (d + 2) 76 [.ref 1, .int i] S P := by
  refine ⟨40, ?_⟩
  unfold xWd at h
  refine ⟨fun c => ?_, fun c => ?_⟩
  · rw [if_neg (fun q => absurd q.1 (Int32.not_le.mpr c))] at h; exact h
  · refine x_wordCount ?_
    refine ⟨fun c2 => ?_, fun c2 => ?_⟩
    · rw [if_neg (fun q => absurd q.2 (Int32.not_lt.mpr c2))] at h; exact h
    · refine x_at_11 ?_
      rw [if_pos ⟨Int32.not_lt.mp c, Int32.not_le.mp c2⟩] at h; exact h
theorem x_code {i : Int32} (h : P (some (.int (xWd S i))) S) : mv_big layX sysX (d + 3) 162 [.ref 0, .int i] S P := ⟨20, x_word h⟩
theorem x_grant {n : Int32} (h1 : ¬ (1 ≤ n ∧ n ≤ 5000) → P (some (.int 0)) S) (h2 : 1 ≤ n ∧ n ≤ 5000 → P (some (.int 1)) S) : mv_big layX sysX (d + 1) 171 [.int n] S P := by
  refine ⟨20, ?_⟩
  refine ⟨fun c => ⟨Or.inl rfl, h1 (fun q => absurd q.1 (Int32.not_le.mpr c))⟩, fun c => ⟨fun c2 => ⟨Or.inl rfl, h1 (fun q => absurd q.2 (Int32.not_le.mpr c2))⟩, fun c2 => ⟨Or.inr rfl, h2 ⟨Int32.not_lt.mp c, Int32.not_lt.mp c2⟩⟩⟩⟩
theorem x_start0 {a : Int32} (h0 : S.1 1 11 = 0) (h : P (some (.int 6)) S) : mv_big layX sysX (d + 2) 163 [.ref 0, .int a] S P := by
  refine ⟨20, ?_⟩
  refine x_ready (Or.inl h0) ?_
  exact ⟨fun c => absurd h0 c, fun _ => h⟩
theorem x_run0 {n : Int32} (h0 : S.1 6 2 = 0) (h1 : ¬ (1 ≤ n ∧ n ≤ 5000) → P (some (.int (-2))) S) (h2 : 1 ≤ n ∧ n ≤ 5000 → P (some (.int 6)) S) : mv_big layX sysX (d + 2) 164 [.ref 0, .int n] S P := by
  refine ⟨20, ?_⟩
  refine x_grant (fun c => ?_) (fun c => ?_)
  · exact ⟨fun z => absurd rfl z, fun _ => h1 c⟩
  · refine ⟨fun _ => ?_, fun z => absurd (show (1 : Int32) = 0 from z) (by decide)⟩
    refine x_there (Or.inl h0) ?_
    exact ⟨fun _ => h2 c, fun z => absurd h0 z⟩
theorem x_interpret0 {a n : Int32} (h0 : S.1 1 11 = 0) (h1 : ¬ (1 ≤ n ∧ n ≤ 5000) → P (some (.int (-2))) S) (h2 : 1 ≤ n ∧ n ≤ 5000 → P (some (.int 6)) S) : mv_big layX sysX (d + 2) 165 [.ref 0, .int a, .int n] S P := by
  refine ⟨20, ?_⟩
  refine x_grant (fun c => ?_) (fun c => ?_)
  · exact ⟨fun z => absurd rfl z, fun _ => h1 c⟩
  · refine ⟨fun _ => ?_, fun z => absurd (show (1 : Int32) = 0 from z) (by decide)⟩
    refine x_ready (Or.inl h0) ?_
    exact ⟨fun z => absurd h0 z, fun _ => h2 c⟩
theorem x_outSize (h : P (some (.int (S.1 4 14))) S) : mv_big layX sysX (d + 2) 166 [.ref 0] S P := ⟨20, x_toldCount h⟩
def xTold (S : mv_S) (i : Int32) : Int32 := if 0 ≤ i ∧ i < S.1 4 14 then rAt 300 (S.2.1 31) i else 0
theorem x_told {i : Int32} (h : P (some (.int (xTold S i))) S) : mv_big layX sysX (d + 2) 100 [.ref 4, .int i] S P := by
  refine ⟨40, ?_⟩
  unfold xTold at h
  refine ⟨fun c => ?_, fun c => ⟨fun c2 => ?_, fun c2 => ?_⟩⟩
  · rw [if_neg (fun q => absurd q.1 (Int32.not_le.mpr c))] at h; exact h
  · have c2 : S.1 4 14 ≤ i := c2
    rw [if_neg (fun q => absurd q.2 (Int32.not_lt.mpr c2))] at h; exact h
  · have c2 : ¬ S.1 4 14 ≤ i := c2
    refine x_at_31 ?_
    rw [if_pos ⟨Int32.not_lt.mp c, Int32.not_le.mp c2⟩] at h; exact h
theorem x_out {i : Int32} (h : P (some (.int (xTold S i))) S) : mv_big layX sysX (d + 3) 167 [.ref 0, .int i] S P := ⟨20, x_told h⟩
def xVP (S : mv_S) (v : Int32) : Int32 := if v < 8 then v else v + S.1 4 13 * 6
def xMP (S : mv_S) (v : Int32) : Int32 := if v < 4 then v else v + S.1 4 13 * 2
theorem x_vplace {v : Int32} (h : P (some (.int (xVP S v))) S) : mv_big layX sysX (d + 1) 101 [.ref 4, .int v] S P := by
  refine ⟨20, ?_⟩
  unfold xVP at h
  refine ⟨fun c => ?_, fun c => ?_⟩
  · have c : (8 : Int32) ≤ v := c
    rw [if_neg (Int32.not_lt.mpr c)] at h; exact h
  · have c : ¬ (8 : Int32) ≤ v := c
    rw [if_pos (Int32.not_le.mp c)] at h; exact h
theorem x_mplace {v : Int32} (h : P (some (.int (xMP S v))) S) : mv_big layX sysX (d + 1) 102 [.ref 4, .int v] S P := by
  refine ⟨20, ?_⟩
  unfold xMP at h
  refine ⟨fun c => ?_, fun c => ?_⟩
  · have c : (4 : Int32) ≤ v := c
    rw [if_neg (Int32.not_lt.mpr c)] at h; exact h
  · have c : ¬ (4 : Int32) ≤ v := c
    rw [if_pos (Int32.not_le.mp c)] at h; exact h
theorem x_number {v : Int32} (h : P (some (.int (rAt 158 (S.2.1 23) (xVP S v)))) S) : mv_big layX sysX (d + 2) 103 [.ref 4, .int v] S P := ⟨20, x_vplace (x_at_23 h)⟩
theorem x_tree {v : Int32} (h : P (some (.int (rAt 54 (S.2.1 24) (xMP S v)))) S) : mv_big layX sysX (d + 2) 105 [.ref 4, .int v] S P := ⟨20, x_mplace (x_at_24 h)⟩
theorem x_setNumber {v x : Int32} (h : P none (sR S 23 158 (xVP S v) x)) : mv_big layX sysX (d + 2) 104 [.ref 4, .int v, .int x] S P := ⟨20, x_vplace (x_set_23 h)⟩
def xVar (S : mv_S) (v : Int32) : Int32 := if 0 ≤ v ∧ v < 8 then rAt 158 (S.2.1 23) (xVP S v) else 0
theorem x_variable {v : Int32} (h : P (some (.int (xVar S v))) S) : mv_big layX sysX (d + 3) 168 [.ref 0, .int v] S P := by
  refine ⟨40, ?_⟩
  unfold xVar at h
  refine ⟨fun c => ?_, fun c => ⟨fun c2 => ?_, fun c2 => ?_⟩⟩
  · rw [if_neg (fun q => absurd q.1 (Int32.not_le.mpr c))] at h; exact h
  · have c2 : (8 : Int32) ≤ v := c2
    rw [if_neg (fun q => absurd q.2 (Int32.not_lt.mpr c2))] at h; exact h
  · have c2 : ¬ (8 : Int32) ≤ v := c2
    refine x_number ?_
    rw [if_pos ⟨Int32.not_lt.mp c, Int32.not_le.mp c2⟩] at h; exact h
end LX

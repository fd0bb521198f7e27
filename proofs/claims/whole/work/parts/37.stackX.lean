/-! THE CLASS'S METHODS: stacks, what is told, cells that are made -/
theorem sL_1 (S : mv_S) (q n : Nat) (i : Int32) (x : Int64) : (sL S q n i x).1 = S.1 := by unfold sL; split <;> rfl
/-- a number more on the stack -/
def xPush (S : mv_S) (x : Int32) : mv_S := if S.1 4 11 < 850 then mv_pf (sR S 25 850 (S.1 4 11) x) 4 11 (S.1 4 11 + 1) else S
def xPopS (S : mv_S) : mv_S := if 0 < S.1 4 11 then mv_pf S 4 11 (S.1 4 11 - 1) else S
def xPopV (S : mv_S) : Int32 := rAt 850 (S.2.1 25) ((xPopS S).1 4 11)
/-- a map more on the stack -/
def xPushM (S : mv_S) (x : Int32) : mv_S := if S.1 4 12 < 425 then mv_pf (sL (sR S 26 425 (S.1 4 12) x) 27 425 (S.1 4 12) (-2147483648)) 4 12 (S.1 4 12 + 1) else S
def xPopMS (S : mv_S) : mv_S := if 0 < S.1 4 12 then mv_pf S 4 12 (S.1 4 12 - 1) else S
def xPopMV (S : mv_S) : Int32 := rAt 425 (S.2.1 26) ((xPopMS S).1 4 12)
def xTell (S : mv_S) (x : Int32) : mv_S := mv_pf (sR S 31 300 (S.1 4 14) x) 4 14 (S.1 4 14 + 1)
/-- a tree hung into a hole -/
def xHang (S : mv_S) (h t : Int32) : mv_S := if 0 < h ∧ h < 803 then mv_pr S 18 h.toNatClampNeg t else if h < 0 ∧ -803 < h then mv_pr S 19 (-h).toNatClampNeg t else S
def xRank (s k : Int32) : Int32 :=
  let x := k ^^^ s
  let y := (x ^^^ (x.toUInt32 >>> ((16 : Int32).toUInt32 &&& Int32.toUInt32 31)).toInt32) * 2146121005
  let z := (y ^^^ (y.toUInt32 >>> ((15 : Int32).toUInt32 &&& Int32.toUInt32 31)).toInt32) * (-2073254261)
  (z ^^^ (z.toUInt32 >>> ((16 : Int32).toUInt32 &&& Int32.toUInt32 31)).toInt32) ^^^ (-2147483648)
section LX
variable {d : Nat} {S : mv_S} {P : Option Value → mv_S → Prop}
theorem x_push {x : Int32} (h : P none (xPush S x)) : mv_big layX sysX (d + 2) 106 [.ref 4, .int x] S P := by
  refine ⟨30, ?_⟩
  unfold xPush at h
  refine ⟨fun c => ?_, fun c => ?_⟩
  · have c : (850 : Int32) ≤ S.1 4 11 := c
    rw [if_neg (Int32.not_lt.mpr c)] at h; exact h
  · have c : ¬ (850 : Int32) ≤ S.1 4 11 := c
    rw [if_pos (Int32.not_le.mp c)] at h
    refine x_set_25 ?_
    have h3 : P none (mv_pf (sR S 25 850 (S.1 4 11) x) 4 11 ((sR S 25 850 (S.1 4 11) x).1 4 11 + 1)) := by rw [sR_1]; exact h
    exact h3
theorem x_pop (h : P (some (.int (xPopV S))) (xPopS S)) : mv_big layX sysX (d + 2) 107 [.ref 4] S P := by
  refine ⟨30, ?_⟩
  unfold xPopV xPopS at h
  refine ⟨fun c => ?_, fun c => ?_⟩
  · have c : S.1 4 11 ≤ 0 := c
    rw [if_neg (Int32.not_lt.mpr c)] at h
    exact x_at_25 h
  · have c : ¬ S.1 4 11 ≤ 0 := c
    rw [if_pos (Int32.not_le.mp c)] at h
    exact x_at_25 h
theorem x_pushMap {x : Int32} (h : P none (xPushM S x)) : mv_big layX sysX (d + 2) 108 [.ref 4, .int x] S P := by
  refine ⟨40, ?_⟩
  unfold xPushM at h
  refine ⟨fun c => ?_, fun c => ?_⟩
  · have c : (425 : Int32) ≤ S.1 4 12 := c
    rw [if_neg (Int32.not_lt.mpr c)] at h; exact h
  · have c : ¬ (425 : Int32) ≤ S.1 4 12 := c
    rw [if_pos (Int32.not_le.mp c)] at h
    refine x_set_26 ?_
    refine x_set_27 ?_
    have h3 : P none (mv_pf (sL (sR S 26 425 (S.1 4 12) x) 27 425 ((sR S 26 425 (S.1 4 12) x).1 4 12) (-2147483648)) 4 12 ((sL (sR S 26 425 (S.1 4 12) x) 27 425 ((sR S 26 425 (S.1 4 12) x).1 4 12) (-2147483648)).1 4 12 + 1)) := by rw [sL_1, sR_1]; exact h
    exact h3
theorem x_popMap (h : P (some (.int (xPopMV S))) (xPopMS S)) : mv_big layX sysX (d + 2) 109 [.ref 4] S P := by
  refine ⟨30, ?_⟩
  unfold xPopMV xPopMS at h
  refine ⟨fun c => ?_, fun c => ?_⟩
  · have c : S.1 4 12 ≤ 0 := c
    rw [if_neg (Int32.not_lt.mpr c)] at h
    exact x_at_26 h
  · have c : ¬ S.1 4 12 ≤ 0 := c
    rw [if_pos (Int32.not_le.mp c)] at h
    exact x_at_26 h
theorem x_tell {x : Int32} (h1 : 300 ≤ S.1 4 14 → P (some (.int 4)) S) (h2 : S.1 4 14 < 300 → P (some (.int 1)) (xTell S x)) : mv_big layX sysX (d + 2) 115 [.ref 4, .int x] S P := by
  refine ⟨30, ?_⟩
  refine ⟨fun c => ?_, fun c => h1 (Int32.not_lt.mp c)⟩
  refine x_set_31 ?_
  have h3 : P (some (.int 1)) (mv_pf (sR S 31 300 (S.1 4 14) x) 4 14 ((sR S 31 300 (S.1 4 14) x).1 4 14 + 1)) := by rw [sR_1]; exact h2 c
  exact h3
theorem x_goIf1 {p : Int32} (h : P none (mv_pf S 6 3 p)) : mv_big layX sysX (d + 1) 89 [.ref 6, .int 1, .int p] S P := ⟨20, fun z => absurd (show (1 : Int32) = 0 from z) (by decide), fun _ => h⟩
theorem x_goIf0 {p : Int32} (h : P none S) : mv_big layX sysX (d + 1) 89 [.ref 6, .int 0, .int p] S P := ⟨20, fun _ => h, fun z => absurd rfl z⟩
theorem x_rbegin (h : P none (mv_pf (mv_pf (mv_pf S 6 2 1) 6 3 (S.1 1 7)) 6 4 1)) : mv_big layX sysX (d + 2) 82 [.ref 6] S P := by
  refine ⟨30, ?_⟩
  refine ⟨Or.inr rfl, ?_⟩
  refine x_mainWord ?_
  exact h
theorem x_beginMaking (h : P none (mv_pf (mv_pf (mv_pf S 3 14 0) 3 15 0) 3 9 (S.1 3 8))) : mv_big layX sysX (d + 1) 8 [.ref 3] S P := ⟨20, Or.inl rfl, h⟩
theorem x_rankOf {k : Int32} (h : P (some (.int (xRank (S.1 3 12) k))) S) : mv_big layX sysX (d + 1) 7 [.ref 3, .int k] S P := ⟨40, h⟩
theorem x_surelyFits (h1 : ¬ (S.1 3 15 = 0 ∧ 800 - S.1 3 8 ≤ S.1 3 13) → P (some (.int 0)) S) (h2 : S.1 3 15 = 0 ∧ 800 - S.1 3 8 ≤ S.1 3 13 → P (some (.int 1)) S) : mv_big layX sysX (d + 1) 14 [.ref 3] S P := by
  refine ⟨30, ?_⟩
  refine ⟨fun c => ⟨Or.inl rfl, h1 (fun q => c q.1)⟩, fun c => ⟨fun c2 => ⟨Or.inl rfl, ?_⟩, fun c2 => ⟨Or.inr rfl, ?_⟩⟩⟩
  · have c2 : S.1 3 13 < 800 - S.1 3 8 := c2
    exact h1 (fun q => absurd q.2 (Int32.not_le.mpr c2))
  · have c2 : ¬ S.1 3 13 < 800 - S.1 3 8 := c2
    exact h2 ⟨c, Int32.not_lt.mp c2⟩
theorem x_fits (h1 : ¬ (S.1 3 15 = 0 ∧ S.1 3 11 + S.1 3 14 ≤ S.1 3 13) → P (some (.int 0)) S) (h2 : S.1 3 15 = 0 ∧ S.1 3 11 + S.1 3 14 ≤ S.1 3 13 → P (some (.int 1)) S) : mv_big layX sysX (d + 1) 15 [.ref 3] S P := by
  refine ⟨30, ?_⟩
  refine ⟨fun c => ⟨Or.inl rfl, h1 (fun q => c q.1)⟩, fun c => ⟨fun c2 => ⟨Or.inl rfl, ?_⟩, fun c2 => ⟨Or.inr rfl, ?_⟩⟩⟩
  · have c2 : S.1 3 13 < S.1 3 11 + S.1 3 14 := c2
    exact h1 (fun q => absurd q.2 (Int32.not_le.mpr c2))
  · have c2 : ¬ S.1 3 13 < S.1 3 11 + S.1 3 14 := c2
    exact h2 ⟨c, Int32.not_lt.mp c2⟩
end LX

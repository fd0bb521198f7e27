/-! THE CLASS'S METHODS: cells by number, an empty tree, an empty program -/
/-- a cell's part: 0 beside the heap -/
def xC (S : mv_S) (q : Nat) (c : Int32) : Int32 := if 0 < c ∧ c < 803 then S.2.1 q c.toNatClampNeg else 0
def xTok (S : mv_S) (i : Int32) : Int32 := if 0 ≤ i ∧ i < S.1 1 9 ∧ i < 700 then S.2.1 8 i.toNatClampNeg else -1
theorem vp_pos {i : Int32} {n : Nat} (hn : n < 2 ^ 31) (h0 : 0 < i) (h1 : i < Int32.ofNat n) : vp_in i n := rIn_vp hn ⟨Int32.le_of_lt h0, h1⟩
section LX
variable {d : Nat} {S : mv_S} {P : Option Value → mv_S → Prop}
theorem x_key {c : Int32} (h : P (some (.int (xC S 15 c))) S) : mv_big layX sysX (d + 1) 2 [.ref 3, .int c] S P := by
  refine ⟨20, ?_⟩
  unfold xC at h
  refine ⟨fun c1 => ?_, fun c1 => ⟨fun c2 => ?_, fun c2 => ⟨?_, ?_⟩⟩⟩
  · have c1 : c ≤ 0 := c1
    rw [if_neg (fun q => absurd q.1 (Int32.not_lt.mpr c1))] at h; exact h
  · have c2 : (803 : Int32) ≤ c := c2
    rw [if_neg (fun q => absurd q.2 (Int32.not_lt.mpr c2))] at h; exact h
  · exact vp_pos (by decide) (Int32.not_le.mp c1) (Int32.not_le.mp c2)
  · rw [if_pos ⟨Int32.not_le.mp c1, Int32.not_le.mp c2⟩] at h; exact h
theorem x_value {c : Int32} (h : P (some (.int (xC S 16 c))) S) : mv_big layX sysX (d + 1) 3 [.ref 3, .int c] S P := by
  refine ⟨20, ?_⟩
  unfold xC at h
  refine ⟨fun c1 => ?_, fun c1 => ⟨fun c2 => ?_, fun c2 => ⟨?_, ?_⟩⟩⟩
  · have c1 : c ≤ 0 := c1
    rw [if_neg (fun q => absurd q.1 (Int32.not_lt.mpr c1))] at h; exact h
  · have c2 : (803 : Int32) ≤ c := c2
    rw [if_neg (fun q => absurd q.2 (Int32.not_lt.mpr c2))] at h; exact h
  · exact vp_pos (by decide) (Int32.not_le.mp c1) (Int32.not_le.mp c2)
  · rw [if_pos ⟨Int32.not_le.mp c1, Int32.not_le.mp c2⟩] at h; exact h
theorem x_token {i : Int32} (h : P (some (.int (xTok S i))) S) : mv_big layX sysX (d + 1) 57 [.ref 1, .int i] S P := by
  refine ⟨20, ?_⟩
  unfold xTok at h
  refine ⟨fun c1 => ?_, fun c1 => ⟨fun c2 => ?_, fun c2 => ⟨fun c3 => ?_, fun c3 => ⟨?_, ?_⟩⟩⟩⟩
  · rw [if_neg (fun q => absurd q.1 (Int32.not_le.mpr c1))] at h; exact h
  · have c2 : S.1 1 9 ≤ i := c2
    rw [if_neg (fun q => absurd q.2.1 (Int32.not_lt.mpr c2))] at h; exact h
  · have c3 : (700 : Int32) ≤ i := c3
    rw [if_neg (fun q => absurd q.2.2 (Int32.not_lt.mpr c3))] at h; exact h
  · exact rIn_vp (by decide) (rIn_of c1 c3)
  · have c2 : ¬ S.1 1 9 ≤ i := c2
    rw [if_pos ⟨Int32.not_lt.mp c1, Int32.not_le.mp c2, Int32.not_le.mp c3⟩] at h; exact h
theorem x_fail {w : Int32} (h : P (some (.int 0)) (mv_pf S 2 2 w)) : mv_big layX sysX (d + 1) 27 [.ref 2, .int w] S P := ⟨20, Or.inl rfl, h⟩
theorem x_functions0 (h0 : ¬ xTok S (S.1 2 1) = 10) (h : P (some (.int 1)) S) : mv_big layX sysX (d + 2) 28 [.ref 2] S P := by
  refine ⟨60, ?_⟩
  refine ⟨fun c => absurd (show (8 : Int32) < 0 from c) (by decide), fun c => ?_⟩
  refine x_token ?_
  exact ⟨fun _ => ⟨Or.inr rfl, h⟩, fun z => absurd z h0⟩
theorem x_mainPart0 (h0 : ¬ xTok S (S.1 2 1) = 11) (h : P (some (.int 0)) (mv_pf S 2 2 (-11))) : mv_big layX sysX (d + 2) 29 [.ref 2] S P := by
  refine ⟨60, ?_⟩
  refine x_token ?_
  refine ⟨fun z => absurd z h0, fun _ => ?_⟩
  exact x_fail ⟨Or.inl rfl, h⟩
/-- what a compile without tokens leaves -/
def xT0 (S : mv_S) : mv_S := mv_pf (mv_pf (mv_pf (mv_pf (xFC S) 2 1 0) 2 3 0) 2 2 (-11)) 1 12 0
theorem x_translate0 (h0 : S.1 1 9 = 0) (h : P (some (.int (-11))) (xT0 S)) : mv_big layX sysX (d + 3) 26 [.ref 2] S P := by
  have ht : ∀ i, xTok (mv_pf (mv_pf (xFC S) 2 1 0) 2 3 0) i = -1 := by
    intro i
    unfold xTok
    rw [if_neg]
    rintro ⟨a, b, -⟩
    have b' : i < S.1 1 9 := b
    rw [h0] at b'
    exact absurd a (Int32.not_le.mpr b')
  refine ⟨60, ?_⟩
  refine x_forgetCode ?_
  refine ⟨Or.inl rfl, ?_⟩
  refine x_functions0 (fun z => absurd ((ht _).symm.trans z) (by decide)) ?_
  refine ⟨fun z => absurd (show (1 : Int32) = 0 from z) (by decide), fun _ => ?_⟩
  refine x_mainPart0 (fun z => absurd ((ht _).symm.trans z) (by decide)) ?_
  refine ⟨fun z => absurd rfl z, fun _ => ?_⟩
  refine x_refuse ?_
  exact h
theorem x_compile0 (h0 : S.1 1 9 = 0) (h : P (some (.int (-11))) (xT0 (xLR S))) : mv_big layX sysX (d + 4) 160 [.ref 0] S P := by
  refine ⟨20, ?_⟩
  refine x_leaveRun ?_
  exact x_translate0 h0 h
theorem x_reach0 (h : P none S) : mv_big layX sysX (d + 1) 19 [.ref 3, .int 0] S P := by
  refine ⟨60, ?_⟩
  refine ⟨fun c => absurd (show (2409 : Int32) ≤ 0 from c) (by decide), fun _ => ⟨fun z => absurd rfl z, fun _ => ⟨fun _ => h, fun z => absurd (show (0 : Int32) ≤ 0 by decide) z⟩⟩⟩
/-- what beginReaching leaves -/
def xBR (S : mv_S) : mv_S := mv_pf (mv_pf S 3 10 (S.1 3 10 + 1)) 3 11 0
theorem x_size0 (h : P (some (.int 0)) (xBR S)) : mv_big layX sysX (d + 2) 21 [.ref 3, .int 0] S P := by
  refine ⟨20, ?_⟩
  refine x_beginReaching ?_
  refine x_reach0 ?_
  exact h
theorem x_least0 {b : Int64} (h : P (some (.int 0)) S) : mv_big layX sysX (d + 1) 23 [.ref 3, .int 0, .long b] S P := by
  refine ⟨60, ?_⟩
  exact ⟨fun c => absurd (show (803 : Int32) ≤ 0 from c) (by decide), fun _ => ⟨fun _ => h, fun z => absurd rfl z⟩⟩
theorem x_nth0 {i : Int32} (h : P (some (.int 0)) S) : mv_big layX sysX (d + 2) 25 [.ref 3, .int 0, .int i] S P := by
  refine ⟨60, ?_⟩
  refine ⟨fun c => h, fun c => ⟨fun c => ?_, fun c => h⟩⟩
  refine x_least0 ?_
  exact ⟨fun _ => h, fun _ => ⟨fun _ => h, fun z => absurd rfl z⟩⟩
theorem xC0 (S : mv_S) (q : Nat) : xC S q 0 = 0 := rfl
/-- map() where all trees are empty -/
theorem x_map0 {m w i : Int32} (h0 : ∀ j, rAt 54 (S.2.1 24) j = 0) (h1 : (0 ≤ m ∧ m < 4) ∧ (0 ≤ w ∧ w < 4) → ∀ S', P (some (.int 0)) S') (h2 : ¬ ((0 ≤ m ∧ m < 4) ∧ (0 ≤ w ∧ w < 4)) → P (some (.int (-2))) S) : mv_big layX sysX (d + 3) 169 [.ref 0, .int m, .int w, .int i] S P := by
  refine ⟨60, ?_⟩
  refine ⟨fun c => h2 (fun q => absurd q.1.1 (Int32.not_le.mpr c)), fun c => ⟨fun c2 => ?_, fun c2 => h2 (fun q => c2 q.1.2)⟩⟩
  refine x_tree ?_
  rw [h0]
  have hm : 0 ≤ m ∧ m < 4 := ⟨Int32.not_lt.mp c, c2⟩
  refine ⟨fun e => ?_, fun e0 => ⟨fun e => ?_, fun e1 => ⟨fun e => ?_, fun e2 => ⟨fun e => ?_, fun e3 => ?_⟩⟩⟩⟩
  · have e : w = 0 := e
    exact x_size0 (h1 ⟨hm, by rw [e]; decide⟩ _)
  · have e : w = 1 := e
    refine x_nth0 (x_key ?_)
    rw [xC0]
    exact h1 ⟨hm, by rw [e]; decide⟩ _
  · have e : w = 2 := e
    refine x_nth0 (x_value ?_)
    rw [xC0]
    exact h1 ⟨hm, by rw [e]; decide⟩ _
  · have e : w = 3 := e
    refine x_key ?_
    rw [xC0]
    exact h1 ⟨hm, by rw [e]; decide⟩ _
  · have g0 : ¬ w = 0 := e0
    have g1 : ¬ w = 1 := e1
    have g2 : ¬ w = 2 := e2
    have g3 : ¬ w = 3 := e3
    refine h2 (fun q => ?_)
    obtain ⟨j, hj, rfl⟩ := vp_in_of (rIn_vp (n := 4) (by decide) q.2) (by decide)
    match j, hj with
    | 0, _ => exact g0 rfl
    | 1, _ => exact g1 rfl
    | 2, _ => exact g2 rfl
    | 3, _ => exact g3 rfl
end LX

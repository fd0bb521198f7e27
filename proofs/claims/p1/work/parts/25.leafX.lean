/-! THE CLASS'S METHODS: leaves. P after the answer and the store gives mv_big. -/
def rIn (n : Nat) (i : Int32) : Prop := 0 ≤ i ∧ i < Int32.ofNat n
theorem rIn_of {i : Int32} {n : Nat} (h0 : ¬ i < 0) (h1 : ¬ Int32.ofNat n ≤ i) : rIn n i := ⟨Int32.not_lt.mp h0, Int32.not_le.mp h1⟩
theorem rIn_no1 {i : Int32} {n : Nat} (h0 : i < 0) : ¬ rIn n i := fun h => absurd h.1 (Int32.not_le.mpr h0)
theorem rIn_no2 {i : Int32} {n : Nat} (h1 : Int32.ofNat n ≤ i) : ¬ rIn n i := fun h => absurd h.2 (Int32.not_lt.mpr h1)
theorem rIn_vp {i : Int32} {n : Nat} (hn : n < 2 ^ 31) (h : rIn n i) : vp_in i n := by
  rw [vp_in_iff]
  obtain ⟨h1, h2⟩ := h
  rw [Int32.le_iff_toInt_le] at h1
  rw [Int32.lt_iff_toInt_lt, show Int32.ofNat n = nI n from rfl, nI_toInt hn] at h2
  exact ⟨by simpa using h1, h2⟩
/-- a row at i, 0 beside it -/
def rAt (n : Nat) (r : Nat → Int32) (i : Int32) : Int32 := if 0 ≤ i ∧ i < Int32.ofNat n then r i.toNatClampNeg else 0
def rLt (n : Nat) (r : Nat → Int64) (i : Int32) : Int64 := if 0 ≤ i ∧ i < Int32.ofNat n then r i.toNatClampNeg else 0
/-- the store with a row set at i, as it is beside it -/
def sR (S : mv_S) (q n : Nat) (i x : Int32) : mv_S := if 0 ≤ i ∧ i < Int32.ofNat n then mv_pr S q i.toNatClampNeg x else S
def sL (S : mv_S) (q n : Nat) (i : Int32) (x : Int64) : mv_S := if 0 ≤ i ∧ i < Int32.ofNat n then mv_pl S q i.toNatClampNeg x else S
theorem rAt_in {n : Nat} {r : Nat → Int32} {i : Int32} (h : rIn n i) : rAt n r i = r i.toNatClampNeg := if_pos h
theorem rAt_out {n : Nat} {r : Nat → Int32} {i : Int32} (h : ¬ rIn n i) : rAt n r i = 0 := if_neg h
theorem rLt_in {n : Nat} {r : Nat → Int64} {i : Int32} (h : rIn n i) : rLt n r i = r i.toNatClampNeg := if_pos h
theorem rLt_out {n : Nat} {r : Nat → Int64} {i : Int32} (h : ¬ rIn n i) : rLt n r i = 0 := if_neg h
theorem sR_in {S : mv_S} {q n : Nat} {i x : Int32} (h : rIn n i) : sR S q n i x = mv_pr S q i.toNatClampNeg x := if_pos h
theorem sR_out {S : mv_S} {q n : Nat} {i x : Int32} (h : ¬ rIn n i) : sR S q n i x = S := if_neg h
theorem sL_in {S : mv_S} {q n : Nat} {i : Int32} {x : Int64} (h : rIn n i) : sL S q n i x = mv_pl S q i.toNatClampNeg x := if_pos h
theorem sL_out {S : mv_S} {q n : Nat} {i : Int32} {x : Int64} (h : ¬ rIn n i) : sL S q n i x = S := if_neg h
section LX
variable {d : Nat} {S : mv_S} {P : Option Value → mv_S → Prop}

theorem x_at_8 {i : Int32} (h : P (some (.int (rAt 700 (S.2.1 8) i))) S) : mv_big layX sysX (d + 1) 77 [.ref 8, .int i] S P := by
  refine ⟨30, ?_⟩
  refine ⟨fun c1 => ?_, fun c1 => ⟨fun c2 => ?_, fun c2 => ⟨rIn_vp (by decide) (rIn_of c1 c2), ?_⟩⟩⟩
  · rw [rAt_out (rIn_no1 c1)] at h; exact h
  · rw [rAt_out (rIn_no2 c2)] at h; exact h
  · rw [rAt_in (rIn_of c1 c2)] at h; exact h
theorem x_set_8 {i x : Int32} (h : P none (sR S 8 700 i x)) : mv_big layX sysX (d + 1) 79 [.ref 8, .int i, .int x] S P := by
  refine ⟨30, ?_⟩
  refine ⟨fun c1 => ?_, fun c1 => ⟨fun c2 => ?_, fun c2 => ⟨rIn_vp (by decide) (rIn_of c1 c2), ?_⟩⟩⟩
  · rw [sR_out (rIn_no1 c1)] at h; exact h
  · rw [sR_out (rIn_no2 c2)] at h; exact h
  · rw [sR_in (rIn_of c1 c2)] at h; exact h
theorem x_at_9 {i : Int32} (h : P (some (.int (rAt 700 (S.2.1 9) i))) S) : mv_big layX sysX (d + 1) 77 [.ref 9, .int i] S P := by
  refine ⟨30, ?_⟩
  refine ⟨fun c1 => ?_, fun c1 => ⟨fun c2 => ?_, fun c2 => ⟨rIn_vp (by decide) (rIn_of c1 c2), ?_⟩⟩⟩
  · rw [rAt_out (rIn_no1 c1)] at h; exact h
  · rw [rAt_out (rIn_no2 c2)] at h; exact h
  · rw [rAt_in (rIn_of c1 c2)] at h; exact h
theorem x_set_9 {i x : Int32} (h : P none (sR S 9 700 i x)) : mv_big layX sysX (d + 1) 79 [.ref 9, .int i, .int x] S P := by
  refine ⟨30, ?_⟩
  refine ⟨fun c1 => ?_, fun c1 => ⟨fun c2 => ?_, fun c2 => ⟨rIn_vp (by decide) (rIn_of c1 c2), ?_⟩⟩⟩
  · rw [sR_out (rIn_no1 c1)] at h; exact h
  · rw [sR_out (rIn_no2 c2)] at h; exact h
  · rw [sR_in (rIn_of c1 c2)] at h; exact h
theorem x_at_10 {i : Int32} (h : P (some (.int (rAt 700 (S.2.1 10) i))) S) : mv_big layX sysX (d + 1) 77 [.ref 10, .int i] S P := by
  refine ⟨30, ?_⟩
  refine ⟨fun c1 => ?_, fun c1 => ⟨fun c2 => ?_, fun c2 => ⟨rIn_vp (by decide) (rIn_of c1 c2), ?_⟩⟩⟩
  · rw [rAt_out (rIn_no1 c1)] at h; exact h
  · rw [rAt_out (rIn_no2 c2)] at h; exact h
  · rw [rAt_in (rIn_of c1 c2)] at h; exact h
theorem x_set_10 {i x : Int32} (h : P none (sR S 10 700 i x)) : mv_big layX sysX (d + 1) 79 [.ref 10, .int i, .int x] S P := by
  refine ⟨30, ?_⟩
  refine ⟨fun c1 => ?_, fun c1 => ⟨fun c2 => ?_, fun c2 => ⟨rIn_vp (by decide) (rIn_of c1 c2), ?_⟩⟩⟩
  · rw [sR_out (rIn_no1 c1)] at h; exact h
  · rw [sR_out (rIn_no2 c2)] at h; exact h
  · rw [sR_in (rIn_of c1 c2)] at h; exact h
theorem x_at_11 {i : Int32} (h : P (some (.int (rAt 1500 (S.2.1 11) i))) S) : mv_big layX sysX (d + 1) 77 [.ref 11, .int i] S P := by
  refine ⟨30, ?_⟩
  refine ⟨fun c1 => ?_, fun c1 => ⟨fun c2 => ?_, fun c2 => ⟨rIn_vp (by decide) (rIn_of c1 c2), ?_⟩⟩⟩
  · rw [rAt_out (rIn_no1 c1)] at h; exact h
  · rw [rAt_out (rIn_no2 c2)] at h; exact h
  · rw [rAt_in (rIn_of c1 c2)] at h; exact h
theorem x_set_11 {i x : Int32} (h : P none (sR S 11 1500 i x)) : mv_big layX sysX (d + 1) 79 [.ref 11, .int i, .int x] S P := by
  refine ⟨30, ?_⟩
  refine ⟨fun c1 => ?_, fun c1 => ⟨fun c2 => ?_, fun c2 => ⟨rIn_vp (by decide) (rIn_of c1 c2), ?_⟩⟩⟩
  · rw [sR_out (rIn_no1 c1)] at h; exact h
  · rw [sR_out (rIn_no2 c2)] at h; exact h
  · rw [sR_in (rIn_of c1 c2)] at h; exact h
theorem x_at_12 {i : Int32} (h : P (some (.int (rAt 8 (S.2.1 12) i))) S) : mv_big layX sysX (d + 1) 77 [.ref 12, .int i] S P := by
  refine ⟨30, ?_⟩
  refine ⟨fun c1 => ?_, fun c1 => ⟨fun c2 => ?_, fun c2 => ⟨rIn_vp (by decide) (rIn_of c1 c2), ?_⟩⟩⟩
  · rw [rAt_out (rIn_no1 c1)] at h; exact h
  · rw [rAt_out (rIn_no2 c2)] at h; exact h
  · rw [rAt_in (rIn_of c1 c2)] at h; exact h
theorem x_set_12 {i x : Int32} (h : P none (sR S 12 8 i x)) : mv_big layX sysX (d + 1) 79 [.ref 12, .int i, .int x] S P := by
  refine ⟨30, ?_⟩
  refine ⟨fun c1 => ?_, fun c1 => ⟨fun c2 => ?_, fun c2 => ⟨rIn_vp (by decide) (rIn_of c1 c2), ?_⟩⟩⟩
  · rw [sR_out (rIn_no1 c1)] at h; exact h
  · rw [sR_out (rIn_no2 c2)] at h; exact h
  · rw [sR_in (rIn_of c1 c2)] at h; exact h
theorem x_at_13 {i : Int32} (h : P (some (.int (rAt 8 (S.2.1 13) i))) S) : mv_big layX sysX (d + 1) 77 [.ref 13, .int i] S P := by
  refine ⟨30, ?_⟩
  refine ⟨fun c1 => ?_, fun c1 => ⟨fun c2 => ?_, fun c2 => ⟨rIn_vp (by decide) (rIn_of c1 c2), ?_⟩⟩⟩
  · rw [rAt_out (rIn_no1 c1)] at h; exact h
  · rw [rAt_out (rIn_no2 c2)] at h; exact h
  · rw [rAt_in (rIn_of c1 c2)] at h; exact h
theorem x_set_13 {i x : Int32} (h : P none (sR S 13 8 i x)) : mv_big layX sysX (d + 1) 79 [.ref 13, .int i, .int x] S P := by
  refine ⟨30, ?_⟩
  refine ⟨fun c1 => ?_, fun c1 => ⟨fun c2 => ?_, fun c2 => ⟨rIn_vp (by decide) (rIn_of c1 c2), ?_⟩⟩⟩
  · rw [sR_out (rIn_no1 c1)] at h; exact h
  · rw [sR_out (rIn_no2 c2)] at h; exact h
  · rw [sR_in (rIn_of c1 c2)] at h; exact h
theorem x_at_14 {i : Int32} (h : P (some (.int (rAt 8 (S.2.1 14) i))) S) : mv_big layX sysX (d + 1) 77 [.ref 14, .int i] S P := by
  refine ⟨30, ?_⟩
  refine ⟨fun c1 => ?_, fun c1 => ⟨fun c2 => ?_, fun c2 => ⟨rIn_vp (by decide) (rIn_of c1 c2), ?_⟩⟩⟩
  · rw [rAt_out (rIn_no1 c1)] at h; exact h
  · rw [rAt_out (rIn_no2 c2)] at h; exact h
  · rw [rAt_in (rIn_of c1 c2)] at h; exact h
theorem x_set_14 {i x : Int32} (h : P none (sR S 14 8 i x)) : mv_big layX sysX (d + 1) 79 [.ref 14, .int i, .int x] S P := by
  refine ⟨30, ?_⟩
  refine ⟨fun c1 => ?_, fun c1 => ⟨fun c2 => ?_, fun c2 => ⟨rIn_vp (by decide) (rIn_of c1 c2), ?_⟩⟩⟩
  · rw [sR_out (rIn_no1 c1)] at h; exact h
  · rw [sR_out (rIn_no2 c2)] at h; exact h
  · rw [sR_in (rIn_of c1 c2)] at h; exact h
theorem x_at_23 {i : Int32} (h : P (some (.int (rAt 158 (S.2.1 23) i))) S) : mv_big layX sysX (d + 1) 77 [.ref 23, .int i] S P := by
  refine ⟨30, ?_⟩
  refine ⟨fun c1 => ?_, fun c1 => ⟨fun c2 => ?_, fun c2 => ⟨rIn_vp (by decide) (rIn_of c1 c2), ?_⟩⟩⟩
  · rw [rAt_out (rIn_no1 c1)] at h; exact h
  · rw [rAt_out (rIn_no2 c2)] at h; exact h
  · rw [rAt_in (rIn_of c1 c2)] at h; exact h
theorem x_set_23 {i x : Int32} (h : P none (sR S 23 158 i x)) : mv_big layX sysX (d + 1) 79 [.ref 23, .int i, .int x] S P := by
  refine ⟨30, ?_⟩
  refine ⟨fun c1 => ?_, fun c1 => ⟨fun c2 => ?_, fun c2 => ⟨rIn_vp (by decide) (rIn_of c1 c2), ?_⟩⟩⟩
  · rw [sR_out (rIn_no1 c1)] at h; exact h
  · rw [sR_out (rIn_no2 c2)] at h; exact h
  · rw [sR_in (rIn_of c1 c2)] at h; exact h
theorem x_at_24 {i : Int32} (h : P (some (.int (rAt 54 (S.2.1 24) i))) S) : mv_big layX sysX (d + 1) 77 [.ref 24, .int i] S P := by
  refine ⟨30, ?_⟩
  refine ⟨fun c1 => ?_, fun c1 => ⟨fun c2 => ?_, fun c2 => ⟨rIn_vp (by decide) (rIn_of c1 c2), ?_⟩⟩⟩
  · rw [rAt_out (rIn_no1 c1)] at h; exact h
  · rw [rAt_out (rIn_no2 c2)] at h; exact h
  · rw [rAt_in (rIn_of c1 c2)] at h; exact h
theorem x_set_24 {i x : Int32} (h : P none (sR S 24 54 i x)) : mv_big layX sysX (d + 1) 79 [.ref 24, .int i, .int x] S P := by
  refine ⟨30, ?_⟩
  refine ⟨fun c1 => ?_, fun c1 => ⟨fun c2 => ?_, fun c2 => ⟨rIn_vp (by decide) (rIn_of c1 c2), ?_⟩⟩⟩
  · rw [sR_out (rIn_no1 c1)] at h; exact h
  · rw [sR_out (rIn_no2 c2)] at h; exact h
  · rw [sR_in (rIn_of c1 c2)] at h; exact h
theorem x_at_25 {i : Int32} (h : P (some (.int (rAt 850 (S.2.1 25) i))) S) : mv_big layX sysX (d + 1) 77 [.ref 25, .int i] S P := by
  refine ⟨30, ?_⟩
  refine ⟨fun c1 => ?_, fun c1 => ⟨fun c2 => ?_, fun c2 => ⟨rIn_vp (by decide) (rIn_of c1 c2), ?_⟩⟩⟩
  · rw [rAt_out (rIn_no1 c1)] at h; exact h
  · rw [rAt_out (rIn_no2 c2)] at h; exact h
  · rw [rAt_in (rIn_of c1 c2)] at h; exact h
theorem x_set_25 {i x : Int32} (h : P none (sR S 25 850 i x)) : mv_big layX sysX (d + 1) 79 [.ref 25, .int i, .int x] S P := by
  refine ⟨30, ?_⟩
  refine ⟨fun c1 => ?_, fun c1 => ⟨fun c2 => ?_, fun c2 => ⟨rIn_vp (by decide) (rIn_of c1 c2), ?_⟩⟩⟩
  · rw [sR_out (rIn_no1 c1)] at h; exact h
  · rw [sR_out (rIn_no2 c2)] at h; exact h
  · rw [sR_in (rIn_of c1 c2)] at h; exact h
theorem x_at_26 {i : Int32} (h : P (some (.int (rAt 425 (S.2.1 26) i))) S) : mv_big layX sysX (d + 1) 77 [.ref 26, .int i] S P := by
  refine ⟨30, ?_⟩
  refine ⟨fun c1 => ?_, fun c1 => ⟨fun c2 => ?_, fun c2 => ⟨rIn_vp (by decide) (rIn_of c1 c2), ?_⟩⟩⟩
  · rw [rAt_out (rIn_no1 c1)] at h; exact h
  · rw [rAt_out (rIn_no2 c2)] at h; exact h
  · rw [rAt_in (rIn_of c1 c2)] at h; exact h
theorem x_set_26 {i x : Int32} (h : P none (sR S 26 425 i x)) : mv_big layX sysX (d + 1) 79 [.ref 26, .int i, .int x] S P := by
  refine ⟨30, ?_⟩
  refine ⟨fun c1 => ?_, fun c1 => ⟨fun c2 => ?_, fun c2 => ⟨rIn_vp (by decide) (rIn_of c1 c2), ?_⟩⟩⟩
  · rw [sR_out (rIn_no1 c1)] at h; exact h
  · rw [sR_out (rIn_no2 c2)] at h; exact h
  · rw [sR_in (rIn_of c1 c2)] at h; exact h
theorem x_at_28 {i : Int32} (h : P (some (.int (rAt 25 (S.2.1 28) i))) S) : mv_big layX sysX (d + 1) 77 [.ref 28, .int i] S P := by
  refine ⟨30, ?_⟩
  refine ⟨fun c1 => ?_, fun c1 => ⟨fun c2 => ?_, fun c2 => ⟨rIn_vp (by decide) (rIn_of c1 c2), ?_⟩⟩⟩
  · rw [rAt_out (rIn_no1 c1)] at h; exact h
  · rw [rAt_out (rIn_no2 c2)] at h; exact h
  · rw [rAt_in (rIn_of c1 c2)] at h; exact h
theorem x_set_28 {i x : Int32} (h : P none (sR S 28 25 i x)) : mv_big layX sysX (d + 1) 79 [.ref 28, .int i, .int x] S P := by
  refine ⟨30, ?_⟩
  refine ⟨fun c1 => ?_, fun c1 => ⟨fun c2 => ?_, fun c2 => ⟨rIn_vp (by decide) (rIn_of c1 c2), ?_⟩⟩⟩
  · rw [sR_out (rIn_no1 c1)] at h; exact h
  · rw [sR_out (rIn_no2 c2)] at h; exact h
  · rw [sR_in (rIn_of c1 c2)] at h; exact h
theorem x_at_29 {i : Int32} (h : P (some (.int (rAt 25 (S.2.1 29) i))) S) : mv_big layX sysX (d + 1) 77 [.ref 29, .int i] S P := by
  refine ⟨30, ?_⟩
  refine ⟨fun c1 => ?_, fun c1 => ⟨fun c2 => ?_, fun c2 => ⟨rIn_vp (by decide) (rIn_of c1 c2), ?_⟩⟩⟩
  · rw [rAt_out (rIn_no1 c1)] at h; exact h
  · rw [rAt_out (rIn_no2 c2)] at h; exact h
  · rw [rAt_in (rIn_of c1 c2)] at h; exact h
theorem x_set_29 {i x : Int32} (h : P none (sR S 29 25 i x)) : mv_big layX sysX (d + 1) 79 [.ref 29, .int i, .int x] S P := by
  refine ⟨30, ?_⟩
  refine ⟨fun c1 => ?_, fun c1 => ⟨fun c2 => ?_, fun c2 => ⟨rIn_vp (by decide) (rIn_of c1 c2), ?_⟩⟩⟩
  · rw [sR_out (rIn_no1 c1)] at h; exact h
  · rw [sR_out (rIn_no2 c2)] at h; exact h
  · rw [sR_in (rIn_of c1 c2)] at h; exact h
theorem x_at_30 {i : Int32} (h : P (some (.int (rAt 25 (S.2.1 30) i))) S) : mv_big layX sysX (d + 1) 77 [.ref 30, .int i] S P := by
  refine ⟨30, ?_⟩
  refine ⟨fun c1 => ?_, fun c1 => ⟨fun c2 => ?_, fun c2 => ⟨rIn_vp (by decide) (rIn_of c1 c2), ?_⟩⟩⟩
  · rw [rAt_out (rIn_no1 c1)] at h; exact h
  · rw [rAt_out (rIn_no2 c2)] at h; exact h
  · rw [rAt_in (rIn_of c1 c2)] at h; exact h
theorem x_set_30 {i x : Int32} (h : P none (sR S 30 25 i x)) : mv_big layX sysX (d + 1) 79 [.ref 30, .int i, .int x] S P := by
  refine ⟨30, ?_⟩
  refine ⟨fun c1 => ?_, fun c1 => ⟨fun c2 => ?_, fun c2 => ⟨rIn_vp (by decide) (rIn_of c1 c2), ?_⟩⟩⟩
  · rw [sR_out (rIn_no1 c1)] at h; exact h
  · rw [sR_out (rIn_no2 c2)] at h; exact h
  · rw [sR_in (rIn_of c1 c2)] at h; exact h
theorem x_at_31 {i : Int32} (h : P (some (.int (rAt 300 (S.2.1 31) i))) S) : mv_big layX sysX (d + 1) 77 [.ref 31, .int i] S P := by
  refine ⟨30, ?_⟩
  refine ⟨fun c1 => ?_, fun c1 => ⟨fun c2 => ?_, fun c2 => ⟨rIn_vp (by decide) (rIn_of c1 c2), ?_⟩⟩⟩
  · rw [rAt_out (rIn_no1 c1)] at h; exact h
  · rw [rAt_out (rIn_no2 c2)] at h; exact h
  · rw [rAt_in (rIn_of c1 c2)] at h; exact h
theorem x_set_31 {i x : Int32} (h : P none (sR S 31 300 i x)) : mv_big layX sysX (d + 1) 79 [.ref 31, .int i, .int x] S P := by
  refine ⟨30, ?_⟩
  refine ⟨fun c1 => ?_, fun c1 => ⟨fun c2 => ?_, fun c2 => ⟨rIn_vp (by decide) (rIn_of c1 c2), ?_⟩⟩⟩
  · rw [sR_out (rIn_no1 c1)] at h; exact h
  · rw [sR_out (rIn_no2 c2)] at h; exact h
  · rw [sR_in (rIn_of c1 c2)] at h; exact h
theorem x_at_32 {i : Int32} (h : P (some (.int (rAt 402 (S.2.1 32) i))) S) : mv_big layX sysX (d + 1) 77 [.ref 32, .int i] S P := by
  refine ⟨30, ?_⟩
  refine ⟨fun c1 => ?_, fun c1 => ⟨fun c2 => ?_, fun c2 => ⟨rIn_vp (by decide) (rIn_of c1 c2), ?_⟩⟩⟩
  · rw [rAt_out (rIn_no1 c1)] at h; exact h
  · rw [rAt_out (rIn_no2 c2)] at h; exact h
  · rw [rAt_in (rIn_of c1 c2)] at h; exact h
theorem x_set_32 {i x : Int32} (h : P none (sR S 32 402 i x)) : mv_big layX sysX (d + 1) 79 [.ref 32, .int i, .int x] S P := by
  refine ⟨30, ?_⟩
  refine ⟨fun c1 => ?_, fun c1 => ⟨fun c2 => ?_, fun c2 => ⟨rIn_vp (by decide) (rIn_of c1 c2), ?_⟩⟩⟩
  · rw [sR_out (rIn_no1 c1)] at h; exact h
  · rw [sR_out (rIn_no2 c2)] at h; exact h
  · rw [sR_in (rIn_of c1 c2)] at h; exact h
theorem x_at_33 {i : Int32} (h : P (some (.int (rAt 402 (S.2.1 33) i))) S) : mv_big layX sysX (d + 1) 77 [.ref 33, .int i] S P := by
  refine ⟨30, ?_⟩
  refine ⟨fun c1 => ?_, fun c1 => ⟨fun c2 => ?_, fun c2 => ⟨rIn_vp (by decide) (rIn_of c1 c2), ?_⟩⟩⟩
  · rw [rAt_out (rIn_no1 c1)] at h; exact h
  · rw [rAt_out (rIn_no2 c2)] at h; exact h
  · rw [rAt_in (rIn_of c1 c2)] at h; exact h
theorem x_set_33 {i x : Int32} (h : P none (sR S 33 402 i x)) : mv_big layX sysX (d + 1) 79 [.ref 33, .int i, .int x] S P := by
  refine ⟨30, ?_⟩
  refine ⟨fun c1 => ?_, fun c1 => ⟨fun c2 => ?_, fun c2 => ⟨rIn_vp (by decide) (rIn_of c1 c2), ?_⟩⟩⟩
  · rw [sR_out (rIn_no1 c1)] at h; exact h
  · rw [sR_out (rIn_no2 c2)] at h; exact h
  · rw [sR_in (rIn_of c1 c2)] at h; exact h
theorem x_at_34 {i : Int32} (h : P (some (.int (rAt 402 (S.2.1 34) i))) S) : mv_big layX sysX (d + 1) 77 [.ref 34, .int i] S P := by
  refine ⟨30, ?_⟩
  refine ⟨fun c1 => ?_, fun c1 => ⟨fun c2 => ?_, fun c2 => ⟨rIn_vp (by decide) (rIn_of c1 c2), ?_⟩⟩⟩
  · rw [rAt_out (rIn_no1 c1)] at h; exact h
  · rw [rAt_out (rIn_no2 c2)] at h; exact h
  · rw [rAt_in (rIn_of c1 c2)] at h; exact h
theorem x_set_34 {i x : Int32} (h : P none (sR S 34 402 i x)) : mv_big layX sysX (d + 1) 79 [.ref 34, .int i, .int x] S P := by
  refine ⟨30, ?_⟩
  refine ⟨fun c1 => ?_, fun c1 => ⟨fun c2 => ?_, fun c2 => ⟨rIn_vp (by decide) (rIn_of c1 c2), ?_⟩⟩⟩
  · rw [sR_out (rIn_no1 c1)] at h; exact h
  · rw [sR_out (rIn_no2 c2)] at h; exact h
  · rw [sR_in (rIn_of c1 c2)] at h; exact h
theorem x_at_35 {i : Int32} (h : P (some (.int (rAt 425 (S.2.1 35) i))) S) : mv_big layX sysX (d + 1) 77 [.ref 35, .int i] S P := by
  refine ⟨30, ?_⟩
  refine ⟨fun c1 => ?_, fun c1 => ⟨fun c2 => ?_, fun c2 => ⟨rIn_vp (by decide) (rIn_of c1 c2), ?_⟩⟩⟩
  · rw [rAt_out (rIn_no1 c1)] at h; exact h
  · rw [rAt_out (rIn_no2 c2)] at h; exact h
  · rw [rAt_in (rIn_of c1 c2)] at h; exact h
theorem x_set_35 {i x : Int32} (h : P none (sR S 35 425 i x)) : mv_big layX sysX (d + 1) 79 [.ref 35, .int i, .int x] S P := by
  refine ⟨30, ?_⟩
  refine ⟨fun c1 => ?_, fun c1 => ⟨fun c2 => ?_, fun c2 => ⟨rIn_vp (by decide) (rIn_of c1 c2), ?_⟩⟩⟩
  · rw [sR_out (rIn_no1 c1)] at h; exact h
  · rw [sR_out (rIn_no2 c2)] at h; exact h
  · rw [sR_in (rIn_of c1 c2)] at h; exact h
theorem x_at_36 {i : Int32} (h : P (some (.int (rAt 425 (S.2.1 36) i))) S) : mv_big layX sysX (d + 1) 77 [.ref 36, .int i] S P := by
  refine ⟨30, ?_⟩
  refine ⟨fun c1 => ?_, fun c1 => ⟨fun c2 => ?_, fun c2 => ⟨rIn_vp (by decide) (rIn_of c1 c2), ?_⟩⟩⟩
  · rw [rAt_out (rIn_no1 c1)] at h; exact h
  · rw [rAt_out (rIn_no2 c2)] at h; exact h
  · rw [rAt_in (rIn_of c1 c2)] at h; exact h
theorem x_set_36 {i x : Int32} (h : P none (sR S 36 425 i x)) : mv_big layX sysX (d + 1) 79 [.ref 36, .int i, .int x] S P := by
  refine ⟨30, ?_⟩
  refine ⟨fun c1 => ?_, fun c1 => ⟨fun c2 => ?_, fun c2 => ⟨rIn_vp (by decide) (rIn_of c1 c2), ?_⟩⟩⟩
  · rw [sR_out (rIn_no1 c1)] at h; exact h
  · rw [sR_out (rIn_no2 c2)] at h; exact h
  · rw [sR_in (rIn_of c1 c2)] at h; exact h
theorem x_at_27 {i : Int32} (h : P (some (.long (rLt 425 (S.2.2 27) i))) S) : mv_big layX sysX (d + 1) 78 [.ref 27, .int i] S P := by
  refine ⟨30, ?_⟩
  refine ⟨fun c1 => ?_, fun c1 => ⟨fun c2 => ?_, fun c2 => ⟨rIn_vp (by decide) (rIn_of c1 c2), ?_⟩⟩⟩
  · rw [rLt_out (rIn_no1 c1)] at h; exact h
  · rw [rLt_out (rIn_no2 c2)] at h; exact h
  · rw [rLt_in (rIn_of c1 c2)] at h; exact h
theorem x_set_27 {i : Int32} {x : Int64} (h : P none (sL S 27 425 i x)) : mv_big layX sysX (d + 1) 80 [.ref 27, .int i, .long x] S P := by
  refine ⟨30, ?_⟩
  refine ⟨fun c1 => ?_, fun c1 => ⟨fun c2 => ?_, fun c2 => ⟨rIn_vp (by decide) (rIn_of c1 c2), ?_⟩⟩⟩
  · rw [sL_out (rIn_no1 c1)] at h; exact h
  · rw [sL_out (rIn_no2 c2)] at h; exact h
  · rw [sL_in (rIn_of c1 c2)] at h; exact h
theorem x_size (h : P (some (.int (S.1 1 9))) S) : mv_big layX sysX (d + 1) 53 [.ref 1] S P := ⟨10, h⟩
theorem x_ready (hz : S.1 1 11 = 0 ∨ S.1 1 11 = 1) (h : P (some (.int (S.1 1 11))) S) : mv_big layX sysX (d + 1) 54 [.ref 1] S P := ⟨10, hz, h⟩
theorem x_faultPlace (h : P (some (.int (S.1 1 12))) S) : mv_big layX sysX (d + 1) 55 [.ref 1] S P := ⟨10, h⟩
theorem x_mainWord (h : P (some (.int (S.1 1 7))) S) : mv_big layX sysX (d + 1) 68 [.ref 1] S P := ⟨10, h⟩
theorem x_mainToken (h : P (some (.int (S.1 1 8))) S) : mv_big layX sysX (d + 1) 69 [.ref 1] S P := ⟨10, h⟩
theorem x_emitted (h : P (some (.int (S.1 1 10))) S) : mv_big layX sysX (d + 1) 74 [.ref 1] S P := ⟨10, h⟩
theorem x_there (hz : S.1 6 2 = 0 ∨ S.1 6 2 = 1) (h : P (some (.int (S.1 6 2))) S) : mv_big layX sysX (d + 1) 84 [.ref 6] S P := ⟨10, hz, h⟩
theorem x_nextWord (h : P (some (.int (S.1 6 3))) S) : mv_big layX sysX (d + 1) 85 [.ref 6] S P := ⟨10, h⟩
theorem x_end (h : P (some (.int (S.1 6 4))) S) : mv_big layX sysX (d + 1) 86 [.ref 6] S P := ⟨10, h⟩
theorem x_steps (h : P (some (.int (S.1 4 15))) S) : mv_big layX sysX (d + 1) 95 [.ref 4] S P := ⟨10, h⟩
theorem x_calls (h : P (some (.int (S.1 4 13))) S) : mv_big layX sysX (d + 1) 97 [.ref 4] S P := ⟨10, h⟩
theorem x_mostMade (h : P (some (.int (S.1 4 16))) S) : mv_big layX sysX (d + 1) 98 [.ref 4] S P := ⟨10, h⟩
theorem x_toldCount (h : P (some (.int (S.1 4 14))) S) : mv_big layX sysX (d + 1) 99 [.ref 4] S P := ⟨10, h⟩
theorem x_over (hz : S.1 3 15 = 0 ∨ S.1 3 15 = 1) (h : P (some (.int (S.1 3 15))) S) : mv_big layX sysX (d + 1) 12 [.ref 3] S P := ⟨10, hz, h⟩
theorem x_made (h : P (some (.int (S.1 3 14))) S) : mv_big layX sysX (d + 1) 13 [.ref 3] S P := ⟨10, h⟩
theorem x_reached (h : P (some (.int (S.1 3 11))) S) : mv_big layX sysX (d + 1) 18 [.ref 3] S P := ⟨10, h⟩
theorem x_drop (h : P none (mv_pf S 6 2 0)) : mv_big layX sysX (d + 1) 83 [.ref 6] S P := ⟨10, Or.inl rfl, h⟩
theorem x_furnish {a b : Int32} (h : P none (mv_pf (mv_pf S 3 12 a) 3 13 b)) : mv_big layX sysX (d + 1) 0 [.ref 3, .int a, .int b] S P := ⟨20, h⟩
theorem x_accept (h : P none (mv_pf S 1 11 1)) : mv_big layX sysX (d + 1) 51 [.ref 1] S P := ⟨20, Or.inr rfl, h⟩
theorem x_refuse {a : Int32} (h : P none (mv_pf S 1 12 a)) : mv_big layX sysX (d + 1) 52 [.ref 1, .int a] S P := ⟨20, h⟩
theorem x_addStep (h : P none (mv_pf S 4 15 (S.1 4 15 + 1))) : mv_big layX sysX (d + 1) 96 [.ref 4] S P := ⟨20, h⟩
theorem x_undo (h : P none (mv_pf S 3 8 (S.1 3 9))) : mv_big layX sysX (d + 1) 16 [.ref 3] S P := ⟨20, h⟩
theorem x_beginReaching (h : P none (mv_pf (mv_pf S 3 10 (S.1 3 10 + 1)) 3 11 0)) : mv_big layX sysX (d + 1) 17 [.ref 3] S P := ⟨20, h⟩
end LX
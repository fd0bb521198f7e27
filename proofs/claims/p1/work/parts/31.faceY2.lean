section LY
variable {d : Nat} {S : mv_S} {P : Option Value → mv_S → Prop}
/-- what init leaves -/
def yIN (S : mv_S) (a b : Int32) : mv_S := mv_pf (mv_pf (mv_pf (mv_pf (yCL (mv_pf (mv_pf (mv_pf (mv_pf (mv_pf (mv_pf S 0 35 a) 0 36 b) 0 1 0) 0 4 (-1)) 0 5 0) 0 7 0) 0) 0 52 0) 0 33 0) 0 54 0) 0 53 6
theorem y_init {a b : Int32} (h1 : ¬ (1 ≤ b ∧ b ≤ 400) → P (some (.int (-2))) S) (h2 : 1 ≤ b → b ≤ 400 → P (some (.int 0)) (yIN S a b)) : mv_big layY sysY (d + 3) 1 [.ref 0, .int a, .int b] S P := by
  refine ⟨80, ?_⟩
  refine y_in (fun c => ?_) (fun c => ?_)
  · exact ⟨fun z => absurd rfl z, fun _ => h1 c⟩
  · refine ⟨fun _ => ?_, fun z => absurd (show (1 : Int32) = 0 from z) (by decide)⟩
    refine ⟨Or.inl rfl, ?_⟩
    refine y_clear ?_
    exact ⟨Or.inl rfl, h2 c.1 c.2⟩
/-- what a token more leaves -/
def yFD (S : mv_S) (k : Nat) (x : Int32) : mv_S := mv_pf (mv_pf (mv_pf (mv_pf (mv_pf (mv_pr S 1 k x) 0 1 (S.1 0 1 + 1)) 0 5 0) 0 54 0) 0 53 6) 0 4 (-1)
theorem y_feed {x : Int32} {k : Nat} (hk : S.1 0 1 = nI k) (hk2 : k ≤ 700) (h1 : k = 700 → P (some (.int (-3))) S) (h2 : k < 700 → P (some (.int (S.1 0 1 + 1))) (yFD S k x)) : mv_big layY sysY (d + 1) 2 [.ref 0, .int x] S P := by
  refine ⟨80, ?_⟩
  refine ⟨fun c => ?_, fun c => ?_⟩
  · have hlt : k < 700 := by
      rcases Nat.lt_or_ge k 700 with q | q
      · exact q
      · exact absurd (show S.1 0 1 = 700 by rw [hk, show k = 700 by omega]; rfl) c
    refine ⟨?_, Or.inl rfl, Or.inl rfl, ?_⟩
    · show vp_in (S.1 0 1) 700
      rw [hk]; exact vp_in_nI hlt (by decide)
    · have h3 := h2 hlt
      have e : (S.1 0 1).toNatClampNeg = k := by rw [hk]; exact nI_clamp (by omega)
      unfold yFD at h3
      rw [← e] at h3
      exact h3
  · have c : S.1 0 1 = 700 := c
    refine h1 ?_
    rw [hk] at c
    exact (nI_eq (by omega) (by decide)).mp (show nI k = nI 700 from c)
theorem y_place (h : P (some (.int (S.1 0 4))) S) : mv_big layY sysY (d + 1) 26 [.ref 0] S P := ⟨20, h⟩
theorem y_code0 {i : Int32} (h0 : S.1 0 5 = 0) (h : P (some (.int (-1))) S) : mv_big layY sysY (d + 1) 27 [.ref 0, .int i] S P := by
  refine ⟨40, ?_⟩
  exact ⟨fun _ => h, fun z => absurd h0 z⟩
theorem y_start0 {a : Int32} (h0 : S.1 0 5 = 0) (h : P (some (.int 6)) S) : mv_big layY sysY (d + 1) 46 [.ref 0, .int a] S P := by
  refine ⟨40, ?_⟩
  exact ⟨fun z => absurd h0 z, fun _ => h⟩
theorem y_run0 {n : Int32} (h0 : S.1 0 54 = 0) (h1 : ¬ (1 ≤ n ∧ n ≤ 5000) → P (some (.int (-2))) S) (h2 : 1 ≤ n ∧ n ≤ 5000 → P (some (.int 6)) S) : mv_big layY sysY (d + 2) 47 [.ref 0, .int n] S P := by
  refine ⟨40, ?_⟩
  refine y_in (fun c => ?_) (fun c => ?_)
  · exact ⟨fun z => absurd rfl z, fun _ => h1 c⟩
  · refine ⟨fun _ => ?_, fun z => absurd (show (1 : Int32) = 0 from z) (by decide)⟩
    exact ⟨fun z => absurd h0 z, fun _ => h2 c⟩
theorem y_interpret0 {a n : Int32} (h0 : S.1 0 5 = 0) (h1 : ¬ (1 ≤ n ∧ n ≤ 5000) → P (some (.int (-2))) S) (h2 : 1 ≤ n ∧ n ≤ 5000 → P (some (.int 6)) S) : mv_big layY sysY (d + 2) 48 [.ref 0, .int a, .int n] S P := by
  refine ⟨40, ?_⟩
  refine y_in (fun c => ?_) (fun c => ?_)
  · exact ⟨fun z => absurd rfl z, fun _ => h1 c⟩
  · refine ⟨fun _ => ?_, fun z => absurd (show (1 : Int32) = 0 from z) (by decide)⟩
    exact ⟨fun z => absurd h0 z, fun _ => h2 c⟩
theorem y_outSize (h : P (some (.int (S.1 0 50))) S) : mv_big layY sysY (d + 1) 69 [.ref 0] S P := ⟨20, h⟩
theorem y_out {i : Int32} {k : Nat} (hk : S.1 0 50 = nI k) (hk2 : k ≤ 300) (h1 : ¬ (∃ j, j < k ∧ i = nI j) → P (some (.int 0)) S) (h2 : ∀ j, j < k → i = nI j → P (some (.int (S.2.1 29 j))) S) : mv_big layY sysY (d + 2) 70 [.ref 0, .int i] S P := by
  have hcmp : (0 ≤ i ∧ i ≤ S.1 0 50 - 1) ↔ ∃ j, j < k ∧ i = nI j := by
    rw [hk]
    constructor
    · rintro ⟨a, b⟩
      have b' : i < nI k := by
        rw [Int32.le_iff_toInt_le, show (1 : Int32) = nI 1 from rfl, pk_sub_toInt (by omega) (by omega)] at b
        rw [Int32.lt_iff_toInt_lt, nI_toInt (by omega)]
        omega
      obtain ⟨j, hj, rfl⟩ := vp_in_of (rIn_vp (n := k) (by omega) ⟨a, b'⟩) (by omega)
      exact ⟨j, hj, rfl⟩
    · rintro ⟨j, hj, rfl⟩
      refine ⟨nI_pos' (by omega), ?_⟩
      rw [Int32.le_iff_toInt_le, show (1 : Int32) = nI 1 from rfl, pk_sub_toInt (by omega) (by omega), nI_toInt (by omega)]
      omega
  refine ⟨40, ?_⟩
  refine y_in (fun c => ?_) (fun c => ?_)
  · exact ⟨fun _ => h1 (fun q => c (hcmp.mpr q)), fun z => absurd rfl z⟩
  · refine ⟨fun z => absurd (show (1 : Int32) = 0 from z) (by decide), fun _ => ?_⟩
    obtain ⟨j, hj, rfl⟩ := hcmp.mp c
    refine ⟨vp_in_nI (by omega) (by omega), ?_⟩
    have h3 : P (some (.int (S.2.1 29 (nI j).toNatClampNeg))) S := by rw [nI_clamp (by omega)]; exact h2 j hj rfl
    exact h3
theorem y_variable {v : Int32} (h1 : ¬ (0 ≤ v ∧ v < 8) → P (some (.int 0)) S) (h2 : 0 ≤ v ∧ v < 8 → P (some (.int (S.2.1 19 v.toNatClampNeg))) S) : mv_big layY sysY (d + 2) 71 [.ref 0, .int v] S P := by
  have hcmp : (0 ≤ v ∧ v ≤ 7) ↔ (0 ≤ v ∧ v < 8) := by
    constructor
    · rintro ⟨a, b⟩
      refine ⟨a, ?_⟩
      rw [Int32.le_iff_toInt_le] at b
      rw [Int32.lt_iff_toInt_lt]
      have e1 : (7 : Int32).toInt = 7 := by decide
      have e2 : (8 : Int32).toInt = 8 := by decide
      omega
    · rintro ⟨a, b⟩
      refine ⟨a, ?_⟩
      rw [Int32.lt_iff_toInt_lt] at b
      rw [Int32.le_iff_toInt_le]
      have e1 : (7 : Int32).toInt = 7 := by decide
      have e2 : (8 : Int32).toInt = 8 := by decide
      omega
  refine ⟨40, ?_⟩
  refine y_in (fun c => ?_) (fun c => ?_)
  · exact ⟨fun _ => h1 (fun q => c (hcmp.mpr q)), fun z => absurd rfl z⟩
  · refine ⟨fun z => absurd (show (1 : Int32) = 0 from z) (by decide), fun _ => ?_⟩
    have c := hcmp.mp c
    exact ⟨rIn_vp (by decide) c, h2 c⟩
theorem y_token {k a : Nat} (ha : S.1 0 2 = nI a) (hk : S.1 0 1 = nI k) (hk2 : k ≤ 700) (ha2 : a < 2 ^ 31) (h : P (some (.int (if a < k then S.2.1 1 a else -1))) S) : mv_big layY sysY (d + 1) 3 [.ref 0] S P := by
  refine ⟨40, ?_⟩
  refine ⟨fun c => ?_, fun c => ?_⟩
  · have c : S.1 0 1 ≤ S.1 0 2 := c
    rw [ha, hk, nI_leI (by omega) (by omega)] at c
    rw [if_neg (by omega)] at h; exact h
  · have c : ¬ S.1 0 1 ≤ S.1 0 2 := c
    rw [ha, hk, nI_leI (by omega) (by omega)] at c
    rw [if_pos (by omega)] at h
    refine ⟨?_, ?_⟩
    · show vp_in (S.1 0 2) 700
      rw [ha]; exact vp_in_nI (by omega) (by omega)
    · have e : (S.1 0 2).toNatClampNeg = a := by rw [ha]; exact nI_clamp ha2
      rw [← e] at h; exact h
theorem y_wrong {w : Int32} (h1 : S.1 0 3 = 0 → P none (mv_pf (mv_pf S 0 3 w) 0 4 (S.1 0 2))) (h2 : ¬ S.1 0 3 = 0 → P none S) : mv_big layY sysY (d + 1) 4 [.ref 0, .int w] S P := by
  refine ⟨40, ?_⟩
  exact ⟨fun c => h2 c, fun c => h1 c⟩
end LY

def xNthN : Nat → mv_S → Int32 → Int32 → Int32
  | 0, _, _, c => c
  | n + 1, S, t, c => if c = 0 then c else xNthN n S t (xLeastN 803 S 0 t ((xC S 15 c).toInt64 + 1))
/-- the n-th cell of a tree -/
def xNth (S : mv_S) (t n : Int32) : Int32 := if n < 0 then 0 else if 800 ≤ n then 0 else xNthN n.toNatClampNeg S t (xLeastN 803 S 0 t (-2147483648))
section LX
variable {d : Nat} {S : mv_S} {P : Option Value → mv_S → Prop}
theorem x_nth {t m : Int32} (h : P (some (.int (xNth S t m))) S) : mv_big layX sysX (d + 3) 25 [.ref 3, .int t, .int m] S P := by
  unfold xNth at h
  by_cases hm : m < 0
  · rw [if_pos hm] at h
    refine ⟨60, ?_⟩
    exact ⟨fun _ => h, fun z => absurd hm z⟩
  · rw [if_neg hm] at h
    by_cases h8 : 800 ≤ m
    · rw [if_pos h8] at h
      refine ⟨60, ?_⟩
      exact ⟨fun z => absurd (show m < 0 from z) hm, fun _ => ⟨fun z => absurd (show m < 800 from z) (Int32.not_lt.mpr h8), fun _ => h⟩⟩
    rw [if_neg h8] at h
    obtain ⟨N, hN, rfl⟩ := nI_of hm
    rw [nI_clamp hN] at h
    obtain ⟨c0, hc0⟩ : ∃ c0, c0 = xLeastN 803 S 0 t (-2147483648) := ⟨_, rfl⟩
    rw [← hc0] at h
    have kk := mv_loop (T := tT0) (nL := 5) (z := some .int) (il := mX0_nth.2.2.2.2.2.2.2) (lay := layX) (sys := sysX) (d := d + 2) (P := P) (pc := 25) 60 (fun k lv st S' => ∃ (i : Nat) (c : Int32), i + k = N ∧ lv = [(4, .int (nI i)), (3, .int c), (0, .ref 3), (1, .int t), (2, .int (nI N))] ∧ st = [] ∧ S' = S ∧ xNthN k S t c = xNthN N S t c0) (by
        rintro n lv st S' ⟨i, c, hk, rfl, rfl, rfl, hr⟩
        obtain rfl : i = N := hk
        rw [← hr] at h
        exact ⟨fun _ => h, fun z => absurd (show nI i ≤ nI i from Int32.le_refl _) z⟩) (by
        rintro k n lv st S' ⟨i, c, hk, rfl, rfl, rfl, hr⟩ ih
        rw [xNthN] at hr
        refine ⟨fun z => absurd ((nI_leI (by omega) (by omega)).mp (show nI N ≤ nI i from z)) (by omega), fun _ => ⟨fun a => ?_, fun a => ?_⟩⟩
        · have a : c = 0 := a
          rw [if_pos a] at hr
          rw [← hr] at h; exact h
        · have a : ¬ c = 0 := a
          rw [if_neg a] at hr
          refine x_key ?_
          refine x_least ?_
          exact ws_istore_n rfl rfl rfl rfl (ws_iinc (y := nI (i + 1)) rfl rfl rfl (nI_succ i).symm rfl rfl (ws_goto (t := 25) rfl (by decide) (ih _ [(4, .int (nI (i + 1))), (3, .int _), (0, .ref 3), (1, .int t), (2, .int (nI N))] [] S' (by omega) ⟨i + 1, _, by omega, rfl, rfl, rfl, hr⟩))))
    refine ⟨60 * (N + 1) + 20, ?_⟩
    refine ws_iload_n rfl rfl rfl (ws_i rfl ⟨fun z => absurd (show nI N < 0 from z) hm, fun _ => ws_iload_n rfl rfl rfl (ws_sipush (x := 800) rfl (by decide) rfl (ws_i rfl ⟨fun _ => ?_, fun z => absurd (Int32.not_le.mp h8) z⟩))⟩)
    subst hc0
    refine x_least ?_
    exact ws_istore_n rfl rfl rfl rfl (ws_iconst (x := nI 0) rfl rfl rfl (ws_istore rfl rfl rfl rfl (kk N _ [(4, .int (nI 0)), (3, .int (xLeastN 803 S 0 t (-2147483648))), (0, .ref 3), (1, .int t), (2, .int (nI N))] [] S (by omega) ⟨0, _, by omega, rfl, rfl, rfl, rfl⟩)))
end LX

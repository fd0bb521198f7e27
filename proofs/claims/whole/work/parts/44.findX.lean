/-! THE CLASS'S CELLS: ways down a tree -/
def xFindN : Nat → mv_S → Int32 → Int32 → Int32
  | 0, _, c, _ => c
  | n + 1, S, c, k => if c = 0 ∨ xC S 15 c = k then c else xFindN n S (if k < xC S 15 c then xC S 18 c else xC S 19 c) k
section LX
variable {d : Nat} {S : mv_S} {P : Option Value → mv_S → Prop}
theorem x_find {t key : Int32} (h : P (some (.int (xFindN 803 S t key))) S) : mv_big layX sysX (d + 2) 22 [.ref 3, .int t, .int key] S P := by
  have kk := mv_loop (T := tT0) (nL := 5) (z := some .int) (il := mX0_find.2.2.2.2.2.2.2) (lay := layX) (sys := sysX) (d := d + 1) (P := P) (pc := 5) 60 (fun k lv st S' => ∃ (i : Nat) (c : Int32), i + k = 803 ∧ lv = [(4, .int (nI i)), (3, .int c), (0, .ref 3), (1, .int t), (2, .int key)] ∧ st = [] ∧ S' = S ∧ xFindN k S c key = xFindN 803 S t key) (by
      rintro n lv st S' ⟨i, c, hk, rfl, rfl, rfl, hr⟩
      obtain rfl : i = 803 := hk
      rw [← hr] at h
      exact ⟨fun _ => h, fun z => absurd (show nI 803 ≤ nI 803 by decide) z⟩) (by
      rintro k n lv st S' ⟨i, c, hk, rfl, rfl, rfl, hr⟩ ih
      rw [xFindN] at hr
      refine ⟨fun z => absurd ((nI_leI (by omega) (by omega)).mp (show nI 803 ≤ nI i from z)) (by omega), fun _ => ⟨fun a => ?_, fun a => ?_⟩⟩
      · have a : c = 0 := a
        rw [if_pos (Or.inl a)] at hr
        rw [← hr] at h; exact h
      · have a : ¬ c = 0 := a
        refine x_key ⟨fun b => ?_, fun b => ?_⟩
        · have b : xC S' 15 c = key := b
          rw [if_pos (Or.inr b)] at hr
          rw [← hr] at h; exact h
        · have b : ¬ xC S' 15 c = key := b
          rw [if_neg (fun q => q.elim a b)] at hr
          refine x_key ⟨fun e => ?_, fun e => ?_⟩
          · have e : xC S' 15 c ≤ key := e
            rw [if_neg (Int32.not_lt.mpr e)] at hr
            refine x_greater ?_
            exact ws_istore_n rfl rfl rfl rfl (ws_iinc (y := nI (i + 1)) rfl rfl rfl (nI_succ i).symm rfl rfl (ws_goto (t := 5) rfl (by decide) (ih _ [(4, .int (nI (i + 1))), (3, .int (xC S' 19 c)), (0, .ref 3), (1, .int t), (2, .int key)] [] S' (by omega) ⟨i + 1, _, by omega, rfl, rfl, rfl, hr⟩)))
          · have e : ¬ xC S' 15 c ≤ key := e
            rw [if_pos (Int32.not_le.mp e)] at hr
            refine x_lesser ?_
            exact ws_goto (t := 48) rfl (by decide) (ws_istore_n rfl rfl rfl rfl (ws_iinc (y := nI (i + 1)) rfl rfl rfl (nI_succ i).symm rfl rfl (ws_goto (t := 5) rfl (by decide) (ih _ [(4, .int (nI (i + 1))), (3, .int (xC S' 18 c)), (0, .ref 3), (1, .int t), (2, .int key)] [] S' (by omega) ⟨i + 1, _, by omega, rfl, rfl, rfl, hr⟩)))))
  refine ⟨48244, ?_⟩
  refine ws_iload_n rfl rfl rfl (ws_istore_n rfl rfl rfl rfl (ws_iconst (x := nI 0) rfl rfl rfl (ws_istore rfl rfl rfl rfl ?_)))
  exact kk 803 48240 [(4, .int (nI 0)), (3, .int t), (0, .ref 3), (1, .int t), (2, .int key)] [] S (by omega) ⟨0, t, rfl, rfl, rfl, rfl, rfl⟩
end LX

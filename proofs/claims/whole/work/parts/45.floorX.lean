def xFloorN : Nat → mv_S → Int32 → Int32 → Int32 → Int32
  | 0, _, b, _, _ => b
  | n + 1, S, b, c, k => if c = 0 then b else if xC S 15 c ≤ k then xFloorN n S c (xC S 19 c) k else xFloorN n S b (xC S 18 c) k
def xLeastN : Nat → mv_S → Int32 → Int32 → Int64 → Int32
  | 0, _, b, _, _ => b
  | n + 1, S, b, c, k => if c = 0 then b else if lg_cmp (xC S 15 c).toInt64 k < 0 then xLeastN n S b (xC S 19 c) k else xLeastN n S c (xC S 18 c) k
section LX
variable {d : Nat} {S : mv_S} {P : Option Value → mv_S → Prop}
theorem x_floor {t key : Int32} (h : P (some (.int (xFloorN 803 S 0 t key))) S) : mv_big layX sysX (d + 2) 24 [.ref 3, .int t, .int key] S P := by
  have kk := mv_loop (T := tT0) (nL := 6) (z := some .int) (il := mX0_floor.2.2.2.2.2.2.2) (lay := layX) (sys := sysX) (d := d + 1) (P := P) (pc := 8) 60 (fun k lv st S' => ∃ (i : Nat) (c b : Int32), i + k = 803 ∧ lv = [(5, .int (nI i)), (4, .int c), (3, .int b), (0, .ref 3), (1, .int t), (2, .int key)] ∧ st = [] ∧ S' = S ∧ xFloorN k S b c key = xFloorN 803 S 0 t key) (by
      rintro n lv st S' ⟨i, c, b, hk, rfl, rfl, rfl, hr⟩
      obtain rfl : i = 803 := hk
      rw [← hr] at h
      exact ⟨fun _ => h, fun z => absurd (show nI 803 ≤ nI 803 by decide) z⟩) (by
      rintro k n lv st S' ⟨i, c, b, hk, rfl, rfl, rfl, hr⟩ ih
      rw [xFloorN] at hr
      refine ⟨fun z => absurd ((nI_leI (by omega) (by omega)).mp (show nI 803 ≤ nI i from z)) (by omega), fun _ => ⟨fun a => ?_, fun a => ?_⟩⟩
      · have a : c = 0 := a
        rw [if_pos a] at hr
        rw [← hr] at h; exact h
      · have a : ¬ c = 0 := a
        rw [if_neg a] at hr
        refine x_key ⟨fun e => ?_, fun e => ?_⟩
        · have e : key < xC S' 15 c := e
          rw [if_neg (Int32.not_le.mpr e)] at hr
          refine x_lesser ?_
          exact ws_istore rfl rfl rfl rfl (ws_iinc (y := nI (i + 1)) rfl rfl rfl (nI_succ i).symm rfl rfl (ws_goto (t := 8) rfl (by decide) (ih _ [(5, .int (nI (i + 1))), (4, .int (xC S' 18 c)), (3, .int b), (0, .ref 3), (1, .int t), (2, .int key)] [] S' (by omega) ⟨i + 1, _, _, by omega, rfl, rfl, rfl, hr⟩)))
        · have e : ¬ key < xC S' 15 c := e
          rw [if_pos (Int32.not_lt.mp e)] at hr
          refine x_greater ?_
          exact ws_istore rfl rfl rfl rfl (ws_goto (t := 53) rfl (by decide) (ws_iinc (y := nI (i + 1)) rfl rfl rfl (nI_succ i).symm rfl rfl (ws_goto (t := 8) rfl (by decide) (ih _ [(5, .int (nI (i + 1))), (4, .int (xC S' 19 c)), (3, .int c), (0, .ref 3), (1, .int t), (2, .int key)] [] S' (by omega) ⟨i + 1, _, _, by omega, rfl, rfl, rfl, hr⟩)))))
  refine ⟨48246, ?_⟩
  refine ws_iconst (x := 0) rfl rfl rfl (ws_istore_n rfl rfl rfl rfl (ws_iload_n rfl rfl rfl (ws_istore rfl rfl rfl rfl (ws_iconst (x := nI 0) rfl rfl rfl (ws_istore rfl rfl rfl rfl ?_)))))
  exact kk 803 48240 [(5, .int (nI 0)), (4, .int t), (3, .int 0), (0, .ref 3), (1, .int t), (2, .int key)] [] S (by omega) ⟨0, t, 0, rfl, rfl, rfl, rfl, rfl⟩
theorem x_least {t : Int32} {key : Int64} (h : P (some (.int (xLeastN 803 S 0 t key))) S) : mv_big layX sysX (d + 2) 23 [.ref 3, .int t, .long key] S P := by
  have kk := mv_loop (T := tT0) (nL := 7) (z := some .int) (il := mX0_least.2.2.2.2.2.2.2) (lay := layX) (sys := sysX) (d := d + 1) (P := P) (pc := 9) 60 (fun k lv st S' => ∃ (i : Nat) (c b : Int32), i + k = 803 ∧ lv = [(6, .int (nI i)), (5, .int c), (4, .int b), (0, .ref 3), (1, .int t), (2, .long key)] ∧ st = [] ∧ S' = S ∧ xLeastN k S b c key = xLeastN 803 S 0 t key) (by
      rintro n lv st S' ⟨i, c, b, hk, rfl, rfl, rfl, hr⟩
      obtain rfl : i = 803 := hk
      rw [← hr] at h
      exact ⟨fun _ => h, fun z => absurd (show nI 803 ≤ nI 803 by decide) z⟩) (by
      rintro k n lv st S' ⟨i, c, b, hk, rfl, rfl, rfl, hr⟩ ih
      rw [xLeastN] at hr
      refine ⟨fun z => absurd ((nI_leI (by omega) (by omega)).mp (show nI 803 ≤ nI i from z)) (by omega), fun _ => ⟨fun a => ?_, fun a => ?_⟩⟩
      · have a : c = 0 := a
        rw [if_pos a] at hr
        rw [← hr] at h; exact h
      · have a : ¬ c = 0 := a
        rw [if_neg a] at hr
        refine x_key ⟨fun e => ?_, fun e => ?_⟩
        · have e : lg_cmp (xC S' 15 c).toInt64 key < 0 := e
          rw [if_pos e] at hr
          refine x_greater ?_
          exact ws_istore rfl rfl rfl rfl (ws_iinc (y := nI (i + 1)) rfl rfl rfl (nI_succ i).symm rfl rfl (ws_goto (t := 9) rfl (by decide) (ih _ [(6, .int (nI (i + 1))), (5, .int (xC S' 19 c)), (4, .int b), (0, .ref 3), (1, .int t), (2, .long key)] [] S' (by omega) ⟨i + 1, _, _, by omega, rfl, rfl, rfl, hr⟩)))
        · have e : ¬ lg_cmp (xC S' 15 c).toInt64 key < 0 := e
          rw [if_neg e] at hr
          refine x_lesser ?_
          exact ws_istore rfl rfl rfl rfl (ws_goto (t := 57) rfl (by decide) (ws_iinc (y := nI (i + 1)) rfl rfl rfl (nI_succ i).symm rfl rfl (ws_goto (t := 9) rfl (by decide) (ih _ [(6, .int (nI (i + 1))), (5, .int (xC S' 18 c)), (4, .int c), (0, .ref 3), (1, .int t), (2, .long key)] [] S' (by omega) ⟨i + 1, _, _, by omega, rfl, rfl, rfl, hr⟩)))))
  refine ⟨48246, ?_⟩
  refine ws_iconst (x := 0) rfl rfl rfl (ws_istore rfl rfl rfl rfl (ws_iload_n rfl rfl rfl (ws_istore rfl rfl rfl rfl (ws_iconst (x := nI 0) rfl rfl rfl (ws_istore rfl rfl rfl rfl ?_)))))
  exact kk 803 48240 [(6, .int (nI 0)), (5, .int t), (4, .int 0), (0, .ref 3), (1, .int t), (2, .long key)] [] S (by omega) ⟨0, t, 0, rfl, rfl, rfl, rfl, rfl⟩
end LX

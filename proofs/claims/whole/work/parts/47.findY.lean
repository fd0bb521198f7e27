/-! THE REFERENCE'S CELLS: a way down a tree that ends -/
def yFindN : Nat → mv_S → Int32 → Int32 → Option Int32
  | 0, _, _, _ => none
  | n + 1, S, c, k => if c ≤ 0 then some c else if 900 ≤ c then none else if S.2.1 13 c.toNatClampNeg = k then some c else yFindN n S (if k < S.2.1 13 c.toNatClampNeg then S.2.1 15 c.toNatClampNeg else S.2.1 16 c.toNatClampNeg) k
section LY
variable {d : Nat} {S : mv_S} {P : Option Value → mv_S → Prop}
theorem y_find {t key r : Int32} {N : Nat} (hN : yFindN N S t key = some r) (h : P (some (.int r)) S) : mv_big layY sysY (d + 1) 37 [.ref 0, .int t, .int key] S P := by
  have kk := mv_loop (T := tT11) (nL := 4) (z := some .int) (il := mX11_find.2.2.2.2.2.2.2) (lay := layY) (sys := sysY) (d := d) (P := P) (pc := 2) 60 (fun k lv st S' => ∃ c : Int32, lv = [(3, .int c), (0, .ref 0), (1, .int t), (2, .int key)] ∧ st = [] ∧ S' = S ∧ yFindN k S c key = some r) (by
      rintro n lv st S' ⟨c, rfl, rfl, rfl, hr⟩
      cases hr) (by
      rintro k n lv st S' ⟨c, rfl, rfl, rfl, hr⟩ ih
      rw [yFindN] at hr
      refine ⟨fun a => ?_, fun a => ?_⟩
      · have a : c ≤ 0 := a
        rw [if_pos a] at hr
        cases hr; exact h
      · have a : ¬ c ≤ 0 := a
        rw [if_neg a] at hr
        by_cases b : (900 : Int32) ≤ c
        · rw [if_pos b] at hr; cases hr
        · rw [if_neg b] at hr
          have hv : vp_in c 900 := vp_pos (by decide) (Int32.not_le.mp a) (Int32.not_le.mp b)
          refine ⟨hv, fun e => ?_, fun e => ⟨hv, fun g => ⟨hv, ?_⟩, fun g => ⟨hv, ?_⟩⟩⟩
          · have e : S'.2.1 13 c.toNatClampNeg = key := e
            rw [if_pos e] at hr
            cases hr; exact h
          · have e : ¬ S'.2.1 13 c.toNatClampNeg = key := e
            have g : S'.2.1 13 c.toNatClampNeg ≤ key := g
            rw [if_neg e, if_neg (Int32.not_lt.mpr g)] at hr
            exact ws_istore_n rfl rfl rfl rfl (ws_goto (t := 2) rfl (by decide) (ih _ [(3, .int (S'.2.1 16 c.toNatClampNeg)), (0, .ref 0), (1, .int t), (2, .int key)] [] S' (by omega) ⟨_, rfl, rfl, rfl, hr⟩))
          · have e : ¬ S'.2.1 13 c.toNatClampNeg = key := e
            have g : ¬ S'.2.1 13 c.toNatClampNeg ≤ key := g
            rw [if_neg e, if_pos (Int32.not_le.mp g)] at hr
            exact ws_goto (t := 41) rfl (by decide) (ws_istore_n rfl rfl rfl rfl (ws_goto (t := 2) rfl (by decide) (ih _ [(3, .int (S'.2.1 15 c.toNatClampNeg)), (0, .ref 0), (1, .int t), (2, .int key)] [] S' (by omega) ⟨_, rfl, rfl, rfl, hr⟩))))
  refine ⟨60 * (N + 1) + 2, ?_⟩
  refine ws_iload_n rfl rfl rfl (ws_istore_n rfl rfl rfl rfl ?_)
  exact kk N _ [(3, .int t), (0, .ref 0), (1, .int t), (2, .int key)] [] S (by omega) ⟨t, rfl, rfl, rfl, hN⟩
end LY

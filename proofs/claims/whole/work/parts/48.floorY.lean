def yFloorN : Nat → mv_S → Int32 → Int32 → Int32 → Option Int32
  | 0, _, _, _, _ => none
  | n + 1, S, f, c, k => if c ≤ 0 then some f else if 900 ≤ c then none else if S.2.1 13 c.toNatClampNeg ≤ k then yFloorN n S c (S.2.1 16 c.toNatClampNeg) k else yFloorN n S f (S.2.1 15 c.toNatClampNeg) k
section LY
variable {d : Nat} {S : mv_S} {P : Option Value → mv_S → Prop}
theorem y_floor {t key r : Int32} {N : Nat} (hN : yFloorN N S 0 t key = some r) (h : P (some (.int r)) S) : mv_big layY sysY (d + 1) 43 [.ref 0, .int t, .int key] S P := by
  have one : ¬ (1 : Int32) = 0 := by decide
  have kk := mv_loop (T := tT11) (nL := 6) (z := some .int) (il := mX11_floor.2.2.2.2.2.2.2) (lay := layY) (sys := sysY) (d := d) (P := P) (pc := 5) 60 (fun k lv st S' => ∃ c f : Int32, (lv = [(4, .int f), (3, .int c), (0, .ref 0), (1, .int t), (2, .int key)] ∨ ∃ w : Int32, lv = [(3, .int c), (4, .int f), (5, .int w), (0, .ref 0), (1, .int t), (2, .int key)]) ∧ st = [] ∧ S' = S ∧ yFloorN k S f c key = some r) (by
      rintro n lv st S' ⟨c, f, -, rfl, rfl, hr⟩
      cases hr) (by
      rintro k n lv st S' ⟨c, f, hlv, rfl, rfl, hr⟩ ih
      rw [yFloorN] at hr
      have hv : ¬ c ≤ 0 → ¬ (900 : Int32) ≤ c → vp_in c 900 := fun a b => vp_pos (by decide) (Int32.not_le.mp a) (Int32.not_le.mp b)
      rcases hlv with rfl | ⟨w, rfl⟩
      all_goals
        refine ⟨fun a => ?_, fun a => ?_⟩
        · have a : c ≤ 0 := a
          rw [if_pos a] at hr
          cases hr; exact h
        · have a : ¬ c ≤ 0 := a
          rw [if_neg a] at hr
          by_cases b : (900 : Int32) ≤ c
          · rw [if_pos b] at hr; cases hr
          · rw [if_neg b] at hr
            have hv := hv a b
            refine ⟨hv, fun e => ⟨fun _ => ⟨fun _ => ⟨hv, ?_⟩, fun z => absurd rfl z⟩, fun z => absurd rfl z⟩, fun e => ⟨fun z => absurd z one, fun _ => ⟨fun z => absurd z one, fun _ => ⟨hv, ?_⟩⟩⟩⟩
            · have e : key < S'.2.1 13 c.toNatClampNeg := e
              rw [if_neg (Int32.not_le.mpr e)] at hr
              exact ws_istore_n rfl rfl rfl rfl (ws_goto (t := 5) rfl (by decide) (ih _ [(3, .int (S'.2.1 15 c.toNatClampNeg)), (4, .int f), (5, .int 0), (0, .ref 0), (1, .int t), (2, .int key)] [] S' (by omega) ⟨_, _, Or.inr ⟨_, rfl⟩, rfl, rfl, hr⟩))
            · have e : ¬ key < S'.2.1 13 c.toNatClampNeg := e
              rw [if_pos (Int32.not_lt.mp e)] at hr
              exact ws_goto (t := 59) rfl (by decide) (ws_istore_n rfl rfl rfl rfl (ws_goto (t := 5) rfl (by decide) (ih _ [(3, .int (S'.2.1 16 c.toNatClampNeg)), (4, .int c), (5, .int 1), (0, .ref 0), (1, .int t), (2, .int key)] [] S' (by omega) ⟨_, _, Or.inr ⟨_, rfl⟩, rfl, rfl, hr⟩))))
  refine ⟨60 * (N + 1) + 4, ?_⟩
  refine ws_iload_n rfl rfl rfl (ws_istore_n rfl rfl rfl rfl (ws_iconst (x := 0) rfl rfl rfl (ws_istore rfl rfl rfl rfl ?_)))
  exact kk N _ [(4, .int 0), (3, .int t), (0, .ref 0), (1, .int t), (2, .int key)] [] S (by omega) ⟨t, 0, Or.inl rfl, rfl, rfl, hN⟩
end LY

def yAboveN : Nat → mv_S → Int32 → Int32 → Int32 → Int32 → Option Int32
  | 0, _, _, _, _, _ => none
  | n + 1, S, f, c, k, al => if c ≤ 0 then some f else if 900 ≤ c then none else if ¬ al = 0 ∨ k < S.2.1 13 c.toNatClampNeg then yAboveN n S c (S.2.1 15 c.toNatClampNeg) k al else yAboveN n S f (S.2.1 16 c.toNatClampNeg) k al
section LY
variable {d : Nat} {S : mv_S} {P : Option Value → mv_S → Prop}
theorem y_above {t key al r : Int32} {N : Nat} (hN : yAboveN N S 0 t key al = some r) (h : P (some (.int r)) S) : mv_big layY sysY (d + 1) 42 [.ref 0, .int t, .int key, .int al] S P := by
  have one : ¬ (1 : Int32) = 0 := by decide
  have kk := mv_loop (T := tT11) (nL := 7) (z := some .int) (il := mX11_above.2.2.2.2.2.2.2) (lay := layY) (sys := sysY) (d := d) (P := P) (pc := 6) 60 (fun k lv st S' => ∃ c f : Int32, (lv = [(5, .int f), (4, .int c), (0, .ref 0), (1, .int t), (2, .int key), (3, .int al)] ∨ ∃ w : Int32, lv = [(4, .int c), (5, .int f), (6, .int w), (0, .ref 0), (1, .int t), (2, .int key), (3, .int al)]) ∧ st = [] ∧ S' = S ∧ yAboveN k S f c key al = some r) (by
      rintro n lv st S' ⟨c, f, -, rfl, rfl, hr⟩
      cases hr) (by
      rintro k n lv st S' ⟨c, f, hlv, rfl, rfl, hr⟩ ih
      rw [yAboveN] at hr
      have hv : ¬ c ≤ 0 → ¬ (900 : Int32) ≤ c → vp_in c 900 := fun a b => vp_pos (by decide) (Int32.not_le.mp a) (Int32.not_le.mp b)
      rcases hlv with rfl | ⟨w, rfl⟩
      all_goals
        refine ⟨fun a => ?_, fun a => ?_⟩
        · have a : c ≤ 0 := a
          rw [if_pos a] at hr
          cases hr; exact h
        · have a : ¬ c ≤ 0 := a
          rw [if_neg a] at hr
          by_cases b : (900 : Int32) ≤ c
          · rw [if_pos b] at hr; cases hr
          · rw [if_neg b] at hr
            have hv := hv a b
            refine ⟨fun e => ⟨fun z => absurd z one, fun _ => ⟨fun z => absurd z one, fun _ => ⟨hv, ?_⟩⟩⟩, fun e => ⟨hv, fun g => ⟨fun _ => ⟨fun _ => ⟨hv, ?_⟩, fun z => absurd rfl z⟩, fun z => absurd rfl z⟩, fun g => ⟨fun z => absurd z one, fun _ => ⟨fun z => absurd z one, fun _ => ⟨hv, ?_⟩⟩⟩⟩⟩
            · have e : ¬ al = 0 := e
              rw [if_pos (Or.inl e)] at hr
              exact ws_goto (t := 69) rfl (by decide) (ws_istore rfl rfl rfl rfl (ws_goto (t := 6) rfl (by decide) (ih _ [(4, .int (S'.2.1 15 c.toNatClampNeg)), (5, .int c), (6, .int 1), (0, .ref 0), (1, .int t), (2, .int key), (3, .int al)] [] S' (by omega) ⟨_, _, Or.inr ⟨_, rfl⟩, rfl, rfl, hr⟩)))
            · have e : al = 0 := e
              have g : S'.2.1 13 c.toNatClampNeg ≤ key := g
              rw [if_neg (fun q => q.elim (fun z => z e) (fun z => absurd z (Int32.not_lt.mpr g)))] at hr
              exact ws_istore rfl rfl rfl rfl (ws_goto (t := 6) rfl (by decide) (ih _ [(4, .int (S'.2.1 16 c.toNatClampNeg)), (5, .int f), (6, .int 0), (0, .ref 0), (1, .int t), (2, .int key), (3, .int al)] [] S' (by omega) ⟨_, _, Or.inr ⟨_, rfl⟩, rfl, rfl, hr⟩))
            · have g : ¬ S'.2.1 13 c.toNatClampNeg ≤ key := g
              rw [if_pos (Or.inr (Int32.not_le.mp g))] at hr
              exact ws_goto (t := 69) rfl (by decide) (ws_istore rfl rfl rfl rfl (ws_goto (t := 6) rfl (by decide) (ih _ [(4, .int (S'.2.1 15 c.toNatClampNeg)), (5, .int c), (6, .int 1), (0, .ref 0), (1, .int t), (2, .int key), (3, .int al)] [] S' (by omega) ⟨_, _, Or.inr ⟨_, rfl⟩, rfl, rfl, hr⟩))))
  refine ⟨60 * (N + 1) + 4, ?_⟩
  refine ws_iload_n rfl rfl rfl (ws_istore rfl rfl rfl rfl (ws_iconst (x := 0) rfl rfl rfl (ws_istore rfl rfl rfl rfl ?_)))
  exact kk N _ [(5, .int 0), (4, .int t), (0, .ref 0), (1, .int t), (2, .int key), (3, .int al)] [] S (by omega) ⟨t, 0, Or.inl rfl, rfl, rfl, hN⟩
end LY

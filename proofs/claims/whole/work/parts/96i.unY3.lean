/-! THE REFERENCE'S UNION: the whole -/
theorem tAll_ne {R : Int32 → Int32} {k : Int32} {t' : Nat} {k' v' : Int32} {l' r' : tT} (h : tHp R (.inner t' k' v' l' r' : tT)) (hr : R k' < R k) : tFnd k (.inner t' k' v' l' r' : tT) = .leaf :=
  tFnd_none (T := .inner t' k' v' l' r') ⟨fun e => by subst e; exact Int32.lt_irrefl hr, tAll_imp (fun q z e => by subst e; exact Int32.lt_irrefl (Int32.lt_trans z hr)) h.1, tAll_imp (fun q z e => by subst e; exact Int32.lt_irrefl (Int32.lt_trans z hr)) h.2.1⟩
section YM
variable {d : Nat} {P : Option Value → mv_S → Prop} {S0 : mv_S} {σ : Nat → Nat} {st lv rm : Nat}
set_option maxHeartbeats 1000000 in
theorem yU_all {sd : Int32} : ∀ (n : Nat) (A B : tT) (m : Nat) (stk : List (Bool × Int32 × Int32 × tT × tT)), stk.length + n ≤ 890 → tN A + tN B < n → tN A + tN B ≤ 800 → tHp (xRank sd) B → (rm < lv + (m + tUnN (xRank sd) st n A B) → ∀ x S', yFull S0 S' lv rm 401 → P (some (.int x)) S') → (lv + (m + tUnN (xRank sd) st n A B) ≤ rm → yUu P d S0 σ st lv rm (m + tUnN (xRank sd) st n A B) sd stk (tUn (xRank sd) st n A B)) → yUd P d S0 σ st lv rm m sd stk A B
  | 0, _, _, _, _, _, h, _, _, _, _ => absurd h (by omega)
  | n + 1, .leaf, B, m, stk, _, _, _, _, hf, ho => by
    refine yU_leaf (Or.inl rfl) ?_
    by_cases c : lv + m ≤ rm
    · exact ho c
    · exact ⟨0, fun S' l a b g N hl hm => absurd hm.2.2.2.2.2.2.1 c⟩
  | n + 1, .inner t k v l r, .leaf, m, stk, _, _, _, _, hf, ho => by
    refine yU_leaf (Or.inr rfl) ?_
    by_cases c : lv + m ≤ rm
    · exact ho c
    · exact ⟨0, fun S' l a b g N hl hm => absurd hm.2.2.2.2.2.2.1 c⟩
  | n + 1, .inner t k v l r, .inner t' k' v' l' r', m, stk, hs, hn, h8, hh, hf, ho => by
    have s1 : ∀ x : Bool × Int32 × Int32 × tT × tT, (stk ++ [x]).length = stk.length + 1 := fun x => by simp
    by_cases c : xRank sd k ≤ xRank sd k'
    · have e1 : tUn (xRank sd) st (n + 1) (.inner t k v l r) (.inner t' k' v' l' r') = .inner st k' v' (tUn (xRank sd) st n (tLo st k' (.inner t k v l r)) l') (tUn (xRank sd) st n (tHi st k' (.inner t k v l r)) r') := by rw [tUn, if_pos c]
      have e2 : tUnN (xRank sd) st (n + 1) (.inner t k v l r) (.inner t' k' v' l' r') = 1 + tSpN k' (.inner t k v l r) + tUnN (xRank sd) st n (tLo st k' (.inner t k v l r)) l' + tUnN (xRank sd) st n (tHi st k' (.inner t k v l r)) r' := by rw [tUnN, if_pos c]
      have z1 := @tN_lo st k' (.inner t k v l r)
      have z2 : tN (.inner t' k' v' l' r' : tT) = tN l' + tN r' + 1 := rfl
      rw [e1, e2] at ho
      rw [e2] at hf
      refine yU_down1 (by omega) c (by omega) (by omega) (fun q => hf (by omega)) (fun q => ?_)
      refine yU_all n _ _ _ _ (by rw [s1]; omega) (by omega) (by omega) hh.2.2.1 (fun q => hf (by omega)) (fun q => ?_)
      refine yU_second (by omega) ?_
      refine yU_all n _ _ _ _ (by rw [s1]; omega) (by omega) (by omega) hh.2.2.2 (fun q => hf (by omega)) (fun q => ?_)
      refine yU_cell (by omega) (fun q => hf (by omega)) (fun q => ?_)
      have := ho (by omega)
      rw [show m + (1 + tSpN k' (.inner t k v l r) + tUnN (xRank sd) st n (tLo st k' (.inner t k v l r)) l' + tUnN (xRank sd) st n (tHi st k' (.inner t k v l r)) r') = m + tSpN k' (.inner t k v l r) + tUnN (xRank sd) st n (tLo st k' (.inner t k v l r)) l' + tUnN (xRank sd) st n (tHi st k' (.inner t k v l r)) r' + 1 by omega] at this
      exact this
    · have e1 : tUn (xRank sd) st (n + 1) (.inner t k v l r) (.inner t' k' v' l' r') = .inner st k v (tUn (xRank sd) st n l (tLo st k (.inner t' k' v' l' r'))) (tUn (xRank sd) st n r (tHi st k (.inner t' k' v' l' r'))) := by rw [tUn, if_neg c]
      have e2 : tUnN (xRank sd) st (n + 1) (.inner t k v l r) (.inner t' k' v' l' r') = 1 + tSpN k (.inner t' k' v' l' r') + tUnN (xRank sd) st n l (tLo st k (.inner t' k' v' l' r')) + tUnN (xRank sd) st n r (tHi st k (.inner t' k' v' l' r')) := by rw [tUnN, if_neg c]
      have c' := Int32.not_le.mp c
      have z1 := @tN_lo st k (.inner t' k' v' l' r')
      have z2 : tN (.inner t k v l r : tT) = tN l + tN r + 1 := rfl
      rw [e1, e2] at ho
      rw [e2] at hf
      refine yU_down2 (by omega) c' (by omega) (by omega) (tAll_ne hh c') (fun q => hf (by omega)) (fun q => ?_)
      refine yU_all n _ _ _ _ (by rw [s1]; omega) (by omega) (by omega) (tHp_lo hh) (fun q => hf (by omega)) (fun q => ?_)
      refine yU_second (by omega) ?_
      refine yU_all n _ _ _ _ (by rw [s1]; omega) (by omega) (by omega) (tHp_hi hh) (fun q => hf (by omega)) (fun q => ?_)
      refine yU_cell (by omega) (fun q => hf (by omega)) (fun q => ?_)
      have := ho (by omega)
      rw [show m + (1 + tSpN k (.inner t' k' v' l' r') + tUnN (xRank sd) st n l (tLo st k (.inner t' k' v' l' r')) + tUnN (xRank sd) st n r (tHi st k (.inner t' k' v' l' r'))) = m + tSpN k (.inner t' k' v' l' r') + tUnN (xRank sd) st n l (tLo st k (.inner t' k' v' l' r')) + tUnN (xRank sd) st n r (tHi st k (.inner t' k' v' l' r')) + 1 by omega] at this
      exact this
set_option maxHeartbeats 1000000 in
set_option maxRecDepth 8000 in
theorem y_union {S : mv_S} {N : Nat} {sd a b : Int32} {A B : tT} (h : yMk S0 S lv rm 0 N) (hsd : S.1 0 35 = sd) (hA : yV S0 S σ st N A a) (hB : yV S0 S σ st N B b) (h8 : tN A + tN B ≤ 800) (hh : tHp (xRank sd) B)
    (hf : rm < lv + tUnN (xRank sd) st 801 A B → ∀ x S', yFull S0 S' lv rm 401 → P (some (.int x)) S')
    (ho : lv + tUnN (xRank sd) st 801 A B ≤ rm → ∀ S' N' g, yMk S0 S' lv rm (tUnN (xRank sd) st 801 A B) N' → yV S0 S' σ st N' (tUn (xRank sd) st 801 A B) g → P (some (.int g)) S') : mv_big layY sysY (d + 3) 39 [.ref 0, .int a, .int b] S P := by
  obtain ⟨F, hF⟩ := yU_all (P := P) (d := d) (S0 := S0) (σ := σ) (st := st) (lv := lv) (rm := rm) (sd := sd) 801 A B 0 [] (by simp) (by omega) h8 hh (by rw [Nat.zero_add]; exact hf) (by
    rw [Nat.zero_add]
    exact fun q => yU_end (fun S' N' g g1 _ g3 => ho q S' N' g g1 g3))
  have ws : yWs S (mv_pf S 0 57 0) := yWs_pf (Or.inl rfl)
  refine ⟨F + 20, ?_⟩
  refine ws_iconst (x := 0) rfl rfl rfl (ws_istore_n rfl rfl rfl rfl (ws_iload_n rfl rfl rfl (ws_istore rfl rfl rfl rfl (ws_iload_n rfl rfl rfl (ws_istore rfl rfl rfl rfl (ws_iconst (x := 0) rfl rfl rfl (ws_istore rfl rfl rfl rfl (ws_iconst (x := 1) rfl rfl rfl (ws_istore rfl rfl rfl rfl (ws_aload_n rfl rfl rfl (ws_iconst (x := 0) rfl rfl rfl (ws_puti rfl rfl rfl ?_))))))))))))
  exact mv_fuel (n := F) (by omega) (hF (mv_pf S 0 57 0) _ a b 0 N ⟨rfl, rfl, rfl, rfl, rfl, rfl⟩ (yMk_ws h ws) hsd (by rw [pf_get, if_pos ⟨rfl, rfl⟩]) (fun i b k v X Y hi => by simp at hi) (yV_ws hA ws) (yV_ws hB ws))
end YM

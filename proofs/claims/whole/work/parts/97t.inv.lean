/-! THE MACHINE OF BOTH: what is held stays in order, the code typed -/
theorem aN_of {x c : Int32} {n : Nat} (hc : c = nI n) (hn : n < 2 ^ 31) (h0 : 0 ≤ x) (h1 : x < c) : x = nI x.toNatClampNeg ∧ x.toNatClampNeg < n := by
  obtain ⟨j, hj, rfl⟩ := nI_of (Int32.not_lt.mpr h0)
  rw [nI_clamp hj]
  rw [hc] at h1
  exact ⟨rfl, (nI_ltI hj hn).mp h1⟩
theorem aN_of0 {x : Int32} (h0 : 0 ≤ x) : x = nI x.toNatClampNeg := by
  obtain ⟨j, hj, rfl⟩ := nI_of (Int32.not_lt.mpr h0)
  rw [nI_clamp hj]
theorem aSh_f : ∀ {K : List aI} {t : shT}, aSh K = false :: t → ∃ x R, K = .inl x :: R ∧ aSh R = t
  | [], t, h => by cases h
  | .inl x :: R, t, h => ⟨x, R, rfl, by injection h⟩
  | .inr m :: R, t, h => by
    have h : true :: aSh R = false :: t := h
    injection h with h1 h2
    cases h1
theorem aSh_t : ∀ {K : List aI} {t : shT}, aSh K = true :: t → ∃ T q R, K = .inr (T, q) :: R ∧ aSh R = t
  | [], t, h => by cases h
  | .inr m :: R, t, h => ⟨m.1, m.2, R, rfl, by injection h⟩
  | .inl m :: R, t, h => by
    have h : false :: aSh R = true :: t := h
    injection h with h1 h2
    cases h1
theorem aSh_n : ∀ (n : Nat) {K : List aI} {t : shT}, aSh K = List.replicate n false ++ t → ∃ (ps : List Int32) (R : List aI), ps.length = n ∧ K = ps.map Sum.inl ++ R ∧ aSh R = t
  | 0, K, t, h => ⟨[], K, rfl, rfl, h⟩
  | n + 1, K, t, h => by
    have h : aSh K = false :: (List.replicate n false ++ t) := h
    obtain ⟨x, R, rfl, e⟩ := aSh_f h
    obtain ⟨ps, R', e1, e2, e3⟩ := aSh_n n e
    exact ⟨x :: ps, R', by simp [e1], by rw [e2]; rfl, e3⟩
theorem aHd_in {K : List aI} {Ks : List (List aI)} {vs : Nat → Int32} {R : (Nat → tT) × List Int32 × Nat × Nat} {m : tT × Option Int32} (h : m ∈ aMap K) : aHd (K, Ks, vs, R) m.1 := Or.inr ⟨m.2, by
  show (m.1, m.2) ∈ aMap (K ++ Ks.flatten)
  rw [aMap_app]; exact List.mem_append.mpr (Or.inl h)⟩
theorem aHd_st {K K' : List aI} {Ks : List (List aI)} {vs vs' : Nat → Int32} {mp : Nat → tT} {R R' : List Int32 × Nat × Nat} (h : ∀ m, m ∈ aMap K' → m.1 = .leaf ∨ aHd (K, Ks, vs, mp, R) m.1) : ∀ U, aHd (K', Ks, vs', mp, R') U → U = .leaf ∨ aHd (K, Ks, vs, mp, R) U := by
  intro U z
  rcases z with z | ⟨q, z⟩
  · exact Or.inr (Or.inl z)
  · have z : (U, q) ∈ aMap (K' ++ Ks.flatten) := z
    rw [aMap_app] at z
    rcases List.mem_append.mp z with z | z
    · exact h (U, q) z
    · refine Or.inr (Or.inr ⟨q, ?_⟩)
      show (U, q) ∈ aMap (K ++ Ks.flatten)
      rw [aMap_app]; exact List.mem_append.mpr (Or.inr z)
/-- words that work on what is held -/
def aDw (k : Nat) : Prop := (1 ≤ k ∧ k ≤ 11) ∨ k = 15 ∨ (18 ≤ k ∧ k ≤ 28)
section AI
variable {w par : Nat → Int32} {L : Nat} {mn : Bool} {Q : Nat → shT → Prop} {pc rm : Nat} {sd x : Int32} {K K' : List aI} {Ks : List (List aI)} {vs : Nat → Int32} {mp : Nat → tT} {told : List Int32} {most st m : Nat} {R U : tT} {D' : aDt}
theorem aMk_1 (h : aMk rm m R K' (K, Ks, vs, mp, told, most, st) = (1, D')) : aLv (aHd (K, Ks, vs, mp, told, most, st)) + m ≤ rm ∧ aLv (aHd (.inr (R, none) :: K', Ks, vs, mp, told, max most m, st + 1)) ≤ rm ∧ D' = (.inr (R, none) :: K', Ks, vs, mp, told, max most m, st + 1) := by
  rw [aMk_eq] at h
  by_cases c : aLv (aHd (K, Ks, vs, mp, told, most, st)) + m ≤ rm
  · rw [if_pos c] at h
    by_cases c2 : aLv (aHd (.inr (R, none) :: K', Ks, vs, mp, told, max most m, st + 1)) ≤ rm
    · rw [if_pos c2] at h
      exact ⟨c, c2, (Prod.mk.inj h).2.symm⟩
    · rw [if_neg c2] at h
      exact absurd (Prod.mk.inj h).1 (by decide)
  · rw [if_neg c] at h
    exact absurd (Prod.mk.inj h).1 (by decide)
/-- what is made keeps the order -/
theorem aMk_ok (hrm : rm ≤ 400) (ok : aOk sd rm (K, Ks, vs, mp, told, most, st)) (hm : aLv (aHd (K, Ks, vs, mp, told, most, st)) + m ≤ rm) (hl : aLv (aHd (.inr (R, none) :: K', Ks, vs, mp, told, max most m, st + 1)) ≤ rm) (h1 : tOrd R) (h2 : tHp (xRank sd) R) (h3 : tSt (fun s => s < st + 1) R) (h4 : ∀ z, z ∈ aMap K' → z ∈ aMap K) : aOk sd rm (.inr (R, none) :: K', Ks, vs, mp, told, max most m, st + 1) := by
  have o1 : most ≤ 400 := ok.2.1
  refine ⟨fun U hU => ?_, ?_, hl⟩
  · have s : U = R ∨ (U = .leaf ∨ aHd (K, Ks, vs, mp, told, most, st) U) := by
      rcases hU with z | ⟨q, z⟩
      · exact Or.inr (Or.inr (Or.inl z))
      · have z : (U, q) ∈ (R, none) :: aMap (K' ++ Ks.flatten) := z
        rcases List.mem_cons.mp z with z | z
        · exact Or.inl (Prod.mk.inj z).1
        · exact Or.inr (aHd_st (vs' := vs) (R' := (told, most, st)) (fun m hm => Or.inr (aHd_in (h4 m hm))) U (Or.inr ⟨q, z⟩))
    rcases s with e | e | e
    · rw [e]; exact ⟨h1, h2, h3⟩
    · rw [e]; exact ⟨trivial, trivial, trivial⟩
    · have := ok.1 U e
      exact ⟨this.1, this.2.1, tSt_imp (fun s z => Nat.lt_succ_of_lt z) this.2.2⟩
  · show max most m ≤ 400
    omega
theorem aWt_ok {k : Int32} (o : tOrd R) (h : tHp (xRank sd) R) (s : tSt (fun s => s < st) R) : tOrd (tWt (xRank sd) st k R) ∧ tHp (xRank sd) (tWt (xRank sd) st k R) ∧ tSt (fun s => s < st + 1) (tWt (xRank sd) st k R) := by
  have s' : tSt (fun s => s < st + 1) R := tSt_imp (fun s z => Nat.lt_succ_of_lt z) s
  unfold tWt
  cases c : tFnd k R with
  | leaf => exact ⟨o, h, s'⟩
  | inner a b cc dd ee => exact ⟨tOrd_wo o, tHp_wo (xRank_inj sd) o h, tSt_wo (P := fun s => s < st + 1) (Nat.lt_succ_self st) s'⟩
theorem aI_1 (h : okI w par L mn Q pc (aSh K)) (hw : w pc = 1) (hrm : rm ≤ 400) (hx : x = w (pc + 1)) (ok : aOk sd rm (K, Ks, vs, mp, told, most, st)) (e : aAp sd rm 1 x (K, Ks, vs, mp, told, most, st) = (1, D')) : Q (pc + 2) (aSh D'.1) ∧ D'.2.1 = Ks ∧ aOk sd rm D' := by
  obtain ⟨hl, q⟩ := okI_1 h hw
  have ee := e
  clear e
  obtain rfl := (Prod.mk.inj ee).2
  exact ⟨q, rfl, aOk_sub ok (aHd_st (fun m hm => Or.inr (aHd_in hm))) rfl rfl⟩
theorem aI_2 (h : okI w par L mn Q pc (aSh K)) (hw : w pc = 2) (hrm : rm ≤ 400) (hx : x = w (pc + 1)) (ok : aOk sd rm (K, Ks, vs, mp, told, most, st)) (e : aAp sd rm 2 x (K, Ks, vs, mp, told, most, st) = (1, D')) : Q (pc + 2) (aSh D'.1) ∧ D'.2.1 = Ks ∧ aOk sd rm D' := by
  obtain ⟨⟨hl, h6, h7⟩, q⟩ := okI_2 h hw
  have ee := e
  clear e
  obtain rfl := (Prod.mk.inj ee).2
  exact ⟨q, rfl, aOk_sub ok (aHd_st (fun m hm => Or.inr (aHd_in hm))) rfl rfl⟩
theorem aI_3 (h : okI w par L mn Q pc (aSh K)) (hw : w pc = 3) (hrm : rm ≤ 400) (hx : x = w (pc + 1)) (ok : aOk sd rm (K, Ks, vs, mp, told, most, st)) (e : aAp sd rm 3 x (K, Ks, vs, mp, told, most, st) = (1, D')) : Q (pc + 2) (aSh D'.1) ∧ D'.2.1 = Ks ∧ aOk sd rm D' := by
  obtain ⟨⟨hl, _, _, e0⟩, q⟩ := okI_3 h hw
  have ee := e
  clear e
  have e := e0
  clear e0
  obtain ⟨a0, K, rfl, e⟩ := aSh_f e
  obtain rfl := (Prod.mk.inj ee).2
  exact ⟨q, rfl, aOk_sub ok (aHd_st (fun m hm => Or.inr (aHd_in hm))) rfl rfl⟩
theorem aI_4 (h : okI w par L mn Q pc (aSh K)) (hw : w pc = 4) (hrm : rm ≤ 400) (hx : x = w (pc + 1)) (ok : aOk sd rm (K, Ks, vs, mp, told, most, st)) (e : aAp sd rm 4 x (K, Ks, vs, mp, told, most, st) = (1, D')) : Q (pc + 1) (aSh D'.1) ∧ D'.2.1 = Ks ∧ aOk sd rm D' := by
  obtain ⟨⟨hl, e0⟩, q⟩ := okI_4 h ⟨by rw [hw]; decide, by rw [hw]; decide⟩
  have ee := e
  clear e
  have e := e0
  clear e0
  obtain ⟨a0, K, rfl, e⟩ := aSh_f e
  obtain ⟨a1, K, rfl, e⟩ := aSh_f e
  have ee : (if (4 = 7 ∨ 4 = 8) ∧ a0 = 0 then ((2 : Int32), ((.inl a0 :: .inl a1 :: K, Ks, vs, mp, told, most, st) : aDt)) else (1, (.inl (aOp (nI 4) a1 a0) :: K, Ks, vs, mp, told, most, st))) = (1, D') := ee
  rw [if_neg (by omega)] at ee
  obtain rfl := (Prod.mk.inj ee).2
  exact ⟨q, rfl, aOk_sub ok (aHd_st (fun m hm => Or.inr (aHd_in hm))) rfl rfl⟩
theorem aI_5 (h : okI w par L mn Q pc (aSh K)) (hw : w pc = 5) (hrm : rm ≤ 400) (hx : x = w (pc + 1)) (ok : aOk sd rm (K, Ks, vs, mp, told, most, st)) (e : aAp sd rm 5 x (K, Ks, vs, mp, told, most, st) = (1, D')) : Q (pc + 1) (aSh D'.1) ∧ D'.2.1 = Ks ∧ aOk sd rm D' := by
  obtain ⟨⟨hl, e0⟩, q⟩ := okI_4 h ⟨by rw [hw]; decide, by rw [hw]; decide⟩
  have ee := e
  clear e
  have e := e0
  clear e0
  obtain ⟨a0, K, rfl, e⟩ := aSh_f e
  obtain ⟨a1, K, rfl, e⟩ := aSh_f e
  have ee : (if (5 = 7 ∨ 5 = 8) ∧ a0 = 0 then ((2 : Int32), ((.inl a0 :: .inl a1 :: K, Ks, vs, mp, told, most, st) : aDt)) else (1, (.inl (aOp (nI 5) a1 a0) :: K, Ks, vs, mp, told, most, st))) = (1, D') := ee
  rw [if_neg (by omega)] at ee
  obtain rfl := (Prod.mk.inj ee).2
  exact ⟨q, rfl, aOk_sub ok (aHd_st (fun m hm => Or.inr (aHd_in hm))) rfl rfl⟩
theorem aI_6 (h : okI w par L mn Q pc (aSh K)) (hw : w pc = 6) (hrm : rm ≤ 400) (hx : x = w (pc + 1)) (ok : aOk sd rm (K, Ks, vs, mp, told, most, st)) (e : aAp sd rm 6 x (K, Ks, vs, mp, told, most, st) = (1, D')) : Q (pc + 1) (aSh D'.1) ∧ D'.2.1 = Ks ∧ aOk sd rm D' := by
  obtain ⟨⟨hl, e0⟩, q⟩ := okI_4 h ⟨by rw [hw]; decide, by rw [hw]; decide⟩
  have ee := e
  clear e
  have e := e0
  clear e0
  obtain ⟨a0, K, rfl, e⟩ := aSh_f e
  obtain ⟨a1, K, rfl, e⟩ := aSh_f e
  have ee : (if (6 = 7 ∨ 6 = 8) ∧ a0 = 0 then ((2 : Int32), ((.inl a0 :: .inl a1 :: K, Ks, vs, mp, told, most, st) : aDt)) else (1, (.inl (aOp (nI 6) a1 a0) :: K, Ks, vs, mp, told, most, st))) = (1, D') := ee
  rw [if_neg (by omega)] at ee
  obtain rfl := (Prod.mk.inj ee).2
  exact ⟨q, rfl, aOk_sub ok (aHd_st (fun m hm => Or.inr (aHd_in hm))) rfl rfl⟩
theorem aI_7 (h : okI w par L mn Q pc (aSh K)) (hw : w pc = 7) (hrm : rm ≤ 400) (hx : x = w (pc + 1)) (ok : aOk sd rm (K, Ks, vs, mp, told, most, st)) (e : aAp sd rm 7 x (K, Ks, vs, mp, told, most, st) = (1, D')) : Q (pc + 1) (aSh D'.1) ∧ D'.2.1 = Ks ∧ aOk sd rm D' := by
  obtain ⟨⟨hl, e0⟩, q⟩ := okI_4 h ⟨by rw [hw]; decide, by rw [hw]; decide⟩
  have ee := e
  clear e
  have e := e0
  clear e0
  obtain ⟨a0, K, rfl, e⟩ := aSh_f e
  obtain ⟨a1, K, rfl, e⟩ := aSh_f e
  have ee : (if (7 = 7 ∨ 7 = 8) ∧ a0 = 0 then ((2 : Int32), ((.inl a0 :: .inl a1 :: K, Ks, vs, mp, told, most, st) : aDt)) else (1, (.inl (aOp (nI 7) a1 a0) :: K, Ks, vs, mp, told, most, st))) = (1, D') := ee
  by_cases c : (7 = 7 ∨ 7 = 8) ∧ a0 = 0
  · rw [if_pos c] at ee; exact absurd (Prod.mk.inj ee).1 (by decide)
  rw [if_neg c] at ee
  obtain rfl := (Prod.mk.inj ee).2
  exact ⟨q, rfl, aOk_sub ok (aHd_st (fun m hm => Or.inr (aHd_in hm))) rfl rfl⟩
theorem aI_8 (h : okI w par L mn Q pc (aSh K)) (hw : w pc = 8) (hrm : rm ≤ 400) (hx : x = w (pc + 1)) (ok : aOk sd rm (K, Ks, vs, mp, told, most, st)) (e : aAp sd rm 8 x (K, Ks, vs, mp, told, most, st) = (1, D')) : Q (pc + 1) (aSh D'.1) ∧ D'.2.1 = Ks ∧ aOk sd rm D' := by
  obtain ⟨⟨hl, e0⟩, q⟩ := okI_4 h ⟨by rw [hw]; decide, by rw [hw]; decide⟩
  have ee := e
  clear e
  have e := e0
  clear e0
  obtain ⟨a0, K, rfl, e⟩ := aSh_f e
  obtain ⟨a1, K, rfl, e⟩ := aSh_f e
  have ee : (if (8 = 7 ∨ 8 = 8) ∧ a0 = 0 then ((2 : Int32), ((.inl a0 :: .inl a1 :: K, Ks, vs, mp, told, most, st) : aDt)) else (1, (.inl (aOp (nI 8) a1 a0) :: K, Ks, vs, mp, told, most, st))) = (1, D') := ee
  by_cases c : (8 = 7 ∨ 8 = 8) ∧ a0 = 0
  · rw [if_pos c] at ee; exact absurd (Prod.mk.inj ee).1 (by decide)
  rw [if_neg c] at ee
  obtain rfl := (Prod.mk.inj ee).2
  exact ⟨q, rfl, aOk_sub ok (aHd_st (fun m hm => Or.inr (aHd_in hm))) rfl rfl⟩
theorem aI_9 (h : okI w par L mn Q pc (aSh K)) (hw : w pc = 9) (hrm : rm ≤ 400) (hx : x = w (pc + 1)) (ok : aOk sd rm (K, Ks, vs, mp, told, most, st)) (e : aAp sd rm 9 x (K, Ks, vs, mp, told, most, st) = (1, D')) : Q (pc + 1) (aSh D'.1) ∧ D'.2.1 = Ks ∧ aOk sd rm D' := by
  obtain ⟨⟨hl, e0⟩, q⟩ := okI_4 h ⟨by rw [hw]; decide, by rw [hw]; decide⟩
  have ee := e
  clear e
  have e := e0
  clear e0
  obtain ⟨a0, K, rfl, e⟩ := aSh_f e
  obtain ⟨a1, K, rfl, e⟩ := aSh_f e
  have ee : (if (9 = 7 ∨ 9 = 8) ∧ a0 = 0 then ((2 : Int32), ((.inl a0 :: .inl a1 :: K, Ks, vs, mp, told, most, st) : aDt)) else (1, (.inl (aOp (nI 9) a1 a0) :: K, Ks, vs, mp, told, most, st))) = (1, D') := ee
  rw [if_neg (by omega)] at ee
  obtain rfl := (Prod.mk.inj ee).2
  exact ⟨q, rfl, aOk_sub ok (aHd_st (fun m hm => Or.inr (aHd_in hm))) rfl rfl⟩
theorem aI_10 (h : okI w par L mn Q pc (aSh K)) (hw : w pc = 10) (hrm : rm ≤ 400) (hx : x = w (pc + 1)) (ok : aOk sd rm (K, Ks, vs, mp, told, most, st)) (e : aAp sd rm 10 x (K, Ks, vs, mp, told, most, st) = (1, D')) : Q (pc + 1) (aSh D'.1) ∧ D'.2.1 = Ks ∧ aOk sd rm D' := by
  obtain ⟨⟨hl, e0⟩, q⟩ := okI_4 h ⟨by rw [hw]; decide, by rw [hw]; decide⟩
  have ee := e
  clear e
  have e := e0
  clear e0
  obtain ⟨a0, K, rfl, e⟩ := aSh_f e
  obtain ⟨a1, K, rfl, e⟩ := aSh_f e
  have ee : (if (10 = 7 ∨ 10 = 8) ∧ a0 = 0 then ((2 : Int32), ((.inl a0 :: .inl a1 :: K, Ks, vs, mp, told, most, st) : aDt)) else (1, (.inl (aOp (nI 10) a1 a0) :: K, Ks, vs, mp, told, most, st))) = (1, D') := ee
  rw [if_neg (by omega)] at ee
  obtain rfl := (Prod.mk.inj ee).2
  exact ⟨q, rfl, aOk_sub ok (aHd_st (fun m hm => Or.inr (aHd_in hm))) rfl rfl⟩
theorem aI_11 (h : okI w par L mn Q pc (aSh K)) (hw : w pc = 11) (hrm : rm ≤ 400) (hx : x = w (pc + 1)) (ok : aOk sd rm (K, Ks, vs, mp, told, most, st)) (e : aAp sd rm 11 x (K, Ks, vs, mp, told, most, st) = (1, D')) : Q (pc + 1) (aSh D'.1) ∧ D'.2.1 = Ks ∧ aOk sd rm D' := by
  obtain ⟨⟨hl, e0⟩, q⟩ := okI_11 h hw
  have ee := e
  clear e
  have e := e0
  clear e0
  obtain ⟨a0, K, rfl, e⟩ := aSh_f e
  obtain rfl := (Prod.mk.inj ee).2
  exact ⟨q, rfl, aOk_sub ok (aHd_st (fun m hm => Or.inr (aHd_in hm))) rfl rfl⟩
theorem aI_15 (h : okI w par L mn Q pc (aSh K)) (hw : w pc = 15) (hrm : rm ≤ 400) (hx : x = w (pc + 1)) (ok : aOk sd rm (K, Ks, vs, mp, told, most, st)) (e : aAp sd rm 15 x (K, Ks, vs, mp, told, most, st) = (1, D')) : Q (pc + 1) (aSh D'.1) ∧ D'.2.1 = Ks ∧ aOk sd rm D' := by
  obtain ⟨⟨hl, e0⟩, q⟩ := okI_15 h hw
  have ee := e
  clear e
  have e := e0
  clear e0
  obtain ⟨a0, K, rfl, e⟩ := aSh_f e
  have ee : (if told.length = 300 then ((4 : Int32), ((.inl a0 :: K, Ks, vs, mp, told, most, st) : aDt)) else (1, (K, Ks, vs, mp, told ++ [a0], most, st))) = (1, D') := ee
  by_cases c : told.length = 300
  · rw [if_pos c] at ee; exact absurd (Prod.mk.inj ee).1 (by decide)
  rw [if_neg c] at ee
  obtain rfl := (Prod.mk.inj ee).2
  exact ⟨q, rfl, aOk_sub ok (aHd_st (fun m hm => Or.inr (aHd_in hm))) rfl rfl⟩
theorem aI_18 (h : okI w par L mn Q pc (aSh K)) (hw : w pc = 18) (hrm : rm ≤ 400) (hx : x = w (pc + 1)) (ok : aOk sd rm (K, Ks, vs, mp, told, most, st)) (e : aAp sd rm 18 x (K, Ks, vs, mp, told, most, st) = (1, D')) : Q (pc + 1) (aSh D'.1) ∧ D'.2.1 = Ks ∧ aOk sd rm D' := by
  obtain ⟨⟨hl, e0⟩, q⟩ := okI_18 h hw
  have ee := e
  clear e
  have e := e0
  clear e0
  obtain ⟨a0, K, rfl, e⟩ := aSh_f e
  obtain rfl := (Prod.mk.inj ee).2
  exact ⟨q, rfl, aOk_sub ok (aHd_st (fun m hm => Or.inr (aHd_in hm))) rfl rfl⟩
theorem aI_19 (h : okI w par L mn Q pc (aSh K)) (hw : w pc = 19) (hrm : rm ≤ 400) (hx : x = w (pc + 1)) (ok : aOk sd rm (K, Ks, vs, mp, told, most, st)) (e : aAp sd rm 19 x (K, Ks, vs, mp, told, most, st) = (1, D')) : Q (pc + 2) (aSh D'.1) ∧ D'.2.1 = Ks ∧ aOk sd rm D' := by
  obtain ⟨⟨hl, h6, h7⟩, q⟩ := okI_19 h hw
  have hv : x.toNatClampNeg < 6 := by rw [hx]; exact (aN_of (n := 6) rfl (by decide) h6 h7).2
  have ee := e
  clear e
  obtain rfl := (Prod.mk.inj ee).2
  refine ⟨q, rfl, aOk_sub ok (aHd_st (fun m hm => ?_)) rfl rfl⟩
  have hm : m ∈ (mp (aMP Ks.length x.toNatClampNeg), none) :: aMap K := hm
  rcases List.mem_cons.mp hm with z | z
  · rw [z]; exact Or.inr (Or.inl ⟨aMP Ks.length x.toNatClampNeg, aMP_lt hv, rfl⟩)
  · exact Or.inr (aHd_in z)
theorem aI_20 (h : okI w par L mn Q pc (aSh K)) (hw : w pc = 20) (hrm : rm ≤ 400) (hx : x = w (pc + 1)) (ok : aOk sd rm (K, Ks, vs, mp, told, most, st)) (e : aAp sd rm 20 x (K, Ks, vs, mp, told, most, st) = (1, D')) : Q (pc + 2) (aSh D'.1) ∧ D'.2.1 = Ks ∧ aOk sd rm D' := by
  obtain ⟨⟨hl, h6, h7, e0⟩, q⟩ := okI_20 h hw
  have hv : x.toNatClampNeg < 6 := by rw [hx]; exact (aN_of (n := 6) rfl (by decide) h6 h7).2
  have ee := e
  clear e
  have e := e0
  clear e0
  obtain ⟨T0, q0, K, rfl, e⟩ := aSh_t e
  obtain rfl := (Prod.mk.inj ee).2
  refine ⟨q, rfl, aOk_sub ok (fun U z => ?_) rfl rfl⟩
  rcases z with ⟨i, i1, i2⟩ | ⟨q', z⟩
  · have i2 : U = (if i = aMP Ks.length x.toNatClampNeg then T0 else mp i) := i2
    by_cases c : i = aMP Ks.length x.toNatClampNeg
    · rw [if_pos c] at i2
      rw [i2]; exact Or.inr (aHd_in (m := (T0, q0)) List.mem_cons_self)
    · rw [if_neg c] at i2
      exact Or.inr (Or.inl ⟨i, i1, i2⟩)
  · have z : (U, q') ∈ aMap (K ++ Ks.flatten) := z
    exact Or.inr (Or.inr ⟨q', List.mem_cons_of_mem _ z⟩)
theorem aI_21 (h : okI w par L mn Q pc (aSh K)) (hw : w pc = 21) (hrm : rm ≤ 400) (hx : x = w (pc + 1)) (ok : aOk sd rm (K, Ks, vs, mp, told, most, st)) (e : aAp sd rm 21 x (K, Ks, vs, mp, told, most, st) = (1, D')) : Q (pc + 1) (aSh D'.1) ∧ D'.2.1 = Ks ∧ aOk sd rm D' := by
  obtain ⟨hl, q⟩ := okI_21 h hw
  have ee := e
  clear e
  obtain rfl := (Prod.mk.inj ee).2
  refine ⟨q, rfl, aOk_sub ok (aHd_st (fun m hm => ?_)) rfl rfl⟩
  have hm : m ∈ ((.leaf : tT), (none : Option Int32)) :: aMap K := hm
  rcases List.mem_cons.mp hm with z | z
  · rw [z]; exact Or.inl rfl
  · exact Or.inr (aHd_in z)
theorem aI_22 (h : okI w par L mn Q pc (aSh K)) (hw : w pc = 22) (hrm : rm ≤ 400) (hx : x = w (pc + 1)) (ok : aOk sd rm (K, Ks, vs, mp, told, most, st)) (e : aAp sd rm 22 x (K, Ks, vs, mp, told, most, st) = (1, D')) : Q (pc + 1) (aSh D'.1) ∧ D'.2.1 = Ks ∧ aOk sd rm D' := by
  obtain ⟨⟨hl, e0⟩, q⟩ := okI_22 h hw
  have ee := e
  clear e
  have e := e0
  clear e0
  obtain ⟨a0, K, rfl, e⟩ := aSh_f e
  obtain ⟨a1, K, rfl, e⟩ := aSh_f e
  obtain ⟨T2, q2, K, rfl, e⟩ := aSh_t e
  obtain ⟨m1, m2, rfl⟩ := aMk_1 ee
  have oT := ok.1 T2 (aHd_in (m := (T2, q2)) List.mem_cons_self)
  exact ⟨q, rfl, aMk_ok hrm ok m1 m2 (tOrd_put oT.1) (tHp_put (xRank_inj sd) oT.2.1) (tSt_put (P := fun s => s < st + 1) (Nat.lt_succ_self st) (tSt_imp (fun s z => Nat.lt_succ_of_lt z) oT.2.2)) (fun z hm => (List.mem_cons_of_mem _ hm))⟩
theorem aI_23 (h : okI w par L mn Q pc (aSh K)) (hw : w pc = 23) (hrm : rm ≤ 400) (hx : x = w (pc + 1)) (ok : aOk sd rm (K, Ks, vs, mp, told, most, st)) (e : aAp sd rm 23 x (K, Ks, vs, mp, told, most, st) = (1, D')) : Q (pc + 1) (aSh D'.1) ∧ D'.2.1 = Ks ∧ aOk sd rm D' := by
  obtain ⟨⟨hl, e0⟩, q⟩ := okI_23 h hw
  have ee := e
  clear e
  have e := e0
  clear e0
  obtain ⟨a0, K, rfl, e⟩ := aSh_f e
  obtain ⟨T1, q1, K, rfl, e⟩ := aSh_t e
  obtain ⟨m1, m2, rfl⟩ := aMk_1 ee
  have oT := ok.1 T1 (aHd_in (m := (T1, q1)) List.mem_cons_self)
  have oW := aWt_ok (k := a0) oT.1 oT.2.1 oT.2.2
  exact ⟨q, rfl, aMk_ok hrm ok m1 m2 oW.1 oW.2.1 oW.2.2 (fun z hm => (List.mem_cons_of_mem _ hm))⟩
theorem aI_24 (h : okI w par L mn Q pc (aSh K)) (hw : w pc = 24) (hrm : rm ≤ 400) (hx : x = w (pc + 1)) (ok : aOk sd rm (K, Ks, vs, mp, told, most, st)) (e : aAp sd rm 24 x (K, Ks, vs, mp, told, most, st) = (1, D')) : Q (pc + 1) (aSh D'.1) ∧ D'.2.1 = Ks ∧ aOk sd rm D' := by
  obtain ⟨⟨hl, e0⟩, q⟩ := okI_24 h hw
  have ee := e
  clear e
  have e := e0
  clear e0
  obtain ⟨T0, q0, K, rfl, e⟩ := aSh_t e
  obtain ⟨T1, q1, K, rfl, e⟩ := aSh_t e
  obtain ⟨m1, m2, rfl⟩ := aMk_1 ee
  have oU := ok.1 T0 (aHd_in (m := (T0, q0)) List.mem_cons_self)
  have oT := ok.1 T1 (aHd_in (m := (T1, q1)) (List.mem_cons_of_mem _ List.mem_cons_self))
  exact ⟨q, rfl, aMk_ok hrm ok m1 m2 (tOrd_un 801 oT.1 oU.1) (tHp_un (xRank_inj sd) 801 oT.1 oU.1 oT.2.1 oU.2.1) (tSt_un (P := fun s => s < st + 1) (Nat.lt_succ_self st) 801 (tSt_imp (fun s z => Nat.lt_succ_of_lt z) oT.2.2) (tSt_imp (fun s z => Nat.lt_succ_of_lt z) oU.2.2)) (fun z hm => (List.mem_cons_of_mem _ (List.mem_cons_of_mem _ hm)))⟩
theorem aI_25 (h : okI w par L mn Q pc (aSh K)) (hw : w pc = 25) (hrm : rm ≤ 400) (hx : x = w (pc + 1)) (ok : aOk sd rm (K, Ks, vs, mp, told, most, st)) (e : aAp sd rm 25 x (K, Ks, vs, mp, told, most, st) = (1, D')) : Q (pc + 1) (aSh D'.1) ∧ D'.2.1 = Ks ∧ aOk sd rm D' := by
  obtain ⟨⟨hl, e0⟩, q⟩ := okI_25 h (Or.inl hw)
  have ee := e
  clear e
  have e := e0
  clear e0
  obtain ⟨a0, K, rfl, e⟩ := aSh_f e
  obtain ⟨T1, q1, K, rfl, e⟩ := aSh_t e
  obtain rfl := (Prod.mk.inj ee).2
  exact ⟨q, rfl, aOk_sub ok (aHd_st (fun m hm => Or.inr (aHd_in (List.mem_cons_of_mem _ hm)))) rfl rfl⟩
theorem aI_26 (h : okI w par L mn Q pc (aSh K)) (hw : w pc = 26) (hrm : rm ≤ 400) (hx : x = w (pc + 1)) (ok : aOk sd rm (K, Ks, vs, mp, told, most, st)) (e : aAp sd rm 26 x (K, Ks, vs, mp, told, most, st) = (1, D')) : Q (pc + 1) (aSh D'.1) ∧ D'.2.1 = Ks ∧ aOk sd rm D' := by
  obtain ⟨⟨hl, e0⟩, q⟩ := okI_25 h (Or.inr hw)
  have ee := e
  clear e
  have e := e0
  clear e0
  obtain ⟨a0, K, rfl, e⟩ := aSh_f e
  obtain ⟨T1, q1, K, rfl, e⟩ := aSh_t e
  obtain rfl := (Prod.mk.inj ee).2
  exact ⟨q, rfl, aOk_sub ok (aHd_st (fun m hm => Or.inr (aHd_in (List.mem_cons_of_mem _ hm)))) rfl rfl⟩
theorem aI_27 (h : okI w par L mn Q pc (aSh K)) (hw : w pc = 27) (hrm : rm ≤ 400) (hx : x = w (pc + 1)) (ok : aOk sd rm (K, Ks, vs, mp, told, most, st)) (e : aAp sd rm 27 x (K, Ks, vs, mp, told, most, st) = (1, D')) : Q (pc + 1) (aSh D'.1) ∧ D'.2.1 = Ks ∧ aOk sd rm D' := by
  obtain ⟨⟨hl, e0⟩, q⟩ := okI_27 h hw
  have ee := e
  clear e
  have e := e0
  clear e0
  obtain ⟨T0, q0, K, rfl, e⟩ := aSh_t e
  obtain rfl := (Prod.mk.inj ee).2
  exact ⟨q, rfl, aOk_sub ok (aHd_st (fun m hm => Or.inr (aHd_in (List.mem_cons_of_mem _ hm)))) rfl rfl⟩
theorem aI_28 (h : okI w par L mn Q pc (aSh K)) (hw : w pc = 28) (hrm : rm ≤ 400) (hx : x = w (pc + 1)) (ok : aOk sd rm (K, Ks, vs, mp, told, most, st)) (e : aAp sd rm 28 x (K, Ks, vs, mp, told, most, st) = (1, D')) : Q (pc + 1) (aSh D'.1) ∧ D'.2.1 = Ks ∧ aOk sd rm D' := by
  obtain ⟨⟨hl, e0⟩, q⟩ := okI_28 h hw
  have ee := e
  clear e
  have e := e0
  clear e0
  obtain ⟨a0, K, rfl, e⟩ := aSh_f e
  obtain ⟨a1, K, rfl, e⟩ := aSh_f e
  obtain ⟨T2, q2, K, rfl, e⟩ := aSh_t e
  obtain rfl := (Prod.mk.inj ee).2
  exact ⟨q, rfl, aOk_sub ok (aHd_st (fun m hm => Or.inr (aHd_in (List.mem_cons_of_mem _ hm)))) rfl rfl⟩
end AI

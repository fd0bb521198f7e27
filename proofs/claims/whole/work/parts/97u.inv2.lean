/-! THE MACHINE OF BOTH: a step keeps all in order -/
section AI
variable {w par : Nat → Int32} {fa : Nat → Nat} {L : Nat} {mn : Bool} {Q : Nat → shT → Prop} {pc rm k : Nat} {rets : List Nat} {sd : Int32} {D D' : aDt} {s : aMs}
theorem aAp_inv (hk : aDw k) (h : okI w par L mn Q pc (aSh D.1)) (hw : w pc = nI k) (hrm : rm ≤ 400) (ok : aOk sd rm D) (e : aAp sd rm k (w (pc + 1)) D = (1, D')) : Q (pc + aWl k) (aSh D'.1) ∧ D'.2.1 = D.2.1 ∧ aOk sd rm D' := by
  obtain ⟨K, Ks, vs, mp, told, most, st⟩ := D
  unfold aDw at hk
  match k, hk, hw, e with
  | 0, hk, _, _ => omega
  | 1, _, hw, e => exact aI_1 h hw hrm rfl ok e
  | 2, _, hw, e => exact aI_2 h hw hrm rfl ok e
  | 3, _, hw, e => exact aI_3 h hw hrm rfl ok e
  | 4, _, hw, e => exact aI_4 h hw hrm rfl ok e
  | 5, _, hw, e => exact aI_5 h hw hrm rfl ok e
  | 6, _, hw, e => exact aI_6 h hw hrm rfl ok e
  | 7, _, hw, e => exact aI_7 h hw hrm rfl ok e
  | 8, _, hw, e => exact aI_8 h hw hrm rfl ok e
  | 9, _, hw, e => exact aI_9 h hw hrm rfl ok e
  | 10, _, hw, e => exact aI_10 h hw hrm rfl ok e
  | 11, _, hw, e => exact aI_11 h hw hrm rfl ok e
  | 12, hk, _, _ => omega
  | 13, hk, _, _ => omega
  | 14, hk, _, _ => omega
  | 15, _, hw, e => exact aI_15 h hw hrm rfl ok e
  | 16, hk, _, _ => omega
  | 17, hk, _, _ => omega
  | 18, _, hw, e => exact aI_18 h hw hrm rfl ok e
  | 19, _, hw, e => exact aI_19 h hw hrm rfl ok e
  | 20, _, hw, e => exact aI_20 h hw hrm rfl ok e
  | 21, _, hw, e => exact aI_21 h hw hrm rfl ok e
  | 22, _, hw, e => exact aI_22 h hw hrm rfl ok e
  | 23, _, hw, e => exact aI_23 h hw hrm rfl ok e
  | 24, _, hw, e => exact aI_24 h hw hrm rfl ok e
  | 25, _, hw, e => exact aI_25 h hw hrm rfl ok e
  | 26, _, hw, e => exact aI_26 h hw hrm rfl ok e
  | 27, _, hw, e => exact aI_27 h hw hrm rfl ok e
  | 28, _, hw, e => exact aI_28 h hw hrm rfl ok e
  | k + 29, hk, _, _ => omega
theorem aSw_d (hk : aDw k) : aSw w par fa sd rm pc rets D k = ((aAp sd rm k (w (pc + 1)) D).1, pc + aWl k, rets, (aAp sd rm k (w (pc + 1)) D).2) := by
  unfold aDw at hk
  match k, hk with
  | 0, hk => omega
  | 1, _ => rfl
  | 2, _ => rfl
  | 3, _ => rfl
  | 4, _ => rfl
  | 5, _ => rfl
  | 6, _ => rfl
  | 7, _ => rfl
  | 8, _ => rfl
  | 9, _ => rfl
  | 10, _ => rfl
  | 11, _ => rfl
  | 12, hk => omega
  | 13, hk => omega
  | 14, hk => omega
  | 15, _ => rfl
  | 16, hk => omega
  | 17, hk => omega
  | 18, _ => rfl
  | 19, _ => rfl
  | 20, _ => rfl
  | 21, _ => rfl
  | 22, _ => rfl
  | 23, _ => rfl
  | 24, _ => rfl
  | 25, _ => rfl
  | 26, _ => rfl
  | 27, _ => rfl
  | 28, _ => rfl
  | k + 29, hk => omega
theorem okI_len {sh : shT} (i : okI w par L mn Q pc sh) (hw : w pc = nI k) (hk : k ≤ 30) : pc + aWl k ≤ L := by
  match k, hk, hw with
  | 0, _, hw => exact okI_0 i hw
  | 1, _, hw => exact (okI_1 i hw).1
  | 2, _, hw => exact (okI_2 i hw).1.1
  | 3, _, hw => exact (okI_3 i hw).1.1
  | 4, _, hw => exact (okI_4 i ⟨by rw [hw]; decide, by rw [hw]; decide⟩).1.1
  | 5, _, hw => exact (okI_4 i ⟨by rw [hw]; decide, by rw [hw]; decide⟩).1.1
  | 6, _, hw => exact (okI_4 i ⟨by rw [hw]; decide, by rw [hw]; decide⟩).1.1
  | 7, _, hw => exact (okI_4 i ⟨by rw [hw]; decide, by rw [hw]; decide⟩).1.1
  | 8, _, hw => exact (okI_4 i ⟨by rw [hw]; decide, by rw [hw]; decide⟩).1.1
  | 9, _, hw => exact (okI_4 i ⟨by rw [hw]; decide, by rw [hw]; decide⟩).1.1
  | 10, _, hw => exact (okI_4 i ⟨by rw [hw]; decide, by rw [hw]; decide⟩).1.1
  | 11, _, hw => exact (okI_11 i hw).1.1
  | 12, _, hw => exact (okI_12 i hw).1.1
  | 13, _, hw => exact (okI_13 i (Or.inl hw)).1.1
  | 14, _, hw => exact (okI_13 i (Or.inr hw)).1.1
  | 15, _, hw => exact (okI_15 i hw).1.1
  | 16, _, hw => exact (okI_16 i hw).1.1
  | 17, _, hw => exact (okI_17 i hw).1
  | 18, _, hw => exact (okI_18 i hw).1.1
  | 19, _, hw => exact (okI_19 i hw).1.1
  | 20, _, hw => exact (okI_20 i hw).1.1
  | 21, _, hw => exact (okI_21 i hw).1
  | 22, _, hw => exact (okI_22 i hw).1.1
  | 23, _, hw => exact (okI_23 i hw).1.1
  | 24, _, hw => exact (okI_24 i hw).1.1
  | 25, _, hw => exact (okI_25 i (Or.inl hw)).1.1
  | 26, _, hw => exact (okI_25 i (Or.inr hw)).1.1
  | 27, _, hw => exact (okI_27 i hw).1.1
  | 28, _, hw => exact (okI_28 i hw).1.1
  | 29, _, hw => exact (okI_29 i hw).1.1
  | 30, _, hw => exact (okI_30 i hw).1
  | k + 31, hk, _ => omega
theorem aWl_pos (k : Nat) : 1 ≤ aWl k := by
  unfold aWl
  split <;> decide
theorem aSt_k (hw : w s.1 = nI k) (hk : k ≤ 30) : aSt w par fa sd rm s = aSw w par fa sd rm s.1 s.2.1 s.2.2 k := by
  unfold aSt
  rw [hw, nI_clamp (by omega)]
theorem aInv_k (h : aInv w par L sd rm s) : ∃ k, k ≤ 30 ∧ w s.1 = nI k := by
  have b := (tyA_i h.1).1
  exact nI_of2 (M := 30) rfl (Int32.not_lt.mpr b.2.2.1) b.2.2.2
theorem aSh_drop : ∀ (n : Nat) (K : List aI), aSh (K.drop n) = (aSh K).drop n
  | 0, K => rfl
  | n + 1, [] => rfl
  | n + 1, .inl x :: R => aSh_drop n R
  | n + 1, .inr x :: R => aSh_drop n R
theorem aMap_drop : ∀ (n : Nat) (K : List aI) (m : tT × Option Int32), m ∈ aMap (K.drop n) → m ∈ aMap K
  | 0, K, m, h => h
  | n + 1, [], m, h => h
  | n + 1, .inl x :: R, m, h => aMap_drop n R m h
  | n + 1, .inr x :: R, m, h => List.mem_cons_of_mem _ (aMap_drop n R m h)
theorem aEnt_ok {n : Nat} (ok : aOk sd rm D) : aOk sd rm (aEnt n D) := by
  obtain ⟨K, Ks, vs, mp, told, most, st⟩ := D
  refine aOk_sub ok (fun U z => ?_) rfl rfl
  rcases z with ⟨i, i1, i2⟩ | ⟨q, z⟩
  · have i1 : i < 6 + 2 * (Ks.length + 1) := i1
    have i2 : U = (if 4 + 2 * (Ks.length + 1) ≤ i then .leaf else mp i) := i2
    by_cases c : 4 + 2 * (Ks.length + 1) ≤ i
    · rw [if_pos c] at i2; exact Or.inl i2
    · rw [if_neg c] at i2
      exact Or.inr (Or.inl ⟨i, by show i < 6 + 2 * Ks.length; omega, i2⟩)
  · have z : (U, q) ∈ aMap (K.drop n ++ Ks.flatten) := z
    rw [aMap_app] at z
    refine Or.inr (Or.inr ⟨q, ?_⟩)
    show (U, q) ∈ aMap (K ++ Ks.flatten)
    rw [aMap_app]
    rcases List.mem_append.mp z with z | z
    · exact List.mem_append.mpr (Or.inl (aMap_drop n K _ z))
    · exact List.mem_append.mpr (Or.inr z)
theorem aPop_ok (ok : aOk sd rm D) : aOk sd rm (D.1.tail, D.2) := by
  obtain ⟨K, Ks, vs, mp, told, most, st⟩ := D
  refine aOk_sub ok (aHd_st (fun m hm => Or.inr (aHd_in ?_))) rfl rfl
  have hm : m ∈ aMap K.tail := hm
  rw [← List.drop_one] at hm
  exact aMap_drop 1 K m hm
theorem aCo_ok {a b : Nat} {K : List aI} {R} {T : tT} {q : Option Int32} (ok : aOk sd rm (.inr (T, q) :: K, R)) : aOk sd rm (aCo a b (.inr (T, q) :: K, R)) := by
  obtain ⟨Ks, vs, mp, told, most, st⟩ := R
  refine aOk_sub ok (aHd_st (fun m hm => ?_)) rfl rfl
  have hm : m ∈ (T, some (tKy (tNx q T))) :: aMap K := hm
  rcases List.mem_cons.mp hm with z | z
  · rw [z]; exact Or.inr (aHd_in (m := (T, q)) List.mem_cons_self)
  · exact Or.inr (aHd_in (m := m) (List.mem_cons_of_mem _ z))
theorem aRe_ok {K K1 : List aI} {Ks : List (List aI)} {R} (ok : aOk sd rm (K, K1 :: Ks, R)) : aOk sd rm (aRe (K, K1 :: Ks, R)) := by
  obtain ⟨vs, mp, told, most, st⟩ := R
  refine aOk_sub ok (fun U z => ?_) rfl rfl
  rcases z with ⟨i, i1, i2⟩ | ⟨q, z⟩
  · have i1 : i < 6 + 2 * Ks.length := i1
    exact Or.inr (Or.inl ⟨i, by show i < 6 + 2 * (Ks.length + 1); omega, i2⟩)
  · have z : (U, q) ∈ aMap (K1 ++ Ks.flatten) := z
    refine Or.inr (Or.inr ⟨q, ?_⟩)
    show (U, q) ∈ aMap (K ++ (K1 ++ Ks.flatten))
    rw [aMap_app]
    exact List.mem_append.mpr (Or.inr z)
theorem tSel_cases {α : Type} (T : tT) (a b : α) : (T = .leaf ∧ tSel T a b = a) ∨ (¬ T = .leaf ∧ tSel T a b = b) := by
  cases T with
  | leaf => exact Or.inl ⟨rfl, rfl⟩
  | inner a b c d e => exact Or.inr ⟨nofun, rfl⟩
set_option maxHeartbeats 1000000 in
theorem aSt_inv (hfn : ∀ f, f < 8 → ¬ par f = -1 → tyA w par L false (fa f) []) (hrm : rm ≤ 400) (h : aInv w par L sd rm s) (e : (aSt w par fa sd rm s).1 = 1) : aInv w par L sd rm (aSt w par fa sd rm s).2 := by
  obtain ⟨k, hk, hw⟩ := aInv_k h
  rw [aSt_k hw hk] at e ⊢
  obtain ⟨ty, fr, n24, ok⟩ := h
  have i := tyA_i ty
  by_cases hd : aDw k
  · rw [aSw_d hd] at e ⊢
    have ee : aAp sd rm k (w (s.1 + 1)) s.2.2 = (1, (aAp sd rm k (w (s.1 + 1)) s.2.2).2) := Prod.ext e rfl
    obtain ⟨q1, q2, q3⟩ := aAp_inv hd i hw hrm ok ee
    refine ⟨?_, ?_, ?_, q3⟩
    · show tyA w par L (aAp sd rm k (w (s.1 + 1)) s.2.2).2.2.1.isEmpty (s.1 + aWl k) (aSh (aAp sd rm k (w (s.1 + 1)) s.2.2).2.1)
      rw [q2]; exact q1
    · show aFr w par L s.2.1 (aAp sd rm k (w (s.1 + 1)) s.2.2).2.2.1
      rw [q2]; exact fr
    · show (aAp sd rm k (w (s.1 + 1)) s.2.2).2.2.1.length ≤ 24
      rw [q2]; exact n24
  · obtain ⟨pc, rets, K, Ks, R⟩ := s
    have hk' : k = 0 ∨ k = 12 ∨ k = 13 ∨ k = 14 ∨ k = 16 ∨ k = 17 ∨ k = 29 ∨ k = 30 := by unfold aDw at hd; omega
    rcases hk' with rfl | rfl | rfl | rfl | rfl | rfl | rfl | rfl
    · have e : (0 : Int32) = 1 := e
      exact absurd e (by decide)
    · exact ⟨(okI_12 i hw).2, fr, n24, ok⟩
    · obtain ⟨⟨_, _, es⟩, q1, q2⟩ := okI_13 i (Or.inl hw)
      obtain ⟨x, K, rfl, es⟩ := aSh_f (K := K) es
      refine ⟨?_, fr, n24, aPop_ok ok⟩
      show tyA w par L Ks.isEmpty (if x = 0 then (w (pc + 1)).toNatClampNeg else pc + 2) (aSh K)
      split
      · exact q1
      · exact q2
    · obtain ⟨⟨_, _, es⟩, q1, q2⟩ := okI_13 i (Or.inr hw)
      obtain ⟨x, K, rfl, es⟩ := aSh_f (K := K) es
      refine ⟨?_, fr, n24, aPop_ok ok⟩
      show tyA w par L Ks.isEmpty (if x = 0 then pc + 2 else (w (pc + 1)).toNatClampNeg) (aSh K)
      split
      · exact q2
      · exact q1
    · obtain ⟨⟨_, hf, _, _, _⟩, q1⟩ := okI_16 i hw
      have e : (if Ks.length = 24 then ((3 : Int32), ((pc + 2, rets, K, Ks, R) : aMs)) else (1, fa (w (pc + 1)).toNatClampNeg, (pc + 2) :: rets, aEnt (par (w (pc + 1)).toNatClampNeg).toNatClampNeg (K, Ks, R))).1 = 1 := e
      by_cases c : Ks.length = 24
      · rw [if_pos c] at e
        have e : (3 : Int32) = 1 := e
        exact absurd e (by decide)
      · show aInv w par L sd rm (if Ks.length = 24 then ((3 : Int32), ((pc + 2, rets, K, Ks, R) : aMs)) else (1, fa (w (pc + 1)).toNatClampNeg, (pc + 2) :: rets, aEnt (par (w (pc + 1)).toNatClampNeg).toNatClampNeg (K, Ks, R))).2
        rw [if_neg c]
        have n24 : Ks.length ≤ 24 := n24
        obtain ⟨vs, mp, R⟩ := R
        refine ⟨hfn _ (aN_of (n := 8) rfl (by decide) hf.1 hf.2.1).2 hf.2.2, ⟨?_, fr⟩, ?_, aEnt_ok ok⟩
        · show tyA w par L Ks.isEmpty (pc + 2) (false :: aSh (K.drop (par (w (pc + 1)).toNatClampNeg).toNatClampNeg))
          rw [aSh_drop]; exact q1
        · show Ks.length + 1 ≤ 24
          omega
    · obtain ⟨_, hm, _⟩ := okI_17 i hw
      match Ks, rets, fr, hm, n24, ok with
      | K1 :: Ks, r :: rets, fr, _, n24, ok => exact ⟨fr.1, fr.2, Nat.le_of_succ_le n24, aRe_ok ok⟩
      | [], _, _, hm, _, _ => exact absurd (show true = false from hm) (by decide)
      | _ :: _, [], fr, _, _, _ => exact fr.elim
    · obtain ⟨⟨_, _, _, _, _, _, es⟩, q1, q2⟩ := okI_29 i hw
      obtain ⟨T, q, K, rfl, es⟩ := aSh_t (K := K) es
      show aInv w par L sd rm (tSel (tNx q T) ((1 : Int32), (((w (pc + 3)).toNatClampNeg, rets, K, Ks, R) : aMs)) (1, pc + 4, rets, aCo (w (pc + 1)).toNatClampNeg (w (pc + 2)).toNatClampNeg (.inr (T, q) :: K, Ks, R))).2
      rcases tSel_cases (tNx q T) ((1 : Int32), (((w (pc + 3)).toNatClampNeg, rets, K, Ks, R) : aMs)) (1, pc + 4, rets, aCo (w (pc + 1)).toNatClampNeg (w (pc + 2)).toNatClampNeg (.inr (T, q) :: K, Ks, R)) with ⟨_, z⟩ | ⟨_, z⟩
      · rw [z]; exact ⟨q1, fr, n24, aPop_ok ok⟩
      · rw [z]
        obtain ⟨vs, R⟩ := R
        exact ⟨q2, fr, n24, aCo_ok ok⟩
    · exact ⟨(okI_30 i hw).2, fr, n24, ok⟩
/-- bounds of the stacks -/
theorem aFr_len : ∀ {rets : List Nat} {Ks : List (List aI)}, aFr w par L rets Ks → Ks.flatten.length ≤ 50 * Ks.length
  | [], [], _ => by simp
  | r :: rs, K :: Ks, h => by
    have b := (tyA_i h.1).1
    have q := aFr_len h.2
    have b1 := aNum_sh K
    have b2 := aMap_sh K
    have b3 := aLen K
    have c1 := shN_f (aSh K)
    have c2 := shM_f (aSh K)
    rw [List.flatten_cons, List.length_append, List.length_cons]
    omega
  | [], _ :: _, h => h.elim
  | _ :: _, [], h => h.elim
theorem aInv_b (h : aInv w par L sd rm s) : (aNum s.2.2.1).length ≤ 33 ∧ (aMap s.2.2.1).length ≤ 17 ∧ (s.2.2.1 ++ s.2.2.2.1.flatten).length ≤ 1250 := by
  have b := (tyA_i h.1).1
  have q := aFr_len h.2.1
  have b1 := aNum_sh s.2.2.1
  have b2 := aMap_sh s.2.2.1
  have b3 := aLen s.2.2.1
  have b4 := h.2.2.1
  rw [List.length_append]
  omega
end AI

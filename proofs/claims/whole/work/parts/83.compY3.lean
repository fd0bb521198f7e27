/-! THE REFERENCE'S COMPILE DOES WHAT THE FUNCTION SAYS: its functions, all -/
def yKm (S S' : mv_S) : Prop := (∀ o f, (o = 0 → f ≠ 2 ∧ f ≠ 3 ∧ f ≠ 4 ∧ f ≠ 7 ∧ f ≠ 9 ∧ f ≠ 10 ∧ f ≠ 11 ∧ f ≠ 12 ∧ f ≠ 20 ∧ f ≠ 23) → S'.1 o f = S.1 o f) ∧ (∀ o i, ¬ (2 ≤ o ∧ o ≤ 12) → S'.2.1 o i = S.2.1 o i) ∧ S'.2.2 = S.2.2
theorem yKf_km {S T : mv_S} (h : yKf S T) : yKm S T := ⟨fun o f a => h.1 o f (fun z => by have := a z; omega), h.2.1, h.2.2⟩
theorem yKm_trans {S T U : mv_S} (h : yKm S T) (g : yKm T U) : yKm S U := ⟨fun o f a => (g.1 o f a).trans (h.1 o f a), fun o i a => (g.2.1 o i a).trans (h.2.1 o i a), g.2.2.trans h.2.2⟩
theorem yMn_km (S : mv_S) (p w m : Nat) : yKm S (yMn S p w m) := ⟨fun o f a => by rw [yMn_f, if_neg (fun z => by have := a z.1; omega), if_neg (fun z => by have := a z.1; omega), if_neg (fun z => by have := a z.1; omega), if_neg (fun z => by have := a z.1; omega)], fun _ _ _ => rfl, rfl⟩
section YA
variable {P : Option Value → mv_S → Prop} {S S1 : mv_S} {n : Nat} {tk : Nat → Int32}
theorem yC_all (ht : ∀ p, n ≤ p → tk p = -1) (hI : S1.1 0 12 = 0 ∨ S1.1 0 12 = 1)
    (he : ∀ v q S2, cAll n tk false = .error (v, q) → v ≠ 0 → S2.1 0 4 = nI q → yKm S1 S2 → (S2.1 0 12 = 0 ∨ S2.1 0 12 = 1) → P (some (.int v)) (mv_pf S2 0 7 0))
    (hf : ∀ l s par fs mw mt S2, cAll n tk false = .ok (l, s, par, fs, mw, mt) → 1500 < l.length → S2.1 0 4 = -1 → yKm S1 S2 → (S2.1 0 12 = 0 ∨ S2.1 0 12 = 1) → P (some (.int (-16))) (mv_pf S2 0 7 0))
    (ho : ∀ l s par fs mw mt l' s' fs' mm mt' S2, cAll n tk false = .ok (l, s, par, fs, mw, mt) → cAll n tk true = .ok (l', s', par, fs', mm, mt') → yKm S1 S2 → (S2.1 0 12 = 0 ∨ S2.1 0 12 = 1) → yCode (mv_pf S2 0 5 1) l l' par fs fs' mw mm → P (some (.int (nI l.length))) (mv_pf S2 0 5 1))
    {x : Int32} : ∀ k S' p1 l1 s1 l1' s1' par1 f1 f1' h1, cnt8 par1 + k = 9 → yGf S1 S' n tk par1 p1 l1 l1' f1 f1' h1 → (S'.1 0 12 = 0 ∨ S'.1 0 12 = 1) → cFuns n tk false 9 (fun _ => -1) 0 0 = cPreF l1 s1 f1 (cFuns n tk false k par1 p1 l1.length) → cFuns n tk true 9 (fun _ => -1) 0 0 = cPreF l1' s1' f1' (cFuns n tk true k par1 p1 l1'.length) → yCw P (300 * (k + 1)) 72 x S' := by
  intro k
  induction k with
  | zero =>
    intro S' p1 l1 s1 l1' s1' par1 f1 f1' h1 hc
    have := cnt8_le par1
    omega
  | succ k ih =>
    intro S' p1 l1 s1 l1' s1' par1 f1 f1' h1 hc g hI' hR hR'
    have gg := g
    obtain ⟨g1, g2, ⟨mn, g3⟩, g4, g5, g6⟩ := g
    have hn := g3.2.1
    have f0 : S'.1 0 3 = 0 := g2.1
    have ea : S'.1 0 2 = nI p1 := g2.2.2.1
    have en : S'.1 0 1 = nI n := g3.1
    refine mv_fuel (n := 300 * (k + 1) + 250) (by omega) ?_
    by_cases t10 : tk p1 = 10
    · have hp : p1 < n := tk_in ht (by rw [t10]; decide)
      refine ws_aload_n rfl rfl rfl (ws_geti rfl rfl rfl rfl (ws_i rfl ⟨fun z => absurd f0 z, fun _ => ?_⟩))
      refine ws_aload_n rfl rfl rfl (ws_iv rfl rfl rfl ?_)
      refine y_tokenA g3 g2 (by omega) ?_
      refine ws_bipush (x := 10) rfl rfl rfl (ws_i rfl ⟨fun z => absurd t10 z, fun _ => ?_⟩)
      refine ws_aload_n rfl rfl rfl (ws_geti rfl rfl rfl rfl (ws_aload_n rfl rfl rfl (ws_geti rfl rfl rfl rfl (ws_i rfl ⟨fun z => ?_, fun _ => ?_⟩))))
      · have z : S'.1 0 1 ≤ S'.1 0 2 := z
        rw [ea, en, nI_leI (by omega) (by have := g4.1; omega)] at z
        omega
      refine ws_aload_n rfl rfl rfl (ws_iv rfl rfl rfl ?_)
      refine mv_deep (d := 22) (by decide) (y_readFunction g3 g2 g4 t10 (fun v q S2 e ev kf c12 e3 e4 => ?_) (fun p2 l s l' s' S2 e e' kf hA hT' r6 r7 => ?_))
      · refine ws_goto (t := 72) rfl (by decide) (mv_fuel (n := 70) (by omega) (yC_err72 e3 ev ?_))
        refine he v q S2 ?_ ev e4 (yKf_km (yKf_trans g1 kf)) ?_
        · rw [cAll_main, hR, cFuns_s t10, e]; rfl
        · rcases c12 with c | c
          · rw [c]; exact hI'
          · exact Or.inl c
      · have q1 := cFun1_ok ht e
        have q2 := cFun1_ok ht e'
        obtain ⟨h', hA, hh⟩ := hA
        obtain ⟨f, hf0, ef⟩ := nI_of (Int32.not_lt.mpr q1.2.2.2.2.1)
        have hf8 : f < 8 := by
          have := q1.2.2.2.2.2.1
          rw [ef] at this
          exact (nI_ltI (b := 8) hf0 (by decide)).mp this
        have efc : (tk (p1 + 1)).toNatClampNeg = f := by rw [ef, nI_clamp hf0]
        have hpf : par1 f = -1 := by
          by_cases z : par1 f = -1
          · exact z
          · exact absurd ⟨q1.2.2.2.2.1, q1.2.2.2.2.2.1, by rw [efc]; exact z⟩ q1.2.2.2.1
        rw [efc] at hT' r6 r7
        have q13 : l.length + 8 * p1 ≤ 8 * p2 := by have := q1.2.2.1; simp at this; exact this
        have q23 : l'.length + 9 * p1 ≤ 9 * p2 := by have := q2.2.2.1; simp at this; omega
        refine ws_goto (t := 72) rfl (by decide) (mv_fuel (n := 300 * (k + 1)) (by omega) (ih S2 p2 (l1 ++ l) (s1 ++ s) (l1' ++ l') (s1' ++ s') (upd par1 f (tk (p1 + 2))) (f1 ++ [(f, l1.length, p1)]) (f1' ++ [(f, l1'.length, p1)]) (h1 ++ h') ?_ ?_ ?_ ?_ ?_))
        · rw [cnt8_upd hf8 hpf q1.2.2.2.2.2.2]; omega
        · refine ⟨yKf_trans g1 kf, hA, ⟨false, hT'⟩, yBd_app g4 q1.2.1 q13 q23 hh, fun a w t hm => ?_, fun a w t hm => ?_⟩
          · rcases List.mem_append.mp hm with hm1 | hm1
            · have := g5 a w t hm1
              have hne : a ≠ f := fun z => this.2.1 (by rw [z]; exact hpf)
              exact ⟨this.1, by rw [pk_un hne]; exact this.2.1, by rw [r6, if_neg hne]; exact this.2.2⟩
            · simp only [List.mem_singleton, Prod.mk.injEq] at hm1
              obtain ⟨rfl, rfl, rfl⟩ := hm1
              exact ⟨hf8, by rw [pk_us]; exact q1.2.2.2.2.2.2, by rw [r6, if_pos rfl]⟩
          · rcases List.mem_append.mp hm with hm1 | hm1
            · have := g6 a w t hm1
              have hne : a ≠ f := fun z => this.2.1 (by rw [z]; exact hpf)
              exact ⟨this.1, by rw [pk_un hne]; exact this.2.1, by rw [r7, if_neg hne]; exact this.2.2⟩
            · simp only [List.mem_singleton, Prod.mk.injEq] at hm1
              obtain ⟨rfl, rfl, rfl⟩ := hm1
              exact ⟨hf8, by rw [pk_us]; exact q1.2.2.2.2.2.2, by rw [r7, if_pos rfl]⟩
        · exact Or.inl (by rw [hT'.2.2.2.2.2]; rfl)
        · rw [hR, cFuns_s t10, e, efc]
          simp only [cRest]
          rw [cPreF_pre, List.length_append]
        · rw [hR', cFuns_s t10, e', efc]
          simp only [cRest]
          rw [cPreF_pre, List.length_append]
    · have hp2 : p1 ≤ n := g4.1
      have eF : ∀ mk, cFuns n tk mk (k + 1) par1 p1 = fun b => .ok (p1, [], [], par1, []) := by
        intro mk
        funext b
        rw [cFuns, if_neg t10]
      rw [eF, cPreF] at hR hR'
      simp only [List.append_nil] at hR hR'
      have aF : ∀ mk l s f, cFuns n tk mk 9 (fun _ => -1) 0 0 = .ok (p1, l, s, par1, f) → cAll n tk mk = match cMain n tk par1 mk p1 l.length with | .error e => .error e | .ok (_, l1, s1) => .ok (l ++ l1, s ++ s1, par1, f, l.length, p1) := by
        intro mk l s f hq
        rw [cAll_main, hq]
        all_goals rfl
      have a1 := aF _ _ _ _ hR
      have a2 := aF _ _ _ _ hR'
      have c12 : ∀ S2 : mv_S, (S2.1 0 12 = S'.1 0 12 ∨ S2.1 0 12 = 1) → (S2.1 0 12 = 0 ∨ S2.1 0 12 = 1) := by
        intro S2 z
        rcases z with z | z
        · rw [z]; exact hI'
        · exact Or.inr z
      have fin : yCw P 200 106 x S' := by
        refine yC_main gg (fun v q S2 e ev e4 kf z => ?_) (fun p2 l s S2 e c e4 kp => ?_) (fun p2 l s l' s' S2 h' e e' c c2 kp hA => ?_)
        · refine he v q S2 (by rw [a1, e]) ev e4 ?_ (c12 S2 z)
          rcases kf with kf | kf
          · exact yKf_km (yKf_trans g1 kf)
          · exact yKm_trans (yKf_km g1) (yKm_trans (yMn_km _ _ _ _) (yKf_km kf))
        · refine hf (l1 ++ l) (s1 ++ s) par1 f1 l1.length p1 S2 (by rw [a1, e]) c e4 (yKm_trans (yKf_km g1) (yKm_trans (yMn_km _ _ _ _) (yKf_km (yKp_kf kp)))) (Or.inr ?_)
          rw [kp.1 0 12 (by decide), yMn_f]; rfl
        · refine ho (l1 ++ l) (s1 ++ s) par1 f1 l1.length p1 (l1' ++ l') (s1' ++ s') f1' l1'.length p1 S2 (by rw [a1, e]) (by rw [a2, e']) (yKm_trans (yKf_km g1) (yKm_trans (yMn_km _ _ _ _) (yKf_km (yKp_kf kp)))) (Or.inr ?_) ?_
          · rw [kp.1 0 12 (by decide), yMn_f]; rfl
          · obtain ⟨w1, w2, w3, ⟨w4, w4'⟩, ⟨w5, w5'⟩, _⟩ := hA
            refine ⟨by rw [pf_get, if_pos ⟨rfl, rfl⟩], by rw [pf_get, if_neg (by decide)]; exact w2, by rw [pf_get, if_neg (by decide)]; exact w4, c, c2, w4', w5', fun f hf8 hpf => ?_, fun f w t hm => ?_, fun f w t hm => ?_, ?_, ?_⟩
            · have := (g3.2.2.2.2.1 f hf8).2 hpf
              show S2.2.1 5 f = _ ∧ _
              rw [kp.2.1 5 f (by decide) (by decide) (by decide)]
              exact this.2
            · have := g5 f w t hm
              show f < 8 ∧ _ ∧ S2.2.1 6 f = _
              rw [kp.2.1 6 f (by decide) (by decide) (by decide)]
              exact this
            · have := g6 f w t hm
              show f < 8 ∧ _ ∧ S2.2.1 7 f = _
              rw [kp.2.1 7 f (by decide) (by decide) (by decide)]
              exact this
            · rw [pf_get, if_neg (by decide), kp.1 0 10 (by decide), yMn_f]; rfl
            · rw [pf_get, if_neg (by decide), kp.1 0 11 (by decide), yMn_f]; rfl
      refine ws_aload_n rfl rfl rfl (ws_geti rfl rfl rfl rfl (ws_i rfl ⟨fun z => absurd f0 z, fun _ => ?_⟩))
      refine ws_aload_n rfl rfl rfl (ws_iv rfl rfl rfl ?_)
      refine y_tokenA g3 g2 (by omega) ?_
      refine ws_bipush (x := 10) rfl rfl rfl (ws_i rfl ⟨fun _ => ?_, fun z => absurd z t10⟩)
      exact mv_fuel (n := 200) (by omega) fin
theorem y_compile (hn : S.1 0 1 = nI n) (hn2 : n ≤ 700) (hk : ∀ i, i < n → S.2.1 1 i = tk i) (ht : ∀ p, n ≤ p → tk p = -1) (hI : S.1 0 12 = 0 ∨ S.1 0 12 = 1)
    (he : ∀ v q S2, cAll n tk false = .error (v, q) → yKc S S2 → S2.1 0 5 = 0 → S2.1 0 4 = nI q → P (some (.int v)) S2)
    (hf : ∀ l s par fs mw mt S2, cAll n tk false = .ok (l, s, par, fs, mw, mt) → 1500 < l.length → yKc S S2 → S2.1 0 5 = 0 → S2.1 0 4 = -1 → P (some (.int (-16))) S2)
    (ho : ∀ l s par fs mw mt l' s' fs' mm mt' S2, cAll n tk false = .ok (l, s, par, fs, mw, mt) → cAll n tk true = .ok (l', s', par, fs', mm, mt') → yKc S S2 → yCode S2 l l' par fs fs' mw mm → P (some (.int (nI l.length))) S2) : mv_big layY sysY 24 25 [.ref 0] S P := by
  obtain ⟨S1, hS1⟩ : ∃ S1, S1 = yC0 S := ⟨_, rfl⟩
  obtain ⟨S2, hS2⟩ : ∃ S2, S2 = stR S1 4 (rFill (S1.2.1 4) 0 8 0) := ⟨_, rfl⟩
  have r1 : ∀ o f, S2.1 o f = if o = 0 ∧ f = 23 then 0 else if o = 0 ∧ f = 20 then 0 else if o = 0 ∧ f = 9 then 0 else if o = 0 ∧ f = 7 then 0 else if o = 0 ∧ f = 4 then -1 else if o = 0 ∧ f = 3 then 0 else if o = 0 ∧ f = 2 then 0 else if o = 0 ∧ f = 53 then 6 else if o = 0 ∧ f = 54 then 0 else if o = 0 ∧ f = 5 then 0 else S.1 o f := by
    intro o f
    rw [hS2, hS1]
    show (yC0 S).1 o f = _
    unfold yC0
    rw [pf_get, pf_get, pf_get, pf_get, pf_get, pf_get, pf_get, pf_get, pf_get, pf_get]
  have r2 : ∀ o i, S2.2.1 o i = if o = 4 ∧ i < 8 then 0 else S.2.1 o i := by
    intro o i
    rw [hS2, hS1]
    show (va_up S.2.1 4 (rFill (S.2.1 4) 0 8 0)) o i = _
    by_cases h : o = 4
    · subst h
      by_cases h2 : i < 8 <;> simp [va_up, rFill, h2]
    · simp [va_up, h]
  have r3 : S2.2.2 = S.2.2 := by rw [hS2, hS1]; rfl
  have kc : ∀ T x k, (k = 7 ∨ k = 5) → yKm S2 T → (T.1 0 12 = 0 ∨ T.1 0 12 = 1) → yKc S (mv_pf T 0 k x) := by
    intro T x k hk2 km c12
    refine ⟨fun o f a => ?_, fun o i a => ?_, km.2.2.trans r3, ?_, ?_, ?_⟩
    · rw [pf_get, if_neg (fun z => by have := a z.1; omega), km.1 o f (fun z => by have := a z; omega), r1]
      by_cases h0 : o = 0
      · have := a h0
        rw [if_neg (by omega), if_neg (by omega), if_neg (by omega), if_neg (by omega), if_neg (by omega), if_neg (by omega), if_neg (by omega), if_neg (by omega), if_neg (by omega), if_neg (by omega)]
      · simp only [h0, false_and, if_false]
    · show T.2.1 o i = _
      rw [km.2.1 o i a, r2, if_neg (by omega)]
    · rw [pf_get, if_neg (by omega), km.1 0 53 (by decide), r1]; rfl
    · rw [pf_get, if_neg (by omega), km.1 0 54 (by decide), r1]; rfl
    · rw [pf_get, if_neg (by omega)]; exact c12
  have k5 : ∀ T, yKm S2 T → T.1 0 5 = 0 := fun T km => by rw [km.1 0 5 (by decide), r1]; rfl
  have hI2 : S2.1 0 12 = 0 ∨ S2.1 0 12 = 1 := by rw [r1]; exact hI
  have g0 : yGf S2 S2 n tk (fun _ => -1) 0 [] [] [] [] [] := by
    refine ⟨yKf_refl _, ⟨by rw [r1]; rfl, by rw [r1]; rfl, by rw [r1]; rfl, ⟨by rw [r1]; rfl, fun i x h => by simp at h⟩, ⟨by rw [r1]; rfl, fun i x h => by simp at h⟩, ⟨by rw [r1]; rfl, trivial⟩, ⟨by rw [r1]; rfl, fun i a c h => by simp at h⟩, yKp_refl _⟩, ?_, ⟨Nat.zero_le _, by simp, by simp, by simp⟩, fun _ _ _ h => by simp at h, fun _ _ _ h => by simp at h⟩
    rcases hI2 with c | c
    · refine ⟨false, by rw [r1]; exact hn, hn2, fun i hi => by rw [r2, if_neg (by omega)]; exact hk i hi, ht, fun f hf => ⟨fun _ => by rw [r2, if_pos ⟨rfl, hf⟩], fun z => absurd rfl z⟩, c⟩
    · refine ⟨true, by rw [r1]; exact hn, hn2, fun i hi => by rw [r2, if_neg (by omega)]; exact hk i hi, ht, fun f hf => ⟨fun _ => by rw [r2, if_pos ⟨rfl, hf⟩], fun z => absurd rfl z⟩, c⟩
  have all := yC_all (P := P) (S1 := S2) (x := nI 8) ht hI2 (fun v q T e ev e4 km c => he v q _ e (kc T 0 7 (by omega) km c) (by rw [pf_get, if_neg (by decide)]; exact k5 T km) (by rw [pf_get, if_neg (by decide)]; exact e4))
    (fun l s par fs mw mt T e c e4 km c12 => hf l s par fs mw mt _ e c (kc T 0 7 (by omega) km c12) (by rw [pf_get, if_neg (by decide)]; exact k5 T km) (by rw [pf_get, if_neg (by decide)]; exact e4))
    (fun l s par fs mw mt l' s' fs' mm mt' T e e' km c12 code => ho l s par fs mw mt l' s' fs' mm mt' _ e e' (kc T 1 5 (by omega) km c12) code)
    9 S2 0 [] [] [] [] (fun _ => -1) [] [] [] (by rfl) g0 hI2 (by
      match cFuns n tk false 9 (fun _ => -1) 0 0 with
      | .error e => rfl
      | .ok (p5, l5, s5, par5, f5) => rfl) (by
      match cFuns n tk true 9 (fun _ => -1) 0 0 with
      | .error e => rfl
      | .ok (p5, l5, s5, par5, f5) => rfl)
  have key := mv_loop (T := tT11) (nL := 2) (z := some .int) (il := mX11_compile.2.2.2.2.2.2.2) (lay := layY) (sys := sysY) (d := 23) (P := P) (pc := 53) 3100 (fun k lv st S' => ∃ i, i + k = 8 ∧ lv = [(1, .int (nI i)), (0, .ref 0)] ∧ st = [] ∧ S' = stR S1 4 (rFill (S1.2.1 4) 0 i 0)) (by
      rintro m lv st S' ⟨i, hk, rfl, rfl, rfl⟩
      obtain rfl : i = 8 := hk
      rw [← hS2]
      refine mv_fuel (n := 3003) (by omega) ?_
      refine ws_iload_n rfl rfl rfl (ws_bipush (x := 8) rfl rfl rfl (ws_i rfl ⟨fun _ => all, fun z => absurd (show nI 8 ≤ nI 8 by decide) z⟩))) (by
      rintro k m lv st S' ⟨i, hk, rfl, rfl, rfl⟩ ih
      refine mv_fuel (n := m + 100) (by omega) ?_
      refine ⟨fun z => ?_, fun z => ⟨Or.inl rfl, vp_in_nI (by omega) (by omega), ?_⟩⟩
      · have c' : nI 8 ≤ nI i := z
        exact absurd ((nI_leI (by omega) (by omega)).mp c') (by omega)
      · have hi := fun n' hn => ih n' [(1, .int (nI (i + 1))), (0, .ref 0)] [] (stR S1 4 (rFill (S1.2.1 4) 0 (i + 1) 0)) hn ⟨i + 1, by omega, rfl, rfl, rfl⟩
        rw [← stR_fill S1 4 _ (Nat.zero_le i) (by omega) 0] at hi
        exact ws_iinc (y := nI (i + 1)) rfl rfl rfl (nI_succ i).symm rfl rfl (ws_goto (t := 53) rfl (by decide) (hi (m + 90) (by omega))))
  refine ⟨3100 * 9 + 32, ?_⟩
  refine ws_aload_n rfl rfl rfl (ws_iconst (x := 0) rfl rfl rfl (ws_putz rfl rfl (Or.inl rfl) rfl ?_))
  refine ws_aload_n rfl rfl rfl (ws_iconst (x := 0) rfl rfl rfl (ws_putz rfl rfl (Or.inl rfl) rfl ?_))
  refine ws_aload_n rfl rfl rfl (ws_bipush (x := 6) rfl rfl rfl (ws_puti rfl rfl rfl ?_))
  refine ws_aload_n rfl rfl rfl (ws_iconst (x := 0) rfl rfl rfl (ws_puti rfl rfl rfl ?_))
  refine ws_aload_n rfl rfl rfl (ws_iconst (x := 0) rfl rfl rfl (ws_puti rfl rfl rfl ?_))
  refine ws_aload_n rfl rfl rfl (ws_iconst (x := -1) rfl rfl rfl (ws_puti rfl rfl rfl ?_))
  refine ws_aload_n rfl rfl rfl (ws_iconst (x := 0) rfl rfl rfl (ws_puti rfl rfl rfl ?_))
  refine ws_aload_n rfl rfl rfl (ws_iconst (x := 0) rfl rfl rfl (ws_puti rfl rfl rfl ?_))
  refine ws_aload_n rfl rfl rfl (ws_iconst (x := 0) rfl rfl rfl (ws_puti rfl rfl rfl ?_))
  refine ws_aload_n rfl rfl rfl (ws_iconst (x := 0) rfl rfl rfl (ws_puti rfl rfl rfl ?_))
  refine ws_iconst (x := nI 0) rfl rfl rfl (ws_istore_n rfl rfl rfl rfl ?_)
  have hk := key 8 (3100 * 9) [(1, .int (nI 0)), (0, .ref 0)] [] S1 (by omega) ⟨0, rfl, rfl, rfl, by rw [rFill_0, stR_self]⟩
  rw [hS1] at hk
  exact hk
end YA

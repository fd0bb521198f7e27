/-! THE REFERENCE READS WHAT THE FUNCTION SAYS: E and M, all levels -/
section YA
variable {P : Option Value → mv_S → Prop} {S0 : mv_S} {fp : Int32} {n : Nat} {tk par : Nat → Int32} {mn : Bool} {p : Nat} {ws ms : List Int32} {hs : List (Option (Nat × Nat))} {td : List (Int32 × Int32 × Int32)}
theorem yEM_0 (hT : yTk S0 n tk par mn) : yEM P S0 fp n tk par 0 := by
  intro m p ws ms td hs x hb htd
  have hn := hT.2.1
  obtain ⟨hb1, hb2, hb3, hb4⟩ := hb
  by_cases c : cKind m (tk p)
  · refine yDn_err (v := -15) (q := p) (by rw [cEM, if_pos c]) (fun he => ?_)
    cases m
    · exact yRun_eD (k := 16) hT hb1 (by omega) (by omega) (by omega) c rfl he
    · exact yRun_mD (k := 16) hT hb1 (by omega) (by omega) (by omega) c rfl he
  · refine yDn_err (v := -11) (q := p) (by rw [cEM, if_neg c]) (fun he => ?_)
    cases m
    · exact yRun_eW (k := 16) hT hb1 (by omega) (by omega) (by omega) (by omega) c he
    · exact yRun_mW (k := 16) hT hb1 (by omega) (by omega) (by omega) (by omega) c he
theorem cEM_kind {mk m : Bool} {r b : Nat} (c : cKind m (tk p)) (h : ¬ (tk p = 30 ∨ tk p = 31)) : cEM n tk par mk (r + 1) m p b = cMark mk (fun p1 => if m then [] else [(false, p, p1)]) (cPlain n tk par (cEM n tk par mk r) p (b + mk.toNat)) := by
  rw [cEM, if_pos c, if_neg h]
theorem cEM_or {mk : Bool} {r b : Nat} (h : tk p = 30 ∨ tk p = 31) : cEM n tk par mk (r + 1) false p b = cMark mk (fun p1 => [(false, p, p1)]) (cEither (cEM n tk par mk r) (tk p) p (b + mk.toNat)) := by
  rw [cEM, if_pos (by rcases h with h | h <;> rw [h] <;> decide), if_pos h]
  rfl
theorem yEM_plain {r : Nat} (hT : yTk S0 n tk par mn) (hr : r < 16) (ih : yEM P S0 fp n tk par r) {B : Prop} (hp : p < n) (hb : yBd n p ws ms hs) (htd : td.length + 13 * (r + 1) ≤ 3000) (c : 22 ≤ tk p ∧ tk p ≤ 29 ∨ 32 ≤ tk p ∧ tk p ≤ 35 ∨ 42 ≤ tk p ∧ tk p ≤ 44) (hB : yRun P S0 0 fp (p + 1) ws (ms ++ [30]) (yPa (tk p) (nI (16 - r)) td) hs → B) : yDn P S0 fp (cPlain n tk par (cEM n tk par false r) p ws.length) (cPlain n tk par (cEM n tk par true r) p (ms.length + 1)) p ws (ms ++ [30]) hs td B := by
  have hn := hT.2.1
  have ht := hT.2.2.2.1
  obtain ⟨hb1, hb2, hb3, hb4⟩ := hb
  have hm : (tkMaps (tk p)).toNatClampNeg ≤ 2 ∧ (tkNums (tk p)).toNatClampNeg ≤ 2 := by
    rcases c with c | c | c
    · obtain ⟨j, ja, jb, e⟩ := tk_rng (a := 22) (b := 29) (by decide) (by decide) c.1 c.2
      have : j = 22 ∨ j = 23 ∨ j = 24 ∨ j = 25 ∨ j = 26 ∨ j = 27 ∨ j = 28 ∨ j = 29 := by omega
      rw [e]
      rcases this with rfl | rfl | rfl | rfl | rfl | rfl | rfl | rfl <;> decide
    · obtain ⟨j, ja, jb, e⟩ := tk_rng (a := 32) (b := 35) (by decide) (by decide) c.1 c.2
      have : j = 32 ∨ j = 33 ∨ j = 34 ∨ j = 35 := by omega
      rw [e]
      rcases this with rfl | rfl | rfl | rfl <;> decide
    · obtain ⟨j, ja, jb, e⟩ := tk_rng (a := 42) (b := 44) (by decide) (by decide) c.1 c.2
      have : j = 42 ∨ j = 43 ∨ j = 44 := by omega
      rw [e]
      rcases this with rfl | rfl | rfl <;> decide
  rw [cPlain_P c, cPlain_P c]
  have hb' : yBd n (p + 1) ws (ms ++ [30]) hs := ⟨hp, by omega, by simp; omega, by omega⟩
  have a := yParts (M := (tkMaps (tk p)).toNatClampNeg) (K := (tkNums (tk p)).toNatClampNeg) (td0 := (4, tkWord (tk p), 0) :: td) ht ih hb' (by simp; omega)
  have hl : ∀ m p b, p ≤ n → cLn n 8 p (cEM n tk par false r m p b) := fun m p b _ => cLs_ln (cEM_ls (mk := false) ht r m p b)
  have hl' : ∀ m p b, p ≤ n → cLn n 9 p (cEM n tk par true r m p b) := fun m p b _ => cLs_ln (cEM_ls (mk := true) ht r m p b)
  rw [List.length_append, List.length_singleton] at a
  have a2 := yDn_word a (by omega) (fun p1 l s e => by have := cParts_ln hl hp _ _ _ e; omega) (fun p1 l s e => by have := cParts_ln hl' hp _ _ _ e; simp; omega)
  have a3 := yDn_imp a2 hB
  exact ⟨a3.1, fun p1 l s l' s' e e' => by
    obtain ⟨h', hh, go⟩ := a3.2 p1 l s l' s' e e'
    exact ⟨h', by omega, go⟩⟩
theorem yEM_s {r : Nat} (hT : yTk S0 n tk par mn) (hr : r < 16) (ih : yEM P S0 fp n tk par r) : yEM P S0 fp n tk par (r + 1) := by
  intro m p ws ms td hs x hb htd
  have hn := hT.2.1
  have ht := hT.2.2.2.1
  have hb0 := hb
  obtain ⟨hb1, hb2, hb3, hb4⟩ := hb
  have ek : nI (16 - (r + 1)) + 1 = nI (16 - r) := by rw [nI_1]; congr 1; omega
  have hk : 16 - (r + 1) < 16 := by omega
  by_cases c : cKind m (tk p)
  · have hp := cKind_in ht c
    cases m
    · -- E
      by_cases t30 : tk p = 30 ∨ tk p = 31
      · show yDn _ _ _ _ _ _ _ _ _ _ _
        rw [cEM_or t30, cEM_or t30]
        refine yDn_mark ?_
        have a := yEither (t := tk p) (ms := ms ++ [30]) ht hn ih hp hb2 (by simp; omega) hb4 (td := td) (by omega)
        rw [List.length_append, List.length_singleton] at a
        refine yDn_imp a (fun z => ?_)
        rw [← ek] at z
        exact yRun_e30 hT hb1 (by omega) (by omega) (by omega) hk t30 z
      · show yDn _ _ _ _ _ _ _ _ _ _ _
        rw [cEM_kind c t30, cEM_kind c t30]
        refine yDn_mark ?_
        show yDn P S0 fp (cPlain n tk par (cEM n tk par false r) p ws.length) (cPlain n tk par (cEM n tk par true r) p (ms.length + 1)) p ws (ms ++ [30]) hs td _
        by_cases t20 : tk p = 20
        · rw [cPlain_20 t20, cPlain_20 t20]
          by_cases hq : p + 1 < n
          · rw [if_pos hq]
            refine yDn_ok rfl rfl [] (by simp; omega) (fun z => ?_)
            refine yRun_e20 hT hb1 (by omega) (by omega) (by omega) hk t20 hq ?_
            simpa using z
          · rw [if_neg hq]
            exact yDn_err rfl (fun he => yRun_f20 hT hb1 (by omega) (by omega) (by omega) hk t20 hq he)
        by_cases t21 : tk p = 21
        · rw [cPlain_21 t21, cPlain_21 t21]
          match hq : cBare n tk 14 (p + 1) with
          | .error (v, q) => exact yDn_err rfl (fun he => yRun_f21 hT hb1 (by omega) (by omega) (by omega) hk t21 hq (cBare_er hq) he)
          | .ok q =>
            obtain rfl := (cBare_ok hq).1
            refine yDn_ok rfl rfl [] (by simp; omega) (fun z => ?_)
            refine yRun_e21 hT hb1 (by omega) (by omega) (by omega) hk t21 hq ?_
            simpa using z
        by_cases t36 : tk p = 36
        · rw [cPlain_call (Or.inr t36), cPlain_call (Or.inr t36)]
          match hq : cKnown n tk par (p + 1) with
          | .error (v, q) => exact yDn_err rfl (fun he => yRun_f36 hT hb1 (by omega) (by omega) (by omega) hk t36 hq (cKnown_er hq) he)
          | .ok q =>
            have hq2 := cKnown_ok ht hq
            obtain rfl := hq2.1
            have hK : (cPar par (tk (p + 1))).toNatClampNeg ≤ 3 := by
              unfold cPar
              rw [if_pos hq2.2.2]
              obtain ⟨f, hf, e⟩ := nI_of (Int32.not_lt.mpr hq2.2.2.1)
              have hf8 : f < 8 := by
                have := hq2.2.2.2.1
                rw [e] at this
                exact (nI_ltI (b := 8) hf (by decide)).mp this
              have ef : (tk (p + 1)).toNatClampNeg = f := by rw [e, nI_clamp hf]
              have hpf := hq2.2.2.2.2
              rw [ef] at hpf ⊢
              have := ((hT.2.2.2.2.1 f hf8).2 hpf).2.2.2
              exact (clampI (i := 3) (by decide)).mp this
            have hb' : yBd n (p + 2) ws (ms ++ [30]) hs := ⟨by omega, by omega, by simp; omega, by omega⟩
            have a := yMany (x := 0) ht ih false (cPar par (tk (p + 1))).toNatClampNeg (p + 2) ws (ms ++ [30]) ((4, 16, 0) :: (4, tk (p + 1), 0) :: td) hs hb' (by simp; omega)
            have hl : ∀ m p b, p ≤ n → cLn n 8 p (cEM n tk par false r m p b) := fun m p b _ => cLs_ln (cEM_ls (mk := false) ht r m p b)
            have hl' : ∀ m p b, p ≤ n → cLn n 9 p (cEM n tk par true r m p b) := fun m p b _ => cLs_ln (cEM_ls (mk := true) ht r m p b)
            rw [List.length_append, List.length_singleton] at a
            have a2 := yDn_word (w := 16) a (by simp; omega) (fun p1 l s e => by have := cLn_many (hl false) _ (p + 2) _ (by omega) _ _ _ e; omega) (fun p1 l s e => by have := cLn_many (hl' false) _ (p + 2) _ (by omega) _ _ _ e; simp; omega)
            have a3 := yDn_word (w := tk (p + 1)) a2 (by omega) (fun p1 l s e => by
              obtain ⟨l0, e0, rfl⟩ := cApp_ok e
              have := cLn_many (hl false) _ (p + 2) _ (by omega) _ _ _ e0
              simp; omega) (fun p1 l s e => by
              obtain ⟨l0, e0, rfl⟩ := cApp_ok e
              have := cLn_many (hl' false) _ (p + 2) _ (by omega) _ _ _ e0
              simp; omega)
            rw [cApp_app, cApp_app] at a3
            have a4 := yDn_imp a3 (B := yRun P S0 0 fp p ws ms ((yKd false, x, nI (16 - (r + 1))) :: td) hs) (fun z => by
              refine yRun_e36 hT hb1 (by omega) (by omega) (by omega) hk t36 hq ?_
              rw [ek]
              exact z)
            exact ⟨a4.1, fun p1 l s l' s' e e' => by
              obtain ⟨h', hh, go⟩ := a4.2 p1 l s l' s' e e'
              exact ⟨h', by omega, go⟩⟩
        have cr : 22 ≤ tk p ∧ tk p ≤ 29 ∨ 32 ≤ tk p ∧ tk p ≤ 35 := by
          obtain ⟨j, ja, jb, e⟩ := tk_rng (a := 20) (b := 36) (by decide) (by decide) c.1 c.2
          have n1 : j ≠ 20 := fun z => t20 (by rw [e, z]; rfl)
          have n2 : j ≠ 21 := fun z => t21 (by rw [e, z]; rfl)
          have n3 : j ≠ 30 := fun z => t30 (Or.inl (by rw [e, z]; rfl))
          have n4 : j ≠ 31 := fun z => t30 (Or.inr (by rw [e, z]; rfl))
          have n5 : j ≠ 36 := fun z => t36 (by rw [e, z]; rfl)
          rw [e]
          by_cases z : j ≤ 29
          · exact Or.inl ⟨nI_le (a := 22) (by omega) (by omega), nI_le (b := 29) z (by decide)⟩
          · exact Or.inr ⟨nI_le (a := 32) (by omega) (by omega), nI_le (b := 35) (by omega) (by decide)⟩
        refine yEM_plain hT hr ih hp hb0 htd (cr.elim Or.inl (fun z => Or.inr (Or.inl z))) (fun z => ?_)
        rw [← ek] at z
        exact yRun_eP hT hb1 (by omega) (by omega) (by omega) hk cr z
    · -- M
      have t30 : ¬ (tk p = 30 ∨ tk p = 31) := by
        intro z
        have c1 : 40 ≤ tk p := c.1
        rcases z with z | z <;> rw [z] at c1 <;> exact absurd c1 (by decide)
      show yDn _ _ _ _ _ _ _ _ _ _ _
      rw [cEM_kind c t30, cEM_kind c t30]
      refine yDn_mark ?_
      show yDn P S0 fp (cPlain n tk par (cEM n tk par false r) p ws.length) (cPlain n tk par (cEM n tk par true r) p (ms.length + 1)) p ws (ms ++ [30]) hs td _
      by_cases t40 : tk p = 40
      · rw [cPlain_40 t40, cPlain_40 t40]
        match hq : cBare n tk 6 (p + 1) with
        | .error (v, q) => exact yDn_err rfl (fun he => yRun_f40 hT hb1 (by omega) (by omega) (by omega) hk t40 hq (cBare_er hq) he)
        | .ok q =>
          obtain rfl := (cBare_ok hq).1
          refine yDn_ok rfl rfl [] (by simp; omega) (fun z => ?_)
          refine yRun_m40 hT hb1 (by omega) (by omega) (by omega) hk t40 hq ?_
          simpa using z
      by_cases t41 : tk p = 41
      · rw [cPlain_41 t41, cPlain_41 t41]
        refine yDn_ok rfl rfl [] (by simp; omega) (fun z => ?_)
        refine yRun_m41 hT hb1 (by omega) (by omega) (by omega) hk t41 ?_
        simpa using z
      have cr : 42 ≤ tk p ∧ tk p ≤ 44 := by
        obtain ⟨j, ja, jb, e⟩ := tk_rng (a := 40) (b := 44) (by decide) (by decide) c.1 c.2
        have n1 : j ≠ 40 := fun z => t40 (by rw [e, z]; rfl)
        have n2 : j ≠ 41 := fun z => t41 (by rw [e, z]; rfl)
        rw [e]
        exact ⟨nI_le (a := 42) (by omega) (by omega), nI_le (b := 44) jb (by decide)⟩
      refine yEM_plain hT hr ih hp hb0 htd (Or.inr (Or.inr cr)) (fun z => ?_)
      rw [← ek] at z
      exact yRun_mP hT hb1 (by omega) (by omega) (by omega) hk cr z
  · refine yDn_err (v := -11) (q := p) (by rw [cEM, if_neg c]) (fun he => ?_)
    cases m
    · exact yRun_eW hT hb1 (by omega) (by omega) (by omega) (by omega) c he
    · exact yRun_mW hT hb1 (by omega) (by omega) (by omega) (by omega) c he
theorem yEM_all (hT : yTk S0 n tk par mn) : ∀ r, r ≤ 16 → yEM P S0 fp n tk par r := by
  intro r
  induction r with
  | zero => exact fun _ => yEM_0 hT
  | succ r ih => exact fun h => yEM_s hT (by omega) (ih (by omega))
end YA

/-! THE REFERENCE READS: an expression, a map -/
theorem tk_rng {t : Int32} {a b : Nat} (ha : a < 2 ^ 31) (hb : b < 2 ^ 31) (h1 : nI a ≤ t) (h2 : t ≤ nI b) : ∃ j, a ≤ j ∧ j ≤ b ∧ t = nI j := by
  obtain ⟨j, hj, rfl⟩ := nI_of (x := t) (Int32.not_lt.mpr (Int32.le_trans (nI_pos' ha) h1))
  exact ⟨j, (nI_leI ha hj).mp h1, (nI_leI hj hb).mp h2, rfl⟩
theorem tkA_22 {t : Int32} (h1 : 22 ≤ t) (h2 : t ≤ 28) : tkWord t = t - 18 ∧ tkNums t = 2 ∧ tkMaps t = 0 ∧ tkArg t = 0 := by
  obtain ⟨j, a, b, rfl⟩ := tk_rng (a := 22) (b := 28) (by decide) (by decide) h1 h2
  have : j = 22 ∨ j = 23 ∨ j = 24 ∨ j = 25 ∨ j = 26 ∨ j = 27 ∨ j = 28 := by omega
  rcases this with rfl | rfl | rfl | rfl | rfl | rfl | rfl <;> decide
theorem tkA_32 {t : Int32} (h1 : 32 ≤ t) (h2 : t ≤ 35) : tkWord t = t - 7 ∧ tkNums t = (if t = 34 then 0 else if t = 35 then 2 else 1) ∧ tkMaps t = 1 ∧ tkArg t = 0 := by
  obtain ⟨j, a, b, rfl⟩ := tk_rng (a := 32) (b := 35) (by decide) (by decide) h1 h2
  have : j = 32 ∨ j = 33 ∨ j = 34 ∨ j = 35 := by omega
  rcases this with rfl | rfl | rfl | rfl <;> decide
theorem tkA_42 {t : Int32} (h1 : 42 ≤ t) (h2 : t ≤ 44) : tkWord t = t - 20 ∧ tkNums t = (if t = 42 then 2 else if t = 43 then 1 else 0) ∧ tkMaps t = (if t = 44 then 2 else 1) ∧ tkArg t = 0 := by
  obtain ⟨j, a, b, rfl⟩ := tk_rng (a := 42) (b := 44) (by decide) (by decide) h1 h2
  have : j = 42 ∨ j = 43 ∨ j = 44 := by omega
  rcases this with rfl | rfl | rfl <;> decide
/-- the parts of a plain token, to do -/
def yPa (t : Int32) (k : Int32) (td : List (Int32 × Int32 × Int32)) : List (Int32 × Int32 × Int32) := List.replicate (tkMaps t).toNatClampNeg (3, 0, k) ++ (List.replicate (tkNums t).toNatClampNeg (2, 0, k) ++ (4, tkWord t, 0) :: td)
section YA
variable {d : Nat} {P : Option Value → mv_S → Prop} {S0 S : mv_S} {w fp : Int32} {n p : Nat} {tk par : Nat → Int32} {mn : Bool} {ws ms : List Int32} {td : List (Int32 × Int32 × Int32)} {hs : List (Option (Nat × Nat))}
set_option maxRecDepth 4000 in
theorem y_readExpression {k : Nat} (hT : yTk S0 n tk par mn) (h : yAt S0 S 0 fp p ws ms td hs) (hp : p ≤ n) (hk : k ≤ 16) (b1 : ws.length + 2 ≤ 6000) (b2 : ms.length + 3 ≤ 8000) (b3 : td.length + 12 ≤ 4000)
    (e1 : ¬ cKind false (tk p) → ∀ S', yAt S0 S' (-11) (nI p) p ws ms td hs → P none S')
    (e2 : cKind false (tk p) → 16 ≤ k → ∀ S', yAt S0 S' (-15) (nI p) p ws ms td hs → P none S')
    (o20 : k < 16 → tk p = 20 → p + 1 < n → ∀ S', yAt S0 S' 0 fp (p + 2) (ws ++ [1] ++ [tk (p + 1)]) (ms ++ [30] ++ [1] ++ [tk (p + 1)]) td hs → P none S')
    (e20 : k < 16 → tk p = 20 → ¬ p + 1 < n → ∀ S', yAt S0 S' (-11) (nI (p + 1)) (p + 1) ws (ms ++ [30]) td hs → P none S')
    (o21 : k < 16 → tk p = 21 → cBare n tk 14 (p + 1) = .ok (p + 2) → ∀ S', yAt S0 S' 0 fp (p + 2) (ws ++ [2] ++ [tk (p + 1)]) (ms ++ [30] ++ [2] ++ [tk (p + 1)]) td hs → P none S')
    (e21 : k < 16 → tk p = 21 → ∀ v q, cBare n tk 14 (p + 1) = .error (v, q) → v ≠ 0 → ∀ S' ws' ms', yAt S0 S' v (nI q) (p + 1) ws' ms' td hs → P none S')
    (oP : k < 16 → (22 ≤ tk p ∧ tk p ≤ 29 ∨ 32 ≤ tk p ∧ tk p ≤ 35) → ∀ S', yAt S0 S' 0 fp (p + 1) ws (ms ++ [30]) (yPa (tk p) (nI k + 1) td) hs → P none S')
    (o30 : k < 16 → (tk p = 30 ∨ tk p = 31) → ∀ S', yAt S0 S' 0 fp (p + 1) ws (ms ++ [30]) (yEiT (tk p) (nI k + 1) hs.length td) (hs ++ [none] ++ [none]) → P none S')
    (e36 : k < 16 → tk p = 36 → ∀ v q, cKnown n tk par (p + 1) = .error (v, q) → v ≠ 0 → ∀ S', yAt S0 S' v (nI q) (p + 1) ws (ms ++ [30]) td hs → P none S')
    (o36 : k < 16 → tk p = 36 → cKnown n tk par (p + 1) = .ok (p + 2) → ∀ S', yAt S0 S' 0 fp (p + 2) ws (ms ++ [30]) (List.replicate (cPar par (tk (p + 1))).toNatClampNeg (2, 0, nI k + 1) ++ (4, 16, 0) :: (4, tk (p + 1), 0) :: td) hs → P none S') : mv_big layY sysY (d + 5) 21 [.ref 0, .int (nI k)] S P := by
  have hn := hT.2.1
  refine ⟨200, ?_⟩
  refine y_tokenA hT h (by omega) ?_
  refine ⟨fun c => ?_, fun c => ?_⟩
  · have c : S.1 0 2 = S.1 0 1 := c
    rw [h.2.2.1, yTk_n hT h, nI_eq (by omega) (by omega)] at c
    refine y_wrongA (v := -11) h (fun S' h' => e1 (fun z => ?_) S' h')
    have := cKind_in hT.2.2.2.1 z
    omega
  have c : ¬ S.1 0 2 = S.1 0 1 := c
  rw [h.2.2.1, yTk_n hT h, nI_eq (by omega) (by omega)] at c
  have hlt : p < n := by omega
  refine y_in (fun c2 => ?_) (fun c2 => ?_)
  · have c2 : ¬ cKind false (tk p) := c2
    refine ⟨fun z => absurd rfl z, fun _ => ?_⟩
    exact y_wrongA (v := -11) h (fun S' h' => e1 c2 S' h')
  have c2 : cKind false (tk p) := c2
  have c20 : 20 ≤ tk p := c2.1
  have c36 : tk p ≤ 36 := c2.2
  refine ⟨fun _ => ?_, fun z => absurd (show (1 : Int32) = 0 from z) (by decide)⟩
  refine y_isDeepA h (by omega) (fun S' g h' => ?_) (fun hk16 => ?_)
  · exact ⟨fun z => absurd (show (1 : Int32) = 0 from z) (by decide), fun _ => e2 c2 g S' h'⟩
  refine ⟨fun _ => ?_, fun z => absurd rfl z⟩
  have h1 := yAt_next h
  refine y_markA h1 (by omega) (fun S2 h2 => ?_)
  have b2' : (ms ++ [(30 : Int32)]).length = ms.length + 1 := by simp
  refine ⟨fun n20 => ?_, fun t20 => ?_⟩
  · have n20 : ¬ tk p = 20 := n20
    refine ⟨fun n21 => ?_, fun t21 => ?_⟩
    · have n21 : ¬ tk p = 21 := n21
      have g22 : 22 ≤ tk p := by
        obtain ⟨j, a, b, e⟩ := tk_rng (a := 20) (b := 36) (by decide) (by decide) c20 c36
        have : j ≠ 20 := fun z => n20 (by rw [e, z]; rfl)
        have : j ≠ 21 := fun z => n21 (by rw [e, z]; rfl)
        rw [e]; exact nI_le (a := 22) (by omega) (by omega)
      refine ⟨fun g30 => ?_, fun l30 => ?_⟩
      · have g30 : 30 ≤ tk p := g30
        refine ⟨fun g32 => ?_, fun l32 => ?_⟩
        · have g32 : 32 ≤ tk p := g32
          refine ⟨fun g36 => ?_, fun l36 => ?_⟩
          · have g36 : 36 ≤ tk p := g36
            have t36 : tk p = 36 := Int32.le_antisymm c36 g36
            refine y_readCall hT h2 (by omega) (by omega) (fun v q S3 a1 a2 h3 => e36 hk16 t36 v q a1 a2 S3 h3) (fun S3 a1 h3 => o36 hk16 t36 a1 S3 h3)
          · have l36 : ¬ 36 ≤ tk p := l36
            have l35 : tk p ≤ 35 := by
              obtain ⟨j, a, b, e⟩ := tk_rng (a := 32) (b := 36) (by decide) (by decide) g32 c36
              rw [e] at l36 ⊢
              have : ¬ 36 ≤ j := fun z => l36 (nI_le (a := 36) z (by omega))
              exact nI_le (b := 35) (by omega) (by decide)
            have ta := tkA_32 g32 l35
            refine y_laterA (a := 4) (b := tk p - 7) (c := 0) h2 (by omega) (fun S3 h3 => ?_)
            have fin : ∀ S4, yAt S0 S4 0 fp (p + 1) ws (ms ++ [30]) ((3, 0, nI k + 1) :: (List.replicate (tkNums (tk p)).toNatClampNeg (2, 0, nI k + 1) ++ (4, tk p - 7, 0) :: td)) hs → P none S4 := by
              intro S4 h4
              refine oP hk16 (Or.inr ⟨g32, l35⟩) S4 ?_
              unfold yPa
              rw [ta.1, ta.2.2.1]
              exact h4
            rw [ta.2.1] at fin
            by_cases t34 : tk p = 34
            · rw [if_pos t34] at fin
              refine ⟨fun z => absurd t34 z, fun _ => ⟨fun _ => ?_, fun z => absurd (show (0 : Int32) ≤ 0 by decide) z⟩⟩
              exact y_laterA (a := 3) (b := 0) (c := nI k + 1) h3 (by simp; omega) (fun S4 h4 => fin S4 h4)
            · rw [if_neg t34] at fin
              by_cases t35 : tk p = 35
              · rw [if_pos t35] at fin
                refine ⟨fun _ => ⟨fun z => absurd t35 z, fun _ => ⟨fun z => absurd (show (2 : Int32) ≤ 0 from z) (by decide), fun _ => ?_⟩⟩, fun z => absurd z t34⟩
                refine y_laterA (a := 2) (b := 0) (c := nI k + 1) h3 (by simp; omega) (fun S4 h4 => ?_)
                refine ⟨fun _ => ⟨fun z => absurd t35 z, fun _ => ⟨fun z => absurd (show (2 : Int32) ≤ 1 from z) (by decide), fun _ => ?_⟩⟩, fun z => absurd z t34⟩
                refine y_laterA (a := 2) (b := 0) (c := nI k + 1) h4 (by simp; omega) (fun S5 h5 => ?_)
                refine ⟨fun _ => ⟨fun z => absurd t35 z, fun _ => ⟨fun _ => ?_, fun z => absurd (show (2 : Int32) ≤ 2 by decide) z⟩⟩, fun z => absurd z t34⟩
                exact y_laterA (a := 3) (b := 0) (c := nI k + 1) h5 (by simp; omega) (fun S6 h6 => fin S6 h6)
              · rw [if_neg t35] at fin
                refine ⟨fun _ => ⟨fun _ => ⟨fun z => absurd (show (1 : Int32) ≤ 0 from z) (by decide), fun _ => ?_⟩, fun z => absurd z t35⟩, fun z => absurd z t34⟩
                refine y_laterA (a := 2) (b := 0) (c := nI k + 1) h3 (by simp; omega) (fun S4 h4 => ?_)
                refine ⟨fun _ => ⟨fun _ => ⟨fun _ => ?_, fun z => absurd (show (1 : Int32) ≤ 1 by decide) z⟩, fun z => absurd z t35⟩, fun z => absurd z t34⟩
                exact y_laterA (a := 3) (b := 0) (c := nI k + 1) h4 (by simp; omega) (fun S5 h5 => fin S5 h5)
        · have l32 : ¬ 32 ≤ tk p := l32
          have t30 : tk p = 30 ∨ tk p = 31 := by
            obtain ⟨j, a, b, e⟩ := tk_rng (a := 30) (b := 36) (by decide) (by decide) g30 c36
            rw [e] at l32 ⊢
            have : ¬ 32 ≤ j := fun z => l32 (nI_le (a := 32) z (by omega))
            have : j = 30 ∨ j = 31 := by omega
            rcases this with rfl | rfl
            · exact Or.inl rfl
            · exact Or.inr rfl
          exact y_readEither h2 (by omega) (fun S3 h3 => o30 hk16 t30 S3 h3)
      · have l30 : ¬ 30 ≤ tk p := l30
        refine y_laterA (a := 4) (b := tk p - 18) (c := 0) h2 (by omega) (fun S3 h3 => ?_)
        refine y_laterA (a := 2) (b := 0) (c := nI k + 1) h3 (by simp; omega) (fun S4 h4 => ?_)
        refine ⟨fun g29 => ?_, fun l29 => ?_⟩
        · have g29 : 29 ≤ tk p := g29
          have t29 : tk p = 29 := by
            obtain ⟨j, a, b, e⟩ := tk_rng (a := 29) (b := 36) (by decide) (by decide) g29 c36
            rw [e] at l30 ⊢
            have : ¬ 30 ≤ j := fun z => l30 (nI_le (a := 30) z (by omega))
            have : j = 29 := by omega
            rw [this]; rfl
          refine oP hk16 (Or.inl ⟨g22, by rw [t29]; decide⟩) S4 ?_
          rw [t29] at h4 ⊢
          exact h4
        · have l29 : ¬ 29 ≤ tk p := l29
          have l28 : tk p ≤ 28 := by
            obtain ⟨j, a, b, e⟩ := tk_rng (a := 22) (b := 36) (by decide) (by decide) g22 c36
            rw [e] at l29 ⊢
            have : ¬ 29 ≤ j := fun z => l29 (nI_le (a := 29) z (by omega))
            exact nI_le (b := 28) (by omega) (by decide)
          have ta := tkA_22 g22 l28
          refine y_laterA (a := 2) (b := 0) (c := nI k + 1) h4 (by simp; omega) (fun S5 h5 => oP hk16 (Or.inl ⟨g22, Int32.le_trans l28 (by decide)⟩) S5 ?_)
          unfold yPa
          rw [ta.1, ta.2.1, ta.2.2.1]
          exact h5
    · have t21 : tk p = 21 := t21
      refine y_numberA (m := 14) hT h2 (by omega) (by decide) (by decide) (fun v q S3 a1 a2 a3 h3 => ?_) (fun S3 a1 h3 => ?_)
      · refine y_layA (x := 2) h3 (by omega) (by omega) (fun S4 h4 => ?_)
        exact y_layA (x := tk (p + 1)) h4 (by simp; omega) (by simp; omega) (fun S5 h5 => e21 hk16 t21 v q a1 a2 S5 _ _ h5)
      · refine y_layA (x := 2) h3 (by omega) (by omega) (fun S4 h4 => ?_)
        exact y_layA (x := tk (p + 1)) h4 (by simp; omega) (by simp; omega) (fun S5 h5 => o21 hk16 t21 a1 S5 h5)
  · have t20 : tk p = 20 := t20
    refine ⟨fun z => ?_, fun z => ?_⟩
    · have z : ¬ S2.1 0 2 = S2.1 0 1 := z
      rw [h2.2.2.1, yTk_n hT h2, nI_eq (by omega) (by omega)] at z
      have hlt1 : p + 1 < n := by omega
      refine y_layA (x := 1) h2 (by omega) (by omega) (fun S3 h3 => ?_)
      have e3 : (S3.1 0 2).toNatClampNeg = p + 1 := by rw [h3.2.2.1, nI_clamp (by omega)]
      have e4 : S3.2.1 1 (S3.1 0 2).toNatClampNeg = tk (p + 1) := by
        rw [e3, h3.2.2.2.2.2.2.2.2.1 1 (p + 1) (by decide) (by decide) (by decide)]
        exact hT.2.2.1 (p + 1) hlt1
      refine ⟨?_, ?_⟩
      · show vp_in (S3.1 0 2) 700
        rw [h3.2.2.1]; exact vp_in_nI (by omega) (by decide)
      · refine y_layA (x := S3.2.1 1 (S3.1 0 2).toNatClampNeg) h3 (by simp; omega) (by simp; omega) (fun S4 h4 => ?_)
        rw [e4] at h4
        exact o20 hk16 t20 hlt1 _ (yAt_next h4)
    · have z : S2.1 0 2 = S2.1 0 1 := z
      rw [h2.2.2.1, yTk_n hT h2, nI_eq (by omega) (by omega)] at z
      exact y_wrongA (v := -11) h2 (fun S3 h3 => e20 hk16 t20 (by omega) S3 h3)
end YA

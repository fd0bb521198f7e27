/-! THE REFERENCE READS: statements -/
section YA
variable {d : Nat} {P : Option Value → mv_S → Prop} {S0 S : mv_S} {w fp : Int32} {n p : Nat} {tk par : Nat → Int32} {mn : Bool} {ws ms : List Int32} {td : List (Int32 × Int32 × Int32)} {hs : List (Option (Nat × Nat))}
theorem y_readStatements0 {k : Nat} (hT : yTk S0 n tk par mn) (h : yAt S0 S 0 fp p ws ms td hs) (hp : p ≤ n) (hk : k ≤ 16) (b1 : ws.length + 2 ≤ 6000) (b2 : ms.length + 3 ≤ 8000) (b3 : td.length + 3 ≤ 4000)
    (oz : tk p = 0 → ∀ S', yAt S0 S' 0 fp (p + 1) ws ms td hs → P none S')
    (e1 : ¬ tk p = 0 → ¬ cIsS (tk p) → ∀ S', yAt S0 S' (-11) (nI p) p ws ms td hs → P none S')
    (e2 : cIsS (tk p) → 16 ≤ k → ∀ S', yAt S0 S' (-15) (nI p) p ws ms td hs → P none S')
    (oS : cIsS (tk p) → k < 16 → ∀ S' Q, yAt S0 S' 0 fp (p + 1) ws (ms ++ [30]) ((0, -1, nI k) :: td) hs → (∀ S'', P none S'' → Q none S'') → mv_big layY sysY (d + 6) 18 [.ref 0, .int (tk p), .int (nI k + 1)] S' Q) : mv_big layY sysY (d + 7) 17 [.ref 0, .int (nI k), .int (-1)] S P := by
  have hn := hT.2.1
  refine ⟨160, ?_⟩
  refine y_tokenA hT h (by omega) ?_
  have ea : S.1 0 2 = nI p := h.2.2.1
  have en : S.1 0 1 = nI n := yTk_n hT h
  by_cases hlt : p < n
  · have l1 : ¬ S.1 0 1 ≤ S.1 0 2 := by rw [ea, en, nI_leI (by omega) (by omega)]; omega
    have l2 : ¬ S.1 0 2 = S.1 0 1 := by rw [ea, en, nI_eq (by omega) (by omega)]; omega
    refine ⟨fun z => absurd z l1, fun _ => ⟨fun n0 => ?_, fun t0 => ?_⟩⟩
    · have n0 : ¬ tk p = 0 := n0
      have rest : ∀ F, 120 ≤ F → mv_wp layY sysY tT11 5 none mX11_readStatements.2.2.2.2.2.2.2 (mv_big layY sysY (d + 6)) P F 110 [(3, .int (tk p)), (0, .ref 0), (1, .int (nI k)), (2, .int (-1))] [] S := by
        intro F hF
        refine mv_fuel (n := 120) hF ?_
        refine ⟨fun z => absurd z l2, fun _ => ?_⟩
        refine y_in (fun c => ?_) (fun c => ?_)
        · have c : ¬ (1 ≤ tk p ∧ tk p ≤ 9) := c
          refine ⟨fun _ => ?_, fun z => absurd rfl z⟩
          exact y_wrongA (v := -11) h (fun S' h' => e1 n0 (fun z => c ⟨z.1, z.2.1⟩) S' h')
        · have c : 1 ≤ tk p ∧ tk p ≤ 9 := c
          refine ⟨fun z => absurd (show (1 : Int32) = 0 from z) (by decide), fun _ => ⟨fun n4 => ?_, fun t4 => ?_⟩⟩
          · have n4 : ¬ tk p = 4 := n4
            have hs : cIsS (tk p) := ⟨c.1, c.2, n4⟩
            refine y_isDeepA h (by omega) (fun S' g h' => ?_) (fun hk16 => ?_)
            · exact ⟨fun z => absurd (show (1 : Int32) = 0 from z) (by decide), fun _ => e2 hs g S' h'⟩
            refine ⟨fun _ => ?_, fun z => absurd rfl z⟩
            refine y_markA (yAt_next h) (by omega) (fun S2 h2 => ?_)
            refine ⟨fun _ => ?_, fun z => absurd (show (-1 : Int32) < 0 by decide) z⟩
            refine y_laterA (a := 0) (b := -1) (c := nI k) h2 (by omega) (fun S3 h3 => ?_)
            exact oS hs hk16 S3 _ h3 (fun S'' z => z)
          · have t4 : tk p = 4 := t4
            exact y_wrongA (v := -11) h (fun S' h' => e1 n0 (fun z => z.2.2 t4) S' h')
      refine ⟨fun z => absurd z l1, fun _ => ⟨fun n4 => ?_, fun t4 => ?_⟩⟩
      · have n4 : ¬ tk p = 4 := n4
        exact rest _ (by decide)
      · have t4 : tk p = 4 := t4
        exact ⟨fun _ => rest _ (by decide), fun z => absurd (show (-1 : Int32) < 0 by decide) z⟩
    · have t0 : tk p = 0 := t0
      exact ⟨fun _ => oz t0 _ (yAt_next h), fun z => absurd (show (-1 : Int32) < 0 by decide) z⟩
  · have hpn : p = n := by omega
    have tm : tk p = -1 := hT.2.2.2.1 p (by omega)
    have l1 : S.1 0 1 ≤ S.1 0 2 := by rw [ea, en, nI_leI (by omega) (by omega)]; omega
    have l2 : S.1 0 2 = S.1 0 1 := by rw [ea, en, nI_eq (by omega) (by omega)]; omega
    refine ⟨fun _ => ⟨fun _ => ⟨fun _ => ?_, fun z => absurd l2 z⟩, fun z => absurd l1 z⟩, fun z => absurd l1 z⟩
    exact y_wrongA (v := -11) h (fun S' h' => e1 (by rw [tm]; decide) (by rw [tm]; decide) S' h')
theorem y_readStatements1 {k q a c : Nat} (hT : yTk S0 n tk par mn) (h : yAt S0 S 0 fp p ws ms td hs) (hp : p ≤ n) (hk : k ≤ 16) (b1 : ws.length + 2 ≤ 6000) (b2 : ms.length + 3 ≤ 8000) (b3 : td.length + 3 ≤ 4000) (b4 : hs.length < 2000) (hq : hs[q]? = some (some (a, c))) (ba : a < 6000) (bc : c < 8000)
    (oz : tk p = 0 → ∀ S', yAt S0 S' 0 fp (p + 1) (ws.set a (nI ws.length)) (ms.set c (nI ms.length)) td hs → P none S')
    (o4 : tk p = 4 → ∀ S', yAt S0 S' 0 fp (p + 1) ((ws ++ [12] ++ [0]).set a (nI (ws ++ [12] ++ [0]).length)) ((ms ++ [12] ++ [0]).set c (nI (ms ++ [12] ++ [0]).length)) ((0, 0, nI k) :: (6, nI hs.length, 0) :: td) (hs ++ [some (ws.length + 1, ms.length + 1)]) → P none S')
    (e1 : ¬ tk p = 0 → ¬ tk p = 4 → ¬ cIsS (tk p) → ∀ S', yAt S0 S' (-11) (nI p) p ws ms td hs → P none S')
    (e2 : cIsS (tk p) → 16 ≤ k → ∀ S', yAt S0 S' (-15) (nI p) p ws ms td hs → P none S')
    (oS : cIsS (tk p) → k < 16 → ∀ S' Q, yAt S0 S' 0 fp (p + 1) ws (ms ++ [30]) ((1, nI q, nI k) :: td) hs → (∀ S'', P none S'' → Q none S'') → mv_big layY sysY (d + 6) 18 [.ref 0, .int (tk p), .int (nI k + 1)] S' Q) : mv_big layY sysY (d + 7) 17 [.ref 0, .int (nI k), .int (nI q)] S P := by
  have hn := hT.2.1
  have hql : q < hs.length := (List.getElem?_eq_some_iff.mp hq).1
  refine ⟨160, ?_⟩
  refine y_tokenA hT h (by omega) ?_
  have ea : S.1 0 2 = nI p := h.2.2.1
  have en : S.1 0 1 = nI n := yTk_n hT h
  by_cases hlt : p < n
  · have l1 : ¬ S.1 0 1 ≤ S.1 0 2 := by rw [ea, en, nI_leI (by omega) (by omega)]; omega
    have l2 : ¬ S.1 0 2 = S.1 0 1 := by rw [ea, en, nI_eq (by omega) (by omega)]; omega
    refine ⟨fun z => absurd z l1, fun _ => ⟨fun n0 => ?_, fun t0 => ?_⟩⟩
    · have n0 : ¬ tk p = 0 := n0
      have rest : ∀ F, 120 ≤ F → ¬ tk p = 4 → mv_wp layY sysY tT11 5 none mX11_readStatements.2.2.2.2.2.2.2 (mv_big layY sysY (d + 6)) P F 110 [(3, .int (tk p)), (0, .ref 0), (1, .int (nI k)), (2, .int (nI q))] [] S := by
        intro F hF n4a
        refine mv_fuel (n := 120) hF ?_
        refine ⟨fun z => absurd z l2, fun _ => ?_⟩
        refine y_in (fun c => ?_) (fun c => ?_)
        · have c : ¬ (1 ≤ tk p ∧ tk p ≤ 9) := c
          refine ⟨fun _ => ?_, fun z => absurd rfl z⟩
          exact y_wrongA (v := -11) h (fun S' h' => e1 n0 n4a (fun z => c ⟨z.1, z.2.1⟩) S' h')
        · have c : 1 ≤ tk p ∧ tk p ≤ 9 := c
          refine ⟨fun z => absurd (show (1 : Int32) = 0 from z) (by decide), fun _ => ⟨fun n4 => ?_, fun t4 => ?_⟩⟩
          · have n4 : ¬ tk p = 4 := n4
            have hs : cIsS (tk p) := ⟨c.1, c.2, n4⟩
            refine y_isDeepA h (by omega) (fun S' g h' => ?_) (fun hk16 => ?_)
            · exact ⟨fun z => absurd (show (1 : Int32) = 0 from z) (by decide), fun _ => e2 hs g S' h'⟩
            refine ⟨fun _ => ?_, fun z => absurd rfl z⟩
            refine y_markA (yAt_next h) (by omega) (fun S2 h2 => ?_)
            refine ⟨fun z => absurd z (nI_pos (by omega)), fun _ => ?_⟩
            refine y_laterA (a := 1) (b := nI q) (c := nI k) h2 (by omega) (fun S3 h3 => ?_)
            exact oS hs hk16 S3 _ h3 (fun S'' z => z)
          · have t4 : tk p = 4 := t4
            exact absurd t4 n4a
      refine ⟨fun z => absurd z l1, fun _ => ⟨fun n4 => ?_, fun t4 => ?_⟩⟩
      · have n4 : ¬ tk p = 4 := n4
        exact rest _ (by decide) n4
      · have t4 : tk p = 4 := t4
        refine ⟨fun z => absurd z (nI_pos (by omega)), fun _ => ?_⟩
        refine y_newHoleA (yAt_next h) (fun S1 h1 => ?_)
        refine y_layA (x := 12) h1 (by omega) (by omega) (fun S2 h2 => ?_)
        refine y_layHoleA (q := hs.length) h2 (by simp; omega) (by simp; omega) b4 (fun S3 h3 => ?_)
        rw [set_mid hs [] none, show (ws ++ [(12 : Int32)]).length = ws.length + 1 by simp, show (ms ++ [(12 : Int32)]).length = ms.length + 1 by simp] at h3
        refine y_fillA (q := q) h3 (by omega) (by rw [List.getElem?_append_left (by omega)]; exact hq) ba bc (fun S4 h4 => ?_)
        refine y_laterA (a := 6) (b := nI hs.length) (c := 0) h4 (by omega) (fun S5 h5 => ?_)
        exact y_laterA (a := 0) (b := 0) (c := nI k) h5 (by simp; omega) (fun S6 h6 => o4 t4 S6 h6)
    · have t0 : tk p = 0 := t0
      refine ⟨fun z => absurd z (nI_pos (by omega)), fun _ => ?_⟩
      exact y_fillA (yAt_next h) (by omega) hq ba bc (fun S1 h1 => oz t0 S1 h1)
  · have hpn : p = n := by omega
    have tm : tk p = -1 := hT.2.2.2.1 p (by omega)
    have l1 : S.1 0 1 ≤ S.1 0 2 := by rw [ea, en, nI_leI (by omega) (by omega)]; omega
    have l2 : S.1 0 2 = S.1 0 1 := by rw [ea, en, nI_eq (by omega) (by omega)]; omega
    refine ⟨fun _ => ⟨fun _ => ⟨fun _ => ?_, fun z => absurd l2 z⟩, fun z => absurd l1 z⟩, fun z => absurd l1 z⟩
    exact y_wrongA (v := -11) h (fun S' h' => e1 (by rw [tm]; decide) (by rw [tm]; decide) (by rw [tm]; decide) S' h')
end YA

/-! THE REFERENCE READS: a map, EACH, a statement -/
theorem set2 {α : Type} (a : List α) (x y u v : α) : ((a ++ [x] ++ [y]).set a.length u).set (a.length + 1) v = a ++ u :: v :: [] := by
  induction a with
  | nil => rfl
  | cons z a ih => simpa using ih
section YA
variable {d : Nat} {P : Option Value → mv_S → Prop} {S0 S : mv_S} {w fp : Int32} {n p : Nat} {tk par : Nat → Int32} {mn : Bool} {ws ms : List Int32} {td : List (Int32 × Int32 × Int32)} {hs : List (Option (Nat × Nat))}
set_option maxRecDepth 4000 in
theorem y_readMap {k : Nat} (hT : yTk S0 n tk par mn) (h : yAt S0 S 0 fp p ws ms td hs) (hp : p ≤ n) (hk : k ≤ 16) (b1 : ws.length + 2 ≤ 6000) (b2 : ms.length + 3 ≤ 8000) (b3 : td.length + 12 ≤ 4000)
    (e1 : ¬ cKind true (tk p) → ∀ S', yAt S0 S' (-11) (nI p) p ws ms td hs → P none S')
    (e2 : cKind true (tk p) → 16 ≤ k → ∀ S', yAt S0 S' (-15) (nI p) p ws ms td hs → P none S')
    (o40 : k < 16 → tk p = 40 → cBare n tk 6 (p + 1) = .ok (p + 2) → ∀ S', yAt S0 S' 0 fp (p + 2) (ws ++ [19] ++ [tk (p + 1)]) (ms ++ [30] ++ [19] ++ [tk (p + 1)]) td hs → P none S')
    (e40 : k < 16 → tk p = 40 → ∀ v q, cBare n tk 6 (p + 1) = .error (v, q) → v ≠ 0 → ∀ S' ws' ms', yAt S0 S' v (nI q) (p + 1) ws' ms' td hs → P none S')
    (o41 : k < 16 → tk p = 41 → ∀ S', yAt S0 S' 0 fp (p + 1) (ws ++ [21]) (ms ++ [30] ++ [21]) td hs → P none S')
    (oP : k < 16 → (42 ≤ tk p ∧ tk p ≤ 44) → ∀ S', yAt S0 S' 0 fp (p + 1) ws (ms ++ [30]) (yPa (tk p) (nI k + 1) td) hs → P none S') : mv_big layY sysY (d + 5) 23 [.ref 0, .int (nI k)] S P := by
  have hn := hT.2.1
  refine ⟨200, ?_⟩
  refine y_tokenA hT h (by omega) ?_
  refine ⟨fun c => ?_, fun c => ?_⟩
  · have c : S.1 0 2 = S.1 0 1 := c
    rw [h.2.2.1, yTk_n hT h, nI_eq (by omega) (by omega)] at c
    refine y_wrongA (v := -11) h (fun S' h' => e1 (fun z => ?_) S' h')
    have := cKind_in hT.2.2.2.1 z
    omega
  have c : ¬ S.1 0 2 = S.1 0 1 := c
  rw [h.2.2.1, yTk_n hT h, nI_eq (by omega) (by omega)] at c
  have hlt : p < n := by omega
  refine y_in (fun c2 => ?_) (fun c2 => ?_)
  · have c2 : ¬ cKind true (tk p) := c2
    refine ⟨fun z => absurd rfl z, fun _ => ?_⟩
    exact y_wrongA (v := -11) h (fun S' h' => e1 c2 S' h')
  have c2 : cKind true (tk p) := c2
  have c40 : 40 ≤ tk p := c2.1
  have c44 : tk p ≤ 44 := c2.2
  refine ⟨fun _ => ?_, fun z => absurd (show (1 : Int32) = 0 from z) (by decide)⟩
  refine y_isDeepA h (by omega) (fun S' g h' => ?_) (fun hk16 => ?_)
  · exact ⟨fun z => absurd (show (1 : Int32) = 0 from z) (by decide), fun _ => e2 c2 g S' h'⟩
  refine ⟨fun _ => ?_, fun z => absurd rfl z⟩
  have h1 := yAt_next h
  refine y_markA h1 (by omega) (fun S2 h2 => ?_)
  have b2' : (ms ++ [(30 : Int32)]).length = ms.length + 1 := by simp
  refine ⟨fun n40 => ?_, fun t40 => ?_⟩
  · have n40 : ¬ tk p = 40 := n40
    refine ⟨fun n41 => ?_, fun t41 => ?_⟩
    · have n41 : ¬ tk p = 41 := n41
      obtain ⟨j, ja, jb, e⟩ := tk_rng (a := 40) (b := 44) (by decide) (by decide) c40 c44
      have hj : j = 42 ∨ j = 43 ∨ j = 44 := by
        have : j ≠ 40 := fun z => n40 (by rw [e, z]; rfl)
        have : j ≠ 41 := fun z => n41 (by rw [e, z]; rfl)
        omega
      refine y_laterA (a := 4) (b := tk p - 20) (c := 0) h2 (by omega) (fun S3 h3 => ?_)
      rcases hj with rfl | rfl | rfl
      · have e : tk p = 42 := e
        refine ⟨fun _ => ?_, fun z => absurd (e.symm.trans z) (by decide)⟩
        refine ⟨fun z => absurd e z, fun _ => ⟨fun z => absurd (show (2 : Int32) ≤ 0 from z) (by decide), fun _ => ?_⟩⟩
        refine y_laterA (a := 2) (b := 0) (c := nI k + 1) h3 (by simp; omega) (fun S4 h4 => ?_)
        refine ⟨fun z => absurd e z, fun _ => ⟨fun z => absurd (show (2 : Int32) ≤ 1 from z) (by decide), fun _ => ?_⟩⟩
        refine y_laterA (a := 2) (b := 0) (c := nI k + 1) h4 (by simp; omega) (fun S5 h5 => ?_)
        refine ⟨fun z => absurd e z, fun _ => ⟨fun _ => ?_, fun z => absurd (show (2 : Int32) ≤ 2 by decide) z⟩⟩
        refine y_laterA (a := 3) (b := 0) (c := nI k + 1) h5 (by simp; omega) (fun S6 h6 => oP hk16 (by rw [e]; decide) S6 ?_)
        rw [e] at h6 ⊢
        exact h6
      · have e : tk p = 43 := e
        refine ⟨fun _ => ?_, fun z => absurd (e.symm.trans z) (by decide)⟩
        refine ⟨fun _ => ⟨fun z => absurd e z, fun _ => ⟨fun z => absurd (show (1 : Int32) ≤ 0 from z) (by decide), fun _ => ?_⟩⟩, fun z => absurd (e.symm.trans z) (by decide)⟩
        refine y_laterA (a := 2) (b := 0) (c := nI k + 1) h3 (by simp; omega) (fun S4 h4 => ?_)
        refine ⟨fun _ => ⟨fun z => absurd e z, fun _ => ⟨fun _ => ?_, fun z => absurd (show (1 : Int32) ≤ 1 by decide) z⟩⟩, fun z => absurd (e.symm.trans z) (by decide)⟩
        refine y_laterA (a := 3) (b := 0) (c := nI k + 1) h4 (by simp; omega) (fun S6 h6 => oP hk16 (by rw [e]; decide) S6 ?_)
        rw [e] at h6 ⊢
        exact h6
      · have e : tk p = 44 := e
        refine ⟨fun z => absurd e z, fun _ => ?_⟩
        refine y_laterA (a := 3) (b := 0) (c := nI k + 1) h3 (by simp; omega) (fun S4 h4 => ?_)
        refine ⟨fun _ => ⟨fun _ => ⟨fun _ => ?_, fun z => absurd (show (0 : Int32) ≤ 0 by decide) z⟩, fun z => absurd (e.symm.trans z) (by decide)⟩, fun z => absurd (e.symm.trans z) (by decide)⟩
        refine y_laterA (a := 3) (b := 0) (c := nI k + 1) h4 (by simp; omega) (fun S6 h6 => oP hk16 (by rw [e]; decide) S6 ?_)
        rw [e] at h6 ⊢
        exact h6
    · have t41 : tk p = 41 := t41
      exact y_layA (x := 21) h2 (by omega) (by omega) (fun S3 h3 => o41 hk16 t41 S3 h3)
  · have t40 : tk p = 40 := t40
    refine y_numberA (m := 6) hT h2 (by omega) (by decide) (by decide) (fun v q S3 a1 a2 a3 h3 => ?_) (fun S3 a1 h3 => ?_)
    · refine y_layA (x := 19) h3 (by omega) (by omega) (fun S4 h4 => ?_)
      exact y_layA (x := tk (p + 1)) h4 (by simp; omega) (by simp; omega) (fun S5 h5 => e40 hk16 t40 v q a1 a2 S5 _ _ h5)
    · refine y_layA (x := 19) h3 (by omega) (by omega) (fun S4 h4 => ?_)
      exact y_layA (x := tk (p + 1)) h4 (by simp; omega) (by simp; omega) (fun S5 h5 => o40 hk16 t40 a1 S5 h5)
theorem y_readOver {k : Int32} (hT : yTk S0 n tk par mn) (h : yAt S0 S 0 fp p ws ms td hs) (hp : p ≤ n) (b1 : ws.length + 6 ≤ 6000) (b2 : ms.length + 6 ≤ 8000) (b3 : td.length + 12 ≤ 4000) (b4 : hs.length + 2 ≤ 2000)
    (e1 : ∀ v q, cBare n tk 6 p = .error (v, q) → v ≠ 0 → ∀ S', yAt S0 S' v (nI q) p ws ms td hs → P none S')
    (e2 : ∀ v q, cBare n tk 6 p = .ok (p + 1) → cBare n tk 14 (p + 1) = .error (v, q) → v ≠ 0 → ∀ S', yAt S0 S' v (nI q) (p + 1) ws ms td hs → P none S')
    (e3 : ∀ v q, cBare n tk 6 p = .ok (p + 1) → cBare n tk 14 (p + 1) = .ok (p + 2) → cBare n tk 14 (p + 2) = .error (v, q) → v ≠ 0 → ∀ S', yAt S0 S' v (nI q) (p + 2) ws ms td hs → P none S')
    (ho : cBare n tk 6 p = .ok (p + 1) → cBare n tk 14 (p + 1) = .ok (p + 2) → cBare n tk 14 (p + 2) = .ok (p + 3) → ∀ S', yAt S0 S' 0 fp (p + 3) (ws ++ [19] ++ [tk p] ++ [29] ++ [tk (p + 1)] ++ [tk (p + 2)] ++ [0]) (ms ++ [19] ++ [tk p] ++ [29] ++ [tk (p + 1)] ++ [tk (p + 2)] ++ [0]) ((0, 0, k) :: (4, 12, 0) :: (7, nI hs.length, 0) :: (6, nI (hs.length + 1), 0) :: td) (hs ++ some (ws.length + 2, ms.length + 2) :: some (ws.length + 5, ms.length + 5) :: []) → P none S') : mv_big layY sysY (d + 5) 19 [.ref 0, .int k] S P := by
  have hn := hT.2.1
  refine ⟨200, ?_⟩
  refine y_numberA (m := 6) hT h hp (by decide) (by decide) (fun v q S1 a1 a2 a3 h1 => ?_) (fun S1 a1 h1 => ?_)
  · have f1 : ¬ S1.1 0 3 = 0 := by rw [h1.1]; exact a2
    exact ⟨fun _ => ⟨fun _ => ⟨fun z => absurd z f1, fun _ => e1 v q a1 a2 S1 h1⟩, fun z => absurd z f1⟩, fun z => absurd z f1⟩
  have f1 : S1.1 0 3 = 0 := h1.1
  have a1' := cBare_ok a1
  refine ⟨fun z => absurd f1 z, fun _ => ?_⟩
  refine y_numberA (m := 14) hT h1 (by omega) (by decide) (by decide) (fun v q S2 c1 c2 c3 h2 => ?_) (fun S2 c1 h2 => ?_)
  · have f2 : ¬ S2.1 0 3 = 0 := by rw [h2.1]; exact c2
    exact ⟨fun _ => ⟨fun z => absurd z f2, fun _ => e2 v q a1 c1 c2 S2 h2⟩, fun z => absurd z f2⟩
  have f2 : S2.1 0 3 = 0 := h2.1
  have c1' := cBare_ok c1
  refine ⟨fun z => absurd f2 z, fun _ => ?_⟩
  refine y_numberA (m := 14) hT h2 (by omega) (by decide) (by decide) (fun v q S3 d1 d2 d3 h3 => ?_) (fun S3 d1 h3 => ?_)
  · have f3 : ¬ S3.1 0 3 = 0 := by rw [h3.1]; exact d2
    exact ⟨fun z => absurd z f3, fun _ => e3 v q a1 c1 d1 d2 S3 h3⟩
  have f3 : S3.1 0 3 = 0 := h3.1
  refine ⟨fun _ => ?_, fun z => absurd f3 z⟩
  refine y_newHoleA h3 (fun S4 h4 => ?_)
  refine y_newHoleA h4 (fun S5 h5 => ?_)
  have el : (hs ++ [none]).length = hs.length + 1 := by simp
  rw [el]
  refine y_layA (x := 19) h5 (by omega) (by omega) (fun S6 h6 => ?_)
  refine y_layA (x := tk p) h6 (by simp; omega) (by simp; omega) (fun S7 h7 => ?_)
  refine y_rememberA (q := hs.length) h7 (by omega) (fun S8 h8 => ?_)
  refine y_layA (x := 29) h8 (by simp; omega) (by simp; omega) (fun S9 h9 => ?_)
  refine y_layA (x := tk (p + 1)) h9 (by simp; omega) (by simp; omega) (fun S10 h10 => ?_)
  refine y_layA (x := tk (p + 2)) h10 (by simp; omega) (by simp; omega) (fun S11 h11 => ?_)
  refine y_layHoleA (q := hs.length + 1) h11 (by simp; omega) (by simp; omega) (by omega) (fun S12 h12 => ?_)
  refine y_laterA (a := 6) (b := nI (hs.length + 1)) (c := 0) h12 (by omega) (fun S13 h13 => ?_)
  refine y_laterA (a := 7) (b := nI hs.length) (c := 0) h13 (by simp; omega) (fun S14 h14 => ?_)
  refine y_laterA (a := 4) (b := 12) (c := 0) h14 (by simp; omega) (fun S15 h15 => ?_)
  refine y_laterA (a := 0) (b := 0) (c := k) h15 (by simp; omega) (fun S16 h16 => ho a1 c1 d1 S16 ?_)
  have eh : ((hs ++ [none] ++ [none]).set hs.length (some ((ws ++ [19] ++ [tk p]).length, (ms ++ [19] ++ [tk p]).length))).set (hs.length + 1) (some ((ws ++ [19] ++ [tk p] ++ [29] ++ [tk (p + 1)] ++ [tk (p + 2)]).length, (ms ++ [19] ++ [tk p] ++ [29] ++ [tk (p + 1)] ++ [tk (p + 2)]).length)) = hs ++ some (ws.length + 2, ms.length + 2) :: some (ws.length + 5, ms.length + 5) :: [] := by
    rw [set2]
    simp
  rw [eh] at h16
  exact h16
theorem y_readStatement {t k : Int32} (hT : yTk S0 n tk par mn) (h : yAt S0 S 0 fp p ws ms td hs) (hp : p ≤ n) (b1 : ws.length + 6 ≤ 6000) (b2 : ms.length + 6 ≤ 8000) (b3 : td.length + 14 ≤ 4000) (b4 : hs.length + 2 ≤ 2000) (ht : cIsS t)
    (e1 : ∀ v q, t = 1 → cBare n tk 14 p = .error (v, q) → v ≠ 0 → ∀ S' td', yAt S0 S' v (nI q) p ws ms td' hs → P none S')
    (o1 : t = 1 → cBare n tk 14 p = .ok (p + 1) → ∀ S', yAt S0 S' 0 fp (p + 1) ws ms ((2, 0, k) :: (4, 3, 0) :: (4, tk p, 0) :: td) hs → P none S')
    (e2 : ∀ v q, t = 2 → cBare n tk 6 p = .error (v, q) → v ≠ 0 → ∀ S' td', yAt S0 S' v (nI q) p ws ms td' hs → P none S')
    (o2 : t = 2 → cBare n tk 6 p = .ok (p + 1) → ∀ S', yAt S0 S' 0 fp (p + 1) ws ms ((3, 0, k) :: (4, 20, 0) :: (4, tk p, 0) :: td) hs → P none S')
    (o3 : t = 3 → ∀ S', yAt S0 S' 0 fp p ws ms ((2, 0, k) :: (4, 13, 0) :: (5, nI hs.length, 0) :: (1, nI hs.length, k) :: td) (hs ++ [none]) → P none S')
    (o5 : t = 5 → ∀ S', yAt S0 S' 0 fp p ws ms ((2, 0, k) :: (4, 13, 0) :: (5, nI (hs.length + 1), 0) :: (0, 0, k) :: (4, 12, 0) :: (7, nI hs.length, 0) :: (6, nI (hs.length + 1), 0) :: td) (hs ++ some (ws.length, ms.length) :: none :: []) → P none S')
    (o6 : t = 6 → ∀ Q, (∀ S', P none S' → Q none S') → mv_big layY sysY (d + 5) 19 [.ref 0, .int k] S Q)
    (o7 : t = 7 → ∀ S', yAt S0 S' 0 fp p ws ms ((2, 0, k) :: (4, 15, 0) :: td) hs → P none S')
    (e8 : t = 8 → ∀ v q, cKnown n tk par p = .error (v, q) → v ≠ 0 → ∀ S' td', yAt S0 S' v (nI q) p ws ms td' hs → P none S')
    (o8 : t = 8 → cKnown n tk par p = .ok (p + 1) → ∀ S', yAt S0 S' 0 fp (p + 1) ws ms (List.replicate (cPar par (tk p)).toNatClampNeg (2, 0, k) ++ (4, 16, 0) :: (4, tk p, 0) :: (4, 18, 0) :: td) hs → P none S')
    (o9 : t = 9 → ∀ S', yAt S0 S' 0 fp p ws ms ((2, 0, k) :: (if mn then (4, 18, 0) :: (4, 0, 0) :: td else (4, 17, 0) :: td)) hs → P none S') : mv_big layY sysY (d + 6) 18 [.ref 0, .int t, .int k] S P := by
  have hn := hT.2.1
  refine ⟨120, ?_⟩
  refine ⟨fun c => ?_, fun c1 => ⟨fun c => ?_, fun c2 => ⟨fun c => ?_, fun c3 => ⟨fun c => ?_, fun c4 => ⟨fun c => ?_, fun c5 => ⟨fun c => ?_, fun c6 => ⟨fun c => ?_, fun c7 => ⟨fun c => ?_, fun c8 => ?_⟩⟩⟩⟩⟩⟩⟩⟩
  · have c : t = 1 := c
    refine y_numberA (m := 14) hT h hp (by decide) (by decide) (fun v q S1 a1 a2 a3 h1 => ?_) (fun S1 a1 h1 => ?_)
    · refine y_laterA (a := 4) (b := tk p) (c := 0) h1 (by omega) (fun S2 h2 => ?_)
      refine y_laterA (a := 4) (b := 3) (c := 0) h2 (by simp; omega) (fun S3 h3 => ?_)
      exact y_laterA (a := 2) (b := 0) (c := k) h3 (by simp; omega) (fun S4 h4 => e1 v q c a1 a2 S4 _ h4)
    · refine y_laterA (a := 4) (b := tk p) (c := 0) h1 (by omega) (fun S2 h2 => ?_)
      refine y_laterA (a := 4) (b := 3) (c := 0) h2 (by simp; omega) (fun S3 h3 => ?_)
      exact y_laterA (a := 2) (b := 0) (c := k) h3 (by simp; omega) (fun S4 h4 => o1 c a1 S4 h4)
  · have c : t = 2 := c
    refine y_numberA (m := 6) hT h hp (by decide) (by decide) (fun v q S1 a1 a2 a3 h1 => ?_) (fun S1 a1 h1 => ?_)
    · refine y_laterA (a := 4) (b := tk p) (c := 0) h1 (by omega) (fun S2 h2 => ?_)
      refine y_laterA (a := 4) (b := 20) (c := 0) h2 (by simp; omega) (fun S3 h3 => ?_)
      exact y_laterA (a := 3) (b := 0) (c := k) h3 (by simp; omega) (fun S4 h4 => e2 v q c a1 a2 S4 _ h4)
    · refine y_laterA (a := 4) (b := tk p) (c := 0) h1 (by omega) (fun S2 h2 => ?_)
      refine y_laterA (a := 4) (b := 20) (c := 0) h2 (by simp; omega) (fun S3 h3 => ?_)
      exact y_laterA (a := 3) (b := 0) (c := k) h3 (by simp; omega) (fun S4 h4 => o2 c a1 S4 h4)
  · have c : t = 3 := c
    refine y_newHoleA h (fun S1 h1 => ?_)
    refine y_laterA (a := 1) (b := nI hs.length) (c := k) h1 (by omega) (fun S2 h2 => ?_)
    refine y_laterA (a := 5) (b := nI hs.length) (c := 0) h2 (by simp; omega) (fun S3 h3 => ?_)
    refine y_laterA (a := 4) (b := 13) (c := 0) h3 (by simp; omega) (fun S4 h4 => ?_)
    exact y_laterA (a := 2) (b := 0) (c := k) h4 (by simp; omega) (fun S5 h5 => o3 c S5 h5)
  · have c : t = 4 := c
    exact absurd c ht.2.2
  · have c : t = 5 := c
    refine y_newHoleA h (fun S1 h1 => ?_)
    refine y_newHoleA h1 (fun S2 h2 => ?_)
    have el : (hs ++ [none]).length = hs.length + 1 := by simp
    rw [el]
    refine y_rememberA (q := hs.length) h2 (by omega) (fun S3 h3 => ?_)
    refine y_laterA (a := 6) (b := nI (hs.length + 1)) (c := 0) h3 (by omega) (fun S4 h4 => ?_)
    refine y_laterA (a := 7) (b := nI hs.length) (c := 0) h4 (by simp; omega) (fun S5 h5 => ?_)
    refine y_laterA (a := 4) (b := 12) (c := 0) h5 (by simp; omega) (fun S6 h6 => ?_)
    refine y_laterA (a := 0) (b := 0) (c := k) h6 (by simp; omega) (fun S7 h7 => ?_)
    refine y_laterA (a := 5) (b := nI (hs.length + 1)) (c := 0) h7 (by simp; omega) (fun S8 h8 => ?_)
    refine y_laterA (a := 4) (b := 13) (c := 0) h8 (by simp; omega) (fun S9 h9 => ?_)
    refine y_laterA (a := 2) (b := 0) (c := k) h9 (by simp; omega) (fun S10 h10 => o5 c S10 ?_)
    rw [show hs ++ [none] ++ [none] = hs ++ none :: [none] by simp, set_mid] at h10
    exact h10
  · have c : t = 6 := c
    exact mv_deep (by omega) (o6 c _ (fun S' z => z))
  · have c : t = 7 := c
    refine y_laterA (a := 4) (b := 15) (c := 0) h (by omega) (fun S2 h2 => ?_)
    exact y_laterA (a := 2) (b := 0) (c := k) h2 (by simp; omega) (fun S3 h3 => o7 c S3 h3)
  · have c : t = 8 := c
    refine y_laterA (a := 4) (b := 18) (c := 0) h (by omega) (fun S2 h2 => ?_)
    exact y_readCall hT h2 hp (by simp; omega) (fun v q S3 a1 a2 h3 => e8 c v q a1 a2 S3 _ h3) (fun S3 a1 h3 => o8 c a1 S3 h3)
  · have c : t = 9 := by
      have c1 : ¬ t = 1 := c1
      have c2 : ¬ t = 2 := c2
      have c3 : ¬ t = 3 := c3
      have c4 : ¬ t = 4 := c4
      have c5 : ¬ t = 5 := c5
      have c6 : ¬ t = 6 := c6
      have c7 : ¬ t = 7 := c7
      have c8 : ¬ t = 8 := c8
      obtain ⟨j, ja, jb, e⟩ := tk_rng (a := 1) (b := 9) (by decide) (by decide) ht.1 ht.2.1
      have : j = 1 ∨ j = 2 ∨ j = 3 ∨ j = 4 ∨ j = 5 ∨ j = 6 ∨ j = 7 ∨ j = 8 ∨ j = 9 := by omega
      rcases this with rfl | rfl | rfl | rfl | rfl | rfl | rfl | rfl | rfl
      · exact absurd e c1
      · exact absurd e c2
      · exact absurd e c3
      · exact absurd e c4
      · exact absurd e c5
      · exact absurd e c6
      · exact absurd e c7
      · exact absurd e c8
      · exact e
    have hm : S.1 0 12 = (if mn then 1 else 0) := by rw [h.2.2.2.2.2.2.2.1 0 12 (by decide)]; exact hT.2.2.2.2.2
    refine ⟨fun z => ?_, fun z => ?_⟩
    · have z : S.1 0 12 = 0 := z
      rw [hm] at z
      have hm0 : mn = false := by
        cases mn
        · rfl
        · exact absurd z (by decide)
      subst hm0
      refine y_laterA (a := 4) (b := 17) (c := 0) h (by omega) (fun S2 h2 => ?_)
      exact y_laterA (a := 2) (b := 0) (c := k) h2 (by simp; omega) (fun S3 h3 => o9 c S3 h3)
    · have z : ¬ S.1 0 12 = 0 := z
      rw [hm] at z
      have hm0 : mn = true := by
        cases mn
        · exact absurd rfl z
        · rfl
      subst hm0
      refine y_laterA (a := 4) (b := 0) (c := 0) h (by omega) (fun S2 h2 => ?_)
      refine y_laterA (a := 4) (b := 18) (c := 0) h2 (by simp; omega) (fun S3 h3 => ?_)
      exact y_laterA (a := 2) (b := 0) (c := k) h3 (by simp; omega) (fun S4 h4 => o9 c S4 h4)
end YA

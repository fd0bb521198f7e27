/-! THE REFERENCE READS: its loop at a map, at statements -/
section YA
variable {P : Option Value → mv_S → Prop} {S0 : mv_S} {w fp : Int32} {n p : Nat} {tk par : Nat → Int32} {mn : Bool} {ws ms : List Int32} {td : List (Int32 × Int32 × Int32)} {hs : List (Option (Nat × Nat))}
theorem yRun_m40 {k : Nat} {x : Int32} (hT : yTk S0 n tk par mn) (hp : p ≤ n) (b1 : ws.length + 2 ≤ 6000) (b2 : ms.length + 3 ≤ 8000) (b3 : td.length + 12 ≤ 4000) (hk : k < 16) (t : tk p = 40) (hq : cBare n tk 6 (p + 1) = .ok (p + 2)) (h : yRun P S0 0 fp (p + 2) (ws ++ [19] ++ [tk (p + 1)]) (ms ++ [30] ++ [19] ++ [tk (p + 1)]) td hs) : yRun P S0 0 fp p ws ms ((3, x, nI k) :: td) hs := by
  obtain ⟨N, hN⟩ := h
  refine yRun_top (by omega) ⟨N + 6, fun S hA => ?_⟩
  refine ⟨fun z => absurd (show (3 : Int32) = 0 from z) (by decide), fun _ => ⟨fun z => absurd (show (3 : Int32) = 1 from z) (by decide), fun _ => ⟨fun z => absurd (show (3 : Int32) = 2 from z) (by decide), fun _ => ⟨fun _ => ?_, fun z => absurd rfl z⟩⟩⟩⟩
  have ck : cKind true (tk p) := by rw [t]; decide
  have n41 : ¬ tk p = 41 := by rw [t]; decide
  have nP : ¬ (42 ≤ tk p ∧ tk p ≤ 44) := by rw [t]; decide
  exact y_readMap hT hA hp (by omega) b1 b2 b3 (fun z => absurd ck z) (fun _ z => absurd hk (by omega)) (fun _ _ _ S1 h1 => ws_goto (t := 159) rfl (by decide) (ws_goto (t := 0) rfl (by decide) (hN S1 _ h1 (Or.inr ⟨_, _, rfl⟩)))) (fun _ _ v q z => absurd (hq.symm.trans z) (by simp)) (fun _ z => absurd z n41) (fun _ z => absurd z nP)
theorem yRun_m41 {k : Nat} {x : Int32} (hT : yTk S0 n tk par mn) (hp : p ≤ n) (b1 : ws.length + 2 ≤ 6000) (b2 : ms.length + 3 ≤ 8000) (b3 : td.length + 12 ≤ 4000) (hk : k < 16) (t : tk p = 41) (h : yRun P S0 0 fp (p + 1) (ws ++ [21]) (ms ++ [30] ++ [21]) td hs) : yRun P S0 0 fp p ws ms ((3, x, nI k) :: td) hs := by
  obtain ⟨N, hN⟩ := h
  refine yRun_top (by omega) ⟨N + 6, fun S hA => ?_⟩
  refine ⟨fun z => absurd (show (3 : Int32) = 0 from z) (by decide), fun _ => ⟨fun z => absurd (show (3 : Int32) = 1 from z) (by decide), fun _ => ⟨fun z => absurd (show (3 : Int32) = 2 from z) (by decide), fun _ => ⟨fun _ => ?_, fun z => absurd rfl z⟩⟩⟩⟩
  have ck : cKind true (tk p) := by rw [t]; decide
  have n40 : ¬ tk p = 40 := by rw [t]; decide
  have nP : ¬ (42 ≤ tk p ∧ tk p ≤ 44) := by rw [t]; decide
  exact y_readMap hT hA hp (by omega) b1 b2 b3 (fun z => absurd ck z) (fun _ z => absurd hk (by omega)) (fun _ z => absurd z n40) (fun _ z => absurd z n40) (fun _ _ S1 h1 => ws_goto (t := 159) rfl (by decide) (ws_goto (t := 0) rfl (by decide) (hN S1 _ h1 (Or.inr ⟨_, _, rfl⟩)))) (fun _ z => absurd z nP)
theorem yRun_mP {k : Nat} {x : Int32} (hT : yTk S0 n tk par mn) (hp : p ≤ n) (b1 : ws.length + 2 ≤ 6000) (b2 : ms.length + 3 ≤ 8000) (b3 : td.length + 12 ≤ 4000) (hk : k < 16) (r : 42 ≤ tk p ∧ tk p ≤ 44) (h : yRun P S0 0 fp (p + 1) ws (ms ++ [30]) (yPa (tk p) (nI k + 1) td) hs) : yRun P S0 0 fp p ws ms ((3, x, nI k) :: td) hs := by
  obtain ⟨N, hN⟩ := h
  refine yRun_top (by omega) ⟨N + 6, fun S hA => ?_⟩
  refine ⟨fun z => absurd (show (3 : Int32) = 0 from z) (by decide), fun _ => ⟨fun z => absurd (show (3 : Int32) = 1 from z) (by decide), fun _ => ⟨fun z => absurd (show (3 : Int32) = 2 from z) (by decide), fun _ => ⟨fun _ => ?_, fun z => absurd rfl z⟩⟩⟩⟩
  have ck : cKind true (tk p) := ⟨Int32.le_trans (by decide) r.1, r.2⟩
  have n40 : ¬ tk p = 40 := fun z => by rw [z] at r; exact absurd r (by decide)
  have n41 : ¬ tk p = 41 := fun z => by rw [z] at r; exact absurd r (by decide)
  exact y_readMap hT hA hp (by omega) b1 b2 b3 (fun z => absurd ck z) (fun _ z => absurd hk (by omega)) (fun _ z => absurd z n40) (fun _ z => absurd z n40) (fun _ z => absurd z n41) (fun _ _ S1 h1 => ws_goto (t := 159) rfl (by decide) (ws_goto (t := 0) rfl (by decide) (hN S1 _ h1 (Or.inr ⟨_, _, rfl⟩))))
theorem yRun_mW {k : Nat} {x : Int32} (hT : yTk S0 n tk par mn) (hp : p ≤ n) (b1 : ws.length + 2 ≤ 6000) (b2 : ms.length + 3 ≤ 8000) (b3 : td.length + 12 ≤ 4000) (hk : k ≤ 16) (t : ¬ cKind true (tk p)) (he : yErr P S0 (-11) p) : yRun P S0 0 fp p ws ms ((3, x, nI k) :: td) hs := by
  refine yRun_top (by omega) ⟨10 + 6, fun S hA => ?_⟩
  refine ⟨fun z => absurd (show (3 : Int32) = 0 from z) (by decide), fun _ => ⟨fun z => absurd (show (3 : Int32) = 1 from z) (by decide), fun _ => ⟨fun z => absurd (show (3 : Int32) = 2 from z) (by decide), fun _ => ⟨fun _ => ?_, fun z => absurd rfl z⟩⟩⟩⟩
  have hv : (-11 : Int32) ≠ 0 := by decide
  exact y_readMap hT hA hp (by omega) b1 b2 b3 (fun _ S1 h1 => ws_goto (t := 159) rfl (by decide) (ws_goto (t := 0) rfl (by decide) (yWp_err hv he h1 (Or.inr ⟨_, _, rfl⟩)))) (fun z => absurd z t) (fun _ z => absurd (by rw [z]; decide) t) (fun _ z => absurd (by rw [z]; decide) t) (fun _ z => absurd (by rw [z]; decide) t) (fun _ z => absurd ⟨Int32.le_trans (by decide) z.1, z.2⟩ t)
theorem yRun_mD {k : Nat} {x : Int32} (hT : yTk S0 n tk par mn) (hp : p ≤ n) (b1 : ws.length + 2 ≤ 6000) (b2 : ms.length + 3 ≤ 8000) (b3 : td.length + 12 ≤ 4000)  (t : cKind true (tk p)) (h16 : k = 16) (he : yErr P S0 (-15) p) : yRun P S0 0 fp p ws ms ((3, x, nI k) :: td) hs := by
  refine yRun_top (by omega) ⟨10 + 6, fun S hA => ?_⟩
  refine ⟨fun z => absurd (show (3 : Int32) = 0 from z) (by decide), fun _ => ⟨fun z => absurd (show (3 : Int32) = 1 from z) (by decide), fun _ => ⟨fun z => absurd (show (3 : Int32) = 2 from z) (by decide), fun _ => ⟨fun _ => ?_, fun z => absurd rfl z⟩⟩⟩⟩
  have hv : (-15 : Int32) ≠ 0 := by decide
  exact y_readMap hT hA hp (by omega) b1 b2 b3 (fun z => absurd t z) (fun _ _ S1 h1 => ws_goto (t := 159) rfl (by decide) (ws_goto (t := 0) rfl (by decide) (yWp_err hv he h1 (Or.inr ⟨_, _, rfl⟩)))) (fun z => absurd z (by omega)) (fun z => absurd z (by omega)) (fun z => absurd z (by omega)) (fun z => absurd z (by omega))
theorem yRun_f40 {k : Nat} {x : Int32} (hT : yTk S0 n tk par mn) (hp : p ≤ n) (b1 : ws.length + 2 ≤ 6000) (b2 : ms.length + 3 ≤ 8000) (b3 : td.length + 12 ≤ 4000) (hk : k < 16) {v : Int32} {q : Nat} (t : tk p = 40) (hq : cBare n tk 6 (p + 1) = .error (v, q)) (hv : v ≠ 0) (he : yErr P S0 v q) : yRun P S0 0 fp p ws ms ((3, x, nI k) :: td) hs := by
  refine yRun_top (by omega) ⟨10 + 6, fun S hA => ?_⟩
  refine ⟨fun z => absurd (show (3 : Int32) = 0 from z) (by decide), fun _ => ⟨fun z => absurd (show (3 : Int32) = 1 from z) (by decide), fun _ => ⟨fun z => absurd (show (3 : Int32) = 2 from z) (by decide), fun _ => ⟨fun _ => ?_, fun z => absurd rfl z⟩⟩⟩⟩
  have ck : cKind true (tk p) := by rw [t]; decide
  have n41 : ¬ tk p = 41 := by rw [t]; decide
  have nP : ¬ (42 ≤ tk p ∧ tk p ≤ 44) := by rw [t]; decide
  exact y_readMap hT hA hp (by omega) b1 b2 b3 (fun z => absurd ck z) (fun _ z => absurd hk (by omega)) (fun _ _ z => absurd (hq.symm.trans z) (by simp)) (fun _ _ v1 q1 z _ S1 ws1 ms1 h1 => by
    obtain ⟨rfl, rfl⟩ : v = v1 ∧ q = q1 := by have := hq.symm.trans z; simp at this; exact this
    exact ws_goto (t := 159) rfl (by decide) (ws_goto (t := 0) rfl (by decide) (yWp_err hv he h1 (Or.inr ⟨_, _, rfl⟩)))) (fun _ z => absurd z n41) (fun _ z => absurd z nP)
/-- the statement t, its first token passed: from there on the loop ends with P -/
def ySt (P : Option Value → mv_S → Prop) (S0 : mv_S) (t k fp : Int32) (p : Nat) (ws ms : List Int32) (td : List (Int32 × Int32 × Int32)) (hs : List (Option (Nat × Nat))) : Prop :=
  ∃ N, ∀ S (Q : Option Value → mv_S → Prop), yAt S0 S 0 fp p ws ms td hs → (∀ S1, (∀ lv, yLv lv → yWp P N 0 lv [] S1) → Q none S1) → mv_big layY sysY 19 18 [.ref 0, .int t, .int k] S Q
theorem yRun_z0 {k : Nat} {x : Int32} (hT : yTk S0 n tk par mn) (hp : p ≤ n) (hk : k ≤ 16) (b1 : ws.length + 2 ≤ 6000) (b2 : ms.length + 3 ≤ 8000) (b3 : td.length + 3 ≤ 4000) (t : tk p = 0) (h : yRun P S0 0 fp (p + 1) ws ms td hs) : yRun P S0 0 fp p ws ms ((0, x, nI k) :: td) hs := by
  obtain ⟨N, hN⟩ := h
  refine yRun_top (by omega) ⟨N + 7, fun S hA => ?_⟩
  refine ⟨fun _ => ?_, fun z => absurd rfl z⟩
  have ns : ¬ cIsS (tk p) := by rw [t]; decide
  exact y_readStatements0 hT hA hp hk b1 b2 b3 (fun _ S1 h1 => ws_goto (t := 159) rfl (by decide) (ws_goto (t := 0) rfl (by decide) (hN S1 _ h1 (Or.inr ⟨_, _, rfl⟩)))) (fun z => absurd t z) (fun z => absurd z ns) (fun z => absurd z ns)
theorem yRun_sW0 {k : Nat} {x : Int32} (hT : yTk S0 n tk par mn) (hp : p ≤ n) (hk : k ≤ 16) (b1 : ws.length + 2 ≤ 6000) (b2 : ms.length + 3 ≤ 8000) (b3 : td.length + 3 ≤ 4000) (n0 : ¬ tk p = 0) (ns : ¬ cIsS (tk p)) (he : yErr P S0 (-11) p) : yRun P S0 0 fp p ws ms ((0, x, nI k) :: td) hs := by
  refine yRun_top (by omega) ⟨10 + 7, fun S hA => ?_⟩
  refine ⟨fun _ => ?_, fun z => absurd rfl z⟩
  have hv : (-11 : Int32) ≠ 0 := by decide
  exact y_readStatements0 hT hA hp hk b1 b2 b3 (fun z => absurd z n0) (fun _ _ S1 h1 => ws_goto (t := 159) rfl (by decide) (ws_goto (t := 0) rfl (by decide) (yWp_err hv he h1 (Or.inr ⟨_, _, rfl⟩)))) (fun z => absurd z ns) (fun z => absurd z ns)
theorem yRun_sD0 {k : Nat} {x : Int32} (hT : yTk S0 n tk par mn) (hp : p ≤ n) (hk : k ≤ 16) (b1 : ws.length + 2 ≤ 6000) (b2 : ms.length + 3 ≤ 8000) (b3 : td.length + 3 ≤ 4000) (hs1 : cIsS (tk p)) (h16 : k = 16) (he : yErr P S0 (-15) p) : yRun P S0 0 fp p ws ms ((0, x, nI k) :: td) hs := by
  refine yRun_top (by omega) ⟨10 + 7, fun S hA => ?_⟩
  refine ⟨fun _ => ?_, fun z => absurd rfl z⟩
  have n0 : ¬ tk p = 0 := fun z => by rw [z] at hs1; exact absurd hs1 (by decide)
  have hv : (-15 : Int32) ≠ 0 := by decide
  exact y_readStatements0 hT hA hp hk b1 b2 b3 (fun z => absurd z n0) (fun _ z => absurd hs1 z) (fun _ _ S1 h1 => ws_goto (t := 159) rfl (by decide) (ws_goto (t := 0) rfl (by decide) (yWp_err hv he h1 (Or.inr ⟨_, _, rfl⟩)))) (fun _ z => absurd z (by omega))
theorem yRun_s0 {k : Nat} {x : Int32} (hT : yTk S0 n tk par mn) (hp : p ≤ n) (hk : k ≤ 16) (b1 : ws.length + 2 ≤ 6000) (b2 : ms.length + 3 ≤ 8000) (b3 : td.length + 3 ≤ 4000) (hs1 : cIsS (tk p)) (hk16 : k < 16) (h : ySt P S0 (tk p) (nI k + 1) fp (p + 1) ws (ms ++ [30]) ((0, -1, nI k) :: td) hs) : yRun P S0 0 fp p ws ms ((0, x, nI k) :: td) hs := by
  obtain ⟨N, hN⟩ := h
  refine yRun_top (by omega) ⟨N + 7, fun S hA => ?_⟩
  refine ⟨fun _ => ?_, fun z => absurd rfl z⟩
  have n0 : ¬ tk p = 0 := fun z => by rw [z] at hs1; exact absurd hs1 (by decide)
  exact y_readStatements0 hT hA hp hk b1 b2 b3 (fun z => absurd z n0) (fun _ z => absurd hs1 z) (fun _ z => absurd hk16 (by omega)) (fun _ _ S1 Q h1 hQ => hN S1 Q h1 (fun S2 h2 => hQ S2 (ws_goto (t := 159) rfl (by decide) (ws_goto (t := 0) rfl (by decide) (h2 _ (Or.inr ⟨_, _, rfl⟩))))))
theorem yRun_z1 {k q x y : Nat} (hT : yTk S0 n tk par mn) (hp : p ≤ n) (hk : k ≤ 16) (b1 : ws.length + 2 ≤ 6000) (b2 : ms.length + 3 ≤ 8000) (b3 : td.length + 3 ≤ 4000) (b4 : hs.length < 2000) (hq : hs[q]? = some (some (x, y))) (ba : x < 6000) (bc : y < 8000) (t : tk p = 0) (h : yRun P S0 0 fp (p + 1) (ws.set x (nI ws.length)) (ms.set y (nI ms.length)) td hs) : yRun P S0 0 fp p ws ms ((1, nI q, nI k) :: td) hs := by
  obtain ⟨N, hN⟩ := h
  refine yRun_top (by omega) ⟨N + 7, fun S hA => ?_⟩
  refine ⟨fun z => absurd (show (1 : Int32) = 0 from z) (by decide), fun _ => ⟨fun _ => ?_, fun z => absurd rfl z⟩⟩
  have ns : ¬ cIsS (tk p) := by rw [t]; decide
  have n4 : ¬ tk p = 4 := by rw [t]; decide
  exact y_readStatements1 (q := q) (a := x) (c := y) hT hA hp hk b1 b2 b3 b4 hq ba bc (fun _ S1 h1 => ws_goto (t := 159) rfl (by decide) (ws_goto (t := 0) rfl (by decide) (hN S1 _ h1 (Or.inr ⟨_, _, rfl⟩)))) (fun z => absurd z n4) (fun z => absurd t z) (fun z => absurd z ns) (fun z => absurd z ns)
theorem yRun_41 {k q x y : Nat} (hT : yTk S0 n tk par mn) (hp : p ≤ n) (hk : k ≤ 16) (b1 : ws.length + 2 ≤ 6000) (b2 : ms.length + 3 ≤ 8000) (b3 : td.length + 3 ≤ 4000) (b4 : hs.length < 2000) (hq : hs[q]? = some (some (x, y))) (ba : x < 6000) (bc : y < 8000) (t : tk p = 4) (h : yRun P S0 0 fp (p + 1) ((ws ++ [12] ++ [0]).set x (nI (ws ++ [12] ++ [0]).length)) ((ms ++ [12] ++ [0]).set y (nI (ms ++ [12] ++ [0]).length)) ((0, 0, nI k) :: (6, nI hs.length, 0) :: td) (hs ++ [some (ws.length + 1, ms.length + 1)])) : yRun P S0 0 fp p ws ms ((1, nI q, nI k) :: td) hs := by
  obtain ⟨N, hN⟩ := h
  refine yRun_top (by omega) ⟨N + 7, fun S hA => ?_⟩
  refine ⟨fun z => absurd (show (1 : Int32) = 0 from z) (by decide), fun _ => ⟨fun _ => ?_, fun z => absurd rfl z⟩⟩
  have ns : ¬ cIsS (tk p) := by rw [t]; decide
  have n0 : ¬ tk p = 0 := by rw [t]; decide
  exact y_readStatements1 (q := q) (a := x) (c := y) hT hA hp hk b1 b2 b3 b4 hq ba bc (fun z => absurd z n0) (fun _ S1 h1 => ws_goto (t := 159) rfl (by decide) (ws_goto (t := 0) rfl (by decide) (hN S1 _ h1 (Or.inr ⟨_, _, rfl⟩)))) (fun _ z => absurd t z) (fun z => absurd z ns) (fun z => absurd z ns)
theorem yRun_sW1 {k q x y : Nat} (hT : yTk S0 n tk par mn) (hp : p ≤ n) (hk : k ≤ 16) (b1 : ws.length + 2 ≤ 6000) (b2 : ms.length + 3 ≤ 8000) (b3 : td.length + 3 ≤ 4000) (b4 : hs.length < 2000) (hq : hs[q]? = some (some (x, y))) (ba : x < 6000) (bc : y < 8000) (n0 : ¬ tk p = 0) (n4 : ¬ tk p = 4) (ns : ¬ cIsS (tk p)) (he : yErr P S0 (-11) p) : yRun P S0 0 fp p ws ms ((1, nI q, nI k) :: td) hs := by
  refine yRun_top (by omega) ⟨10 + 7, fun S hA => ?_⟩
  refine ⟨fun z => absurd (show (1 : Int32) = 0 from z) (by decide), fun _ => ⟨fun _ => ?_, fun z => absurd rfl z⟩⟩
  have hv : (-11 : Int32) ≠ 0 := by decide
  exact y_readStatements1 (q := q) (a := x) (c := y) hT hA hp hk b1 b2 b3 b4 hq ba bc (fun z => absurd z n0) (fun z => absurd z n4) (fun _ _ _ S1 h1 => ws_goto (t := 159) rfl (by decide) (ws_goto (t := 0) rfl (by decide) (yWp_err hv he h1 (Or.inr ⟨_, _, rfl⟩)))) (fun z => absurd z ns) (fun z => absurd z ns)
theorem yRun_sD1 {k q x y : Nat} (hT : yTk S0 n tk par mn) (hp : p ≤ n) (hk : k ≤ 16) (b1 : ws.length + 2 ≤ 6000) (b2 : ms.length + 3 ≤ 8000) (b3 : td.length + 3 ≤ 4000) (b4 : hs.length < 2000) (hq : hs[q]? = some (some (x, y))) (ba : x < 6000) (bc : y < 8000) (hs1 : cIsS (tk p)) (h16 : k = 16) (he : yErr P S0 (-15) p) : yRun P S0 0 fp p ws ms ((1, nI q, nI k) :: td) hs := by
  refine yRun_top (by omega) ⟨10 + 7, fun S hA => ?_⟩
  refine ⟨fun z => absurd (show (1 : Int32) = 0 from z) (by decide), fun _ => ⟨fun _ => ?_, fun z => absurd rfl z⟩⟩
  have n0 : ¬ tk p = 0 := fun z => by rw [z] at hs1; exact absurd hs1 (by decide)
  have n4 : ¬ tk p = 4 := hs1.2.2
  have hv : (-15 : Int32) ≠ 0 := by decide
  exact y_readStatements1 (q := q) (a := x) (c := y) hT hA hp hk b1 b2 b3 b4 hq ba bc (fun z => absurd z n0) (fun z => absurd z n4) (fun _ _ z => absurd hs1 z) (fun _ _ S1 h1 => ws_goto (t := 159) rfl (by decide) (ws_goto (t := 0) rfl (by decide) (yWp_err hv he h1 (Or.inr ⟨_, _, rfl⟩)))) (fun _ z => absurd z (by omega))
theorem yRun_s1 {k q x y : Nat} (hT : yTk S0 n tk par mn) (hp : p ≤ n) (hk : k ≤ 16) (b1 : ws.length + 2 ≤ 6000) (b2 : ms.length + 3 ≤ 8000) (b3 : td.length + 3 ≤ 4000) (b4 : hs.length < 2000) (hq : hs[q]? = some (some (x, y))) (ba : x < 6000) (bc : y < 8000) (hs1 : cIsS (tk p)) (hk16 : k < 16) (h : ySt P S0 (tk p) (nI k + 1) fp (p + 1) ws (ms ++ [30]) ((1, nI q, nI k) :: td) hs) : yRun P S0 0 fp p ws ms ((1, nI q, nI k) :: td) hs := by
  obtain ⟨N, hN⟩ := h
  refine yRun_top (by omega) ⟨N + 7, fun S hA => ?_⟩
  refine ⟨fun z => absurd (show (1 : Int32) = 0 from z) (by decide), fun _ => ⟨fun _ => ?_, fun z => absurd rfl z⟩⟩
  have n0 : ¬ tk p = 0 := fun z => by rw [z] at hs1; exact absurd hs1 (by decide)
  have n4 : ¬ tk p = 4 := hs1.2.2
  exact y_readStatements1 (q := q) (a := x) (c := y) hT hA hp hk b1 b2 b3 b4 hq ba bc (fun z => absurd z n0) (fun z => absurd z n4) (fun _ _ z => absurd hs1 z) (fun _ z => absurd hk16 (by omega)) (fun _ _ S1 Q h1 hQ => hN S1 Q h1 (fun S2 h2 => hQ S2 (ws_goto (t := 159) rfl (by decide) (ws_goto (t := 0) rfl (by decide) (h2 _ (Or.inr ⟨_, _, rfl⟩))))))
theorem ySt_1 {k : Int32} (hT : yTk S0 n tk par mn) (hp : p ≤ n) (b1 : ws.length + 6 ≤ 6000) (b2 : ms.length + 6 ≤ 8000) (b3 : td.length + 14 ≤ 4000) (b4 : hs.length + 2 ≤ 2000) (hq : cBare n tk 14 p = .ok (p + 1)) (h : yRun P S0 0 fp (p + 1) ws ms ((2, 0, k) :: (4, 3, 0) :: (4, tk p, 0) :: td) hs) : ySt P S0 1 k fp p ws ms td hs := by
  obtain ⟨N, hN⟩ := h
  refine ⟨N, fun S Q hA hQ => ?_⟩
  exact y_readStatement (d := 13) hT hA hp b1 b2 b3 b4 (by decide) (fun v q _ z => absurd (hq.symm.trans z) (by simp)) (fun _ _ S1 h1 => hQ S1 (fun lv hl => hN S1 lv h1 hl)) (fun v q z => absurd z (by decide)) (fun z => absurd z (by decide)) (fun z => absurd z (by decide)) (fun z => absurd z (by decide)) (fun z => absurd z (by decide)) (fun z => absurd z (by decide)) (fun z => absurd z (by decide)) (fun z => absurd z (by decide)) (fun z => absurd z (by decide))
theorem ySt_2 {k : Int32} (hT : yTk S0 n tk par mn) (hp : p ≤ n) (b1 : ws.length + 6 ≤ 6000) (b2 : ms.length + 6 ≤ 8000) (b3 : td.length + 14 ≤ 4000) (b4 : hs.length + 2 ≤ 2000) (hq : cBare n tk 6 p = .ok (p + 1)) (h : yRun P S0 0 fp (p + 1) ws ms ((3, 0, k) :: (4, 20, 0) :: (4, tk p, 0) :: td) hs) : ySt P S0 2 k fp p ws ms td hs := by
  obtain ⟨N, hN⟩ := h
  refine ⟨N, fun S Q hA hQ => ?_⟩
  exact y_readStatement (d := 13) hT hA hp b1 b2 b3 b4 (by decide) (fun v q z => absurd z (by decide)) (fun z => absurd z (by decide)) (fun v q _ z => absurd (hq.symm.trans z) (by simp)) (fun _ _ S1 h1 => hQ S1 (fun lv hl => hN S1 lv h1 hl)) (fun z => absurd z (by decide)) (fun z => absurd z (by decide)) (fun z => absurd z (by decide)) (fun z => absurd z (by decide)) (fun z => absurd z (by decide)) (fun z => absurd z (by decide)) (fun z => absurd z (by decide))
theorem ySt_3 {k : Int32} (hT : yTk S0 n tk par mn) (hp : p ≤ n) (b1 : ws.length + 6 ≤ 6000) (b2 : ms.length + 6 ≤ 8000) (b3 : td.length + 14 ≤ 4000) (b4 : hs.length + 2 ≤ 2000)  (h : yRun P S0 0 fp p ws ms ((2, 0, k) :: (4, 13, 0) :: (5, nI hs.length, 0) :: (1, nI hs.length, k) :: td) (hs ++ [none])) : ySt P S0 3 k fp p ws ms td hs := by
  obtain ⟨N, hN⟩ := h
  refine ⟨N, fun S Q hA hQ => ?_⟩
  exact y_readStatement (d := 13) hT hA hp b1 b2 b3 b4 (by decide) (fun v q z => absurd z (by decide)) (fun z => absurd z (by decide)) (fun v q z => absurd z (by decide)) (fun z => absurd z (by decide)) (fun _ S1 h1 => hQ S1 (fun lv hl => hN S1 lv h1 hl)) (fun z => absurd z (by decide)) (fun z => absurd z (by decide)) (fun z => absurd z (by decide)) (fun z => absurd z (by decide)) (fun z => absurd z (by decide)) (fun z => absurd z (by decide))
theorem ySt_5 {k : Int32} (hT : yTk S0 n tk par mn) (hp : p ≤ n) (b1 : ws.length + 6 ≤ 6000) (b2 : ms.length + 6 ≤ 8000) (b3 : td.length + 14 ≤ 4000) (b4 : hs.length + 2 ≤ 2000)  (h : yRun P S0 0 fp p ws ms ((2, 0, k) :: (4, 13, 0) :: (5, nI (hs.length + 1), 0) :: (0, 0, k) :: (4, 12, 0) :: (7, nI hs.length, 0) :: (6, nI (hs.length + 1), 0) :: td) (hs ++ some (ws.length, ms.length) :: none :: [])) : ySt P S0 5 k fp p ws ms td hs := by
  obtain ⟨N, hN⟩ := h
  refine ⟨N, fun S Q hA hQ => ?_⟩
  exact y_readStatement (d := 13) hT hA hp b1 b2 b3 b4 (by decide) (fun v q z => absurd z (by decide)) (fun z => absurd z (by decide)) (fun v q z => absurd z (by decide)) (fun z => absurd z (by decide)) (fun z => absurd z (by decide)) (fun _ S1 h1 => hQ S1 (fun lv hl => hN S1 lv h1 hl)) (fun z => absurd z (by decide)) (fun z => absurd z (by decide)) (fun z => absurd z (by decide)) (fun z => absurd z (by decide)) (fun z => absurd z (by decide))
theorem ySt_6 {k : Int32} (hT : yTk S0 n tk par mn) (hp : p ≤ n) (b1 : ws.length + 6 ≤ 6000) (b2 : ms.length + 6 ≤ 8000) (b3 : td.length + 14 ≤ 4000) (b4 : hs.length + 2 ≤ 2000) (h1 : cBare n tk 6 p = .ok (p + 1)) (h2 : cBare n tk 14 (p + 1) = .ok (p + 2)) (h3 : cBare n tk 14 (p + 2) = .ok (p + 3)) (h : yRun P S0 0 fp (p + 3) (ws ++ [19] ++ [tk p] ++ [29] ++ [tk (p + 1)] ++ [tk (p + 2)] ++ [0]) (ms ++ [19] ++ [tk p] ++ [29] ++ [tk (p + 1)] ++ [tk (p + 2)] ++ [0]) ((0, 0, k) :: (4, 12, 0) :: (7, nI hs.length, 0) :: (6, nI (hs.length + 1), 0) :: td) (hs ++ some (ws.length + 2, ms.length + 2) :: some (ws.length + 5, ms.length + 5) :: [])) : ySt P S0 6 k fp p ws ms td hs := by
  obtain ⟨N, hN⟩ := h
  refine ⟨N, fun S Q hA hQ => ?_⟩
  exact y_readStatement (d := 13) hT hA hp b1 b2 b3 b4 (by decide) (fun v q z => absurd z (by decide)) (fun z => absurd z (by decide)) (fun v q z => absurd z (by decide)) (fun z => absurd z (by decide)) (fun z => absurd z (by decide)) (fun z => absurd z (by decide)) (fun _ Q2 hQ2 => y_readOver (d := 13) hT hA hp b1 b2 (by omega) b4 (fun v q z => absurd (h1.symm.trans z) (by simp)) (fun v q _ z => absurd (h2.symm.trans z) (by simp)) (fun v q _ _ z => absurd (h3.symm.trans z) (by simp)) (fun _ _ _ S1 h1 => hQ2 S1 (hQ S1 (fun lv hl => hN S1 lv h1 hl)))) (fun z => absurd z (by decide)) (fun z => absurd z (by decide)) (fun z => absurd z (by decide)) (fun z => absurd z (by decide))
theorem ySt_f6a {k : Int32} (hT : yTk S0 n tk par mn) (hp : p ≤ n) (b1 : ws.length + 6 ≤ 6000) (b2 : ms.length + 6 ≤ 8000) (b3 : td.length + 14 ≤ 4000) (b4 : hs.length + 2 ≤ 2000) {v : Int32} {q : Nat} (hq : cBare n tk 6 p = .error (v, q)) (hv : v ≠ 0) (he : yErr P S0 v q) : ySt P S0 6 k fp p ws ms td hs := by
  refine ⟨10, fun S Q hA hQ => ?_⟩
  exact y_readStatement (d := 13) hT hA hp b1 b2 b3 b4 (by decide) (fun v q z => absurd z (by decide)) (fun z => absurd z (by decide)) (fun v q z => absurd z (by decide)) (fun z => absurd z (by decide)) (fun z => absurd z (by decide)) (fun z => absurd z (by decide)) (fun _ Q2 hQ2 => y_readOver (d := 13) hT hA hp b1 b2 (by omega) b4 (fun v1 q1 z _ S1 h1 => by
    obtain ⟨rfl, rfl⟩ : v = v1 ∧ q = q1 := by have := hq.symm.trans z; simp at this; exact this
    exact hQ2 S1 (hQ S1 (fun lv hl => yWp_err hv he h1 hl))) (fun v q z => absurd (hq.symm.trans z) (by simp)) (fun v q z => absurd (hq.symm.trans z) (by simp)) (fun z => absurd (hq.symm.trans z) (by simp))) (fun z => absurd z (by decide)) (fun z => absurd z (by decide)) (fun z => absurd z (by decide)) (fun z => absurd z (by decide))
theorem ySt_f6b {k : Int32} (hT : yTk S0 n tk par mn) (hp : p ≤ n) (b1 : ws.length + 6 ≤ 6000) (b2 : ms.length + 6 ≤ 8000) (b3 : td.length + 14 ≤ 4000) (b4 : hs.length + 2 ≤ 2000) {v : Int32} {q : Nat} (g1 : cBare n tk 6 p = .ok (p + 1)) (hq : cBare n tk 14 (p + 1) = .error (v, q)) (hv : v ≠ 0) (he : yErr P S0 v q) : ySt P S0 6 k fp p ws ms td hs := by
  refine ⟨10, fun S Q hA hQ => ?_⟩
  exact y_readStatement (d := 13) hT hA hp b1 b2 b3 b4 (by decide) (fun v q z => absurd z (by decide)) (fun z => absurd z (by decide)) (fun v q z => absurd z (by decide)) (fun z => absurd z (by decide)) (fun z => absurd z (by decide)) (fun z => absurd z (by decide)) (fun _ Q2 hQ2 => y_readOver (d := 13) hT hA hp b1 b2 (by omega) b4 (fun v q z => absurd (g1.symm.trans z) (by simp)) (fun v1 q1 _ z _ S1 h1 => by
    obtain ⟨rfl, rfl⟩ : v = v1 ∧ q = q1 := by have := hq.symm.trans z; simp at this; exact this
    exact hQ2 S1 (hQ S1 (fun lv hl => yWp_err hv he h1 hl))) (fun v q _ z => absurd (hq.symm.trans z) (by simp)) (fun _ z => absurd (hq.symm.trans z) (by simp))) (fun z => absurd z (by decide)) (fun z => absurd z (by decide)) (fun z => absurd z (by decide)) (fun z => absurd z (by decide))
theorem ySt_f6c {k : Int32} (hT : yTk S0 n tk par mn) (hp : p ≤ n) (b1 : ws.length + 6 ≤ 6000) (b2 : ms.length + 6 ≤ 8000) (b3 : td.length + 14 ≤ 4000) (b4 : hs.length + 2 ≤ 2000) {v : Int32} {q : Nat} (g1 : cBare n tk 6 p = .ok (p + 1)) (g2 : cBare n tk 14 (p + 1) = .ok (p + 2)) (hq : cBare n tk 14 (p + 2) = .error (v, q)) (hv : v ≠ 0) (he : yErr P S0 v q) : ySt P S0 6 k fp p ws ms td hs := by
  refine ⟨10, fun S Q hA hQ => ?_⟩
  exact y_readStatement (d := 13) hT hA hp b1 b2 b3 b4 (by decide) (fun v q z => absurd z (by decide)) (fun z => absurd z (by decide)) (fun v q z => absurd z (by decide)) (fun z => absurd z (by decide)) (fun z => absurd z (by decide)) (fun z => absurd z (by decide)) (fun _ Q2 hQ2 => y_readOver (d := 13) hT hA hp b1 b2 (by omega) b4 (fun v q z => absurd (g1.symm.trans z) (by simp)) (fun v q _ z => absurd (g2.symm.trans z) (by simp)) (fun v1 q1 _ _ z _ S1 h1 => by
    obtain ⟨rfl, rfl⟩ : v = v1 ∧ q = q1 := by have := hq.symm.trans z; simp at this; exact this
    exact hQ2 S1 (hQ S1 (fun lv hl => yWp_err hv he h1 hl))) (fun _ _ z => absurd (hq.symm.trans z) (by simp))) (fun z => absurd z (by decide)) (fun z => absurd z (by decide)) (fun z => absurd z (by decide)) (fun z => absurd z (by decide))
theorem ySt_7 {k : Int32} (hT : yTk S0 n tk par mn) (hp : p ≤ n) (b1 : ws.length + 6 ≤ 6000) (b2 : ms.length + 6 ≤ 8000) (b3 : td.length + 14 ≤ 4000) (b4 : hs.length + 2 ≤ 2000)  (h : yRun P S0 0 fp p ws ms ((2, 0, k) :: (4, 15, 0) :: td) hs) : ySt P S0 7 k fp p ws ms td hs := by
  obtain ⟨N, hN⟩ := h
  refine ⟨N, fun S Q hA hQ => ?_⟩
  exact y_readStatement (d := 13) hT hA hp b1 b2 b3 b4 (by decide) (fun v q z => absurd z (by decide)) (fun z => absurd z (by decide)) (fun v q z => absurd z (by decide)) (fun z => absurd z (by decide)) (fun z => absurd z (by decide)) (fun z => absurd z (by decide)) (fun z => absurd z (by decide)) (fun _ S1 h1 => hQ S1 (fun lv hl => hN S1 lv h1 hl)) (fun z => absurd z (by decide)) (fun z => absurd z (by decide)) (fun z => absurd z (by decide))
theorem ySt_8 {k : Int32} (hT : yTk S0 n tk par mn) (hp : p ≤ n) (b1 : ws.length + 6 ≤ 6000) (b2 : ms.length + 6 ≤ 8000) (b3 : td.length + 14 ≤ 4000) (b4 : hs.length + 2 ≤ 2000) (hq : cKnown n tk par p = .ok (p + 1)) (h : yRun P S0 0 fp (p + 1) ws ms (List.replicate (cPar par (tk p)).toNatClampNeg (2, 0, k) ++ (4, 16, 0) :: (4, tk p, 0) :: (4, 18, 0) :: td) hs) : ySt P S0 8 k fp p ws ms td hs := by
  obtain ⟨N, hN⟩ := h
  refine ⟨N, fun S Q hA hQ => ?_⟩
  exact y_readStatement (d := 13) hT hA hp b1 b2 b3 b4 (by decide) (fun v q z => absurd z (by decide)) (fun z => absurd z (by decide)) (fun v q z => absurd z (by decide)) (fun z => absurd z (by decide)) (fun z => absurd z (by decide)) (fun z => absurd z (by decide)) (fun z => absurd z (by decide)) (fun z => absurd z (by decide)) (fun _ v q z => absurd (hq.symm.trans z) (by simp)) (fun _ _ S1 h1 => hQ S1 (fun lv hl => hN S1 lv h1 hl)) (fun z => absurd z (by decide))
theorem ySt_9 {k : Int32} (hT : yTk S0 n tk par mn) (hp : p ≤ n) (b1 : ws.length + 6 ≤ 6000) (b2 : ms.length + 6 ≤ 8000) (b3 : td.length + 14 ≤ 4000) (b4 : hs.length + 2 ≤ 2000)  (h : yRun P S0 0 fp p ws ms ((2, 0, k) :: (if mn then (4, 18, 0) :: (4, 0, 0) :: td else (4, 17, 0) :: td)) hs) : ySt P S0 9 k fp p ws ms td hs := by
  obtain ⟨N, hN⟩ := h
  refine ⟨N, fun S Q hA hQ => ?_⟩
  exact y_readStatement (d := 13) hT hA hp b1 b2 b3 b4 (by decide) (fun v q z => absurd z (by decide)) (fun z => absurd z (by decide)) (fun v q z => absurd z (by decide)) (fun z => absurd z (by decide)) (fun z => absurd z (by decide)) (fun z => absurd z (by decide)) (fun z => absurd z (by decide)) (fun z => absurd z (by decide)) (fun z => absurd z (by decide)) (fun z => absurd z (by decide)) (fun _ S1 h1 => hQ S1 (fun lv hl => hN S1 lv h1 hl))
theorem ySt_f1 {k : Int32} (hT : yTk S0 n tk par mn) (hp : p ≤ n) (b1 : ws.length + 6 ≤ 6000) (b2 : ms.length + 6 ≤ 8000) (b3 : td.length + 14 ≤ 4000) (b4 : hs.length + 2 ≤ 2000) {v : Int32} {q : Nat} (hq : cBare n tk 14 p = .error (v, q)) (hv : v ≠ 0) (he : yErr P S0 v q) : ySt P S0 1 k fp p ws ms td hs := by
  refine ⟨10, fun S Q hA hQ => ?_⟩
  exact y_readStatement (d := 13) hT hA hp b1 b2 b3 b4 (by decide) (fun v1 q1 _ z _ S1 td1 h1 => by
    obtain ⟨rfl, rfl⟩ : v = v1 ∧ q = q1 := by have := hq.symm.trans z; simp at this; exact this
    exact hQ S1 (fun lv hl => yWp_err hv he h1 hl)) (fun _ z => absurd (hq.symm.trans z) (by simp)) (fun v q z => absurd z (by decide)) (fun z => absurd z (by decide)) (fun z => absurd z (by decide)) (fun z => absurd z (by decide)) (fun z => absurd z (by decide)) (fun z => absurd z (by decide)) (fun z => absurd z (by decide)) (fun z => absurd z (by decide)) (fun z => absurd z (by decide))
theorem ySt_f2 {k : Int32} (hT : yTk S0 n tk par mn) (hp : p ≤ n) (b1 : ws.length + 6 ≤ 6000) (b2 : ms.length + 6 ≤ 8000) (b3 : td.length + 14 ≤ 4000) (b4 : hs.length + 2 ≤ 2000) {v : Int32} {q : Nat} (hq : cBare n tk 6 p = .error (v, q)) (hv : v ≠ 0) (he : yErr P S0 v q) : ySt P S0 2 k fp p ws ms td hs := by
  refine ⟨10, fun S Q hA hQ => ?_⟩
  exact y_readStatement (d := 13) hT hA hp b1 b2 b3 b4 (by decide) (fun v q z => absurd z (by decide)) (fun z => absurd z (by decide)) (fun v1 q1 _ z _ S1 td1 h1 => by
    obtain ⟨rfl, rfl⟩ : v = v1 ∧ q = q1 := by have := hq.symm.trans z; simp at this; exact this
    exact hQ S1 (fun lv hl => yWp_err hv he h1 hl)) (fun _ z => absurd (hq.symm.trans z) (by simp)) (fun z => absurd z (by decide)) (fun z => absurd z (by decide)) (fun z => absurd z (by decide)) (fun z => absurd z (by decide)) (fun z => absurd z (by decide)) (fun z => absurd z (by decide)) (fun z => absurd z (by decide))
theorem ySt_f8 {k : Int32} (hT : yTk S0 n tk par mn) (hp : p ≤ n) (b1 : ws.length + 6 ≤ 6000) (b2 : ms.length + 6 ≤ 8000) (b3 : td.length + 14 ≤ 4000) (b4 : hs.length + 2 ≤ 2000) {v : Int32} {q : Nat} (hq : cKnown n tk par p = .error (v, q)) (hv : v ≠ 0) (he : yErr P S0 v q) : ySt P S0 8 k fp p ws ms td hs := by
  refine ⟨10, fun S Q hA hQ => ?_⟩
  exact y_readStatement (d := 13) hT hA hp b1 b2 b3 b4 (by decide) (fun v q z => absurd z (by decide)) (fun z => absurd z (by decide)) (fun v q z => absurd z (by decide)) (fun z => absurd z (by decide)) (fun z => absurd z (by decide)) (fun z => absurd z (by decide)) (fun z => absurd z (by decide)) (fun z => absurd z (by decide)) (fun _ v1 q1 z _ S1 td1 h1 => by
    obtain ⟨rfl, rfl⟩ : v = v1 ∧ q = q1 := by have := hq.symm.trans z; simp at this; exact this
    exact hQ S1 (fun lv hl => yWp_err hv he h1 hl)) (fun _ z => absurd (hq.symm.trans z) (by simp)) (fun z => absurd z (by decide))
end YA

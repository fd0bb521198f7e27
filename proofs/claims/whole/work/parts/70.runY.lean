/-! THE REFERENCE READS: its loop, by what is to do -/
abbrev yWp (P : Option Value → mv_S → Prop) (N pc : Nat) (lv : List (Nat × Value)) (st : List Value) (S : mv_S) : Prop := mv_wp layY sysY tT11 3 none mX11_readAll.2.2.2.2.2.2.2 (mv_big layY sysY 20) P N pc lv st S
def yLv (lv : List (Nat × Value)) : Prop := lv = [(0, .ref 0)] ∨ ∃ a b, lv = [(2, .int a), (1, .int b), (0, .ref 0)]
/-- from this state on, the loop ends with P -/
def yRun (P : Option Value → mv_S → Prop) (S0 : mv_S) (w fp : Int32) (p : Nat) (ws ms : List Int32) (td : List (Int32 × Int32 × Int32)) (hs : List (Option (Nat × Nat))) : Prop :=
  ∃ N, ∀ S lv, yAt S0 S w fp p ws ms td hs → yLv lv → yWp P N 0 lv [] S
def yErr (P : Option Value → mv_S → Prop) (S0 : mv_S) (v : Int32) (q : Nat) : Prop := ∀ S p ws ms td hs, yAt S0 S v (nI q) p ws ms td hs → P none S
section YA
variable {P : Option Value → mv_S → Prop} {S0 : mv_S} {w fp : Int32} {n p : Nat} {tk par : Nat → Int32} {mn : Bool} {ws ms : List Int32} {td : List (Int32 × Int32 × Int32)} {hs : List (Option (Nat × Nat))}
theorem yWp_err {v : Int32} {q : Nat} {S : mv_S} {lv : List (Nat × Value)} (hv : v ≠ 0) (he : yErr P S0 v q) (h : yAt S0 S v (nI q) p ws ms td hs) (hl : yLv lv) : yWp P 10 0 lv [] S := by
  have hP := he S _ _ _ _ _ h
  have f : ¬ S.1 0 3 = 0 := by rw [h.1]; exact hv
  rcases hl with rfl | ⟨a, b, rfl⟩
  · exact ⟨fun _ => hP, fun _ => ⟨fun _ => hP, fun z => absurd z f⟩⟩
  · exact ⟨fun _ => hP, fun _ => ⟨fun _ => hP, fun z => absurd z f⟩⟩
theorem yRun_end (he : ∀ S, yAt S0 S 0 fp p ws ms [] hs → P none S) : yRun P S0 0 fp p ws ms [] hs := by
  refine ⟨10, fun S lv h hl => ?_⟩
  have hP := he S h
  have f : S.1 0 20 ≤ 0 := by rw [h.2.2.2.2.2.1.1]; decide
  rcases hl with rfl | ⟨a, b, rfl⟩
  · exact ⟨fun _ => hP, fun z => absurd f z⟩
  · exact ⟨fun _ => hP, fun z => absurd f z⟩
theorem yRun_top {a b c : Int32} (hb : td.length < 4000) (h : ∃ M, ∀ S, yAt S0 S 0 fp p ws ms td hs → yWp P M 53 [(2, .int c), (1, .int b), (0, .ref 0)] [.int a] S) : yRun P S0 0 fp p ws ms ((a, b, c) :: td) hs := by
  obtain ⟨M, hM⟩ := h
  refine ⟨M + 29, fun S lv hA hl => ?_⟩
  have t1 : S.1 0 20 = nI (td.length + 1) := hA.2.2.2.2.2.1.1
  have f1 : ¬ S.1 0 20 ≤ 0 := by rw [t1]; exact nI_nle (by omega) (by omega)
  have f2 : S.1 0 3 = 0 := hA.1
  have hA1 := yAt_pop hA
  have t2 : (mv_pf S 0 20 (S.1 0 20 - 1)).1 0 20 = nI td.length := hA1.2.2.2.2.2.1.1
  have v1 : vp_in ((mv_pf S 0 20 (S.1 0 20 - 1)).1 0 20) 4000 := by rw [t2]; exact vp_in_nI hb (by decide)
  obtain ⟨q1, q2, q3, _⟩ := hA.2.2.2.2.2.1.2
  have q1 : (mv_pf S 0 20 (S.1 0 20 - 1)).2.1 8 ((mv_pf S 0 20 (S.1 0 20 - 1)).1 0 20).toNatClampNeg = a := by rw [t2, nI_clamp (by omega)]; exact q1
  have q2 : (mv_pf S 0 20 (S.1 0 20 - 1)).2.1 9 ((mv_pf S 0 20 (S.1 0 20 - 1)).1 0 20).toNatClampNeg = b := by rw [t2, nI_clamp (by omega)]; exact q2
  have q3 : (mv_pf S 0 20 (S.1 0 20 - 1)).2.1 10 ((mv_pf S 0 20 (S.1 0 20 - 1)).1 0 20).toNatClampNeg = c := by rw [t2, nI_clamp (by omega)]; exact q3
  have h2 := hM _ hA1
  rw [← q1, ← q2, ← q3] at h2
  rcases hl with rfl | ⟨x, y, rfl⟩
  · exact ⟨fun z => absurd z f1, fun _ => ⟨fun z => absurd f2 z, fun _ => ⟨v1, v1, v1, h2⟩⟩⟩
  · exact ⟨fun z => absurd z f1, fun _ => ⟨fun z => absurd f2 z, fun _ => ⟨v1, v1, v1, h2⟩⟩⟩
theorem yRun_word {b c : Int32} (hb : td.length < 4000) (b1 : ws.length < 6000) (b2 : ms.length < 8000) (h : yRun P S0 0 fp p (ws ++ [b]) (ms ++ [b]) td hs) : yRun P S0 0 fp p ws ms ((4, b, c) :: td) hs := by
  obtain ⟨N, hN⟩ := h
  refine yRun_top hb ⟨N + 6, fun S hA => ?_⟩
  refine ⟨fun z => absurd (show (4 : Int32) = 0 from z) (by decide), fun _ => ⟨fun z => absurd (show (4 : Int32) = 1 from z) (by decide), fun _ => ⟨fun z => absurd (show (4 : Int32) = 2 from z) (by decide), fun _ => ⟨fun z => absurd (show (4 : Int32) = 3 from z) (by decide), fun _ => ⟨fun _ => ?_, fun z => absurd rfl z⟩⟩⟩⟩⟩
  exact y_layA (x := b) hA b1 b2 (fun S1 h1 => ws_goto (t := 159) rfl (by decide) (ws_goto (t := 0) rfl (by decide) (hN S1 _ h1 (Or.inr ⟨_, _, rfl⟩))))
theorem yRun_hole {b c : Int32} {q : Nat} (hb : td.length < 4000) (b1 : ws.length < 6000) (b2 : ms.length < 8000) (b3 : q < 2000) (h : yRun P S0 0 fp p (ws ++ [0]) (ms ++ [0]) td (hs.set q (some (ws.length, ms.length)))) : yRun P S0 0 fp p ws ms ((5, nI q, c) :: td) hs := by
  obtain ⟨N, hN⟩ := h
  refine yRun_top hb ⟨N + 6, fun S hA => ?_⟩
  refine ⟨fun z => absurd (show (5 : Int32) = 0 from z) (by decide), fun _ => ⟨fun z => absurd (show (5 : Int32) = 1 from z) (by decide), fun _ => ⟨fun z => absurd (show (5 : Int32) = 2 from z) (by decide), fun _ => ⟨fun z => absurd (show (5 : Int32) = 3 from z) (by decide), fun _ => ⟨fun z => absurd (show (5 : Int32) = 4 from z) (by decide), fun _ => ⟨fun _ => ?_, fun z => absurd rfl z⟩⟩⟩⟩⟩⟩
  exact y_layHoleA (q := q) hA b1 b2 b3 (fun S1 h1 => ws_goto (t := 159) rfl (by decide) (ws_goto (t := 0) rfl (by decide) (hN S1 _ h1 (Or.inr ⟨_, _, rfl⟩))))
theorem yRun_target {b c : Int32} {q x y : Nat} (hb : td.length < 4000) (b3 : q < 2000) (hq : hs[q]? = some (some (x, y))) (b1 : x < 6000) (b2 : y < 8000) (h : yRun P S0 0 fp p (ws.set x (nI ws.length)) (ms.set y (nI ms.length)) td hs) : yRun P S0 0 fp p ws ms ((6, nI q, c) :: td) hs := by
  obtain ⟨N, hN⟩ := h
  refine yRun_top hb ⟨N + 6, fun S hA => ?_⟩
  refine ⟨fun z => absurd (show (6 : Int32) = 0 from z) (by decide), fun _ => ⟨fun z => absurd (show (6 : Int32) = 1 from z) (by decide), fun _ => ⟨fun z => absurd (show (6 : Int32) = 2 from z) (by decide), fun _ => ⟨fun z => absurd (show (6 : Int32) = 3 from z) (by decide), fun _ => ⟨fun z => absurd (show (6 : Int32) = 4 from z) (by decide), fun _ => ⟨fun z => absurd (show (6 : Int32) = 5 from z) (by decide), fun _ => ⟨fun _ => ?_, fun z => absurd rfl z⟩⟩⟩⟩⟩⟩⟩
  exact y_fillA (q := q) hA b3 hq b1 b2 (fun S1 h1 => ws_goto (t := 159) rfl (by decide) (ws_goto (t := 0) rfl (by decide) (hN S1 _ h1 (Or.inr ⟨_, _, rfl⟩))))
theorem yRun_back {b c : Int32} {q x y : Nat} (hb : td.length < 4000) (b3 : q < 2000) (hq : hs[q]? = some (some (x, y))) (b1 : ws.length < 6000) (b2 : ms.length < 8000) (h : yRun P S0 0 fp p (ws ++ [nI x]) (ms ++ [nI y]) td hs) : yRun P S0 0 fp p ws ms ((7, nI q, c) :: td) hs := by
  obtain ⟨N, hN⟩ := h
  refine yRun_top hb ⟨N + 5, fun S hA => ?_⟩
  refine ⟨fun z => absurd (show (7 : Int32) = 0 from z) (by decide), fun _ => ⟨fun z => absurd (show (7 : Int32) = 1 from z) (by decide), fun _ => ⟨fun z => absurd (show (7 : Int32) = 2 from z) (by decide), fun _ => ⟨fun z => absurd (show (7 : Int32) = 3 from z) (by decide), fun _ => ⟨fun z => absurd (show (7 : Int32) = 4 from z) (by decide), fun _ => ⟨fun z => absurd (show (7 : Int32) = 5 from z) (by decide), fun _ => ⟨fun z => absurd (show (7 : Int32) = 6 from z) (by decide), fun _ => ?_⟩⟩⟩⟩⟩⟩⟩
  exact y_layBackA (q := q) hA b3 hq b1 b2 (fun S1 h1 => ws_goto (t := 0) rfl (by decide) (hN S1 _ h1 (Or.inr ⟨_, _, rfl⟩)))
theorem yRun_e20 {k : Nat} {x : Int32} (hT : yTk S0 n tk par mn) (hp : p ≤ n) (b1 : ws.length + 2 ≤ 6000) (b2 : ms.length + 3 ≤ 8000) (b3 : td.length + 12 ≤ 4000) (hk : k < 16) (t : tk p = 20) (hq : p + 1 < n) (h : yRun P S0 0 fp (p + 2) (ws ++ [1] ++ [tk (p + 1)]) (ms ++ [30] ++ [1] ++ [tk (p + 1)]) td hs) : yRun P S0 0 fp p ws ms ((2, x, nI k) :: td) hs := by
  obtain ⟨N, hN⟩ := h
  refine yRun_top (by omega) ⟨N + 6, fun S hA => ?_⟩
  refine ⟨fun z => absurd (show (2 : Int32) = 0 from z) (by decide), fun _ => ⟨fun z => absurd (show (2 : Int32) = 1 from z) (by decide), fun _ => ⟨fun _ => ?_, fun z => absurd rfl z⟩⟩⟩
  have ck : cKind false (tk p) := by rw [t]; decide
  have n21 : ¬ tk p = 21 := by rw [t]; decide
  have nP : ¬ (22 ≤ tk p ∧ tk p ≤ 29 ∨ 32 ≤ tk p ∧ tk p ≤ 35) := by rw [t]; decide
  have n30 : ¬ (tk p = 30 ∨ tk p = 31) := by rw [t]; decide
  have n36 : ¬ tk p = 36 := by rw [t]; decide
  exact y_readExpression hT hA hp (by omega) b1 b2 b3 (fun z => absurd ck z) (fun _ z => absurd hk (by omega)) (fun _ _ _ S1 h1 => ws_goto (t := 159) rfl (by decide) (ws_goto (t := 0) rfl (by decide) (hN S1 _ h1 (Or.inr ⟨_, _, rfl⟩)))) (fun _ _ z => absurd hq z) (fun _ z => absurd z n21) (fun _ z => absurd z n21) (fun _ z => absurd z nP) (fun _ z => absurd z n30) (fun _ z => absurd z n36) (fun _ z => absurd z n36)
theorem yRun_e21 {k : Nat} {x : Int32} (hT : yTk S0 n tk par mn) (hp : p ≤ n) (b1 : ws.length + 2 ≤ 6000) (b2 : ms.length + 3 ≤ 8000) (b3 : td.length + 12 ≤ 4000) (hk : k < 16) (t : tk p = 21) (hq : cBare n tk 14 (p + 1) = .ok (p + 2)) (h : yRun P S0 0 fp (p + 2) (ws ++ [2] ++ [tk (p + 1)]) (ms ++ [30] ++ [2] ++ [tk (p + 1)]) td hs) : yRun P S0 0 fp p ws ms ((2, x, nI k) :: td) hs := by
  obtain ⟨N, hN⟩ := h
  refine yRun_top (by omega) ⟨N + 6, fun S hA => ?_⟩
  refine ⟨fun z => absurd (show (2 : Int32) = 0 from z) (by decide), fun _ => ⟨fun z => absurd (show (2 : Int32) = 1 from z) (by decide), fun _ => ⟨fun _ => ?_, fun z => absurd rfl z⟩⟩⟩
  have ck : cKind false (tk p) := by rw [t]; decide
  have n20 : ¬ tk p = 20 := by rw [t]; decide
  have nP : ¬ (22 ≤ tk p ∧ tk p ≤ 29 ∨ 32 ≤ tk p ∧ tk p ≤ 35) := by rw [t]; decide
  have n30 : ¬ (tk p = 30 ∨ tk p = 31) := by rw [t]; decide
  have n36 : ¬ tk p = 36 := by rw [t]; decide
  exact y_readExpression hT hA hp (by omega) b1 b2 b3 (fun z => absurd ck z) (fun _ z => absurd hk (by omega)) (fun _ z => absurd z n20) (fun _ z => absurd z n20) (fun _ _ _ S1 h1 => ws_goto (t := 159) rfl (by decide) (ws_goto (t := 0) rfl (by decide) (hN S1 _ h1 (Or.inr ⟨_, _, rfl⟩)))) (fun _ _ v q z => absurd (hq.symm.trans z) (by simp)) (fun _ z => absurd z nP) (fun _ z => absurd z n30) (fun _ z => absurd z n36) (fun _ z => absurd z n36)
theorem yRun_eP {k : Nat} {x : Int32} (hT : yTk S0 n tk par mn) (hp : p ≤ n) (b1 : ws.length + 2 ≤ 6000) (b2 : ms.length + 3 ≤ 8000) (b3 : td.length + 12 ≤ 4000) (hk : k < 16) (r : 22 ≤ tk p ∧ tk p ≤ 29 ∨ 32 ≤ tk p ∧ tk p ≤ 35) (h : yRun P S0 0 fp (p + 1) ws (ms ++ [30]) (yPa (tk p) (nI k + 1) td) hs) : yRun P S0 0 fp p ws ms ((2, x, nI k) :: td) hs := by
  obtain ⟨N, hN⟩ := h
  refine yRun_top (by omega) ⟨N + 6, fun S hA => ?_⟩
  refine ⟨fun z => absurd (show (2 : Int32) = 0 from z) (by decide), fun _ => ⟨fun z => absurd (show (2 : Int32) = 1 from z) (by decide), fun _ => ⟨fun _ => ?_, fun z => absurd rfl z⟩⟩⟩
  have ck : cKind false (tk p) := by
    rcases r with r | r
    · exact ⟨Int32.le_trans (by decide) r.1, Int32.le_trans r.2 (by decide)⟩
    · exact ⟨Int32.le_trans (by decide) r.1, Int32.le_trans r.2 (by decide)⟩
  have n20 : ¬ tk p = 20 := fun z => by rw [z] at r; exact absurd r (by decide)
  have n21 : ¬ tk p = 21 := fun z => by rw [z] at r; exact absurd r (by decide)
  have n36 : ¬ tk p = 36 := fun z => by rw [z] at r; exact absurd r (by decide)
  have n30 : ¬ (tk p = 30 ∨ tk p = 31) := fun z => by rcases z with z | z <;> rw [z] at r <;> exact absurd r (by decide)
  exact y_readExpression hT hA hp (by omega) b1 b2 b3 (fun z => absurd ck z) (fun _ z => absurd hk (by omega)) (fun _ z => absurd z n20) (fun _ z => absurd z n20) (fun _ z => absurd z n21) (fun _ z => absurd z n21) (fun _ _ S1 h1 => ws_goto (t := 159) rfl (by decide) (ws_goto (t := 0) rfl (by decide) (hN S1 _ h1 (Or.inr ⟨_, _, rfl⟩)))) (fun _ z => absurd z n30) (fun _ z => absurd z n36) (fun _ z => absurd z n36)
theorem yRun_e30 {k : Nat} {x : Int32} (hT : yTk S0 n tk par mn) (hp : p ≤ n) (b1 : ws.length + 2 ≤ 6000) (b2 : ms.length + 3 ≤ 8000) (b3 : td.length + 12 ≤ 4000) (hk : k < 16) (r : tk p = 30 ∨ tk p = 31) (h : yRun P S0 0 fp (p + 1) ws (ms ++ [30]) (yEiT (tk p) (nI k + 1) hs.length td) (hs ++ [none] ++ [none])) : yRun P S0 0 fp p ws ms ((2, x, nI k) :: td) hs := by
  obtain ⟨N, hN⟩ := h
  refine yRun_top (by omega) ⟨N + 6, fun S hA => ?_⟩
  refine ⟨fun z => absurd (show (2 : Int32) = 0 from z) (by decide), fun _ => ⟨fun z => absurd (show (2 : Int32) = 1 from z) (by decide), fun _ => ⟨fun _ => ?_, fun z => absurd rfl z⟩⟩⟩
  have ck : cKind false (tk p) := by rcases r with r | r <;> rw [r] <;> decide
  have n20 : ¬ tk p = 20 := by rcases r with r | r <;> rw [r] <;> decide
  have n21 : ¬ tk p = 21 := by rcases r with r | r <;> rw [r] <;> decide
  have nP : ¬ (22 ≤ tk p ∧ tk p ≤ 29 ∨ 32 ≤ tk p ∧ tk p ≤ 35) := by rcases r with r | r <;> rw [r] <;> decide
  have n36 : ¬ tk p = 36 := by rcases r with r | r <;> rw [r] <;> decide
  exact y_readExpression hT hA hp (by omega) b1 b2 b3 (fun z => absurd ck z) (fun _ z => absurd hk (by omega)) (fun _ z => absurd z n20) (fun _ z => absurd z n20) (fun _ z => absurd z n21) (fun _ z => absurd z n21) (fun _ z => absurd z nP) (fun _ _ S1 h1 => ws_goto (t := 159) rfl (by decide) (ws_goto (t := 0) rfl (by decide) (hN S1 _ h1 (Or.inr ⟨_, _, rfl⟩)))) (fun _ z => absurd z n36) (fun _ z => absurd z n36)
theorem yRun_e36 {k : Nat} {x : Int32} (hT : yTk S0 n tk par mn) (hp : p ≤ n) (b1 : ws.length + 2 ≤ 6000) (b2 : ms.length + 3 ≤ 8000) (b3 : td.length + 12 ≤ 4000) (hk : k < 16) (t : tk p = 36) (hq : cKnown n tk par (p + 1) = .ok (p + 2)) (h : yRun P S0 0 fp (p + 2) ws (ms ++ [30]) (List.replicate (cPar par (tk (p + 1))).toNatClampNeg (2, 0, nI k + 1) ++ (4, 16, 0) :: (4, tk (p + 1), 0) :: td) hs) : yRun P S0 0 fp p ws ms ((2, x, nI k) :: td) hs := by
  obtain ⟨N, hN⟩ := h
  refine yRun_top (by omega) ⟨N + 6, fun S hA => ?_⟩
  refine ⟨fun z => absurd (show (2 : Int32) = 0 from z) (by decide), fun _ => ⟨fun z => absurd (show (2 : Int32) = 1 from z) (by decide), fun _ => ⟨fun _ => ?_, fun z => absurd rfl z⟩⟩⟩
  have ck : cKind false (tk p) := by rw [t]; decide
  have n20 : ¬ tk p = 20 := by rw [t]; decide
  have n21 : ¬ tk p = 21 := by rw [t]; decide
  have nP : ¬ (22 ≤ tk p ∧ tk p ≤ 29 ∨ 32 ≤ tk p ∧ tk p ≤ 35) := by rw [t]; decide
  have n30 : ¬ (tk p = 30 ∨ tk p = 31) := by rw [t]; decide
  exact y_readExpression hT hA hp (by omega) b1 b2 b3 (fun z => absurd ck z) (fun _ z => absurd hk (by omega)) (fun _ z => absurd z n20) (fun _ z => absurd z n20) (fun _ z => absurd z n21) (fun _ z => absurd z n21) (fun _ z => absurd z nP) (fun _ z => absurd z n30) (fun _ _ v q z => absurd (hq.symm.trans z) (by simp)) (fun _ _ _ S1 h1 => ws_goto (t := 159) rfl (by decide) (ws_goto (t := 0) rfl (by decide) (hN S1 _ h1 (Or.inr ⟨_, _, rfl⟩))))
theorem yRun_eW {k : Nat} {x : Int32} (hT : yTk S0 n tk par mn) (hp : p ≤ n) (b1 : ws.length + 2 ≤ 6000) (b2 : ms.length + 3 ≤ 8000) (b3 : td.length + 12 ≤ 4000) (hk : k ≤ 16) (t : ¬ cKind false (tk p)) (he : yErr P S0 (-11) p) : yRun P S0 0 fp p ws ms ((2, x, nI k) :: td) hs := by
  refine yRun_top (by omega) ⟨10 + 6, fun S hA => ?_⟩
  refine ⟨fun z => absurd (show (2 : Int32) = 0 from z) (by decide), fun _ => ⟨fun z => absurd (show (2 : Int32) = 1 from z) (by decide), fun _ => ⟨fun _ => ?_, fun z => absurd rfl z⟩⟩⟩
  have hv : (-11 : Int32) ≠ 0 := by decide
  exact y_readExpression hT hA hp (by omega) b1 b2 b3 (fun _ S1 h1 => ws_goto (t := 159) rfl (by decide) (ws_goto (t := 0) rfl (by decide) (yWp_err hv he h1 (Or.inr ⟨_, _, rfl⟩)))) (fun z => absurd z t) (fun _ z => absurd (by rw [z]; decide) t) (fun _ z => absurd (by rw [z]; decide) t) (fun _ z => absurd (by rw [z]; decide) t) (fun _ z => absurd (by rw [z]; decide) t) (fun _ z => absurd (z.elim (fun y => ⟨Int32.le_trans (by decide) y.1, Int32.le_trans y.2 (by decide)⟩) (fun y => ⟨Int32.le_trans (by decide) y.1, Int32.le_trans y.2 (by decide)⟩)) t) (fun _ z => absurd (by rcases z with z | z <;> rw [z] <;> decide) t) (fun _ z => absurd (by rw [z]; decide) t) (fun _ z => absurd (by rw [z]; decide) t)
theorem yRun_eD {k : Nat} {x : Int32} (hT : yTk S0 n tk par mn) (hp : p ≤ n) (b1 : ws.length + 2 ≤ 6000) (b2 : ms.length + 3 ≤ 8000) (b3 : td.length + 12 ≤ 4000)  (t : cKind false (tk p)) (h16 : k = 16) (he : yErr P S0 (-15) p) : yRun P S0 0 fp p ws ms ((2, x, nI k) :: td) hs := by
  refine yRun_top (by omega) ⟨10 + 6, fun S hA => ?_⟩
  refine ⟨fun z => absurd (show (2 : Int32) = 0 from z) (by decide), fun _ => ⟨fun z => absurd (show (2 : Int32) = 1 from z) (by decide), fun _ => ⟨fun _ => ?_, fun z => absurd rfl z⟩⟩⟩
  have hv : (-15 : Int32) ≠ 0 := by decide
  exact y_readExpression hT hA hp (by omega) b1 b2 b3 (fun z => absurd t z) (fun _ _ S1 h1 => ws_goto (t := 159) rfl (by decide) (ws_goto (t := 0) rfl (by decide) (yWp_err hv he h1 (Or.inr ⟨_, _, rfl⟩)))) (fun z => absurd z (by omega)) (fun z => absurd z (by omega)) (fun z => absurd z (by omega)) (fun z => absurd z (by omega)) (fun z => absurd z (by omega)) (fun z => absurd z (by omega)) (fun z => absurd z (by omega)) (fun z => absurd z (by omega))
theorem yRun_f20 {k : Nat} {x : Int32} (hT : yTk S0 n tk par mn) (hp : p ≤ n) (b1 : ws.length + 2 ≤ 6000) (b2 : ms.length + 3 ≤ 8000) (b3 : td.length + 12 ≤ 4000) (hk : k < 16) (t : tk p = 20) (hq : ¬ p + 1 < n) (he : yErr P S0 (-11) (p + 1)) : yRun P S0 0 fp p ws ms ((2, x, nI k) :: td) hs := by
  refine yRun_top (by omega) ⟨10 + 6, fun S hA => ?_⟩
  refine ⟨fun z => absurd (show (2 : Int32) = 0 from z) (by decide), fun _ => ⟨fun z => absurd (show (2 : Int32) = 1 from z) (by decide), fun _ => ⟨fun _ => ?_, fun z => absurd rfl z⟩⟩⟩
  have ck : cKind false (tk p) := by rw [t]; decide
  have n21 : ¬ tk p = 21 := by rw [t]; decide
  have nP : ¬ (22 ≤ tk p ∧ tk p ≤ 29 ∨ 32 ≤ tk p ∧ tk p ≤ 35) := by rw [t]; decide
  have n30 : ¬ (tk p = 30 ∨ tk p = 31) := by rw [t]; decide
  have n36 : ¬ tk p = 36 := by rw [t]; decide
  have hv : (-11 : Int32) ≠ 0 := by decide
  exact y_readExpression hT hA hp (by omega) b1 b2 b3 (fun z => absurd ck z) (fun _ z => absurd hk (by omega)) (fun _ _ z => absurd z hq) (fun _ _ _ S1 h1 => ws_goto (t := 159) rfl (by decide) (ws_goto (t := 0) rfl (by decide) (yWp_err hv he h1 (Or.inr ⟨_, _, rfl⟩)))) (fun _ z => absurd z n21) (fun _ z => absurd z n21) (fun _ z => absurd z nP) (fun _ z => absurd z n30) (fun _ z => absurd z n36) (fun _ z => absurd z n36)
theorem yRun_f21 {k : Nat} {x : Int32} (hT : yTk S0 n tk par mn) (hp : p ≤ n) (b1 : ws.length + 2 ≤ 6000) (b2 : ms.length + 3 ≤ 8000) (b3 : td.length + 12 ≤ 4000) (hk : k < 16) {v : Int32} {q : Nat} (t : tk p = 21) (hq : cBare n tk 14 (p + 1) = .error (v, q)) (hv : v ≠ 0) (he : yErr P S0 v q) : yRun P S0 0 fp p ws ms ((2, x, nI k) :: td) hs := by
  refine yRun_top (by omega) ⟨10 + 6, fun S hA => ?_⟩
  refine ⟨fun z => absurd (show (2 : Int32) = 0 from z) (by decide), fun _ => ⟨fun z => absurd (show (2 : Int32) = 1 from z) (by decide), fun _ => ⟨fun _ => ?_, fun z => absurd rfl z⟩⟩⟩
  have ck : cKind false (tk p) := by rw [t]; decide
  have n20 : ¬ tk p = 20 := by rw [t]; decide
  have nP : ¬ (22 ≤ tk p ∧ tk p ≤ 29 ∨ 32 ≤ tk p ∧ tk p ≤ 35) := by rw [t]; decide
  have n30 : ¬ (tk p = 30 ∨ tk p = 31) := by rw [t]; decide
  have n36 : ¬ tk p = 36 := by rw [t]; decide
  exact y_readExpression hT hA hp (by omega) b1 b2 b3 (fun z => absurd ck z) (fun _ z => absurd hk (by omega)) (fun _ z => absurd z n20) (fun _ z => absurd z n20) (fun _ _ z => absurd (hq.symm.trans z) (by simp)) (fun _ _ v1 q1 z _ S1 ws1 ms1 h1 => by
    obtain ⟨rfl, rfl⟩ : v = v1 ∧ q = q1 := by have := hq.symm.trans z; simp at this; exact this
    exact ws_goto (t := 159) rfl (by decide) (ws_goto (t := 0) rfl (by decide) (yWp_err hv he h1 (Or.inr ⟨_, _, rfl⟩)))) (fun _ z => absurd z nP) (fun _ z => absurd z n30) (fun _ z => absurd z n36) (fun _ z => absurd z n36)
theorem yRun_f36 {k : Nat} {x : Int32} (hT : yTk S0 n tk par mn) (hp : p ≤ n) (b1 : ws.length + 2 ≤ 6000) (b2 : ms.length + 3 ≤ 8000) (b3 : td.length + 12 ≤ 4000) (hk : k < 16) {v : Int32} {q : Nat} (t : tk p = 36) (hq : cKnown n tk par (p + 1) = .error (v, q)) (hv : v ≠ 0) (he : yErr P S0 v q) : yRun P S0 0 fp p ws ms ((2, x, nI k) :: td) hs := by
  refine yRun_top (by omega) ⟨10 + 6, fun S hA => ?_⟩
  refine ⟨fun z => absurd (show (2 : Int32) = 0 from z) (by decide), fun _ => ⟨fun z => absurd (show (2 : Int32) = 1 from z) (by decide), fun _ => ⟨fun _ => ?_, fun z => absurd rfl z⟩⟩⟩
  have ck : cKind false (tk p) := by rw [t]; decide
  have n20 : ¬ tk p = 20 := by rw [t]; decide
  have n21 : ¬ tk p = 21 := by rw [t]; decide
  have nP : ¬ (22 ≤ tk p ∧ tk p ≤ 29 ∨ 32 ≤ tk p ∧ tk p ≤ 35) := by rw [t]; decide
  have n30 : ¬ (tk p = 30 ∨ tk p = 31) := by rw [t]; decide
  exact y_readExpression hT hA hp (by omega) b1 b2 b3 (fun z => absurd ck z) (fun _ z => absurd hk (by omega)) (fun _ z => absurd z n20) (fun _ z => absurd z n20) (fun _ z => absurd z n21) (fun _ z => absurd z n21) (fun _ z => absurd z nP) (fun _ z => absurd z n30) (fun _ _ v1 q1 z _ S1 h1 => by
    obtain ⟨rfl, rfl⟩ : v = v1 ∧ q = q1 := by have := hq.symm.trans z; simp at this; exact this
    exact ws_goto (t := 159) rfl (by decide) (ws_goto (t := 0) rfl (by decide) (yWp_err hv he h1 (Or.inr ⟨_, _, rfl⟩)))) (fun _ _ z => absurd (hq.symm.trans z) (by simp))
end YA

/-! THE REFERENCE READS: its small methods by lists -/
/-- what does not change while it reads: n tokens tk, parameters par, mn: in the main part -/
def yTk (S0 : mv_S) (n : Nat) (tk par : Nat → Int32) (mn : Bool) : Prop :=
  S0.1 0 1 = nI n ∧ n ≤ 700 ∧ (∀ i, i < n → S0.2.1 1 i = tk i) ∧ (∀ i, n ≤ i → tk i = -1) ∧ (∀ f, f < 8 → (par f = -1 → S0.2.1 4 f = 0) ∧ (par f ≠ -1 → S0.2.1 4 f = 1 ∧ S0.2.1 5 f = par f ∧ 0 ≤ par f ∧ par f ≤ 3)) ∧ S0.1 0 12 = (if mn then 1 else 0)
section YA
variable {d : Nat} {P : Option Value → mv_S → Prop} {S0 S : mv_S} {w fp : Int32} {n p : Nat} {tk par : Nat → Int32} {mn : Bool} {ws ms : List Int32} {td : List (Int32 × Int32 × Int32)} {hs : List (Option (Nat × Nat))}
theorem y_layA {x : Int32} (h : yAt S0 S w fp p ws ms td hs) (b1 : ws.length < 6000) (b2 : ms.length < 8000) (k : ∀ S', yAt S0 S' w fp p (ws ++ [x]) (ms ++ [x]) td hs → P none S') : mv_big layY sysY (d + 1) 8 [.ref 0, .int x] S P :=
  y_lay h.2.2.2.1.1 b1 h.2.2.2.2.1.1 b2 (k _ (yAt_lay h x x))
theorem y_markA (h : yAt S0 S w fp p ws ms td hs) (b2 : ms.length < 8000) (k : ∀ S', yAt S0 S' w fp p ws (ms ++ [30]) td hs → P none S') : mv_big layY sysY (d + 1) 9 [.ref 0] S P :=
  y_mark h.2.2.2.2.1.1 b2 (k _ (yAt_mark h))
theorem y_laterA {a b c : Int32} (h : yAt S0 S w fp p ws ms td hs) (b1 : td.length < 4000) (k : ∀ S', yAt S0 S' w fp p ws ms ((a, b, c) :: td) hs → P none S') : mv_big layY sysY (d + 1) 7 [.ref 0, .int a, .int b, .int c] S P :=
  y_later h.2.2.2.2.2.1.1 b1 (k _ (yAt_later h a b c))
theorem y_newHoleA (h : yAt S0 S w fp p ws ms td hs) (k : ∀ S', yAt S0 S' w fp p ws ms td (hs ++ [none]) → P (some (.int (nI hs.length))) S') : mv_big layY sysY (d + 1) 10 [.ref 0] S P :=
  y_newHole h.2.2.2.2.2.2.1.1 (k _ (yAt_hole h))
theorem y_rememberA {q : Nat} (h : yAt S0 S w fp p ws ms td hs) (b1 : q < 2000) (k : ∀ S', yAt S0 S' w fp p ws ms td (hs.set q (some (ws.length, ms.length))) → P none S') : mv_big layY sysY (d + 1) 14 [.ref 0, .int (nI q)] S P :=
  y_remember h.2.2.2.1.1 h.2.2.2.2.1.1 b1 (k _ (yAt_rem h q))
theorem y_layHoleA {q : Nat} (h : yAt S0 S w fp p ws ms td hs) (b1 : ws.length < 6000) (b2 : ms.length < 8000) (b3 : q < 2000) (k : ∀ S', yAt S0 S' w fp p (ws ++ [0]) (ms ++ [0]) td (hs.set q (some (ws.length, ms.length))) → P none S') : mv_big layY sysY (d + 2) 11 [.ref 0, .int (nI q)] S P :=
  y_layHole h.2.2.2.1.1 b1 h.2.2.2.2.1.1 b2 b3 (k _ (yAt_lay (yAt_rem h q) 0 0))
theorem y_fillA {q a c : Nat} (h : yAt S0 S w fp p ws ms td hs) (b3 : q < 2000) (hq : hs[q]? = some (some (a, c))) (b1 : a < 6000) (b2 : c < 8000) (k : ∀ S', yAt S0 S' w fp p (ws.set a (nI ws.length)) (ms.set c (nI ms.length)) td hs → P none S') : mv_big layY sysY (d + 1) 12 [.ref 0, .int (nI q)] S P :=
  y_fill h.2.2.2.1.1 h.2.2.2.2.1.1 b3 (h.2.2.2.2.2.2.1.2 q a c hq).1 b1 (h.2.2.2.2.2.2.1.2 q a c hq).2 b2 (k _ (yAt_fill h a c))
theorem y_layBackA {q a c : Nat} (h : yAt S0 S w fp p ws ms td hs) (b3 : q < 2000) (hq : hs[q]? = some (some (a, c))) (b1 : ws.length < 6000) (b2 : ms.length < 8000) (k : ∀ S', yAt S0 S' w fp p (ws ++ [nI a]) (ms ++ [nI c]) td hs → P none S') : mv_big layY sysY (d + 1) 13 [.ref 0, .int (nI q)] S P := by
  have e3 : (nI q).toNatClampNeg = q := nI_clamp (by omega)
  have hv : vp_in (nI q) 2000 := vp_in_nI b3 (by omega)
  have f1 : S.2.1 11 (nI q).toNatClampNeg = nI a := by rw [e3]; exact (h.2.2.2.2.2.2.1.2 q a c hq).1
  have f2 : S.2.1 12 (nI q).toNatClampNeg = nI c := by rw [e3]; exact (h.2.2.2.2.2.2.1.2 q a c hq).2
  have hw := h.2.2.2.1.1
  have hm := h.2.2.2.2.1.1
  refine ⟨60, hv, ?_, hv, ?_, ?_⟩
  · show vp_in (S.1 0 7) 6000
    rw [hw]; exact vp_in_nI b1 (by omega)
  · show vp_in (S.1 0 9) 8000
    rw [hm]; exact vp_in_nI b2 (by omega)
  · have h3 : P none (mv_pf (mv_pr (mv_pf (mv_pr S 2 (S.1 0 7).toNatClampNeg (S.2.1 11 (nI q).toNatClampNeg)) 0 7 (S.1 0 7 + 1)) 3 (S.1 0 9).toNatClampNeg (S.2.1 12 (nI q).toNatClampNeg)) 0 9 (S.1 0 9 + 1)) := by
      rw [f1, f2, hw, hm, nI_clamp (by omega), nI_clamp (by omega), nI_1, nI_1]
      exact k _ (yAt_lay h (nI a) (nI c))
    exact h3
theorem yTk_n (hT : yTk S0 n tk par mn) (h : yAt S0 S w fp p ws ms td hs) : S.1 0 1 = nI n := by
  rw [h.2.2.2.2.2.2.2.1 0 1 (by decide)]; exact hT.1
theorem y_tokenA (hT : yTk S0 n tk par mn) (h : yAt S0 S w fp p ws ms td hs) (hp : p < 2 ^ 31) (k : P (some (.int (tk p))) S) : mv_big layY sysY (d + 1) 3 [.ref 0] S P := by
  refine y_token h.2.2.1 (yTk_n hT h) hT.2.1 hp ?_
  by_cases c : p < n
  · rw [if_pos c, h.2.2.2.2.2.2.2.2.1 1 p (by decide) (by decide) (by decide), hT.2.2.1 p c]; exact k
  · rw [if_neg c]
    rw [hT.2.2.2.1 p (by omega)] at k; exact k
theorem y_wrongA {v : Int32} (h : yAt S0 S 0 fp p ws ms td hs) (k : ∀ S', yAt S0 S' v (nI p) p ws ms td hs → P none S') : mv_big layY sysY (d + 1) 4 [.ref 0, .int v] S P :=
  y_wrong (fun _ => k _ (yAt_wrong h v)) (fun c => absurd h.1 c)
theorem lePred {v : Int32} {k : Nat} (h0 : 0 < k) (h1 : k < 2 ^ 31) : v ≤ nI k - 1 ↔ v < nI k := by
  obtain ⟨j, rfl⟩ : ∃ j, k = j + 1 := ⟨k - 1, by omega⟩
  rw [nI_pred, Int32.le_iff_toInt_le, Int32.lt_iff_toInt_lt, nI_toInt (by omega), nI_toInt h1]
  omega
theorem y_numberA {m : Nat} (hT : yTk S0 n tk par mn) (h : yAt S0 S 0 fp p ws ms td hs) (hp : p ≤ n) (h0 : 0 < m) (h1 : m < 2 ^ 31)
    (he : ∀ v q S', cBare n tk (nI m) p = .error (v, q) → v ≠ 0 → q = p → yAt S0 S' v (nI q) p ws ms td hs → P (some (.int (tk p))) S')
    (ho : ∀ S', cBare n tk (nI m) p = .ok (p + 1) → yAt S0 S' 0 fp (p + 1) ws ms td hs → P (some (.int (tk p))) S') : mv_big layY sysY (d + 2) 5 [.ref 0, .int (nI m)] S P := by
  have hn := hT.2.1
  refine ⟨60, ?_⟩
  refine y_tokenA hT h (by omega) ?_
  refine ⟨fun c => ?_, fun c => ?_⟩
  · have c : ¬ S.1 0 2 = S.1 0 1 := c
    rw [h.2.2.1, yTk_n hT h, nI_eq (by omega) (by omega)] at c
    have hlt : p < n := by omega
    refine y_in (fun c2 => ?_) (fun c2 => ?_)
    · refine ⟨fun z => absurd rfl z, fun _ => ?_⟩
      refine y_wrongA (v := -12) h (fun S' h' => he (-12) p S' ?_ (by decide) rfl h')
      unfold cBare
      rw [if_pos hlt, if_neg]
      intro z
      exact c2 ⟨z.1, (lePred h0 h1).mpr z.2⟩
    · refine ⟨fun _ => ?_, fun z => absurd (show (1 : Int32) = 0 from z) (by decide)⟩
      refine ho _ ?_ (yAt_next h)
      unfold cBare
      rw [if_pos hlt, if_pos ⟨c2.1, (lePred h0 h1).mp c2.2⟩]
  · have c : S.1 0 2 = S.1 0 1 := c
    rw [h.2.2.1, yTk_n hT h, nI_eq (by omega) (by omega)] at c
    refine y_wrongA (v := -11) h (fun S' h' => he (-11) p S' ?_ (by decide) rfl h')
    unfold cBare
    rw [if_neg (by omega)]
theorem yTk_isF (hT : yTk S0 n tk par mn) (h : yAt S0 S w fp p ws ms td hs) {f : Nat} (hf : f < 8) : (S.2.1 4 f = 0 ↔ par f = -1) := by
  rw [h.2.2.2.2.2.2.2.2.1 4 f (by decide) (by decide) (by decide)]
  constructor
  · intro z
    by_cases c : par f = -1
    · exact c
    · rw [((hT.2.2.2.2.1 f hf).2 c).1] at z
      exact absurd z (by decide)
  · intro z
    exact (hT.2.2.2.2.1 f hf).1 z
theorem y_knownA (hT : yTk S0 n tk par mn) (h : yAt S0 S 0 fp p ws ms td hs) (hp : p ≤ n)
    (he : ∀ v q S' x, cKnown n tk par p = .error (v, q) → v ≠ 0 → q = p → yAt S0 S' v (nI q) p ws ms td hs → P (some (.int x)) S')
    (ho : ∀ S', cKnown n tk par p = .ok (p + 1) → yAt S0 S' 0 fp (p + 1) ws ms td hs → P (some (.int (tk p))) S') : mv_big layY sysY (d + 3) 6 [.ref 0] S P := by
  have hn := hT.2.1
  have num : ∀ Q : Option Value → mv_S → Prop, (∀ x S', P (some (.int x)) S' → Q (some (.int x)) S') → (p < n → 0 ≤ tk p ∧ tk p < 8 → cHasF par (tk p)) → mv_big layY sysY (d + 2) 5 [.ref 0, .int 8] S Q := by
    intro Q hQ hk
    refine y_numberA (m := 8) hT h hp (by decide) (by decide) (fun v q S' e e1 e2 h' => hQ _ _ (he v q S' _ ?_ e1 e2 h')) (fun S' e h' => hQ _ _ (ho S' ?_ h'))
    · unfold cKnown
      unfold cBare at e
      split at e
      · rename_i c
        split at e
        · cases e
        · rename_i c2
          rw [if_neg (fun z => c2 ⟨z.1, z.2.1⟩), if_pos c, if_neg (show ¬ (0 ≤ tk p ∧ tk p < 8) from c2)]; exact e
      · rename_i c
        have : tk p = -1 := hT.2.2.2.1 p (by omega)
        rw [if_neg (fun z => by have := z.1; rw [hT.2.2.2.1 p (by omega)] at this; exact absurd this (by decide)), if_neg c]; exact e
    · have := cBare_ok e
      unfold cKnown
      rw [if_pos (hk this.2.1 this.2.2)]
  refine ⟨80, ?_⟩
  refine y_tokenA hT h (by omega) ?_
  have f0 : S.1 0 3 = 0 := h.1
  refine ⟨fun c => ?_, fun c => ?_⟩
  · have c : S.1 0 1 ≤ S.1 0 2 := c
    rw [h.2.2.1, yTk_n hT h, nI_leI (by omega) (by omega)] at c
    exact ⟨fun z => absurd f0 z, fun _ => num _ (fun _ _ z => z) (fun z => by omega)⟩
  · have c : ¬ S.1 0 1 ≤ S.1 0 2 := c
    rw [h.2.2.1, yTk_n hT h, nI_leI (by omega) (by omega)] at c
    refine y_in (fun c2 => ?_) (fun c2 => ?_)
    · refine ⟨fun _ => ?_, fun z => absurd rfl z⟩
      refine ⟨fun z => absurd f0 z, fun _ => num _ (fun _ _ z => z) (fun _ z => ?_)⟩
      exact absurd ⟨z.1, (lePred (k := 8) (by decide) (by decide)).mpr z.2⟩ c2
    · refine ⟨fun z => absurd (show (1 : Int32) = 0 from z) (by decide), fun _ => ?_⟩
      have c3 : tk p < 8 := (lePred (k := 8) (by decide) (by decide)).mp c2.2
      obtain ⟨f, hf, e⟩ := nI_of (Int32.not_lt.mpr c2.1)
      rw [e] at c3
      have hf8 : f < 8 := (nI_ltI (b := 8) hf (by decide)).mp c3
      have ef : (tk p).toNatClampNeg = f := by rw [e, nI_clamp hf]
      refine ⟨by rw [e]; exact vp_in_nI hf8 (by decide), fun c4 => ?_, fun c4 => ?_⟩
      · have c4 : ¬ S.2.1 4 (tk p).toNatClampNeg = 0 := c4
        rw [ef, yTk_isF hT h hf8] at c4
        exact ⟨fun z => absurd f0 z, fun _ => num _ (fun _ _ z => z) (fun _ z => ⟨z.1, z.2, by rw [ef]; exact c4⟩)⟩
      · have c4 : S.2.1 4 (tk p).toNatClampNeg = 0 := c4
        rw [ef, yTk_isF hT h hf8] at c4
        refine y_wrongA (v := -14) h (fun S' h' => ?_)
        refine ⟨fun _ => he (-14) p S' _ ?_ (by decide) rfl h', fun z => ?_⟩
        · unfold cKnown
          rw [if_neg (fun z => z.2.2 (by rw [ef]; exact c4)), if_pos (by omega), if_pos ⟨c2.1, by rw [e]; exact c3⟩]
        · have z : S'.1 0 3 = 0 := z
          rw [h'.1] at z
          exact absurd z (by decide)
theorem y_isDeepA {k : Nat} (h : yAt S0 S 0 fp p ws ms td hs) (hk : k < 2 ^ 31) (he : ∀ S', 16 ≤ k → yAt S0 S' (-15) (nI p) p ws ms td hs → P (some (.int 1)) S') (ho : k < 16 → P (some (.int 0)) S) : mv_big layY sysY (d + 2) 16 [.ref 0, .int (nI k)] S P := by
  refine ⟨40, ?_⟩
  refine ⟨fun c => ?_, fun c => ?_⟩
  · have c : nI k < nI 16 := c
    rw [nI_ltI hk (by decide)] at c
    exact ⟨fun _ => ⟨Or.inl rfl, ho c⟩, fun z => absurd h.1 z⟩
  · have c : ¬ nI k < nI 16 := c
    rw [nI_ltI hk (by decide)] at c
    refine y_wrongA (v := -15) h (fun S' h' => ?_)
    refine ⟨fun z => ?_, fun _ => ⟨Or.inr rfl, he S' (by omega) h'⟩⟩
    have z : S'.1 0 3 = 0 := z
    rw [h'.1] at z
    exact absurd z (by decide)
end YA

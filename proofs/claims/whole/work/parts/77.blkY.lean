/-! THE REFERENCE READS WHAT THE FUNCTION SAYS: statements one after another -/
def cEnd (tk : Nat → Int32) (a : cRes) : cRes :=
  match a with
  | .error e => .error e
  | .ok (p2, l, s) => if tk p2 = 0 then .ok (p2 + 1, l, s) else .error (-11, p2)
theorem cEnd_then {tk : Nat → Int32} (a : cRes) (f : Nat → Nat → cRes) : cEnd tk (cThen a f) = cThen a (fun p w => cEnd tk (f p w)) := by
  match a with
  | .error e => rfl
  | .ok (p1, l1, s1) =>
    simp only [cThen]
    match f p1 l1.length with
    | .error e => rfl
    | .ok (p2, l2, s2) =>
      simp only [cEnd]
      by_cases h : tk p2 = 0
      · rw [if_pos h, if_pos h]
      · rw [if_neg h, if_neg h]
theorem cEnd_ok {tk : Nat → Int32} {a : cRes} {p l s} (h : cEnd tk a = .ok (p, l, s)) : ∃ p2, a = .ok (p2, l, s) ∧ tk p2 = 0 ∧ p = p2 + 1 := by
  unfold cEnd at h
  match a, h with
  | .ok (p2, l2, s2), h =>
    simp only at h
    split at h
    · simp only [Except.ok.injEq, Prod.mk.injEq] at h
      obtain ⟨rfl, rfl, rfl⟩ := h
      exact ⟨p2, rfl, ‹_›, rfl⟩
    · cases h
theorem cSh_end {tk : Nat → Int32} {a a' : cRes} (h : cSh a = cSh a') : cSh (cEnd tk a) = cSh (cEnd tk a') := by
  rcases cSh_2 h with ⟨e, rfl, rfl⟩ | ⟨p, l, s, l', s', rfl, rfl⟩
  · rfl
  · simp only [cEnd]
    split <;> rfl
theorem yBd_app {n p p1 : Nat} {ws ms l l' : List Int32} {hs h' : List (Option (Nat × Nat))} (hb : yBd n p ws ms hs) (h1 : p1 ≤ n) (h2 : l.length + 8 * p ≤ 8 * p1) (h3 : l'.length + 9 * p ≤ 9 * p1) (h4 : h'.length + 2 * p ≤ 2 * p1) : yBd n p1 (ws ++ l) (ms ++ l') (hs ++ h') :=
  ⟨h1, by rw [List.length_append]; have := hb.2.1; omega, by rw [List.length_append]; have := hb.2.2.1; omega, by rw [List.length_append]; have := hb.2.2.2; omega⟩
section YA
variable {P : Option Value → mv_S → Prop} {S0 : mv_S} {fp : Int32} {n : Nat} {tk par : Nat → Int32} {mn : Bool}
def ySP (P : Option Value → mv_S → Prop) (S0 : mv_S) (fp : Int32) (n : Nat) (tk par : Nat → Int32) (mn : Bool) (r : Nat) : Prop :=
  ∀ p ws ms td hs (B : Prop), cIsS (tk p) → yBd n p ws ms hs → td.length + 13 * r ≤ 2900 → (r = 0 → yErr P S0 (-15) p → B) → (0 < r → ySt P S0 (tk p) (nI (16 - r) + 1) fp (p + 1) ws (ms ++ [30]) td hs → B) → yDn P S0 fp (cStm n tk par false mn r p ws.length) (cStm n tk par true mn r p ms.length) p ws ms hs td B
theorem yBlk0 {r : Nat} (hr : r ≤ 16) (hT : yTk S0 n tk par mn) (hS : ySP P S0 fp n tk par mn r) : ∀ k p ws ms td hs (x : Int32), n ≤ p + k → yBd n p ws ms hs → td.length + 1 + 13 * r ≤ 2900 → yDn P S0 fp (cEnd tk (cLoop tk (cStm n tk par false mn r) k p ws.length)) (cEnd tk (cLoop tk (cStm n tk par true mn r) k p ms.length)) p ws ms hs td (yRun P S0 0 fp p ws ms ((0, x, nI (16 - r)) :: td) hs) := by
  have hn := hT.2.1
  have ht := hT.2.2.2.1
  have stop : ∀ p ws ms td hs (x : Int32), ¬ cIsS (tk p) → yBd n p ws ms hs → td.length + 1 + 13 * r ≤ 2900 → yDn P S0 fp (cEnd tk (.ok (p, [], []))) (cEnd tk (.ok (p, [], []))) p ws ms hs td (yRun P S0 0 fp p ws ms ((0, x, nI (16 - r)) :: td) hs) := by
    intro p ws ms td hs x c hb htd
    obtain ⟨hb1, hb2, hb3, hb4⟩ := hb
    simp only [cEnd]
    by_cases t0 : tk p = 0
    · rw [if_pos t0]
      refine yDn_ok rfl rfl [] (by simp; omega) (fun z => ?_)
      refine yRun_z0 hT hb1 (by omega) (by omega) (by omega) (by omega) t0 ?_
      simpa using z
    · rw [if_neg t0]
      exact yDn_err rfl (fun he => yRun_sW0 hT hb1 (by omega) (by omega) (by omega) (by omega) t0 c he)
  intro k
  induction k with
  | zero =>
    intro p ws ms td hs x hk hb htd
    refine stop p ws ms td hs x (fun z => ?_) hb htd
    have := cIsS_in ht z
    omega
  | succ k ih =>
    intro p ws ms td hs x hk hb htd
    by_cases c : cIsS (tk p)
    · rw [cLoop, cLoop, if_pos c, if_pos c, cEnd_then, cEnd_then]
      have hp := cIsS_in ht c
      obtain ⟨hb1, hb2, hb3, hb4⟩ := id hb
      have a := hS p ws ms ((0, -1, nI (16 - r)) :: td) hs (yRun P S0 0 fp p ws ms ((0, x, nI (16 - r)) :: td) hs) c hb (by simp; omega) (fun h0 he => ?_) (fun h0 hst => ?_)
      · refine yDn_seq (cSh_stm r p _ _) a (fun p1 l s e => Nat.le_of_lt (cStm_ls (mk := false) ht r p _ hp _ _ _ e).1) (fun p1 l s l' s' h' e e' hh => ?_)
        have q1 := cStm_ls (mk := false) ht r p _ hp _ _ _ e
        have q2 := cStm_ls (mk := true) ht r p _ hp _ _ _ e'
        have b := ih p1 (ws ++ l) (ms ++ l') td (hs ++ h') (-1) (by omega) (yBd_app hb q1.2.1 q1.2.2 q2.2.2 hh) htd
        rw [List.length_append, List.length_append] at b
        exact b
      · exact yRun_sD0 hT hb1 (by omega) (by omega) (by omega) (by omega) c (by omega) he
      · exact yRun_s0 hT hb1 (by omega) (by omega) (by omega) (by omega) c (by omega) hst
    · rw [cLoop, cLoop, if_neg c, if_neg c]
      exact stop p ws ms td hs x c hb htd
theorem yLoop1 {r : Nat} (hr : r ≤ 16) (hT : yTk S0 n tk par mn) (hS : ySP P S0 fp n tk par mn r) {q a c : Nat} (ha : a < 6000) (hc : c < 8000) : ∀ k p ws ms td hs, hs[q]? = some (some (a, c)) → yBd n p ws ms hs → td.length + 1 + 13 * r ≤ 2900 → yDn P S0 fp (cLoop tk (cStm n tk par false mn r) k p ws.length) (cLoop tk (cStm n tk par true mn r) k p ms.length) p ws ms hs ((1, nI q, nI (16 - r)) :: td) (yRun P S0 0 fp p ws ms ((1, nI q, nI (16 - r)) :: td) hs) := by
  have hn := hT.2.1
  have ht := hT.2.2.2.1
  intro k
  induction k with
  | zero =>
    intro p ws ms td hs hq hb htd
    refine yDn_ok rfl rfl [] (by simp) (fun z => ?_)
    simpa using z
  | succ k ih =>
    intro p ws ms td hs hq hb htd
    by_cases c : cIsS (tk p)
    · rw [cLoop, cLoop, if_pos c, if_pos c]
      have hp := cIsS_in ht c
      obtain ⟨hb1, hb2, hb3, hb4⟩ := id hb
      have a := hS p ws ms ((1, nI q, nI (16 - r)) :: td) hs (yRun P S0 0 fp p ws ms ((1, nI q, nI (16 - r)) :: td) hs) c hb (by simp; omega) (fun h0 he => ?_) (fun h0 hst => ?_)
      · refine yDn_seq (cSh_stm r p _ _) a (fun p1 l s e => Nat.le_of_lt (cStm_ls (mk := false) ht r p _ hp _ _ _ e).1) (fun p1 l s l' s' h' e e' hh => ?_)
        have q1 := cStm_ls (mk := false) ht r p _ hp _ _ _ e
        have q2 := cStm_ls (mk := true) ht r p _ hp _ _ _ e'
        have b := ih p1 (ws ++ l) (ms ++ l') td (hs ++ h') (by rw [List.getElem?_append_left (List.getElem?_eq_some_iff.mp hq).1]; exact hq) (yBd_app hb q1.2.1 q1.2.2 q2.2.2 hh) htd
        rw [List.length_append, List.length_append] at b
        exact b
      · exact yRun_sD1 hT hb1 (by omega) (by omega) (by omega) (by omega) (by omega) hq ha hc c (by omega) he
      · exact yRun_s1 hT hb1 (by omega) (by omega) (by omega) (by omega) (by omega) hq ha hc c (by omega) hst
    · rw [cLoop, cLoop, if_neg c, if_neg c]
      refine yDn_ok rfl rfl [] (by simp) (fun z => ?_)
      simpa using z
end YA

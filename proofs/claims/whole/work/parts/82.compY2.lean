/-! THE REFERENCE'S COMPILE DOES WHAT THE FUNCTION SAYS -/
section YA
variable {P : Option Value → mv_S → Prop} {S S1 : mv_S} {n : Nat} {tk par : Nat → Int32}
abbrev yCw (P : Option Value → mv_S → Prop) (N pc : Nat) (x : Int32) (S : mv_S) : Prop := mv_wp layY sysY tT11 2 (some .int) mX11_compile.2.2.2.2.2.2.2 (mv_big layY sysY 23) P N pc [(1, .int x), (0, .ref 0)] [] S
/-- the end with a fault -/
theorem yC_err {S' : mv_S} {x v : Int32} (h3 : S'.1 0 3 = v) (hv : v ≠ 0) (h : P (some (.int v)) (mv_pf S' 0 7 0)) : yCw P 60 106 x S' := by
  have f : ¬ S'.1 0 3 = 0 := by rw [h3]; exact hv
  have e : (mv_pf S' 0 7 0).1 0 3 = v := by rw [pf_get, if_neg (by decide)]; exact h3
  refine ⟨fun _ => ⟨fun _ => ⟨fun _ => ⟨fun z => absurd z f, fun _ => ?_⟩, fun z => absurd z f⟩, fun z => absurd z f⟩, fun z => absurd z f⟩
  rw [← e] at h
  exact h
theorem yC_err72 {S' : mv_S} {x v : Int32} (h3 : S'.1 0 3 = v) (hv : v ≠ 0) (h : P (some (.int v)) (mv_pf S' 0 7 0)) : yCw P 70 72 x S' := by
  have f : ¬ S'.1 0 3 = 0 := by rw [h3]; exact hv
  refine ws_aload_n rfl rfl rfl (ws_geti rfl rfl rfl rfl (ws_i rfl ⟨fun _ => ?_, fun z => absurd z f⟩))
  exact mv_fuel (n := 60) (by omega) (yC_err h3 hv h)
/-- the end, all read: R without marks, R' with them -/
theorem yC_fin {S' : mv_S} {x : Int32} {p : Nat} {ws ms : List Int32} {hs : List (Option (Nat × Nat))} (hT : S'.1 0 1 = nI n) (hn : n ≤ 700) (hp : p ≤ n) (hl : ws.length ≤ 6000) (h : yAt S' S' 0 (-1) p ws ms [] hs)
    (he : p < n → P (some (.int (-11))) (mv_pf (mv_pf (mv_pf S' 0 3 (-11)) 0 4 (nI p)) 0 7 0))
    (hf : ¬ p < n → 1500 < ws.length → P (some (.int (-16))) (mv_pf S' 0 7 0))
    (ho : ¬ p < n → ws.length ≤ 1500 → P (some (.int (nI ws.length))) (mv_pf S' 0 5 1)) : yCw P 60 195 x S' := by
  have f : S'.1 0 3 = 0 := h.1
  have ea : S'.1 0 2 = nI p := h.2.2.1
  have ew : S'.1 0 7 = nI ws.length := h.2.2.2.1.1
  refine ⟨fun z => absurd f z, fun _ => ⟨fun c => ?_, fun c => ?_⟩⟩
  · have c : S'.1 0 1 ≤ S'.1 0 2 := c
    rw [ea, hT, nI_leI (by omega) (by omega)] at c
    refine ⟨fun _ => ⟨fun c2 => ⟨Or.inr rfl, ?_⟩, fun c2 => ?_⟩, fun z => absurd f z⟩
    · have c2 : S'.1 0 7 ≤ 1500 := c2
      rw [ew] at c2
      have := ho (by omega) ((nI_leI (b := 1500) (by omega) (by decide)).mp c2)
      have e : (mv_pf S' 0 5 1).1 0 7 = nI ws.length := by rw [pf_get, if_neg (by decide)]; exact ew
      rw [← e] at this
      exact this
    · have c2 : ¬ S'.1 0 7 ≤ 1500 := c2
      rw [ew] at c2
      refine hf (by omega) ?_
      have : ¬ ws.length ≤ 1500 := fun z => c2 ((nI_leI (b := 1500) (by omega) (by decide)).mpr z)
      omega
  · have c : ¬ S'.1 0 1 ≤ S'.1 0 2 := c
    rw [ea, hT, nI_leI (by omega) (by omega)] at c
    have he := he (by omega)
    refine y_wrong (fun _ => ?_) (fun z => absurd f z)
    have e3 : (mv_pf (mv_pf S' 0 3 (-11)) 0 4 (S'.1 0 2)).1 0 3 = -11 := by rw [pf_get, if_neg (by decide), pf_get, if_pos ⟨rfl, rfl⟩]
    have e4 : (mv_pf (mv_pf (mv_pf S' 0 3 (-11)) 0 4 (S'.1 0 2)) 0 7 0).1 0 3 = -11 := by rw [pf_get, if_neg (by decide)]; exact e3
    refine ⟨fun z => ?_, fun _ => ?_⟩
    · have z : (mv_pf (mv_pf S' 0 3 (-11)) 0 4 (S'.1 0 2)).1 0 3 = 0 := z
      rw [e3] at z
      exact absurd z (by decide)
    · rw [← ea, ← e4] at he
      exact he
/-- the main part -/
def yMn (S : mv_S) (p w m : Nat) : mv_S := mv_pf (mv_pf (mv_pf (mv_pf S 0 2 (nI (p + 1))) 0 10 (nI w)) 0 11 (nI m)) 0 12 1
theorem yMn_f (S : mv_S) (p w m o k : Nat) : (yMn S p w m).1 o k = if o = 0 ∧ k = 12 then 1 else if o = 0 ∧ k = 11 then nI m else if o = 0 ∧ k = 10 then nI w else if o = 0 ∧ k = 2 then nI (p + 1) else S.1 o k := by
  unfold yMn
  rw [pf_get, pf_get, pf_get, pf_get]
theorem yMn_at {S0 : mv_S} {w fp : Int32} {p : Nat} {ws ms : List Int32} {hs : List (Option (Nat × Nat))} (h : yAt S0 S w fp p ws ms [] hs) (a b : Nat) : yAt (yMn S p a b) (yMn S p a b) w fp (p + 1) ws ms [] hs := by
  obtain ⟨h1, h2, h3, ⟨h4, h4'⟩, ⟨h5, h5'⟩, ⟨h6, h6'⟩, ⟨h7, h7'⟩, _⟩ := h
  have g : ∀ k, k ≠ 12 → k ≠ 11 → k ≠ 10 → k ≠ 2 → (yMn S p a b).1 0 k = S.1 0 k := fun k a b c d => by rw [yMn_f, if_neg (by omega), if_neg (by omega), if_neg (by omega), if_neg (by omega)]
  exact ⟨by rw [g 3 (by decide) (by decide) (by decide) (by decide)]; exact h1, by rw [g 4 (by decide) (by decide) (by decide) (by decide)]; exact h2, by rw [yMn_f]; rfl, ⟨by rw [g 7 (by decide) (by decide) (by decide) (by decide)]; exact h4, h4'⟩, ⟨by rw [g 9 (by decide) (by decide) (by decide) (by decide)]; exact h5, h5'⟩, ⟨by rw [g 20 (by decide) (by decide) (by decide) (by decide)]; exact h6, trivial⟩, ⟨by rw [g 23 (by decide) (by decide) (by decide) (by decide)]; exact h7, h7'⟩, yKp_refl _⟩
theorem yC_main {S' : mv_S} {x : Int32} {p : Nat} {ws ms : List Int32} {f1 f1' : cFs} {hs : List (Option (Nat × Nat))} (g : yGf S1 S' n tk par p ws ms f1 f1' hs)
    (he : ∀ v q S2, cMain n tk par false p ws.length = .error (v, q) → v ≠ 0 → S2.1 0 4 = nI q → yKf S' S2 ∨ yKf (yMn S' p ws.length ms.length) S2 → (S2.1 0 12 = S'.1 0 12 ∨ S2.1 0 12 = 1) → P (some (.int v)) (mv_pf S2 0 7 0))
    (hf : ∀ p1 l s S2, cMain n tk par false p ws.length = .ok (p1, l, s) → 1500 < (ws ++ l).length → S2.1 0 4 = -1 → yKp (yMn S' p ws.length ms.length) S2 → P (some (.int (-16))) (mv_pf S2 0 7 0))
    (ho : ∀ p1 l s l' s' S2 h', cMain n tk par false p ws.length = .ok (p1, l, s) → cMain n tk par true p ms.length = .ok (p1, l', s') → (ws ++ l).length ≤ 1500 → (ms ++ l').length ≤ 6300 → yKp (yMn S' p ws.length ms.length) S2 → yAt S2 S2 0 (-1) p1 (ws ++ l) (ms ++ l') [] h' → P (some (.int (nI (ws ++ l).length))) (mv_pf S2 0 5 1)) : yCw P 200 106 x S' := by
  obtain ⟨g1, g2, ⟨mn, g3⟩, ⟨hb1, hb2, hb3, hb4⟩, g5, g6⟩ := g
  have hn := g3.2.1
  have ht := g3.2.2.2.1
  have f0 : S'.1 0 3 = 0 := g2.1
  have ea : S'.1 0 2 = nI p := g2.2.2.1
  have en : S'.1 0 1 = nI n := g3.1
  have ew : S'.1 0 7 = nI ws.length := g2.2.2.2.1.1
  have em : S'.1 0 9 = nI ms.length := g2.2.2.2.2.1.1
  have wrong : ¬ tk p = 11 → ∀ F, 60 ≤ F → yCw P F 133 x S' := by
    intro t F hF
    refine mv_fuel (n := 60) hF ?_
    refine y_wrongA (v := -11) g2 (fun S2 h2 => ?_)
    have f2 : ¬ S2.1 0 3 = 0 := by rw [h2.1]; decide
    have e : (mv_pf S2 0 7 0).1 0 3 = -11 := by rw [pf_get, if_neg (by decide)]; exact h2.1
    have hP := he (-11) p S2 (by rw [cMain, if_neg t]) (by decide) h2.2.1 (Or.inl (yKp_kf h2.2.2.2.2.2.2.2)) (Or.inl (h2.2.2.2.2.2.2.2.1 0 12 (by decide)))
    refine ⟨fun _ => ⟨fun _ => ⟨fun z => absurd z f2, fun _ => ?_⟩, fun z => absurd z f2⟩, fun z => absurd z f2⟩
    rw [← e] at hP
    exact hP
  refine ⟨fun z => absurd f0 z, fun _ => ⟨fun c => ?_, fun c => ?_⟩⟩
  · have c : S'.1 0 2 = S'.1 0 1 := c
    rw [ea, en, nI_eq (by omega) (by omega)] at c
    exact wrong (by rw [ht p (by omega)]; decide) _ (by decide)
  · have c : ¬ S'.1 0 2 = S'.1 0 1 := c
    rw [ea, en, nI_eq (by omega) (by omega)] at c
    have hp : p < n := by omega
    refine y_tokenA g3 g2 (by omega) ?_
    refine ⟨fun t => ?_, fun t => wrong t _ (by decide)⟩
    have t : tk p = 11 := t
    refine ⟨fun z => absurd f0 z, fun _ => ⟨Or.inr rfl, ?_⟩⟩
    have eS : mv_pf (mv_pf (mv_pf (mv_pf S' 0 2 (S'.1 0 2 + 1)) 0 10 ((mv_pf S' 0 2 (S'.1 0 2 + 1)).1 0 7)) 0 11 ((mv_pf (mv_pf S' 0 2 (S'.1 0 2 + 1)) 0 10 ((mv_pf S' 0 2 (S'.1 0 2 + 1)).1 0 7)).1 0 9)) 0 12 1 = yMn S' p ws.length ms.length := by
      have e1 : (mv_pf S' 0 2 (S'.1 0 2 + 1)).1 0 7 = nI ws.length := by rw [pf_get, if_neg (by decide)]; exact ew
      have e2 : (mv_pf (mv_pf S' 0 2 (S'.1 0 2 + 1)) 0 10 ((mv_pf S' 0 2 (S'.1 0 2 + 1)).1 0 7)).1 0 9 = nI ms.length := by rw [pf_get, if_neg (by decide), pf_get, if_neg (by decide)]; exact em
      rw [e2, e1, ea, nI_1]; rfl
    have hA := yMn_at g2 ws.length ms.length
    have hT' : yTk (yMn S' p ws.length ms.length) n tk par true := by
      obtain ⟨q1, q2, q3, q4, q5, q6⟩ := g3
      exact ⟨by rw [yMn_f]; exact q1, q2, q3, q4, q5, by rw [yMn_f]; rfl⟩
    rw [← eS] at hA hT' hf ho he
    refine y_laterA (a := 4) (b := 0) (c := 0) hA (by simp) (fun T1 h1 => ?_)
    refine y_laterA (a := 0) (b := 0) (c := 0) h1 (by simp) (fun T2 h2 => ?_)
    obtain ⟨S3, hS3⟩ : ∃ S3, S3 = mv_pf (mv_pf (mv_pf (mv_pf S' 0 2 (S'.1 0 2 + 1)) 0 10 ((mv_pf S' 0 2 (S'.1 0 2 + 1)).1 0 7)) 0 11 ((mv_pf (mv_pf S' 0 2 (S'.1 0 2 + 1)) 0 10 ((mv_pf S' 0 2 (S'.1 0 2 + 1)).1 0 7)).1 0 9)) 0 12 1 := ⟨_, rfl⟩
    rw [← hS3] at hf ho he hT' h2
    refine mv_big_mono 21 23 (by decide) _ _ _ (fun r T => r = none ∧ yCw P 100 195 x T) _ (by rintro _ T ⟨rfl, z⟩; exact mv_fuel (n := 100) (by decide) z) (y_readAll h2 ?_)
    have hb' : yBd n (p + 1) ws ms hs := ⟨hp, by omega, by omega, by omega⟩
    have a := yBlock (P := fun r T => r = none ∧ yCw P 100 195 x T) (fp := -1) (td := (4, 0, 0) :: []) hT' hb' (by simp) 0
    have hl : ∀ b p1 l s, cEnd tk (cLoop tk (cStm n tk par false true 16) 700 (p + 1) b) = .ok (p1, l, s) → l.length + 8 * (p + 1) + 8 ≤ 8 * p1 ∧ p1 ≤ n ∧ p + 1 ≤ p1 := by
      intro b p1 l s z
      obtain ⟨p2, z1, z2, rfl⟩ := cEnd_ok z
      have := cBlk_ln (mk := false) ht hp 700 _ _ _ z1
      have h8 : l.length + 8 * (p + 1) ≤ 8 * p2 := this.2.2
      have : p2 < n := tk_in ht (by rw [z2]; decide)
      omega
    have hl' : ∀ b p1 l s, cEnd tk (cLoop tk (cStm n tk par true true 16) 700 (p + 1) b) = .ok (p1, l, s) → l.length + 9 * (p + 1) + 9 ≤ 9 * p1 ∧ p1 ≤ n := by
      intro b p1 l s z
      obtain ⟨p2, z1, z2, rfl⟩ := cEnd_ok z
      have := cBlk_ln (mk := true) ht hp 700 _ _ _ z1
      have h8 : l.length + 9 * (p + 1) ≤ 9 * p2 := this.2.2
      have : p2 < n := tk_in ht (by rw [z2]; decide)
      omega
    have a2 := yDn_word a (by simp) (fun p1 l s z => by have := hl _ _ _ _ z; omega) (fun p1 l s z => by have := hl' _ _ _ _ z; omega)
    have spE : ∀ mk b v q, cEnd tk (cLoop tk (cStm n tk par mk true 16) 700 (p + 1) b) = .error (v, q) → cMain n tk par mk p b = .error (v, q) := by
      intro mk b v q z
      rw [cMain, if_pos t, cBlk]
      match hc : cLoop tk (cStm n tk par mk true 16) 700 (p + 1) b, z with
      | .error e, z => exact z
      | .ok (p1, l1, s1), z =>
        simp only [cEnd] at z
        simp only
        by_cases h0 : tk p1 = 0
        · rw [if_pos h0] at z; cases z
        · rw [if_neg h0] at z ⊢; exact z
    have spO : ∀ mk b p1 l s, cEnd tk (cLoop tk (cStm n tk par mk true 16) 700 (p + 1) b) = .ok (p1, l, s) → cMain n tk par mk p b = if p1 < n then .error (-11, p1) else .ok (p1, l ++ [0], s) := by
      intro mk b p1 l s z
      obtain ⟨p2, z1, z2, rfl⟩ := cEnd_ok z
      rw [cMain, if_pos t, cBlk, z1]
      simp only
      rw [if_pos z2]
    rcases cSh_2 (cSh_end (tk := tk) (cSh_blk (n := n) (tk := tk) (par := par) (mn := true) (mk := false) (mk' := true) 16 700 (p + 1) ws.length ms.length)) with ⟨⟨v, q⟩, z, z'⟩ | ⟨p1, l, s, l', s', z, z'⟩
    · refine a2.1 v q (by rw [z]; rfl) (fun S2 _ _ _ _ _ h => ⟨rfl, ?_⟩)
      have ev : v ≠ 0 := by
        intro z0
        rw [z0] at z
        exact cEnd_er ht hp z
      have hP := he v q S2 (spE _ _ _ _ z) ev h.2.1 (Or.inr (yKp_kf h.2.2.2.2.2.2.2)) (Or.inr (by rw [h.2.2.2.2.2.2.2.1 0 12 (by decide)]; exact hT'.2.2.2.2.2))
      have f2 : ¬ S2.1 0 3 = 0 := by rw [h.1]; exact ev
      have e : (mv_pf S2 0 7 0).1 0 3 = v := by rw [pf_get, if_neg (by decide)]; exact h.1
      refine ⟨fun _ => ⟨fun z => absurd z f2, fun _ => ?_⟩, fun z => absurd z f2⟩
      rw [← e] at hP
      exact hP
    · obtain ⟨h', hh, go⟩ := a2.2 p1 (l ++ [0]) s (l' ++ [0]) s' (by rw [z]; rfl) (by rw [z']; rfl)
      refine go (yRun_end (fun S2 h => ⟨rfl, ?_⟩))
      have q1 := hl _ _ _ _ z
      have q2 := hl' _ _ _ _ z'
      have k := h.2.2.2.2.2.2.2
      have eN : S2.1 0 1 = nI n := by rw [k.1 0 1 (by decide)]; exact hT'.1
      have o1 := spO _ _ _ _ _ z
      have o2 := spO _ _ _ _ _ z'
      refine mv_fuel (n := 60) (by decide) (yC_fin (n := n) eN hn q1.2.1 (by simp; omega) (yAt_base h) (fun c => ?_) (fun c c2 => ?_) (fun c c2 => ?_))
      · rw [if_pos c] at o1
        have e4 : (mv_pf (mv_pf S2 0 3 (-11)) 0 4 (nI p1)).1 0 4 = nI p1 := by rw [pf_get, if_pos ⟨rfl, rfl⟩]
        refine he (-11) p1 _ o1 (by decide) e4 (Or.inr (yKf_trans (yKp_kf k) ⟨fun o f a => ?_, fun _ _ _ => rfl, rfl⟩)) (Or.inr (by rw [pf_get, if_neg (by decide), pf_get, if_neg (by decide), k.1 0 12 (by decide)]; exact hT'.2.2.2.2.2))
        rw [pf_get, if_neg (fun z => by have := a z.1; omega), pf_get, if_neg (fun z => by have := a z.1; omega)]
      · rw [if_neg c] at o1
        exact hf p1 _ s S2 o1 c2 h.2.1 k
      · rw [if_neg c] at o1 o2
        exact ho p1 _ s _ s' S2 _ o1 o2 c2 (by simp; omega) k (yAt_base h)
end YA

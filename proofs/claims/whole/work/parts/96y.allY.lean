/-! THE REFERENCE FINDS WHAT IS LIVE -/
def yQ1 (S : mv_S) (n : Nat) (x : Int32) : Prop := ∃ q, q < n ∧ x = S.2.1 20 q
def yQ2 (S : mv_S) (n : Nat) (x : Int32) : Prop := yQ1 S 4 x ∨ ∃ q, q < n ∧ x = S.2.1 22 q
def yQ3 (S : mv_S) (n t : Nat) (x : Int32) : Prop := yQ2 S n x ∨ ∃ q, q < t ∧ ¬ S.2.1 25 q = 0 ∧ x = S.2.1 26 q
def yAi (S S' : mv_S) (G : Nat → Prop) (V : List Nat) (Q : Int32 → Prop) : Prop := yMf S S' ∧ yMd S' V 0 V.length ∧ yCd S' V ∧ (∀ i, i ∈ V → G i) ∧ (∀ x, Q x → hOk 899 (fun i => i ∈ V) x)
section YR
variable {d : Nat} {P : Option Value → mv_S → Prop} {S S' : mv_S} {G : Nat → Prop} {V : List Nat} {c0 : Int32}
theorem yAi_step {Q : Int32 → Prop} {S2 : mv_S} {V2 : List Nat} (h : yAi S S' G V Q) (g1 : yMf S' S2) (g2 : yMd S2 V2 0 V2.length) (g3 : yCd S2 V2) (g4 : ∀ i, i ∈ V → i ∈ V2) (g5 : ∀ i, i ∈ V2 → i ∈ V ∨ G i) (g6 : hOk 899 (fun i => i ∈ V2) c0) : yAi S S2 G V2 (fun x => Q x ∨ x = c0) := by
  obtain ⟨h1, h2, h3, h4, h5⟩ := h
  refine ⟨yMf_trans h1 g1, g2, g3, fun i hi => (g5 i hi).elim (h4 i) id, fun x hx => ?_⟩
  rcases hx with z | z
  · exact hOk_imp g4 (h5 x z)
  · rw [z]; exact g6
theorem yAi_w {Q Q' : Int32 → Prop} (h : yAi S S' G V Q) (hq : ∀ x, Q' x → Q x) : yAi S S' G V Q' := ⟨h.1, h.2.1, h.2.2.1, h.2.2.2.1, fun x hx => h.2.2.2.2 x (hq x hx)⟩
theorem yAi_G (h : yMf S S') (hG : ∀ i, G i → 1 ≤ i ∧ i ≤ 899 ∧ hOk 899 G (S.2.1 15 i) ∧ hOk 899 G (S.2.1 16 i)) : ∀ i, G i → 1 ≤ i ∧ i ≤ 899 ∧ hOk 899 G (S'.2.1 15 i) ∧ hOk 899 G (S'.2.1 16 i) := fun i hi => by
  rw [h.2.1 15 i (by decide) (by decide), h.2.1 16 i (by decide) (by decide)]; exact hG i hi
abbrev yAw (P : Option Value → mv_S → Prop) (d F pc : Nat) (l : List (Nat × Value)) (st : List Value) (S : mv_S) : Prop := mv_wp layY sysY tT11 3 none mX11_findLive.2.2.2.2.2.2.2 (mv_big layY sysY (d + 1)) P F pc l st S
theorem yA_n : ∀ c, c < 25 → (2 : Int32) * (nI c + 1) = nI (2 + 2 * c) := by decide
set_option maxHeartbeats 1000000 in
set_option maxRecDepth 8000 in
theorem yA_l3 {n t : Nat} (hG : ∀ i, G i → 1 ≤ i ∧ i ≤ 899 ∧ hOk 899 G (S.2.1 15 i) ∧ hOk 899 G (S.2.1 16 i)) (ht : t ≤ 2000) (e48 : S.1 0 48 = nI t) (h25 : ∀ p, p < t → S.2.1 25 p = 0 ∨ (¬ S.2.1 25 p = 0 ∧ hOk 899 G (S.2.1 26 p))) (hP : ∀ S' V, yAi S S' G V (yQ3 S n t) → P none S') : ∀ (k i : Nat) (l : List (Nat × Value)) (S' : mv_S) (V : List Nat), i + k = t → mv_at 0 l = some (.ref 0) → mv_at 1 l = some (.int 1) → mv_at 2 l = some (.int (nI i)) → yAi S S' G V (yQ3 S n i) → yAw P d (50 * k + 20) 86 l [] S'
  | 0, i, l, S', V, hk, l0, l1, l2, h => by
    obtain rfl : i = t := by omega
    have e : S'.1 0 48 = nI i := (h.1.1 0 48 (by omega)).trans e48
    refine ws_iload_n rfl (l2) rfl (ws_aload_n rfl (l0) rfl (ws_geti rfl rfl (e) rfl (ws_i rfl ⟨fun _ => ?_, fun z => absurd (show nI i ≤ nI i from Int32.le_refl _) z⟩)))
    refine ws_i rfl ?_
    exact hP S' V h
  | k + 1, i, l, S', V, hk, l0, l1, l2, h => by
    have e : S'.1 0 48 = nI t := (h.1.1 0 48 (by omega)).trans e48
    have v : vp_in (nI i) 4000 := vp_in_nI (by omega) (by decide)
    have ec : (nI i).toNatClampNeg = i := nI_clamp (by omega)
    have q25 : S'.2.1 25 i = S.2.1 25 i := h.1.2.1 25 i (by decide) (by decide)
    have q26 : S'.2.1 26 i = S.2.1 26 i := h.1.2.1 26 i (by decide) (by decide)
    refine mv_fuel (n := 50 * k + 20 + 50) (by omega) ?_
    refine ws_iload_n rfl (l2) rfl (ws_aload_n rfl (l0) rfl (ws_geti rfl rfl (e) rfl (ws_i rfl ⟨fun z => absurd z (nI_ge (by omega) (by omega)), fun _ => ?_⟩)))
    refine ws_iload_n rfl (l1) rfl (ws_i rfl ⟨fun z => absurd z (show ¬ (1 : Int32) = 0 by decide), fun _ => ?_⟩)
    refine ws_aload_n rfl (l0) rfl (ws_aload_n rfl (l0) rfl (ws_getr rfl rfl rfl (ws_iload_n rfl (l2) rfl (ws_i rfl ⟨v, ?_⟩))))
    rw [ec, q25]
    rcases h25 i (by omega) with z0 | ⟨z0, z1⟩
    · refine ws_i rfl ⟨fun _ => ?_, fun z => absurd z0 z⟩
      refine ws_iconst (x := 0) rfl rfl rfl (ws_iv rfl rfl rfl ?_)
      refine y_markT (V0 := V) (G := G) (yAi_G h.1 hG) h.2.1 h.2.2.1 (Or.inl rfl) (fun S2 V2 g1 g2 g3 g4 g5 g6 => ?_)
      refine ws_iinc (y := nI (i + 1)) rfl (l2) rfl ((nI_succ i).symm) rfl rfl (ws_goto (t := 86) rfl (by decide) (?_))
      refine mv_fuel (n := 50 * k + 20) (by omega) (yA_l3 hG ht e48 h25 hP k (i + 1) _ S2 V2 (by omega) (mv_at_sr (by decide) (l0)) (mv_at_sv (by decide) (l1)) (mv_at_me) (yAi_w (yAi_step h g1 g2 g3 g4 g5 g6) (fun x hx => ?_)))
      rcases hx with z | ⟨q, q1, q2, q3⟩
      · exact Or.inl (Or.inl z)
      · by_cases c : q = i
        · rw [c] at q2; exact absurd z0 q2
        · exact Or.inl (Or.inr ⟨q, by omega, q2, q3⟩)
    · refine ws_i rfl ⟨fun z => absurd z z0, fun _ => ?_⟩
      refine ws_aload_n rfl (l0) rfl (ws_getr rfl rfl rfl (ws_iload_n rfl (l2) rfl (ws_i rfl ⟨v, ?_⟩)))
      rw [ec, q26]
      refine ws_goto (t := 118) rfl (by decide) (ws_iv rfl rfl rfl ?_)
      refine y_markT (V0 := V) (G := G) (yAi_G h.1 hG) h.2.1 h.2.2.1 z1 (fun S2 V2 g1 g2 g3 g4 g5 g6 => ?_)
      refine ws_iinc (y := nI (i + 1)) rfl (l2) rfl ((nI_succ i).symm) rfl rfl (ws_goto (t := 86) rfl (by decide) (?_))
      refine mv_fuel (n := 50 * k + 20) (by omega) (yA_l3 hG ht e48 h25 hP k (i + 1) _ S2 V2 (by omega) (mv_at_sr (by decide) (l0)) (mv_at_sv (by decide) (l1)) (mv_at_me) (yAi_w (yAi_step h g1 g2 g3 g4 g5 g6) (fun x hx => ?_)))
      rcases hx with z | ⟨q, q1, q2, q3⟩
      · exact Or.inl (Or.inl z)
      · by_cases c : q = i
        · rw [c] at q3; exact Or.inr q3
        · exact Or.inl (Or.inr ⟨q, by omega, q2, q3⟩)
set_option maxHeartbeats 1000000 in
set_option maxRecDepth 8000 in
theorem yA_l2 {cs t : Nat} (hG : ∀ i, G i → 1 ≤ i ∧ i ≤ 899 ∧ hOk 899 G (S.2.1 15 i) ∧ hOk 899 G (S.2.1 16 i)) (hcs : cs ≤ 24) (ht : t ≤ 2000) (e43 : S.1 0 43 = nI cs) (e48 : S.1 0 48 = nI t) (h22 : ∀ p, p < 2 + 2 * cs → hOk 899 G (S.2.1 22 p)) (h25 : ∀ p, p < t → S.2.1 25 p = 0 ∨ (¬ S.2.1 25 p = 0 ∧ hOk 899 G (S.2.1 26 p))) (hP : ∀ S' V, yAi S S' G V (yQ3 S (2 + 2 * cs) t) → P none S') : ∀ (k i : Nat) (l : List (Nat × Value)) (S' : mv_S) (V : List Nat), i + k = 2 + 2 * cs → mv_at 0 l = some (.ref 0) → mv_at 1 l = some (.int 1) → mv_at 2 l = some (.int (nI i)) → yAi S S' G V (yQ2 S i) → yAw P d (50 * k + 50 * 2000 + 60) 52 l [] S'
  | 0, i, l, S', V, hk, l0, l1, l2, h => by
    obtain rfl : i = 2 + 2 * cs := by omega
    have e : S'.1 0 43 = nI cs := (h.1.1 0 43 (by omega)).trans e43
    refine ws_iload_n rfl (l2) rfl (ws_iconst (x := 2) rfl rfl rfl (ws_aload_n rfl (l0) rfl (ws_geti rfl rfl (e) rfl (ws_iconst (x := 1) rfl rfl rfl (ws_iadd rfl (rfl) rfl (ws_imul rfl (yA_n cs (by omega)) rfl (ws_i rfl ⟨fun _ => ?_, fun z => absurd (show nI (2 + 2 * cs) ≤ nI (2 + 2 * cs) from Int32.le_refl _) z⟩)))))))
    refine ws_iconst (x := 0) rfl rfl rfl (ws_istore_n rfl rfl rfl rfl ?_)
    refine mv_fuel (n := 50 * t + 20) (by omega) (yA_l3 hG ht e48 h25 hP t 0 _ S' V (by omega) (mv_at_sr (by decide) (l0)) (mv_at_sv (by decide) (l1)) (mv_at_me) (yAi_w h (fun x hx => ?_)))
    rcases hx with z | ⟨q, q1, q2⟩
    · exact z
    · omega
  | k + 1, i, l, S', V, hk, l0, l1, l2, h => by
    have e : S'.1 0 43 = nI cs := (h.1.1 0 43 (by omega)).trans e43
    have v : vp_in (nI i) 50 := vp_in_nI (by omega) (by decide)
    have ec : (nI i).toNatClampNeg = i := nI_clamp (by omega)
    have q22 : S'.2.1 22 i = S.2.1 22 i := h.1.2.1 22 i (by decide) (by decide)
    refine mv_fuel (n := 50 * k + 50 * 2000 + 60 + 50) (by omega) ?_
    refine ws_iload_n rfl (l2) rfl (ws_iconst (x := 2) rfl rfl rfl (ws_aload_n rfl (l0) rfl (ws_geti rfl rfl (e) rfl (ws_iconst (x := 1) rfl rfl rfl (ws_iadd rfl (rfl) rfl (ws_imul rfl (yA_n cs (by omega)) rfl (ws_i rfl ⟨fun z => absurd z (nI_ge (by omega) (by omega)), fun _ => ?_⟩)))))))
    refine ws_iload_n rfl (l1) rfl (ws_i rfl ⟨fun z => absurd z (show ¬ (1 : Int32) = 0 by decide), fun _ => ?_⟩)
    refine ws_aload_n rfl (l0) rfl (ws_aload_n rfl (l0) rfl (ws_getr rfl rfl rfl (ws_iload_n rfl (l2) rfl (ws_i rfl ⟨v, ?_⟩))))
    rw [ec, q22]
    refine ws_iv rfl rfl rfl ?_
    refine y_markT (V0 := V) (G := G) (yAi_G h.1 hG) h.2.1 h.2.2.1 (h22 i (by omega)) (fun S2 V2 g1 g2 g3 g4 g5 g6 => ?_)
    refine ws_iinc (y := nI (i + 1)) rfl (l2) rfl ((nI_succ i).symm) rfl rfl (ws_goto (t := 52) rfl (by decide) (?_))
    refine mv_fuel (n := 50 * k + 50 * 2000 + 60) (by omega) (yA_l2 hG hcs ht e43 e48 h22 h25 hP k (i + 1) _ S2 V2 (by omega) (mv_at_sr (by decide) (l0)) (mv_at_sv (by decide) (l1)) (mv_at_me) (yAi_w (yAi_step h g1 g2 g3 g4 g5 g6) (fun x hx => ?_)))
    rcases hx with z | ⟨q, q1, q3⟩
    · exact Or.inl (Or.inl z)
    · by_cases c : q = i
      · rw [c] at q3; exact Or.inr q3
      · exact Or.inl (Or.inr ⟨q, by omega, q3⟩)
set_option maxHeartbeats 1000000 in
set_option maxRecDepth 8000 in
theorem yA_l1 {al : Int32} {F : Nat} (hG : ∀ i, G i → 1 ≤ i ∧ i ≤ 899 ∧ hOk 899 G (S.2.1 15 i) ∧ hOk 899 G (S.2.1 16 i)) (h20 : ∀ p, p < 4 → hOk 899 G (S.2.1 20 p)) (hK : ∀ l' S' V, mv_at 0 l' = some (.ref 0) → mv_at 1 l' = some (.int al) → mv_at 2 l' = some (.int (nI 0)) → yAi S S' G V (yQ1 S 4) → yAw P d F 52 l' [] S') : ∀ (k i : Nat) (l : List (Nat × Value)) (S' : mv_S) (V : List Nat), i + k = 4 → mv_at 0 l = some (.ref 0) → mv_at 1 l = some (.int al) → mv_at 2 l = some (.int (nI i)) → yAi S S' G V (yQ1 S i) → yAw P d (50 * k + F + 20) 29 l [] S'
  | 0, i, l, S', V, hk, l0, l1, l2, h => by
    obtain rfl : i = 4 := by omega
    refine mv_fuel (n := F + 20) (by omega) ?_
    refine ws_iload_n rfl (l2) rfl (ws_iconst (x := 4) rfl rfl rfl (ws_i rfl ⟨fun _ => ?_, fun z => absurd (show (4 : Int32) ≤ nI 4 by decide) z⟩))
    refine ws_iconst (x := 0) rfl rfl rfl (ws_istore_n rfl rfl rfl rfl ?_)
    exact mv_fuel (n := F) (by omega) (hK _ S' V (mv_at_sr (by decide) (l0)) (mv_at_sv (by decide) (l1)) (mv_at_me) h)
  | k + 1, i, l, S', V, hk, l0, l1, l2, h => by
    have v : vp_in (nI i) 4 := vp_in_nI (by omega) (by decide)
    have ec : (nI i).toNatClampNeg = i := nI_clamp (by omega)
    have q20 : S'.2.1 20 i = S.2.1 20 i := h.1.2.1 20 i (by decide) (by decide)
    refine mv_fuel (n := 50 * k + F + 20 + 50) (by omega) ?_
    refine ws_iload_n rfl (l2) rfl (ws_iconst (x := 4) rfl rfl rfl (ws_i rfl ⟨fun z => absurd z (nI_ge (b := 4) (by omega) (by decide)), fun _ => ?_⟩))
    refine ws_aload_n rfl (l0) rfl (ws_aload_n rfl (l0) rfl (ws_getr rfl rfl rfl (ws_iload_n rfl (l2) rfl (ws_i rfl ⟨v, ?_⟩))))
    rw [ec, q20]
    refine ws_iv rfl rfl rfl ?_
    refine y_markT (V0 := V) (G := G) (yAi_G h.1 hG) h.2.1 h.2.2.1 (h20 i (by omega)) (fun S2 V2 g1 g2 g3 g4 g5 g6 => ?_)
    refine ws_iinc (y := nI (i + 1)) rfl (l2) rfl ((nI_succ i).symm) rfl rfl (ws_goto (t := 29) rfl (by decide) (?_))
    refine mv_fuel (n := 50 * k + F + 20) (by omega) (yA_l1 hG h20 hK k (i + 1) _ S2 V2 (by omega) (mv_at_sr (by decide) (l0)) (mv_at_sv (by decide) (l1)) (mv_at_me) (yAi_w (yAi_step h g1 g2 g3 g4 g5 g6) (fun x hx => ?_)))
    obtain ⟨q, q1, q3⟩ := hx
    by_cases c : q = i
    · rw [c] at q3; exact Or.inr q3
    · exact Or.inl ⟨q, by omega, q3⟩
set_option maxHeartbeats 1000000 in
set_option maxRecDepth 8000 in
theorem yA_l0 {al : Int32} {F : Nat} (hK : ∀ l' S', mv_at 0 l' = some (.ref 0) → mv_at 1 l' = some (.int al) → mv_at 2 l' = some (.int (nI 0)) → yMf S S' → S'.1 0 30 = 0 → (∀ i, i < 900 → S'.2.1 17 i = 0) → yAw P d F 29 l' [] S') : ∀ (k i : Nat) (l : List (Nat × Value)) (S' : mv_S), i + k = 900 → mv_at 0 l = some (.ref 0) → mv_at 1 l = some (.int al) → mv_at 2 l = some (.int (nI i)) → yMf S S' → S'.1 0 30 = 0 → (∀ q, q < i → S'.2.1 17 q = 0) → yAw P d (20 * k + F + 20) 7 l [] S'
  | 0, i, l, S', hk, l0, l1, l2, h, h0, h1 => by
    obtain rfl : i = 900 := by omega
    refine mv_fuel (n := F + 20) (by omega) ?_
    refine ws_iload_n rfl (l2) rfl (ws_sipush (x := 900) rfl rfl rfl (ws_i rfl ⟨fun _ => ?_, fun z => absurd (show (900 : Int32) ≤ nI 900 by decide) z⟩))
    refine ws_iconst (x := 0) rfl rfl rfl (ws_istore_n rfl rfl rfl rfl ?_)
    exact mv_fuel (n := F) (by omega) (hK _ S' (mv_at_sr (by decide) (l0)) (mv_at_sv (by decide) (l1)) (mv_at_me) h h0 h1)
  | k + 1, i, l, S', hk, l0, l1, l2, h, h0, h1 => by
    have v : vp_in (nI i) 900 := vp_in_nI (by omega) (by decide)
    have ec : (nI i).toNatClampNeg = i := nI_clamp (by omega)
    refine mv_fuel (n := 20 * k + F + 20 + 20) (by omega) ?_
    refine ws_iload_n rfl (l2) rfl (ws_sipush (x := 900) rfl rfl rfl (ws_i rfl ⟨fun z => absurd z (nI_ge (b := 900) (by omega) (by decide)), fun _ => ?_⟩))
    refine ws_aload_n rfl (l0) rfl (ws_getr rfl rfl rfl (ws_iload_n rfl (l2) rfl (ws_iconst (x := 0) rfl rfl rfl (ws_i rfl ⟨Or.inl rfl, v, ?_⟩))))
    rw [ec]
    refine ws_iinc (y := nI (i + 1)) rfl (l2) rfl ((nI_succ i).symm) rfl rfl (ws_goto (t := 7) rfl (by decide) (?_))
    refine mv_fuel (n := 20 * k + F + 20) (by omega) (yA_l0 hK k (i + 1) _ _ (by omega) (mv_at_sr (by decide) (l0)) (mv_at_sv (by decide) (l1)) (mv_at_me) ⟨h.1, fun o j a b => by rw [pr_get, if_neg (fun z => a z.1)]; exact h.2.1 o j a b, h.2.2⟩ h0 (fun q hq => ?_))
    rw [pr_get]
    by_cases c : q = i
    · rw [if_pos ⟨rfl, c⟩]
    · rw [if_neg (fun z => c z.2)]; exact h1 q (by omega)
theorem yAi_0 {n : Nat} (h : yMf S S') (h0 : S'.1 0 30 = 0) (h1 : ∀ i, i < 900 → S'.2.1 17 i = 0) : yAi S S' G [] (yQ1 S 0) := ⟨h, ⟨List.Pairwise.nil, fun i hi => (by cases hi), h0, rfl, fun i hi => Or.inr ⟨fun z => (by cases z), h1 i hi⟩⟩, fun i hi => (by cases hi), fun i hi => (by cases hi), fun x hx => by obtain ⟨q, q1, _⟩ := hx; omega⟩
set_option maxHeartbeats 1000000 in
set_option maxRecDepth 8000 in
theorem y_findLiveA {cs t : Nat} (hG : ∀ i, G i → 1 ≤ i ∧ i ≤ 899 ∧ hOk 899 G (S.2.1 15 i) ∧ hOk 899 G (S.2.1 16 i)) (hcs : cs ≤ 24) (ht : t ≤ 2000) (e43 : S.1 0 43 = nI cs) (e48 : S.1 0 48 = nI t) (h20 : ∀ p, p < 4 → hOk 899 G (S.2.1 20 p)) (h22 : ∀ p, p < 2 + 2 * cs → hOk 899 G (S.2.1 22 p)) (h25 : ∀ p, p < t → S.2.1 25 p = 0 ∨ (¬ S.2.1 25 p = 0 ∧ hOk 899 G (S.2.1 26 p))) (hP : ∀ S' V, yAi S S' G V (yQ3 S (2 + 2 * cs) t) → P none S') : mv_big layY sysY (d + 2) 31 [.ref 0, .int 1] S P := by
  refine ⟨20 * 900 + (50 * 4 + (50 * (2 + 2 * cs) + 50 * 2000 + 60) + 20) + 20 + 20, ?_⟩
  refine ws_aload_n rfl rfl rfl (ws_iconst (x := 0) rfl rfl rfl (ws_puti rfl rfl rfl (ws_iconst (x := 0) rfl rfl rfl (ws_istore_n rfl rfl rfl rfl ?_))))
  refine mv_fuel (n := 20 * 900 + (50 * 4 + (50 * (2 + 2 * cs) + 50 * 2000 + 60) + 20) + 20) (by omega) (yA_l0 (al := 1) (S := S) (fun l1 S1 a0 a1 a2 g1 g2 g3 => ?_) 900 0 _ (mv_pf S 0 30 0) (by omega) rfl rfl rfl ⟨fun o f a => by rw [pf_get, if_neg a], fun _ _ _ _ => rfl, rfl⟩ (by rw [pf_get, if_pos ⟨rfl, rfl⟩]) (fun q hq => absurd hq (by omega)))
  refine yA_l1 (al := 1) hG h20 (fun l2 S2 V2 b0 b1 b2 h2 => ?_) 4 0 l1 S1 [] (by omega) a0 a1 a2 (yAi_0 (n := 0) g1 g2 g3)
  exact yA_l2 hG hcs ht e43 e48 h22 h25 hP (2 + 2 * cs) 0 l2 S2 V2 (by omega) b0 b1 b2 (yAi_w h2 (fun x hx => hx.elim id (fun ⟨q, q1, _⟩ => absurd q1 (by omega))))
set_option maxHeartbeats 1000000 in
set_option maxRecDepth 8000 in
theorem y_findLiveN {cs t : Nat} (hG : ∀ i, G i → 1 ≤ i ∧ i ≤ 899 ∧ hOk 899 G (S.2.1 15 i) ∧ hOk 899 G (S.2.1 16 i)) (hcs : cs ≤ 24) (ht : t ≤ 2000) (e43 : S.1 0 43 = nI cs) (e48 : S.1 0 48 = nI t) (h20 : ∀ p, p < 4 → hOk 899 G (S.2.1 20 p)) (hP : ∀ S' V, yAi S S' G V (yQ1 S 4) → P none S') : mv_big layY sysY (d + 2) 31 [.ref 0, .int 0] S P := by
  refine ⟨20 * 900 + (50 * 4 + 80 + 20) + 20 + 20, ?_⟩
  refine ws_aload_n rfl rfl rfl (ws_iconst (x := 0) rfl rfl rfl (ws_puti rfl rfl rfl (ws_iconst (x := 0) rfl rfl rfl (ws_istore_n rfl rfl rfl rfl ?_))))
  refine mv_fuel (n := 20 * 900 + (50 * 4 + 80 + 20) + 20) (by omega) (yA_l0 (al := 0) (S := S) (fun l1 S1 a0 a1 a2 g1 g2 g3 => ?_) 900 0 _ (mv_pf S 0 30 0) (by omega) rfl rfl rfl ⟨fun o f a => by rw [pf_get, if_neg a], fun _ _ _ _ => rfl, rfl⟩ (by rw [pf_get, if_pos ⟨rfl, rfl⟩]) (fun q hq => absurd hq (by omega)))
  refine yA_l1 (al := 0) hG h20 (fun l2 S2 V2 b0 b1 b2 h2 => ?_) 4 0 l1 S1 [] (by omega) a0 a1 a2 (yAi_0 (n := 0) g1 g2 g3)
  have e1 : S2.1 0 43 = nI cs := (h2.1.1 0 43 (by omega)).trans e43
  have e2 : S2.1 0 48 = nI t := (h2.1.1 0 48 (by omega)).trans e48
  refine ws_iload_n rfl (b2) rfl (ws_iconst (x := 2) rfl rfl rfl (ws_aload_n rfl (b0) rfl (ws_geti rfl rfl (e1) rfl (ws_iconst (x := 1) rfl rfl rfl (ws_iadd rfl (rfl) rfl (ws_imul rfl (yA_n cs (by omega)) rfl (ws_i rfl ⟨fun z => absurd z (nI_ge (by omega) (by omega)), fun _ => ?_⟩)))))))
  refine ws_iload_n rfl (b1) rfl (ws_i rfl ⟨fun _ => ?_, fun z => absurd rfl z⟩)
  refine ws_iconst (x := 0) rfl rfl rfl (ws_istore_n rfl rfl rfl rfl (ws_iload_n rfl (mv_at_me) rfl (ws_aload_n rfl (mv_at_sr (by decide) (b0)) rfl (ws_geti rfl rfl (e2) rfl (ws_i rfl ⟨fun c => ?_, fun c => ?_⟩)))))
  · refine ws_i rfl ?_
    exact hP S2 V2 h2
  refine ws_iload_n rfl (mv_at_sv (by decide) (b1)) rfl (ws_i rfl ⟨fun _ => ?_, fun z => absurd rfl z⟩)
  refine ws_i rfl ?_
  exact hP S2 V2 h2
end YR

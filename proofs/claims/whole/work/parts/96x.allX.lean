/-! THE CLASS REACHES ALL, GIVES BACK -/
/-- the rounds: r of them -/
def xRo (S : mv_S) (r : Nat) : Prop := S.1 3 10 = nI r ∧ ∀ i, 1 ≤ i → i ≤ 800 → ∃ a, a ≤ r ∧ S.2.1 21 i = nI a
/-- only the rounds have changed, by one -/
def xRg (S S' : mv_S) (r : Nat) : Prop := (∀ o f, ¬ (o = 3 ∧ (f = 10 ∨ f = 11)) → S'.1 o f = S.1 o f) ∧ (∀ o i, o ≠ 21 → o ≠ 22 → S'.2.1 o i = S.2.1 o i) ∧ S'.2.2 = S.2.2 ∧ xRo S' (r + 1)
section XR
variable {d : Nat} {P : Option Value → mv_S → Prop} {S S' : mv_S} {G : Nat → Prop} {V0 V : List Nat} {c0 c : Int32} {r : Nat}
theorem xBR_md (h : xRo S r) (hr : r + 1 < 2 ^ 31) : xMd (mv_pf (mv_pf S 3 10 (S.1 3 10 + 1)) 3 11 0) [] := by
  refine ⟨List.Pairwise.nil, fun i hi => (by cases hi), by rw [pf_get, if_pos ⟨rfl, rfl⟩]; rfl, fun i i1 i2 => ?_⟩
  rw [pf_get, if_neg (by omega), pf_get, if_pos ⟨rfl, rfl⟩, h.1, nI_1]
  obtain ⟨a, a1, a2⟩ := h.2 i i1 i2
  show S.2.1 21 i = _ ↔ _
  rw [a2]
  exact ⟨fun z => by have := (nI_eq (by omega) (by omega)).mp z; omega, fun z => (by cases z)⟩
theorem xBR_rg (h : xRo S r) (g : xRf (mv_pf (mv_pf S 3 10 (S.1 3 10 + 1)) 3 11 0) S') : xRg S S' r := by
  obtain ⟨g1, g2, g3, g4⟩ := g
  have e10 : (mv_pf (mv_pf S 3 10 (S.1 3 10 + 1)) 3 11 0).1 3 10 = nI (r + 1) := by rw [pf_get, if_neg (by omega), pf_get, if_pos ⟨rfl, rfl⟩, h.1, nI_1]
  refine ⟨fun o f a => ?_, g2, g3, (g1 3 10 (by omega)).trans e10, fun i i1 i2 => ?_⟩
  · rw [g1 o f (by omega), pf_get, if_neg (by omega), pf_get, if_neg (by omega)]
  · rcases g4 i with z | z
    · obtain ⟨a, a1, a2⟩ := h.2 i i1 i2
      exact ⟨a, by omega, z.trans a2⟩
    · exact ⟨r + 1, by omega, z.trans e10⟩
def xAe (S : mv_S) (G : Nat → Prop) (r : Nat) (Q : Int32 → Prop) (P : Option Value → mv_S → Prop) : Prop := ∀ S' V, xRg S S' r → xMd S' V → xCd S' V → (∀ i, i ∈ V → G i) → (∀ x, Q x → hOk 800 (fun i => i ∈ V) x) → P none S'
set_option maxHeartbeats 1000000 in
set_option maxRecDepth 8000 in
theorem x_sizeT {r : Nat} {Q : Option Value → mv_S → Prop} (hR : xRo S r) (hr : r + 1 < 2 ^ 31) (hG : ∀ i, G i → 1 ≤ i ∧ i ≤ 800 ∧ hOk 800 G (S.2.1 18 i) ∧ hOk 800 G (S.2.1 19 i)) (hc : hOk 800 G c0) (hP : ∀ S' V, xRg S S' r → xMd S' V → xCd S' V → (∀ i, i ∈ V → G i) → hOk 800 (fun i => i ∈ V) c0 → Q (some (.int (nI V.length))) S') : mv_big layX sysX (d + 2) 21 [.ref 3, .int c0] S Q := by
  refine ⟨20, ?_⟩
  refine ws_aload_n rfl (rfl) rfl (ws_iv rfl rfl rfl ?_)
  refine x_beginReaching ?_
  refine ws_aload_n rfl (rfl) rfl (ws_iload_n rfl (rfl) rfl (ws_iv rfl rfl rfl ?_))
  refine x_reach (V0 := []) (G := G) hG (xBR_md hR hr) (fun i hi => (by cases hi)) hc (fun S2 V g1 g2 g3 _ g5 g6 => ?_)
  refine ws_aload_n rfl (rfl) rfl (ws_geti rfl rfl (g2.2.2.1) rfl (ws_i rfl ?_))
  exact hP S2 V (xBR_rg hR g1) g2 g3 (fun i hi => (g5 i hi).elim (fun z => (by cases z)) id) g6
abbrev xAw (P : Option Value → mv_S → Prop) (d F pc : Nat) (l : List (Nat × Value)) (st : List Value) (S : mv_S) : Prop := mv_wp layX sysX tT5 3 none mX5_reachAll.2.2.2.2.2.2.2 (mv_big layX sysX (d + 1)) P F pc l st S
def xAi (S S' : mv_S) (G : Nat → Prop) (V : List Nat) (Q : Int32 → Prop) : Prop := xRf S S' ∧ xMd S' V ∧ xCd S' V ∧ (∀ i, i ∈ V → G i) ∧ (∀ x, Q x → hOk 800 (fun i => i ∈ V) x)
theorem xAi_step {Q : Int32 → Prop} {S2 : mv_S} {V2 : List Nat} (h : xAi S S' G V Q) (g1 : xRf S' S2) (g2 : xMd S2 V2) (g3 : xCd S2 V2) (g4 : ∀ i, i ∈ V → i ∈ V2) (g5 : ∀ i, i ∈ V2 → i ∈ V ∨ G i) (g6 : hOk 800 (fun i => i ∈ V2) c0) : xAi S S2 G V2 (fun x => Q x ∨ x = c0) := by
  obtain ⟨h1, h2, h3, h4, h5⟩ := h
  refine ⟨xRf_trans h1 g1, g2, g3, fun i hi => (g5 i hi).elim (h4 i) id, fun x hx => ?_⟩
  rcases hx with z | z
  · exact hOk_imp g4 (h5 x z)
  · rw [z]; exact g6
theorem xAi_w {Q Q' : Int32 → Prop} (h : xAi S S' G V Q) (hq : ∀ x, Q' x → Q x) : xAi S S' G V Q' := ⟨h.1, h.2.1, h.2.2.1, h.2.2.2.1, fun x hx => h.2.2.2.2 x (hq x hx)⟩
def xQ1 (S : mv_S) (n : Nat) (x : Int32) : Prop := ∃ q, q < n ∧ x = S.2.1 24 q
def xQ2 (S : mv_S) (n t : Nat) (x : Int32) : Prop := xQ1 S n x ∨ ∃ q, q < t ∧ x = S.2.1 26 q
set_option maxHeartbeats 1000000 in
set_option maxRecDepth 8000 in
theorem xA_l2 {n t : Nat} (hG : ∀ i, G i → 1 ≤ i ∧ i ≤ 800 ∧ hOk 800 G (S.2.1 18 i) ∧ hOk 800 G (S.2.1 19 i)) (ht : t ≤ 425) (e12 : S.1 4 12 = nI t) (h26 : ∀ p, p < t → hOk 800 G (S.2.1 26 p)) (hP : ∀ S' V, xAi S S' G V (xQ2 S n t) → P none S') : ∀ (k i : Nat) (l : List (Nat × Value)) (S' : mv_S) (V : List Nat), i + k = t → mv_at 0 l = some (.ref 4) → mv_at 2 l = some (.int (nI i)) → xAi S S' G V (xQ2 S n i) → xAw P d (40 * k + 20) 48 l [] S'
  | 0, i, l, S', V, hk, l0, l2, h => by
    obtain rfl : i = t := by omega
    have e : S'.1 4 12 = nI i := (h.1.1 4 12 (by omega)).trans e12
    refine ws_iload_n rfl (l2) rfl (ws_aload_n rfl (l0) rfl (ws_geti rfl rfl (e) rfl (ws_i rfl ⟨fun _ => ?_, fun z => absurd (show nI i ≤ nI i from Int32.le_refl _) z⟩)))
    refine ws_i rfl ?_
    exact hP S' V h
  | k + 1, i, l, S', V, hk, l0, l2, h => by
    have e : S'.1 4 12 = nI t := (h.1.1 4 12 (by omega)).trans e12
    refine mv_fuel (n := 40 * k + 20 + 40) (by omega) ?_
    refine ws_iload_n rfl (l2) rfl (ws_aload_n rfl (l0) rfl (ws_geti rfl rfl (e) rfl (ws_i rfl ⟨fun z => absurd z (nI_ge (by omega) (by omega)), fun _ => ?_⟩)))
    refine ws_aload_n rfl (l0) rfl (ws_getr rfl rfl rfl (ws_aload_n rfl (l0) rfl (ws_getr rfl rfl rfl (ws_iload_n rfl (l2) rfl (ws_is rfl rfl rfl ?_)))))
    refine x_at_26 ?_
    rw [rAt_nI (by omega) (by decide), h.1.2.1 26 i (by decide) (by decide)]
    refine ws_iv rfl rfl rfl ?_
    refine x_reach (V0 := V) (G := G) (fun i hi => by rw [h.1.2.1 18 i (by decide) (by decide), h.1.2.1 19 i (by decide) (by decide)]; exact hG i hi) h.2.1 h.2.2.1 (h26 i (by omega)) (fun S2 V2 g1 g2 g3 g4 g5 g6 => ?_)
    refine ws_iinc (y := nI (i + 1)) rfl (l2) rfl ((nI_succ i).symm) rfl rfl (ws_goto (t := 48) rfl (by decide) (?_))
    refine mv_fuel (n := 40 * k + 20) (by omega) (xA_l2 hG ht e12 h26 hP k (i + 1) _ S2 V2 (by omega) (mv_at_sr (by decide) (l0)) (mv_at_me) (xAi_w (xAi_step h g1 g2 g3 g4 g5 g6) (fun x hx => ?_)))
    rcases hx with z | ⟨q, q1, q2⟩
    · exact Or.inl (Or.inl z)
    · by_cases c : q = i
      · rw [c] at q2; exact Or.inr q2
      · exact Or.inl (Or.inr ⟨q, by omega, q2⟩)
set_option maxHeartbeats 1000000 in
set_option maxRecDepth 8000 in
theorem xA_l1 {n t : Nat} (hG : ∀ i, G i → 1 ≤ i ∧ i ≤ 800 ∧ hOk 800 G (S.2.1 18 i) ∧ hOk 800 G (S.2.1 19 i)) (hn : n ≤ 54) (ht : t ≤ 425) (e12 : S.1 4 12 = nI t) (h24 : ∀ p, p < n → hOk 800 G (S.2.1 24 p)) (h26 : ∀ p, p < t → hOk 800 G (S.2.1 26 p)) (hP : ∀ S' V, xAi S S' G V (xQ2 S n t) → P none S') : ∀ (k i : Nat) (l : List (Nat × Value)) (S' : mv_S) (V : List Nat), i + k = n → mv_at 0 l = some (.ref 4) → mv_at 1 l = some (.int (nI n)) → mv_at 2 l = some (.int (nI i)) → xAi S S' G V (xQ1 S i) → xAw P d (40 * k + 40 * 425 + 40) 20 l [] S'
  | 0, i, l, S', V, hk, l0, l1, l2, h => by
    obtain rfl : i = n := by omega
    refine ws_iload_n rfl (l2) rfl (ws_iload_n rfl (l1) rfl (ws_i rfl ⟨fun _ => ?_, fun z => absurd (show nI i ≤ nI i from Int32.le_refl _) z⟩))
    refine ws_iconst (x := 0) rfl rfl rfl (ws_istore_n rfl rfl rfl rfl ?_)
    refine mv_fuel (n := 40 * t + 20) (by omega) (xA_l2 hG ht e12 h26 hP t 0 _ S' V (by omega) (mv_at_sr (by decide) (l0)) (mv_at_me) (xAi_w h (fun x hx => ?_)))
    rcases hx with z | ⟨q, q1, q2⟩
    · exact z
    · omega
  | k + 1, i, l, S', V, hk, l0, l1, l2, h => by
    refine mv_fuel (n := 40 * k + 40 * 425 + 40 + 40) (by omega) ?_
    refine ws_iload_n rfl (l2) rfl (ws_iload_n rfl (l1) rfl (ws_i rfl ⟨fun z => absurd z (nI_ge (by omega) (by omega)), fun _ => ?_⟩))
    refine ws_aload_n rfl (l0) rfl (ws_getr rfl rfl rfl (ws_aload_n rfl (l0) rfl (ws_getr rfl rfl rfl (ws_iload_n rfl (l2) rfl (ws_is rfl rfl rfl ?_)))))
    refine x_at_24 ?_
    rw [rAt_nI (by omega) (by decide), h.1.2.1 24 i (by decide) (by decide)]
    refine ws_iv rfl rfl rfl ?_
    refine x_reach (V0 := V) (G := G) (fun i hi => by rw [h.1.2.1 18 i (by decide) (by decide), h.1.2.1 19 i (by decide) (by decide)]; exact hG i hi) h.2.1 h.2.2.1 (h24 i (by omega)) (fun S2 V2 g1 g2 g3 g4 g5 g6 => ?_)
    refine ws_iinc (y := nI (i + 1)) rfl (l2) rfl ((nI_succ i).symm) rfl rfl (ws_goto (t := 20) rfl (by decide) (?_))
    refine mv_fuel (n := 40 * k + 40 * 425 + 40) (by omega) (xA_l1 hG hn ht e12 h24 h26 hP k (i + 1) _ S2 V2 (by omega) (mv_at_sr (by decide) (l0)) (mv_at_sv (by decide) (l1)) (mv_at_me) (xAi_w (xAi_step h g1 g2 g3 g4 g5 g6) (fun x hx => ?_)))
    obtain ⟨q, q1, q2⟩ := hx
    by_cases c : q = i
    · rw [c] at q2; exact Or.inr q2
    · exact Or.inl ⟨q, by omega, q2⟩
theorem xA_n : ∀ c, c < 25 → (4 : Int32) + (nI c + 1) * 2 = nI (6 + 2 * c) := by decide
set_option maxHeartbeats 1000000 in
set_option maxRecDepth 8000 in
theorem x_reachAll {r t cs : Nat} (hR : xRo S r) (hr : r + 1 < 2 ^ 31) (hG : ∀ i, G i → 1 ≤ i ∧ i ≤ 800 ∧ hOk 800 G (S.2.1 18 i) ∧ hOk 800 G (S.2.1 19 i)) (hcs : cs ≤ 24) (ht : t ≤ 425) (e13 : S.1 4 13 = nI cs) (e12 : S.1 4 12 = nI t) (h24 : ∀ p, p < 6 + 2 * cs → hOk 800 G (S.2.1 24 p)) (h26 : ∀ p, p < t → hOk 800 G (S.2.1 26 p)) (hP : xAe S G r (xQ2 S (6 + 2 * cs) t) P) : mv_big layX sysX (d + 2) 123 [.ref 4] S P := by
  refine ⟨40 * 54 + 40 * 425 + 40 + 40, ?_⟩
  refine ws_aload_n rfl (rfl) rfl (ws_getr rfl rfl rfl (ws_iv rfl rfl rfl ?_))
  refine x_beginReaching ?_
  have f13 : (mv_pf (mv_pf S 3 10 (S.1 3 10 + 1)) 3 11 0).1 4 13 = nI cs := by rw [pf_get, if_neg (by omega), pf_get, if_neg (by omega)]; exact e13
  have f12 : (mv_pf (mv_pf S 3 10 (S.1 3 10 + 1)) 3 11 0).1 4 12 = nI t := by rw [pf_get, if_neg (by omega), pf_get, if_neg (by omega)]; exact e12
  refine ws_iconst (x := 4) rfl rfl rfl (ws_aload_n rfl (rfl) rfl (ws_geti rfl rfl (f13) rfl (ws_iconst (x := 1) rfl rfl rfl (ws_iadd rfl (rfl) rfl (ws_iconst (x := 2) rfl rfl rfl (ws_imul rfl (rfl) rfl (ws_iadd rfl (xA_n cs (by omega)) rfl (?_))))))))
  refine ws_istore_n rfl rfl rfl rfl (ws_iconst (x := 0) rfl rfl rfl (ws_istore_n rfl rfl rfl rfl ?_))
  exact mv_fuel (n := 40 * (6 + 2 * cs) + 40 * 425 + 40) (by omega) (xA_l1 (S := mv_pf (mv_pf S 3 10 (S.1 3 10 + 1)) 3 11 0) hG (by omega) ht f12 h24 h26 (fun S2 V h => hP S2 V (xBR_rg hR h.1) h.2.1 h.2.2.1 h.2.2.2.1 h.2.2.2.2) (6 + 2 * cs) 0 _ _ [] (by omega) rfl rfl rfl ⟨xRf_refl, xBR_md hR hr, fun i hi => (by cases hi), fun i hi => (by cases hi), fun x hx => by obtain ⟨q, q1, _⟩ := hx; omega⟩)
/-- the free cells are the F, in their order -/
def xFL (S : mv_S) (F : List Nat) : Prop := S.1 3 8 = nI F.length ∧ ∀ p i, F[p]? = some i → S.2.1 20 p = nI i
def xGB (S S' : mv_S) : Prop := (∀ o f, ¬ (o = 3 ∧ f = 8) → S'.1 o f = S.1 o f) ∧ (∀ o i, o ≠ 20 → S'.2.1 o i = S.2.1 o i) ∧ S'.2.2 = S.2.2
abbrev xGw (P : Option Value → mv_S → Prop) (d F pc : Nat) (l : List (Nat × Value)) (st : List Value) (S : mv_S) : Prop := mv_wp layX sysX tT0 2 none mX0_giveBackUnreached.2.2.2.2.2.2.2 (mv_big layX sysX d) P F pc l st S
set_option maxHeartbeats 1000000 in
set_option maxRecDepth 8000 in
theorem xG_loop (hV : xMd S V) (hP : ∀ S' F, xGB S S' → xFL S' F → F.Nodup → (∀ i, i ∈ F ↔ 1 ≤ i ∧ i ≤ 800 ∧ ¬ i ∈ V) → P none S') : ∀ (k : Nat) (l : List (Nat × Value)) (S' : mv_S) (F : List Nat), k ≤ 800 → mv_at 0 l = some (.ref 3) → mv_at 1 l = some (.int (nI k)) → xGB S S' → xFL S' F → F.Nodup → (∀ i, i ∈ F ↔ k < i ∧ i ≤ 800 ∧ ¬ i ∈ V) → xGw P d (50 * k + 20) 9 l [] S'
  | 0, l, S', F, hk, l0, l1, h1, h2, h3, h4 => by
    refine ws_iload_n rfl (l1) rfl (ws_i rfl ⟨fun _ => ?_, fun z => absurd (show nI 0 ≤ 0 by decide) z⟩)
    refine ws_i rfl ?_
    exact hP S' F h1 h2 h3 (fun i => (h4 i).trans Iff.rfl)
  | k + 1, l, S', F, hk, l0, l1, h1, h2, h3, h4 => by
    have v : vp_in (nI (k + 1)) 803 := vp_in_nI (by omega) (by decide)
    have ec : (nI (k + 1)).toNatClampNeg = k + 1 := nI_clamp (by omega)
    have gt : ¬ nI (k + 1) ≤ 0 := fun z => absurd z (by rw [← nI_0]; exact nI_ge (by omega) (by omega))
    have m21 : S'.2.1 21 (k + 1) = S'.1 3 10 ↔ (k + 1) ∈ V := by
      rw [h1.2.1 21 (k + 1) (by decide), h1.1 3 10 (by omega)]; exact hV.2.2.2 (k + 1) (by omega) (by omega)
    have fl : F.length ≤ 800 := nd_len 800 h3 (fun i hi => by have := (h4 i).mp hi; omega)
    refine mv_fuel (n := 50 * k + 20 + 50) (by omega) ?_
    refine ws_iload_n rfl (l1) rfl (ws_i rfl ⟨fun z => absurd z gt, fun _ => ?_⟩)
    refine ws_aload_n rfl (l0) rfl (ws_getr rfl rfl rfl (ws_iload_n rfl (l1) rfl (ws_i rfl ⟨v, ?_⟩)))
    rw [ec]
    refine ws_aload_n rfl (l0) rfl (ws_geti rfl rfl (rfl) rfl (?_))
    by_cases hm : (k + 1) ∈ V
    · refine ws_i rfl ⟨fun _ => ?_, fun z => absurd (m21.mpr hm) z⟩
      refine ws_iinc (y := nI k) rfl (l1) rfl ((nI_dec k)) rfl rfl (ws_goto (t := 9) rfl (by decide) (?_))
      refine mv_fuel (n := 50 * k + 20) (by omega) (xG_loop hV hP k _ S' F (by omega) (mv_at_sr (by decide) (l0)) (mv_at_me) h1 h2 h3 (fun i => ?_))
      rw [h4]
      refine ⟨fun z => ⟨by omega, z.2⟩, fun z => ⟨?_, z.2⟩⟩
      have : i ≠ k + 1 := fun e => z.2.2 (by rw [e]; exact hm)
      omega
    · have vf : vp_in (nI F.length) 803 := vp_in_nI (by omega) (by decide)
      have ef : (nI F.length).toNatClampNeg = F.length := nI_clamp (by omega)
      refine ws_i rfl ⟨fun z => absurd (m21.mp z) hm, fun _ => ?_⟩
      refine ws_aload_n rfl (l0) rfl (ws_geti rfl rfl (h2.1) rfl (ws_sipush (x := 803) rfl rfl rfl (ws_i rfl ⟨fun z => absurd z (nI_ge (b := 803) (by omega) (by decide)), fun _ => ?_⟩)))
      refine ws_aload_n rfl (l0) rfl (ws_getr rfl rfl rfl (ws_aload_n rfl (l0) rfl (ws_geti rfl rfl (h2.1) rfl (ws_iload_n rfl (l1) rfl (ws_i rfl ⟨vf, ?_⟩)))))
      rw [ef]
      refine ws_aload_n rfl (l0) rfl (ws_dup_r rfl rfl (ws_geti rfl rfl (h2.1) rfl (ws_iconst (x := 1) rfl rfl rfl (ws_iadd rfl (nI_1 _) rfl (?_)))))
      refine ws_puti rfl rfl rfl ?_
      refine ws_iinc (y := nI k) rfl (l1) rfl ((nI_dec k)) rfl rfl (ws_goto (t := 9) rfl (by decide) (?_))
      obtain ⟨S2, hS2⟩ : ∃ S2, S2 = mv_pf (mv_pr S' 20 F.length (nI (k + 1))) 3 8 (nI (F.length + 1)) := ⟨_, rfl⟩
      rw [← hS2]
      have r2 : ∀ o i, S2.2.1 o i = if o = 20 ∧ i = F.length then nI (k + 1) else S'.2.1 o i := fun o i => by
        rw [hS2]
        show (mv_pr S' 20 F.length (nI (k + 1))).2.1 o i = _
        rw [pr_get]
      have f2 : ∀ o f, S2.1 o f = if o = 3 ∧ f = 8 then nI (F.length + 1) else S'.1 o f := fun o f => by rw [hS2, pf_get]; rfl
      refine mv_fuel (n := 50 * k + 20) (by omega) (xG_loop hV hP k _ S2 (F ++ [k + 1]) (by omega) (mv_at_sr (by decide) (l0)) (mv_at_me) ⟨fun o f a => by rw [f2, if_neg a]; exact h1.1 o f a, fun o i a => by rw [r2, if_neg (fun z => a z.1)]; exact h1.2.1 o i a, by rw [hS2]; exact h1.2.2⟩ ⟨by rw [f2, if_pos ⟨rfl, rfl⟩]; simp, fun p i hp => ?_⟩ ?_ (fun i => ?_))
      · by_cases c : p < F.length
        · rw [List.getElem?_append_left c] at hp
          rw [r2, if_neg (by omega)]
          exact h2.2 p i hp
        · have hlt := (List.getElem?_eq_some_iff.mp hp).1
          simp at hlt
          obtain rfl : p = F.length := by omega
          rw [stk_last] at hp
          rw [r2, if_pos ⟨rfl, rfl⟩, ← Option.some.inj hp]
      · refine List.nodup_append.mpr ⟨h3, by simp, fun a ha b hb => ?_⟩
        have h5 := (h4 a).mp ha
        simp at hb
        omega
      · rw [List.mem_append, h4]
        simp only [List.mem_singleton]
        constructor
        · rintro (z | rfl)
          · exact ⟨by omega, z.2⟩
          · exact ⟨by omega, by omega, hm⟩
        · rintro ⟨z1, z2, z3⟩
          by_cases e : i = k + 1
          · exact Or.inr e
          · exact Or.inl ⟨by omega, z2, z3⟩
set_option maxHeartbeats 1000000 in
set_option maxRecDepth 8000 in
theorem x_giveBack (hV : xMd S V) (hP : ∀ S' F, xGB S S' → xFL S' F → F.Nodup → (∀ i, i ∈ F ↔ 1 ≤ i ∧ i ≤ 800 ∧ ¬ i ∈ V) → P none S') : mv_big layX sysX (d + 1) 20 [.ref 3] S P := by
  refine ⟨50 * 800 + 20 + 20, ?_⟩

  refine ws_aload_n rfl rfl rfl (ws_iconst (x := 0) rfl rfl rfl (ws_puti rfl rfl rfl (ws_sipush (x := 800) rfl rfl rfl (ws_istore_n rfl rfl rfl rfl ?_))))
  refine mv_fuel (n := 50 * 800 + 20) (by omega) (xG_loop hV hP 800 _ (mv_pf S 3 8 0) [] (by omega) rfl rfl ⟨fun o f a => by rw [pf_get, if_neg a], fun _ _ _ => rfl, rfl⟩ ⟨by rw [pf_get, if_pos ⟨rfl, rfl⟩]; rfl, fun p i hp => (by cases hp)⟩ List.Pairwise.nil (fun i => ⟨fun z => (by cases z), fun z => by omega⟩))
theorem fl_len {F V : List Nat} (h1 : F.Nodup) (h2 : V.Nodup) (hV : ∀ i, i ∈ V → 1 ≤ i ∧ i ≤ 800) (h : ∀ i, i ∈ F ↔ 1 ≤ i ∧ i ≤ 800 ∧ ¬ i ∈ V) : F.length + V.length = 800 := by
  have e := nd_same (V := F ++ V) (W := List.range' 1 800) (List.nodup_append.mpr ⟨h1, h2, fun a ha b hb e => ((h a).mp ha).2.2 (by rw [e]; exact hb)⟩) List.nodup_range' (fun i => ?_)
  · rw [List.length_append, List.length_range'] at e; exact e
  · rw [List.mem_append, h, List.mem_range'_1]
    constructor
    · rintro (z | z)
      · omega
      · have := hV i z
        omega
    · intro z
      by_cases c : i ∈ V
      · exact Or.inr c
      · exact Or.inl ⟨by omega, by omega, c⟩
end XR

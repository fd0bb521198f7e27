/-! THE CLASS WALKS: its turns -/
theorem x_close1 {d : Nat} {P : Option Value → mv_S → Prop} {S : mv_S} {m : Nat} (c1 : S.1 7 4 = nI (m + 1)) (hP : P none (mv_pf S 7 4 (nI m))) : mv_big layX sysX (d + 1) 140 [.ref 7] S P := by
  refine ⟨40, ?_⟩
  refine ws_aload_n rfl (rfl) rfl (ws_dup_r rfl rfl (ws_geti rfl rfl (c1) rfl (ws_iconst (x := 1) rfl rfl rfl (ws_isub rfl (nI_pred _) rfl (ws_puti rfl rfl rfl (ws_i rfl ?_))))))
  exact hP
section XW
variable {d : Nat} {P : Option Value → mv_S → Prop} {Sp S0 S S' : mv_S} {sd x c v : Int32} {rm B B' n : Nat} {oc oc' : List Nat} {D D' : aDt} {O R : List (Nat × Nat)} {nx gr st p g g' r e : Nat} {tk par : Nat → Int32} {K K1 : List aI} {Ks : List (List aI)} {vs : Nat → Int32} {mp : Nat → tT} {told : List Int32} {most stp : Nat} {T : tT} {q : Option Int32}
theorem x_popW {Rr} (h : xWk Sp S sd rm B oc (.inl v :: K, Rr) O nx gr st) (hb : (aNum K).length ≤ 40) (hP : ∀ S', xWk Sp S' sd rm B oc (K, Rr) O nx gr st → P (some (.int v)) S') : mv_big layX sysX (d + 2) 107 [.ref 4] S P := by
  obtain ⟨σ, fb, hA⟩ := h.2.1
  exact x_popA hA hb (fun S1 g => hP S1 (xWk_o h g.1 ⟨σ, fb, g⟩))
theorem x_pushW {Rr} (h : xWk Sp S sd rm B oc (K, Rr) O nx gr st) (hb : (aNum K).length ≤ 40) (hP : ∀ S', xWk Sp S' sd rm B oc (.inl v :: K, Rr) O nx gr st → P none S') : mv_big layX sysX (d + 2) 106 [.ref 4, .int v] S P := by
  obtain ⟨σ, fb, hA⟩ := h.2.1
  exact x_pushA hA hb (fun S1 g => hP S1 (xWk_o h g.1 ⟨σ, fb, g⟩))
theorem xWk_end {K' : List aI} (h : xWk Sp S sd rm B oc (K', D.2) O nx gr st) (hK : aMap K' = aMap D.1) (hc : ¬ c = 1) : xWs Sp (mv_pf S 7 8 c) sd rm B D st c := xWs_8 h xO_refl h.2.1 hK hc
set_option maxHeartbeats 1000000 in
set_option maxRecDepth 8000 in
theorem x_comeBack0 {Rr} (h : xWk Sp S sd rm B oc (K, [], Rr) O nx gr st) (hP : ∀ S', xWs Sp S' sd rm B (K, [], Rr) st 0 → P none S') : mv_big layX sysX (d + 5) 146 [.ref 7, .int v] S P := by
  have e13 : S.1 4 13 = 0 := by
    obtain ⟨σ, fb, hA⟩ := h.2.1
    exact hA.2.2.2.2.1.1
  refine ⟨40, ?_⟩
  refine ws_aload_n rfl (rfl) rfl (ws_getr rfl rfl rfl (ws_iv rfl rfl rfl ?_))
  refine mv_deep (d := d + 1) (by omega) (x_calls ?_)
  refine ws_i rfl ⟨fun z => absurd e13 z, fun _ => ?_⟩
  refine ws_aload_n rfl (rfl) rfl (ws_iconst (x := 0) rfl rfl rfl (ws_puti rfl rfl rfl (ws_i rfl ?_)))
  exact hP _ (xWk_end (D := (K, [], Rr)) h rfl (by decide))
set_option maxHeartbeats 1000000 in
set_option maxRecDepth 8000 in
theorem x_comeBack1 {Rr} {Tt : List (Nat × Nat)} (h : xWk Sp S sd rm B (r :: oc) (K, K1 :: Ks, Rr) (Tt ++ (p, g) :: R) nx gr st) (hr : r = R.length + 1) (hp : p < 700) (hb : Sp.2.1 9 p = nI e) (hP : ∀ S', xWk Sp S' sd rm B oc (.inl v :: K1, Ks, Rr) ((p, g) :: R) e gr st → P none S') : mv_big layX sysX (d + 5) 146 [.ref 7, .int v] S P := by
  obtain ⟨σ, fb, hA⟩ := h.2.1
  have e13 : S.1 4 13 = nI (Ks.length + 1) := hA.2.2.2.2.1.1
  have n24 : Ks.length + 1 ≤ 24 := hA.2.2.2.2.1.2.1
  refine ⟨60, ?_⟩
  refine ws_aload_n rfl (rfl) rfl (ws_getr rfl rfl rfl (ws_iv rfl rfl rfl ?_))
  refine mv_deep (d := d + 1) (by omega) (x_calls ?_)
  rw [e13]
  refine ws_i rfl ⟨fun _ => ?_, fun z => absurd z (nI_ne0 (by omega) (by omega))⟩
  refine ws_aload_n rfl (rfl) rfl (ws_aload_n rfl (rfl) rfl (ws_getr rfl rfl rfl (ws_iload_n rfl (rfl) rfl (ws_iv rfl rfl rfl ?_))))
  refine mv_deep (d := d + 4) (by omega) (x_leaveA hA (fun S1 g1 => ?_))
  have h1 := xWk_o (D' := (.inl v :: K1, Ks, Rr)) h g1.1 ⟨σ, fb, g1⟩
  obtain ⟨f, hD, c1, c2, c3, c4, c5, c6, c7, c8⟩ := h1
  have o1 := xOs_app c3
  have l1 : R.length + 1 ≤ 425 := by rw [List.length_append, List.length_cons] at c2; omega
  have b1 := xWb_out (S' := mv_pf S1 7 4 (nI r)) f hD (fun o g a _ => by rw [pf_get, if_neg (fun z => a z.1)]) (fun _ _ _ => rfl) rfl
  have h2 : xWk Sp (mv_pf S1 7 4 (nI r)) sd rm B oc (.inl v :: K1, Ks, Rr) ((p, g) :: R) nx gr st := by
    refine ⟨b1.1, b1.2, ?_, l1, xOs_go (S := S1) (fun _ _ => ⟨rfl, rfl⟩) o1, ?_, ?_, ?_, ?_, ?_⟩
    · rw [pf_get, if_pos ⟨rfl, rfl⟩, hr]; rfl
    · rw [pf_get, if_neg (by omega)]; exact c4
    · rw [pf_get, if_neg (by omega)]; exact c5
    · rw [pf_get, if_neg (by omega)]; exact c6
    · rw [pf_get, if_neg (by omega)]; exact c7
    · rw [pf_get, if_neg (by omega)]; exact c8
  have e4 : (mv_pf S1 7 4 (nI r)).1 7 4 = nI (R.length + 1) := h2.2.2.1
  have e35 : (mv_pf S1 7 4 (nI r)).2.1 35 R.length = nI p := h2.2.2.2.2.1.1.1
  refine ws_puti rfl rfl rfl ?_
  obtain ⟨S2, eS⟩ : ∃ S2, S2 = mv_pf S1 7 4 (nI r) := ⟨_, rfl⟩
  rw [← eS] at h2 e4 e35 ⊢
  refine ws_aload_n rfl (rfl) rfl (ws_aload_n rfl (rfl) rfl (ws_getr rfl rfl rfl (ws_aload_n rfl (rfl) rfl (ws_getr rfl rfl rfl (ws_aload_n rfl (rfl) rfl (ws_geti rfl rfl (e4) rfl (ws_iconst (x := 1) rfl rfl rfl (ws_isub rfl (nI_pred _) rfl (ws_is rfl rfl rfl ?_)))))))))
  refine mv_deep (d := d + 1) (by omega) (x_at_35 ?_)
  rw [rAt_nI (by omega) (by decide), e35]
  refine ws_iv rfl rfl rfl ?_
  refine mv_deep (d := d + 2) (by omega) (x_behind ?_)
  rw [rAt_nI hp (by decide), h2.1.2 9 p (by decide), hb]
  refine ws_puti rfl rfl rfl (ws_i rfl ?_)
  exact hP _ (xWk_nx h2)
set_option maxHeartbeats 1000000 in
set_option maxRecDepth 8000 in
theorem x_bodyB (hT : xTg Sp n tk par) (h : xWk Sp S sd rm B oc D O nx gr st) (ht : ¬ tk nx = 0) (hO : O.length < 425) (hx : nx < 2 ^ 30) (hg : gr ≤ 5000) (hs : st ≤ 5000) (hS : gr ≤ st → ∀ S', xWs Sp S' sd rm B D st 1 → P none S') (hP : st < gr → ∀ S', xWk Sp S' sd rm B oc D ((nx, 0) :: O) (nx + 1 + (tkArg (tk nx)).toNatClampNeg) gr (st + 1) → P none S') : mv_big layX sysX (d + 6) 145 [.ref 7] S P := by
  refine ⟨40, ?_⟩
  refine ws_aload_n rfl (rfl) rfl (ws_getr rfl rfl rfl (ws_aload_n rfl (rfl) rfl (ws_geti rfl rfl (h.2.2.2.2.2.1) rfl (ws_iv rfl rfl rfl ?_))))
  refine mv_deep (d := d + 1) (by omega) (x_tokW hT h.1 rfl (by omega) ?_)
  refine ws_i rfl ⟨fun _ => ?_, fun z => absurd z ht⟩
  refine ws_aload_n rfl (rfl) rfl (ws_iv rfl rfl rfl ?_)
  refine mv_deep (d := d + 3) (by omega) (x_beginNextW hT h hO hx hg hs (fun z S1 h1 => ?_) (fun z S1 h1 => ?_))
  · refine ws_i rfl ?_
    exact hS z S1 h1
  · refine ws_i rfl ?_
    exact hP z S1 h1
set_option maxHeartbeats 1000000 in
set_option maxRecDepth 8000 in
theorem x_bodyE (hT : xTg Sp n tk par) (h : xWk Sp S sd rm B oc D O nx gr st) (hx : nx < 2 ^ 30) (ht : tk nx = 0) (hP : mv_big layX sysX (d + 5) 146 [.ref 7, .int 0] S P) (hr : ∀ r S, P r S → r = none) : mv_big layX sysX (d + 6) 145 [.ref 7] S P := by
  refine ⟨40, ?_⟩
  refine ws_aload_n rfl (rfl) rfl (ws_getr rfl rfl rfl (ws_aload_n rfl (rfl) rfl (ws_geti rfl rfl (h.2.2.2.2.2.1) rfl (ws_iv rfl rfl rfl ?_))))
  refine mv_deep (d := d + 1) (by omega) (x_tokW hT h.1 rfl (by omega) ?_)
  refine ws_i rfl ⟨fun z => absurd ht z, fun _ => ?_⟩
  refine ws_aload_n rfl (rfl) rfl (ws_iconst (x := 0) rfl rfl rfl (ws_iv rfl rfl rfl ?_))
  refine mv_big_mono _ _ (Nat.le_refl _) _ _ _ _ _ (fun r S1 z => ?_) hP
  obtain rfl := hr r S1 z
  refine ws_goto (t := 26) rfl (by decide) (ws_i rfl ?_)
  exact z
set_option maxHeartbeats 1000000 in
set_option maxRecDepth 8000 in
theorem x_choice0 (hT : xTg Sp n tk par) (h : xWk Sp S sd rm B oc D ((p, 0) :: R) nx gr st) (hO : R.length + 1 < 425) (hx : nx < 2 ^ 30) (hg : gr ≤ 5000) (hs : st ≤ 5000) (hS : gr ≤ st → ∀ S', xWs Sp S' sd rm B D st 1 → P none S') (hP : st < gr → ∀ S', xWk Sp S' sd rm B oc D ((nx, 0) :: (p, 1) :: R) (nx + 1 + (tkArg (tk nx)).toNatClampNeg) gr (st + 1) → P none S') : mv_big layX sysX (d + 6) 148 [.ref 7, .int (nI p), .int 0] S P := by
  refine ⟨40, ?_⟩
  refine ws_iload_n rfl (rfl) rfl (ws_i rfl ⟨fun z => absurd rfl z, fun _ => ?_⟩)
  refine ws_aload_n rfl (rfl) rfl (ws_iconst (x := 1) rfl rfl rfl (ws_iv rfl rfl rfl ?_))
  refine mv_deep (d := d + 4) (by omega) (x_beginPartW hT h hO hx hg hs (fun z S1 h1 => ?_) (fun z S1 h1 => ?_))
  · refine ws_goto (t := 96) rfl (by decide) (ws_i rfl ?_)
    exact hS z S1 h1
  · refine ws_goto (t := 96) rfl (by decide) (ws_i rfl ?_)
    exact hP z S1 h1
set_option maxHeartbeats 1000000 in
set_option maxRecDepth 8000 in
theorem x_choice1 {Rr} (hT : xTg Sp n tk par) (h : xWk Sp S sd rm B oc (.inl v :: K, Rr) ((p, 1) :: R) nx gr st) (hb : (aNum K).length ≤ 40) (hp : p < 700) (he : Sp.2.1 10 p = nI e) (he2 : e < 2 ^ 30) (hP : ∀ S', xWk Sp S' sd rm B oc (K, Rr) ((p, 2) :: R) (if v = 0 then (if tk e = 4 then e + 1 else e) else nx) gr st → P none S') : mv_big layX sysX (d + 6) 148 [.ref 7, .int (nI p), .int 1] S P := by
  refine ⟨60, ?_⟩
  refine ws_iload_n rfl (rfl) rfl (ws_i rfl ⟨fun _ => ?_, fun z => absurd z (show ¬ (1 : Int32) = 0 by decide)⟩)
  refine ws_iload_n rfl (rfl) rfl (ws_iconst (x := 1) rfl rfl rfl (ws_i rfl ⟨fun z => absurd rfl z, fun _ => ?_⟩))
  refine ws_aload_n rfl (rfl) rfl (ws_iconst (x := 2) rfl rfl rfl (ws_iv rfl rfl rfl ?_))
  refine mv_deep (d := d + 2) (by omega) (x_setStageW (g' := 2) h (fun S1 h1 => ?_))
  refine ws_aload_n rfl (rfl) rfl (ws_getr rfl rfl rfl (ws_iv rfl rfl rfl ?_))
  refine mv_deep (d := d + 2) (by omega) (x_popW h1 hb (fun S2 h2 => ?_))
  by_cases c : v = 0
  · refine ws_i rfl ⟨fun z => absurd c z, fun _ => ?_⟩
    refine ws_aload_n rfl (rfl) rfl (ws_getr rfl rfl rfl (ws_iload_n rfl (rfl) rfl (ws_iv rfl rfl rfl ?_)))
    refine mv_deep (d := d + 2) (by omega) (x_turn ?_)
    rw [rAt_nI hp (by decide), h2.1.2 10 p (by decide), he]
    refine ws_istore_n rfl rfl rfl rfl (ws_aload_n rfl (rfl) rfl (ws_aload_n rfl (rfl) rfl (ws_getr rfl rfl rfl (ws_iload_n rfl (rfl) rfl (ws_iv rfl rfl rfl ?_)))))
    refine mv_deep (d := d + 1) (by omega) (x_tokW hT h2.1 rfl (by omega) ?_)
    rw [if_pos c] at hP
    by_cases c4 : tk e = 4
    · refine ws_iconst (x := 4) rfl rfl rfl (ws_i rfl ⟨fun z => absurd c4 z, fun _ => ?_⟩)
      refine ws_iload_n rfl (rfl) rfl (ws_iconst (x := 1) rfl rfl rfl (ws_iadd rfl (nI_1 _) rfl (ws_goto (t := 61) rfl (by decide) (ws_puti rfl rfl rfl (ws_goto (t := 96) rfl (by decide) (ws_i rfl ?_))))))
      rw [if_pos c4] at hP
      exact hP _ (xWk_nx h2)
    · refine ws_iconst (x := 4) rfl rfl rfl (ws_i rfl ⟨fun _ => ?_, fun z => absurd z c4⟩)
      refine ws_iload_n rfl (rfl) rfl (ws_puti rfl rfl rfl (ws_goto (t := 96) rfl (by decide) (ws_i rfl ?_)))
      rw [if_neg c4] at hP
      exact hP _ (xWk_nx h2)
  · refine ws_i rfl ⟨fun _ => ?_, fun z => absurd z c⟩
    refine ws_i rfl ?_
    rw [if_neg c] at hP
    exact hP _ h2
set_option maxHeartbeats 1000000 in
set_option maxRecDepth 8000 in
theorem x_choice2S (hT : xTg Sp n tk par) (h : xWk Sp S sd rm B oc D ((p, 2) :: R) nx gr st) (ht : tkS (tk nx)) (hO : R.length + 1 < 425) (hx : nx < 2 ^ 30) (hg : gr ≤ 5000) (hs : st ≤ 5000) (hS : gr ≤ st → ∀ S', xWs Sp S' sd rm B D st 1 → P none S') (hP : st < gr → ∀ S', xWk Sp S' sd rm B oc D ((nx, 0) :: (p, 2) :: R) (nx + 1 + (tkArg (tk nx)).toNatClampNeg) gr (st + 1) → P none S') : mv_big layX sysX (d + 6) 148 [.ref 7, .int (nI p), .int 2] S P := by
  refine ⟨60, ?_⟩
  refine ws_iload_n rfl (rfl) rfl (ws_i rfl ⟨fun _ => ?_, fun z => absurd z (show ¬ (2 : Int32) = 0 by decide)⟩)
  refine ws_iload_n rfl (rfl) rfl (ws_iconst (x := 1) rfl rfl rfl (ws_i rfl ⟨fun _ => ?_, fun z => absurd z (show ¬ (2 : Int32) = 1 by decide)⟩))
  refine ws_aload_n rfl (rfl) rfl (ws_getr rfl rfl rfl (ws_aload_n rfl (rfl) rfl (ws_geti rfl rfl (h.2.2.2.2.2.1) rfl (ws_iv rfl rfl rfl ?_))))
  refine mv_deep (d := d + 1) (by omega) (x_tokW hT h.1 rfl (by omega) ?_)
  refine ws_is rfl rfl rfl ?_
  refine mv_deep (d := d + 1) (by omega) (x_isStatement (fun z => absurd ht z) (fun _ => ?_))
  refine ws_i rfl ⟨fun z => absurd z (show ¬ (1 : Int32) = 0 by decide), fun _ => ?_⟩
  refine ws_aload_n rfl (rfl) rfl (ws_iv rfl rfl rfl ?_)
  refine mv_deep (d := d + 3) (by omega) (x_beginNextW hT h hO hx hg hs (fun z S1 h1 => ?_) (fun z S1 h1 => ?_))
  · refine ws_goto (t := 96) rfl (by decide) (ws_i rfl ?_)
    exact hS z S1 h1
  · refine ws_goto (t := 96) rfl (by decide) (ws_i rfl ?_)
    exact hP z S1 h1
set_option maxHeartbeats 1000000 in
set_option maxRecDepth 8000 in
theorem x_choice2E (hT : xTg Sp n tk par) (h : xWk Sp S sd rm B oc D ((p, 2) :: R) nx gr st) (hx : nx < 2 ^ 30) (ht : ¬ tkS (tk nx)) (hp : p < 700) (hb : Sp.2.1 9 p = nI e) (hP : ∀ S', xWk Sp S' sd rm B oc D R e gr st → P none S') : mv_big layX sysX (d + 6) 148 [.ref 7, .int (nI p), .int 2] S P := by
  refine ⟨60, ?_⟩
  refine ws_iload_n rfl (rfl) rfl (ws_i rfl ⟨fun _ => ?_, fun z => absurd z (show ¬ (2 : Int32) = 0 by decide)⟩)
  refine ws_iload_n rfl (rfl) rfl (ws_iconst (x := 1) rfl rfl rfl (ws_i rfl ⟨fun _ => ?_, fun z => absurd z (show ¬ (2 : Int32) = 1 by decide)⟩))
  refine ws_aload_n rfl (rfl) rfl (ws_getr rfl rfl rfl (ws_aload_n rfl (rfl) rfl (ws_geti rfl rfl (h.2.2.2.2.2.1) rfl (ws_iv rfl rfl rfl ?_))))
  refine mv_deep (d := d + 1) (by omega) (x_tokW hT h.1 rfl (by omega) ?_)
  refine ws_is rfl rfl rfl ?_
  refine mv_deep (d := d + 1) (by omega) (x_isStatement (fun _ => ?_) (fun z => absurd z ht))
  refine ws_i rfl ⟨fun _ => ?_, fun z => absurd rfl z⟩
  refine ws_aload_n rfl (rfl) rfl (ws_iload_n rfl (rfl) rfl (ws_iv rfl rfl rfl ?_))
  refine mv_deep (d := d + 3) (by omega) (x_closeBehindW hb hp h (fun S1 h1 => ?_))
  refine ws_i rfl ?_
  exact hP S1 h1
set_option maxHeartbeats 1000000 in
set_option maxRecDepth 8000 in
theorem x_rep0 (hT : xTg Sp n tk par) (h : xWk Sp S sd rm B oc D ((p, 0) :: R) nx gr st) (hO : R.length + 1 < 425) (hx : nx < 2 ^ 30) (hg : gr ≤ 5000) (hs : st ≤ 5000) (hS : gr ≤ st → ∀ S', xWs Sp S' sd rm B D st 1 → P none S') (hP : st < gr → ∀ S', xWk Sp S' sd rm B oc D ((nx, 0) :: (p, 1) :: R) (nx + 1 + (tkArg (tk nx)).toNatClampNeg) gr (st + 1) → P none S') : mv_big layX sysX (d + 6) 149 [.ref 7, .int (nI p), .int 0] S P := by
  refine ⟨40, ?_⟩
  refine ws_iload_n rfl (rfl) rfl (ws_i rfl ⟨fun z => absurd rfl z, fun _ => ?_⟩)
  refine ws_aload_n rfl (rfl) rfl (ws_iconst (x := 1) rfl rfl rfl (ws_iv rfl rfl rfl ?_))
  refine mv_deep (d := d + 4) (by omega) (x_beginPartW hT h hO hx hg hs (fun z S1 h1 => ?_) (fun z S1 h1 => ?_))
  · refine ws_goto (t := 76) rfl (by decide) (ws_i rfl ?_)
    exact hS z S1 h1
  · refine ws_goto (t := 76) rfl (by decide) (ws_i rfl ?_)
    exact hP z S1 h1
set_option maxHeartbeats 1000000 in
set_option maxRecDepth 8000 in
theorem x_rep1 {Rr} (h : xWk Sp S sd rm B oc (.inl v :: K, Rr) ((p, 1) :: R) nx gr st) (hb : (aNum K).length ≤ 40) (hp : p < 700) (he : Sp.2.1 9 p = nI e) (hE : v = 0 → ∀ S', xWk Sp S' sd rm B oc (K, Rr) R e gr st → P none S') (hP : ¬ v = 0 → ∀ S', xWk Sp S' sd rm B oc (K, Rr) ((p, 2) :: R) nx gr st → P none S') : mv_big layX sysX (d + 6) 149 [.ref 7, .int (nI p), .int 1] S P := by
  refine ⟨60, ?_⟩
  refine ws_iload_n rfl (rfl) rfl (ws_i rfl ⟨fun _ => ?_, fun z => absurd z (show ¬ (1 : Int32) = 0 by decide)⟩)
  refine ws_iload_n rfl (rfl) rfl (ws_iconst (x := 1) rfl rfl rfl (ws_i rfl ⟨fun z => absurd rfl z, fun _ => ?_⟩))
  refine ws_aload_n rfl (rfl) rfl (ws_getr rfl rfl rfl (ws_iv rfl rfl rfl ?_))
  refine mv_deep (d := d + 2) (by omega) (x_popW h hb (fun S1 h1 => ?_))
  by_cases c : v = 0
  · refine ws_i rfl ⟨fun z => absurd c z, fun _ => ?_⟩
    refine ws_aload_n rfl (rfl) rfl (ws_iload_n rfl (rfl) rfl (ws_iv rfl rfl rfl ?_))
    refine mv_deep (d := d + 3) (by omega) (x_closeBehindW he hp h1 (fun S2 h2 => ?_))
    refine ws_goto (t := 76) rfl (by decide) (ws_i rfl ?_)
    exact hE c S2 h2
  · refine ws_i rfl ⟨fun _ => ?_, fun z => absurd z c⟩
    refine ws_aload_n rfl (rfl) rfl (ws_iconst (x := 2) rfl rfl rfl (ws_iv rfl rfl rfl ?_))
    refine mv_deep (d := d + 2) (by omega) (x_setStageW (g' := 2) h1 (fun S2 h2 => ?_))
    refine ws_goto (t := 76) rfl (by decide) (ws_i rfl ?_)
    exact hP c S2 h2
set_option maxHeartbeats 1000000 in
set_option maxRecDepth 8000 in
theorem x_rep2E (hT : xTg Sp n tk par) (h : xWk Sp S sd rm B oc D ((p, 2) :: R) nx gr st) (hx : nx < 2 ^ 30) (ht : tk nx = 0) (hP : ∀ S', xWk Sp S' sd rm B oc D ((p, 0) :: R) (p + 1) gr st → P none S') : mv_big layX sysX (d + 6) 149 [.ref 7, .int (nI p), .int 2] S P := by
  refine ⟨60, ?_⟩
  refine ws_iload_n rfl (rfl) rfl (ws_i rfl ⟨fun _ => ?_, fun z => absurd z (show ¬ (2 : Int32) = 0 by decide)⟩)
  refine ws_iload_n rfl (rfl) rfl (ws_iconst (x := 1) rfl rfl rfl (ws_i rfl ⟨fun _ => ?_, fun z => absurd z (show ¬ (2 : Int32) = 1 by decide)⟩))
  refine ws_aload_n rfl (rfl) rfl (ws_getr rfl rfl rfl (ws_aload_n rfl (rfl) rfl (ws_geti rfl rfl (h.2.2.2.2.2.1) rfl (ws_iv rfl rfl rfl ?_))))
  refine mv_deep (d := d + 1) (by omega) (x_tokW hT h.1 rfl (by omega) ?_)
  refine ws_i rfl ⟨fun z => absurd ht z, fun _ => ?_⟩
  refine ws_aload_n rfl (rfl) rfl (ws_iload_n rfl (rfl) rfl (ws_iconst (x := 1) rfl rfl rfl (ws_iadd rfl (nI_1 _) rfl (ws_puti rfl rfl rfl (ws_aload_n rfl (rfl) rfl (ws_iconst (x := 0) rfl rfl rfl (ws_iv rfl rfl rfl ?_)))))))
  refine mv_deep (d := d + 2) (by omega) (x_setStageW (g' := 0) (xWk_nx h) (fun S2 h2 => ?_))
  refine ws_goto (t := 76) rfl (by decide) (ws_i rfl ?_)
  exact hP S2 h2
set_option maxHeartbeats 1000000 in
set_option maxRecDepth 8000 in
theorem x_rep2S (hT : xTg Sp n tk par) (h : xWk Sp S sd rm B oc D ((p, 2) :: R) nx gr st) (ht : ¬ tk nx = 0) (hO : R.length + 1 < 425) (hx : nx < 2 ^ 30) (hg : gr ≤ 5000) (hs : st ≤ 5000) (hS : gr ≤ st → ∀ S', xWs Sp S' sd rm B D st 1 → P none S') (hP : st < gr → ∀ S', xWk Sp S' sd rm B oc D ((nx, 0) :: (p, 2) :: R) (nx + 1 + (tkArg (tk nx)).toNatClampNeg) gr (st + 1) → P none S') : mv_big layX sysX (d + 6) 149 [.ref 7, .int (nI p), .int 2] S P := by
  refine ⟨60, ?_⟩
  refine ws_iload_n rfl (rfl) rfl (ws_i rfl ⟨fun _ => ?_, fun z => absurd z (show ¬ (2 : Int32) = 0 by decide)⟩)
  refine ws_iload_n rfl (rfl) rfl (ws_iconst (x := 1) rfl rfl rfl (ws_i rfl ⟨fun _ => ?_, fun z => absurd z (show ¬ (2 : Int32) = 1 by decide)⟩))
  refine ws_aload_n rfl (rfl) rfl (ws_getr rfl rfl rfl (ws_aload_n rfl (rfl) rfl (ws_geti rfl rfl (h.2.2.2.2.2.1) rfl (ws_iv rfl rfl rfl ?_))))
  refine mv_deep (d := d + 1) (by omega) (x_tokW hT h.1 rfl (by omega) ?_)
  refine ws_i rfl ⟨fun _ => ?_, fun z => absurd z ht⟩
  refine ws_aload_n rfl (rfl) rfl (ws_iv rfl rfl rfl ?_)
  refine mv_deep (d := d + 3) (by omega) (x_beginNextW hT h hO hx hg hs (fun z S1 h1 => ?_) (fun z S1 h1 => ?_))
  · refine ws_i rfl ?_
    exact hS z S1 h1
  · refine ws_i rfl ?_
    exact hP z S1 h1
set_option maxHeartbeats 1000000 in
set_option maxRecDepth 8000 in
theorem x_each0 (hT : xTg Sp n tk par) (h : xWk Sp S sd rm B oc (K, Ks, vs, mp, told, most, stp) ((p, 0) :: R) nx gr st) (hp : p < 700) (h6 : 0 ≤ tk (p + 1)) (h7 : tk (p + 1) < 6) (hm : (aMap K).length ≤ 16) (hP : ∀ S', xWk Sp S' sd rm B oc (.inr (mp (aMP Ks.length (tk (p + 1)).toNatClampNeg), none) :: K, Ks, vs, mp, told, most, stp) ((p, 1) :: R) nx gr st → P none S') : mv_big layX sysX (d + 6) 150 [.ref 7, .int (nI p), .int 0] S P := by
  obtain ⟨v1, v2⟩ := aN_of (n := 6) rfl (by decide) h6 h7
  obtain ⟨σ, fb, hA⟩ := h.2.1
  have hA : xA S S σ sd rm fb B oc K Ks vs mp told most := hA
  refine ⟨60, ?_⟩
  refine ws_iload_n rfl (rfl) rfl (ws_i rfl ⟨fun z => absurd rfl z, fun _ => ?_⟩)
  refine ws_aload_n rfl (rfl) rfl (ws_getr rfl rfl rfl (ws_aload_n rfl (rfl) rfl (ws_getr rfl rfl rfl (ws_aload_n rfl (rfl) rfl (ws_getr rfl rfl rfl (ws_iload_n rfl (rfl) rfl (ws_iconst (x := 1) rfl rfl rfl (ws_iadd rfl rfl rfl (ws_iv rfl rfl rfl ?_)))))))))
  refine mv_deep (d := d + 1) (by omega) (x_tokW hT h.1 (nI_1 p) (by omega) ?_)
  rw [v1]
  refine ws_iv rfl rfl rfl ?_
  refine mv_deep (d := d + 2) (by omega) (x_treeA hA v2 (fun cc hc hr => ?_))
  refine ws_iv rfl rfl rfl ?_
  refine mv_deep (d := d + 2) (by omega) (x_pushMapA hA hm hc (Or.inr hr) (fun S1 g1 => ?_))
  have h1 := xWk_o (D' := (.inr (mp (aMP Ks.length (tk (p + 1)).toNatClampNeg), none) :: K, Ks, vs, mp, told, most, stp)) h g1.1 ⟨σ, fb, g1⟩
  refine ws_aload_n rfl (rfl) rfl (ws_iconst (x := 1) rfl rfl rfl (ws_iv rfl rfl rfl ?_))
  refine mv_deep (d := d + 2) (by omega) (x_setStageW (g' := 1) h1 (fun S2 h2 => ?_))
  refine ws_goto (t := 75) rfl (by decide) (ws_i rfl ?_)
  exact hP S2 h2
set_option maxHeartbeats 1000000 in
set_option maxRecDepth 8000 in
theorem x_comeToKeyW (hT : xTg Sp n tk par) (h : xWk Sp S sd rm B oc (.inr (T, q) :: K, Ks, vs, mp, told, most, stp) ((p, 1) :: R) nx gr st) (ho : tOrd T) (hm : (aMap K).length ≤ 16) (hp : p < 600 + 100) (h1 : 0 ≤ tk (p + 2)) (h2 : tk (p + 2) < 14) (h3 : 0 ≤ tk (p + 3)) (h4 : tk (p + 3) < 14) (hb : Sp.2.1 9 p = nI e) (hg : gr ≤ 5000) (hs : st ≤ 5000) (hE : tNx q T = .leaf → ∀ S', xWk Sp S' sd rm B oc (K, Ks, vs, mp, told, most, stp) R e gr st → P none S') (hS : ¬ tNx q T = .leaf → gr ≤ st → ∀ S', xWs Sp S' sd rm B (.inr (T, q) :: K, Ks, vs, mp, told, most, stp) st 1 → P none S') (hP : ¬ tNx q T = .leaf → st < gr → ∀ S', xWk Sp S' sd rm B oc (aCo (tk (p + 2)).toNatClampNeg (tk (p + 3)).toNatClampNeg (.inr (T, q) :: K, Ks, vs, mp, told, most, stp)) ((p, 2) :: R) (p + 4) gr (st + 1) → P none S') : mv_big layX sysX (d + 5) 151 [.ref 7, .int (nI p)] S P := by
  obtain ⟨v1, v2⟩ := aN_of (n := 14) rfl (by decide) h1 h2
  obtain ⟨v3, v4⟩ := aN_of (n := 14) rfl (by decide) h3 h4
  obtain ⟨σ, fb, hA⟩ := h.2.1
  have hA : xA S S σ sd rm fb B oc (.inr (T, q) :: K) Ks vs mp told most := hA
  refine ⟨80, ?_⟩
  refine ws_aload_n rfl (rfl) rfl (ws_getr rfl rfl rfl (ws_iv rfl rfl rfl ?_))
  refine mv_deep (d := d + 4) (by omega) (x_comingA hA ho hm (fun cc hc => ?_))
  have z0 := hTr_leaf (by decide) hc
  by_cases e0 : tNx q T = .leaf
  · refine ws_istore_n rfl rfl rfl rfl (ws_iload_n rfl (rfl) rfl (ws_i rfl ⟨fun z => absurd (z0.mpr e0) z, fun _ => ?_⟩))
    refine ws_aload_n rfl (rfl) rfl (ws_getr rfl rfl rfl (ws_iv rfl rfl rfl ?_))
    refine mv_deep (d := d + 2) (by omega) (x_popMapA hA (by omega) (fun S1 c1 g1 _ => ?_))
    have k1 := xWk_o (D' := (K, Ks, vs, mp, told, most, stp)) h g1.1 ⟨σ, fb, g1⟩
    refine ws_pop rfl rfl (ws_aload_n rfl (rfl) rfl (ws_iload_n rfl (rfl) rfl (ws_iv rfl rfl rfl ?_)))
    refine mv_deep (d := d + 3) (by omega) (x_closeBehindW hb (by omega) k1 (fun S2 k2 => ?_))
    refine ws_goto (t := 81) rfl (by decide) (ws_i rfl ?_)
    exact hE e0 S2 k2
  · refine ws_istore_n rfl rfl rfl rfl (ws_iload_n rfl (rfl) rfl (ws_i rfl ⟨fun _ => ?_, fun z => absurd z (fun y => e0 (z0.mp y))⟩))
    refine ws_aload_n rfl (rfl) rfl (ws_iv rfl rfl rfl ?_)
    refine mv_deep (d := d + 2) (by omega) (x_mayStepW h hg hs (fun z S1 k1 => ?_) (fun z S1 ef es k1 => ?_))
    · refine ws_i rfl ⟨fun _ => ?_, fun z => absurd rfl z⟩
      refine ws_i rfl ?_
      exact hS e0 z S1 k1
    · refine ws_i rfl ⟨fun z => absurd z (show ¬ (1 : Int32) = 0 by decide), fun _ => ?_⟩
      refine ws_aload_n rfl (rfl) rfl (ws_getr rfl rfl rfl (ws_iload_n rfl (rfl) rfl (ws_aload_n rfl (rfl) rfl (ws_getr rfl rfl rfl (ws_iload_n rfl (rfl) rfl (ws_iconst (x := 2) rfl rfl rfl (ws_iadd rfl rfl rfl (ws_iv rfl rfl rfl ?_))))))))
      refine mv_deep (d := d + 1) (by omega) (x_tokW hT k1.1 (nI_add p 2) (by omega) ?_)
      rw [v1]
      refine ws_aload_n rfl (rfl) rfl (ws_getr rfl rfl rfl (ws_iload_n rfl (rfl) rfl (ws_iconst (x := 3) rfl rfl rfl (ws_iadd rfl rfl rfl (ws_iv rfl rfl rfl ?_)))))
      refine mv_deep (d := d + 1) (by omega) (x_tokW hT k1.1 (nI_add p 3) (by omega) ?_)
      rw [v3]
      have hA1 : xA S1 S1 σ sd rm fb B oc (.inr (T, q) :: K) Ks vs mp told most := xA_out hA (fun f => ef 3 f (by omega)) (fun f hf => ef 4 f (by omega)) (fun o i _ _ => by rw [es]) (by rw [es])
      have hc1 : xTr S1 σ (tNx q T) cc := by
        show hTr (S1.2.1 15) (S1.2.1 16) (S1.2.1 18) (S1.2.1 19) σ 800 (tNx q T) cc
        rw [es]; exact hc
      refine ws_iv rfl rfl rfl ?_
      refine mv_deep (d := d + 4) (by omega) (x_comeToA hA1 hm v2 v4 hc1 (fun S2 g2 => ?_))
      have k2 := xWk_o (D' := aCo (tk (p + 2)).toNatClampNeg (tk (p + 3)).toNatClampNeg (.inr (T, q) :: K, Ks, vs, mp, told, most, stp)) k1 g2.1 ⟨σ, fb, g2⟩
      refine ws_aload_n rfl (rfl) rfl (ws_iload_n rfl (rfl) rfl (ws_iconst (x := 1) rfl rfl rfl (ws_iadd rfl (nI_1 _) rfl (ws_bipush (x := 6) rfl rfl rfl (ws_is rfl rfl rfl ?_)))))
      refine mv_deep (d := d + 1) (by omega) (x_arguments ?_)
      refine ws_iadd rfl (nI_add (p + 1) 3) rfl (ws_puti rfl rfl rfl (ws_aload_n rfl (rfl) rfl (ws_iconst (x := 2) rfl rfl rfl (ws_iv rfl rfl rfl ?_))))
      refine mv_deep (d := d + 2) (by omega) (x_setStageW (g' := 2) (xWk_nx k2) (fun S3 k3 => ?_))
      refine ws_i rfl ?_
      exact hP e0 z S3 k3
set_option maxHeartbeats 1000000 in
set_option maxRecDepth 8000 in
theorem x_each1 (hP : mv_big layX sysX (d + 5) 151 [.ref 7, .int (nI p)] S P) (hr : ∀ r S, P r S → r = none) : mv_big layX sysX (d + 6) 150 [.ref 7, .int (nI p), .int 1] S P := by
  refine ⟨60, ?_⟩
  refine ws_iload_n rfl (rfl) rfl (ws_i rfl ⟨fun _ => ?_, fun z => absurd z (show ¬ (1 : Int32) = 0 by decide)⟩)
  refine ws_iload_n rfl (rfl) rfl (ws_iconst (x := 1) rfl rfl rfl (ws_i rfl ⟨fun z => absurd rfl z, fun _ => ?_⟩))
  refine ws_aload_n rfl (rfl) rfl (ws_iload_n rfl (rfl) rfl (ws_iv rfl rfl rfl ?_))
  refine mv_big_mono _ _ (Nat.le_refl _) _ _ _ _ _ (fun r S1 z => ?_) hP
  obtain rfl := hr r S1 z
  refine ws_goto (t := 75) rfl (by decide) (ws_i rfl ?_)
  exact z
set_option maxHeartbeats 1000000 in
set_option maxRecDepth 8000 in
theorem x_each2E (hT : xTg Sp n tk par) (h : xWk Sp S sd rm B oc D ((p, 2) :: R) nx gr st) (hx : nx < 2 ^ 30) (ht : tk nx = 0) (hP : ∀ S', xWk Sp S' sd rm B oc D ((p, 1) :: R) nx gr st → P none S') : mv_big layX sysX (d + 6) 150 [.ref 7, .int (nI p), .int 2] S P := by
  refine ⟨60, ?_⟩
  refine ws_iload_n rfl (rfl) rfl (ws_i rfl ⟨fun _ => ?_, fun z => absurd z (show ¬ (2 : Int32) = 0 by decide)⟩)
  refine ws_iload_n rfl (rfl) rfl (ws_iconst (x := 1) rfl rfl rfl (ws_i rfl ⟨fun _ => ?_, fun z => absurd z (show ¬ (2 : Int32) = 1 by decide)⟩))
  refine ws_aload_n rfl (rfl) rfl (ws_getr rfl rfl rfl (ws_aload_n rfl (rfl) rfl (ws_geti rfl rfl (h.2.2.2.2.2.1) rfl (ws_iv rfl rfl rfl ?_))))
  refine mv_deep (d := d + 1) (by omega) (x_tokW hT h.1 rfl (by omega) ?_)
  refine ws_i rfl ⟨fun z => absurd ht z, fun _ => ?_⟩
  refine ws_aload_n rfl (rfl) rfl (ws_iconst (x := 1) rfl rfl rfl (ws_iv rfl rfl rfl ?_))
  refine mv_deep (d := d + 2) (by omega) (x_setStageW (g' := 1) h (fun S2 h2 => ?_))
  refine ws_goto (t := 75) rfl (by decide) (ws_i rfl ?_)
  exact hP S2 h2
set_option maxHeartbeats 1000000 in
set_option maxRecDepth 8000 in
theorem x_each2S (hT : xTg Sp n tk par) (h : xWk Sp S sd rm B oc D ((p, 2) :: R) nx gr st) (ht : ¬ tk nx = 0) (hO : R.length + 1 < 425) (hx : nx < 2 ^ 30) (hg : gr ≤ 5000) (hs : st ≤ 5000) (hS : gr ≤ st → ∀ S', xWs Sp S' sd rm B D st 1 → P none S') (hP : st < gr → ∀ S', xWk Sp S' sd rm B oc D ((nx, 0) :: (p, 2) :: R) (nx + 1 + (tkArg (tk nx)).toNatClampNeg) gr (st + 1) → P none S') : mv_big layX sysX (d + 6) 150 [.ref 7, .int (nI p), .int 2] S P := by
  refine ⟨60, ?_⟩
  refine ws_iload_n rfl (rfl) rfl (ws_i rfl ⟨fun _ => ?_, fun z => absurd z (show ¬ (2 : Int32) = 0 by decide)⟩)
  refine ws_iload_n rfl (rfl) rfl (ws_iconst (x := 1) rfl rfl rfl (ws_i rfl ⟨fun _ => ?_, fun z => absurd z (show ¬ (2 : Int32) = 1 by decide)⟩))
  refine ws_aload_n rfl (rfl) rfl (ws_getr rfl rfl rfl (ws_aload_n rfl (rfl) rfl (ws_geti rfl rfl (h.2.2.2.2.2.1) rfl (ws_iv rfl rfl rfl ?_))))
  refine mv_deep (d := d + 1) (by omega) (x_tokW hT h.1 rfl (by omega) ?_)
  refine ws_i rfl ⟨fun _ => ?_, fun z => absurd z ht⟩
  refine ws_aload_n rfl (rfl) rfl (ws_iv rfl rfl rfl ?_)
  refine mv_deep (d := d + 3) (by omega) (x_beginNextW hT h hO hx hg hs (fun z S1 h1 => ?_) (fun z S1 h1 => ?_))
  · refine ws_i rfl ?_
    exact hS z S1 h1
  · refine ws_i rfl ?_
    exact hP z S1 h1
set_option maxHeartbeats 1000000 in
set_option maxRecDepth 8000 in
theorem x_ans0 (hT : xTg Sp n tk par) (h : xWk Sp S sd rm B oc D ((p, 0) :: R) nx gr st) (hO : R.length + 1 < 425) (hx : nx < 2 ^ 30) (hg : gr ≤ 5000) (hs : st ≤ 5000) (hS : gr ≤ st → ∀ S', xWs Sp S' sd rm B D st 1 → P none S') (hP : st < gr → ∀ S', xWk Sp S' sd rm B oc D ((nx, 0) :: (p, 1) :: R) (nx + 1 + (tkArg (tk nx)).toNatClampNeg) gr (st + 1) → P none S') : mv_big layX sysX (d + 6) 152 [.ref 7, .int 0] S P := by
  refine ⟨40, ?_⟩
  refine ws_iload_n rfl (rfl) rfl (ws_i rfl ⟨fun z => absurd rfl z, fun _ => ?_⟩)
  refine ws_aload_n rfl (rfl) rfl (ws_iconst (x := 1) rfl rfl rfl (ws_iv rfl rfl rfl ?_))
  refine mv_deep (d := d + 4) (by omega) (x_beginPartW hT h hO hx hg hs (fun z S1 h1 => ?_) (fun z S1 h1 => ?_))
  · refine ws_goto (t := 23) rfl (by decide) (ws_i rfl ?_)
    exact hS z S1 h1
  · refine ws_goto (t := 23) rfl (by decide) (ws_i rfl ?_)
    exact hP z S1 h1
set_option maxHeartbeats 1000000 in
set_option maxRecDepth 8000 in
theorem x_ans1 {Rr} (h : xWk Sp S sd rm B oc (.inl v :: K, Rr) O nx gr st) (hb : (aNum K).length ≤ 40) (hP : ∀ S', xWk Sp S' sd rm B oc (K, Rr) O nx gr st → mv_big layX sysX (d + 5) 146 [.ref 7, .int v] S' P) (hr : ∀ r S, P r S → r = none) : mv_big layX sysX (d + 6) 152 [.ref 7, .int 1] S P := by
  refine ⟨40, ?_⟩
  refine ws_iload_n rfl (rfl) rfl (ws_i rfl ⟨fun _ => ?_, fun z => absurd z (show ¬ (1 : Int32) = 0 by decide)⟩)
  refine ws_aload_n rfl (rfl) rfl (ws_aload_n rfl (rfl) rfl (ws_getr rfl rfl rfl (ws_iv rfl rfl rfl ?_)))
  refine mv_deep (d := d + 2) (by omega) (x_popW h hb (fun S1 h1 => ?_))
  refine ws_iv rfl rfl rfl ?_
  refine mv_big_mono _ _ (Nat.le_refl _) _ _ _ _ _ (fun r S1 z => ?_) (hP S1 h1)
  obtain rfl := hr r S1 z
  refine ws_i rfl ?_
  exact z
set_option maxHeartbeats 1000000 in
set_option maxRecDepth 8000 in
theorem x_call0 (hT : xTg Sp n tk par) (h : xWk Sp S sd rm B oc D ((p, g) :: R) nx gr st) (hN : cNums tk par p = nI r) (hr : r ≤ 3) (hp : p < 700) (hgr : g < r) (hO : R.length + 1 < 425) (hx : nx < 2 ^ 30) (hg : gr ≤ 5000) (hs : st ≤ 5000) (hS : gr ≤ st → ∀ S', xWs Sp S' sd rm B D st 1 → P none S') (hP : st < gr → ∀ S', xWk Sp S' sd rm B oc D ((nx, 0) :: (p, g + 1) :: R) (nx + 1 + (tkArg (tk nx)).toNatClampNeg) gr (st + 1) → P none S') : mv_big layX sysX (d + 6) 153 [.ref 7, .int (nI p), .int (nI g)] S P := by
  refine ⟨60, ?_⟩
  refine ws_aload_n rfl (rfl) rfl (ws_getr rfl rfl rfl (ws_iload_n rfl (rfl) rfl (ws_iv rfl rfl rfl ?_)))
  refine mv_deep (d := d + 3) (by omega) (x_numW hT h.1 rfl (by omega) ?_)
  rw [hN]
  refine ws_istore_n rfl rfl rfl rfl (ws_iload_n rfl (rfl) rfl (ws_iload_n rfl (rfl) rfl (ws_i rfl ⟨fun z => absurd z (nI_ge hgr (by omega)), fun _ => ?_⟩)))
  refine ws_aload_n rfl (rfl) rfl (ws_iload_n rfl (rfl) rfl (ws_iconst (x := 1) rfl rfl rfl (ws_iadd rfl (nI_1 _) rfl (ws_iv rfl rfl rfl ?_))))
  refine mv_deep (d := d + 4) (by omega) (x_beginPartW hT h hO hx hg hs (fun z S1 h1 => ?_) (fun z S1 h1 => ?_))
  · refine ws_goto (t := 79) rfl (by decide) (ws_i rfl ?_)
    exact hS z S1 h1
  · refine ws_goto (t := 79) rfl (by decide) (ws_i rfl ?_)
    exact hP z S1 h1
set_option maxHeartbeats 1000000 in
set_option maxRecDepth 8000 in
theorem x_enterW {f : Nat} {ps : List Int32} {Rk : List aI} (h : xWk Sp S sd rm B oc (ps.reverse.map Sum.inl ++ Rk, Ks, vs, mp, told, most, stp) O nx gr st) (hf : f < 8) (hft : Sp.2.1 14 f = nI e) (he : e < 2 ^ 30) (h3 : ps.length ≤ 3) (hO : Ks.length ≤ 23 → O.length < 425) (hn : (aNum Rk).length ≤ 33) (hm : (aMap Rk).length ≤ 17) (hF : Ks.length = 24 → ∀ S', xWs Sp S' sd rm B (ps.reverse.map Sum.inl ++ Rk, Ks, vs, mp, told, most, stp) st 3 → P none S') (hP : Ks.length ≤ 23 → ∀ S', xWk Sp S' sd rm B (O.length :: oc) ([], Rk :: Ks, aEn Ks.length vs (aOw ps), aEm Ks.length mp, told, most, stp) ((e, 0) :: O) (e + 3) gr st → P none S') : mv_big layX sysX (d + 5) 154 [.ref 7, .int (nI f), .int (nI ps.length)] S P := by
  obtain ⟨σ, fb, hA⟩ := h.2.1
  have hA : xA S S σ sd rm fb B oc (ps.reverse.map Sum.inl ++ Rk) Ks vs mp told most := hA
  have n24 : Ks.length ≤ 24 := hA.2.2.2.2.1.2.1
  refine ⟨60, ?_⟩
  refine ws_aload_n rfl (rfl) rfl (ws_getr rfl rfl rfl (ws_iload_n rfl (rfl) rfl (ws_aload_n rfl (rfl) rfl (ws_geti rfl rfl (h.2.2.1) rfl (ws_iv rfl rfl rfl ?_)))))
  by_cases c : Ks.length = 24
  · refine mv_deep (d := d + 4) (by omega) (x_enterN hA c ?_)
    refine ws_i rfl ⟨fun z => absurd rfl z, fun _ => ?_⟩
    refine ws_aload_n rfl (rfl) rfl (ws_iconst (x := 3) rfl rfl rfl (ws_puti rfl rfl rfl (ws_i rfl ?_)))
    exact hF c _ (xWk_end (D := (ps.reverse.map Sum.inl ++ Rk, Ks, vs, mp, told, most, stp)) h rfl (by decide))
  · refine mv_deep (d := d + 4) (by omega) (x_enterA hA h3 (by omega) hn hm (fun S1 g1 => ?_))
    have k1 := xWk_o (D' := ([], Rk :: Ks, aEn Ks.length vs (aOw ps), aEm Ks.length mp, told, most, stp)) h g1.1 ⟨σ, fb, g1⟩
    refine ws_i rfl ⟨fun _ => ?_, fun z => absurd z (show ¬ (1 : Int32) = 0 by decide)⟩
    refine ws_aload_n rfl (rfl) rfl (ws_getr rfl rfl rfl (ws_iload_n rfl (rfl) rfl (ws_iv rfl rfl rfl ?_)))
    refine mv_deep (d := d + 2) (by omega) (x_firstToken ?_)
    rw [rAt_nI hf (by decide), k1.1.2 14 f (by decide), hft]
    refine ws_istore_n rfl rfl rfl rfl (ws_aload_n rfl (rfl) rfl (ws_iload_n rfl (rfl) rfl (ws_iv rfl rfl rfl ?_)))
    refine mv_deep (d := d + 2) (by omega) (x_openAtW k1 (hO (by omega)) (fun S2 k2 => ?_))
    refine ws_aload_n rfl (rfl) rfl (ws_iload_n rfl (rfl) rfl (ws_iconst (x := 3) rfl rfl rfl (ws_iadd rfl (nI_add _ 3) rfl (ws_puti rfl rfl rfl (ws_i rfl ?_)))))
    exact hP (by omega) _ (xWk_nx k2)
set_option maxHeartbeats 1000000 in
set_option maxRecDepth 8000 in
theorem x_call1 {f : Nat} (hT : xTg Sp n tk par) (h : xWk Sp S sd rm B oc D ((p, r) :: R) nx gr st) (hN : cNums tk par p = nI r) (hr : r ≤ 3) (hp : p < 700) (hf : tk (p + 1) = nI f) (hP : ∀ S', xWk Sp S' sd rm B oc D ((p, r + 1) :: R) nx gr st → mv_big layX sysX (d + 5) 154 [.ref 7, .int (nI f), .int (nI r)] S' P) (hr2 : ∀ r S, P r S → r = none) : mv_big layX sysX (d + 6) 153 [.ref 7, .int (nI p), .int (nI r)] S P := by
  refine ⟨60, ?_⟩
  refine ws_aload_n rfl (rfl) rfl (ws_getr rfl rfl rfl (ws_iload_n rfl (rfl) rfl (ws_iv rfl rfl rfl ?_)))
  refine mv_deep (d := d + 3) (by omega) (x_numW hT h.1 rfl (by omega) ?_)
  rw [hN]
  refine ws_istore_n rfl rfl rfl rfl (ws_iload_n rfl (rfl) rfl (ws_iload_n rfl (rfl) rfl (ws_i rfl ⟨fun _ => ?_, fun z => absurd (nI_le (Nat.le_refl r) (by omega)) z⟩)))
  refine ws_iload_n rfl (rfl) rfl (ws_iload_n rfl (rfl) rfl (ws_i rfl ⟨fun z => absurd rfl z, fun _ => ?_⟩))
  refine ws_aload_n rfl (rfl) rfl (ws_iload_n rfl (rfl) rfl (ws_iconst (x := 1) rfl rfl rfl (ws_iadd rfl (nI_1 _) rfl (ws_iv rfl rfl rfl ?_))))
  refine mv_deep (d := d + 2) (by omega) (x_setStageW (g' := r + 1) h (fun S1 h1 => ?_))
  refine ws_aload_n rfl (rfl) rfl (ws_aload_n rfl (rfl) rfl (ws_getr rfl rfl rfl (ws_iload_n rfl (rfl) rfl (ws_iconst (x := 1) rfl rfl rfl (ws_iadd rfl rfl rfl (ws_iv rfl rfl rfl ?_))))))
  refine mv_deep (d := d + 1) (by omega) (x_tokW hT h1.1 (nI_1 p) (by omega) ?_)
  rw [hf]
  refine ws_iload_n rfl (rfl) rfl (ws_iv rfl rfl rfl ?_)
  refine mv_big_mono _ _ (Nat.le_refl _) _ _ _ _ _ (fun r S1 z => ?_) (hP S1 h1)
  obtain rfl := hr2 r S1 z
  refine ws_goto (t := 79) rfl (by decide) (ws_i rfl ?_)
  exact z
set_option maxHeartbeats 1000000 in
set_option maxRecDepth 8000 in
theorem x_call2S {Rr} (hT : xTg Sp n tk par) (h : xWk Sp S sd rm B oc (.inl v :: K, Rr) ((p, r + 1) :: R) nx gr st) (hN : cNums tk par p = nI r) (hr : r ≤ 3) (hp : p < 700) (ht : tk p = 8) (hb : (aNum K).length ≤ 40) (hP : ∀ S', xWk Sp S' sd rm B oc (K, Rr) R nx gr st → P none S') : mv_big layX sysX (d + 6) 153 [.ref 7, .int (nI p), .int (nI (r + 1))] S P := by
  refine ⟨60, ?_⟩
  refine ws_aload_n rfl (rfl) rfl (ws_getr rfl rfl rfl (ws_iload_n rfl (rfl) rfl (ws_iv rfl rfl rfl ?_)))
  refine mv_deep (d := d + 3) (by omega) (x_numW hT h.1 rfl (by omega) ?_)
  rw [hN]
  refine ws_istore_n rfl rfl rfl rfl (ws_iload_n rfl (rfl) rfl (ws_iload_n rfl (rfl) rfl (ws_i rfl ⟨fun _ => ?_, fun z => absurd (nI_le (show r ≤ r + 1 by omega) (by omega)) z⟩)))
  refine ws_iload_n rfl (rfl) rfl (ws_iload_n rfl (rfl) rfl (ws_i rfl ⟨fun _ => ?_, fun z => absurd ((nI_eq (by omega) (by omega)).mp z) (by omega)⟩))
  refine ws_aload_n rfl (rfl) rfl (ws_getr rfl rfl rfl (ws_iload_n rfl (rfl) rfl (ws_iv rfl rfl rfl ?_)))
  refine mv_deep (d := d + 1) (by omega) (x_tokW hT h.1 rfl (by omega) ?_)
  refine ws_bipush (x := 8) rfl rfl rfl (ws_i rfl ⟨fun z => absurd ht z, fun _ => ?_⟩)
  refine ws_aload_n rfl (rfl) rfl (ws_getr rfl rfl rfl (ws_iv rfl rfl rfl ?_))
  refine mv_deep (d := d + 2) (by omega) (x_popW h hb (fun S1 h1 => ?_))
  refine ws_pop rfl rfl (ws_aload_n rfl (rfl) rfl (ws_iv rfl rfl rfl ?_))
  refine mv_deep (d := d + 1) (by omega) (x_closeW h1 (fun S2 h2 => ?_))
  refine ws_i rfl ?_
  exact hP S2 h2
set_option maxHeartbeats 1000000 in
set_option maxRecDepth 8000 in
theorem x_call2E (hT : xTg Sp n tk par) (h : xWk Sp S sd rm B oc D ((p, r + 1) :: R) nx gr st) (hN : cNums tk par p = nI r) (hr : r ≤ 3) (hp : p < 700) (ht : tk p = 36) (hP : ∀ S', xWk Sp S' sd rm B oc D R nx gr st → P none S') : mv_big layX sysX (d + 6) 153 [.ref 7, .int (nI p), .int (nI (r + 1))] S P := by
  refine ⟨60, ?_⟩
  refine ws_aload_n rfl (rfl) rfl (ws_getr rfl rfl rfl (ws_iload_n rfl (rfl) rfl (ws_iv rfl rfl rfl ?_)))
  refine mv_deep (d := d + 3) (by omega) (x_numW hT h.1 rfl (by omega) ?_)
  rw [hN]
  refine ws_istore_n rfl rfl rfl rfl (ws_iload_n rfl (rfl) rfl (ws_iload_n rfl (rfl) rfl (ws_i rfl ⟨fun _ => ?_, fun z => absurd (nI_le (show r ≤ r + 1 by omega) (by omega)) z⟩)))
  refine ws_iload_n rfl (rfl) rfl (ws_iload_n rfl (rfl) rfl (ws_i rfl ⟨fun _ => ?_, fun z => absurd ((nI_eq (by omega) (by omega)).mp z) (by omega)⟩))
  refine ws_aload_n rfl (rfl) rfl (ws_getr rfl rfl rfl (ws_iload_n rfl (rfl) rfl (ws_iv rfl rfl rfl ?_)))
  refine mv_deep (d := d + 1) (by omega) (x_tokW hT h.1 rfl (by omega) ?_)
  refine ws_bipush (x := 8) rfl rfl rfl (ws_i rfl ⟨fun _ => ?_, fun z => absurd (show tk p = 8 from z) (by rw [ht]; decide)⟩)
  refine ws_aload_n rfl (rfl) rfl (ws_iv rfl rfl rfl ?_)
  refine mv_deep (d := d + 1) (by omega) (x_closeW h (fun S2 h2 => ?_))
  refine ws_i rfl ?_
  exact hP S2 h2
set_option maxHeartbeats 1000000 in
set_option maxRecDepth 8000 in
theorem x_sho0 (hT : xTg Sp n tk par) (h : xWk Sp S sd rm B oc D ((p, 0) :: R) nx gr st) (hO : R.length + 1 < 425) (hx : nx < 2 ^ 30) (hg : gr ≤ 5000) (hs : st ≤ 5000) (hS : gr ≤ st → ∀ S', xWs Sp S' sd rm B D st 1 → P none S') (hP : st < gr → ∀ S', xWk Sp S' sd rm B oc D ((nx, 0) :: (p, 1) :: R) (nx + 1 + (tkArg (tk nx)).toNatClampNeg) gr (st + 1) → P none S') : mv_big layX sysX (d + 6) 155 [.ref 7, .int (nI p), .int 0] S P := by
  refine ⟨40, ?_⟩
  refine ws_iload_n rfl (rfl) rfl (ws_i rfl ⟨fun z => absurd rfl z, fun _ => ?_⟩)
  refine ws_aload_n rfl (rfl) rfl (ws_iconst (x := 1) rfl rfl rfl (ws_iv rfl rfl rfl ?_))
  refine mv_deep (d := d + 4) (by omega) (x_beginPartW hT h hO hx hg hs (fun z S1 h1 => ?_) (fun z S1 h1 => ?_))
  · refine ws_i rfl ?_
    exact hS z S1 h1
  · refine ws_i rfl ?_
    exact hP z S1 h1
def tkTr (v : Int32) : Int32 := if v = 0 then 0 else 1
set_option maxHeartbeats 1000000 in
set_option maxRecDepth 8000 in
theorem x_sho1_30z {Rr} (hT : xTg Sp n tk par) (h : xWk Sp S sd rm B oc (.inl v :: K, Rr) ((p, 1) :: R) nx gr st) (ht : tk p = 30) (hv : v = 0) (hb : (aNum K).length ≤ 40) (hp : p < 700) (he : Sp.2.1 9 p = nI e) (hP : ∀ S', xWk Sp S' sd rm B oc (.inl 0 :: K, Rr) R e gr st → P none S') : mv_big layX sysX (d + 6) 155 [.ref 7, .int (nI p), .int 1] S P := by
  refine ⟨80, ?_⟩
  refine ws_iload_n rfl (rfl) rfl (ws_i rfl ⟨fun _ => ?_, fun z => absurd z (show ¬ (1 : Int32) = 0 by decide)⟩)
  refine ws_aload_n rfl (rfl) rfl (ws_getr rfl rfl rfl (ws_iload_n rfl (rfl) rfl (ws_iv rfl rfl rfl ?_)))
  refine mv_deep (d := d + 1) (by omega) (x_tokW hT h.1 rfl (by omega) ?_)
  refine ws_bipush (x := 30) rfl rfl rfl (ws_i rfl ⟨fun z => absurd ht z, fun _ => ?_⟩)
  refine ws_iconst (x := 0) rfl rfl rfl (ws_goto (t := 28) rfl (by decide) (ws_istore_n rfl rfl rfl rfl (ws_aload_n rfl (rfl) rfl (ws_getr rfl rfl rfl (ws_iv rfl rfl rfl ?_)))))
  refine mv_deep (d := d + 2) (by omega) (x_popW h hb (fun S1 h1 => ?_))
  refine ws_i rfl ⟨fun z => absurd hv z, fun _ => ?_⟩
  refine ws_iconst (x := 0) rfl rfl rfl (ws_goto (t := 44) rfl (by decide) (ws_istore rfl rfl rfl rfl (ws_iload_n rfl (rfl) rfl (ws_iconst (x := 1) rfl rfl rfl (ws_i rfl ⟨fun z => absurd rfl z, fun _ => ?_⟩)))))
  refine ws_iload rfl (rfl) rfl (ws_iload_n rfl (rfl) rfl (ws_i rfl ⟨fun _ => ?_, fun z => absurd rfl z⟩))
  refine ws_aload_n rfl (rfl) rfl (ws_getr rfl rfl rfl (ws_iload rfl (rfl) rfl (ws_iv rfl rfl rfl ?_)))
  refine mv_deep (d := d + 2) (by omega) (x_pushW h1 hb (fun S2 h2 => ?_))
  refine ws_aload_n rfl (rfl) rfl (ws_iload_n rfl (rfl) rfl (ws_iv rfl rfl rfl ?_))
  refine mv_deep (d := d + 3) (by omega) (x_closeBehindW he hp h2 (fun S3 h3 => ?_))
  refine ws_i rfl ?_
  exact hP S3 h3
set_option maxHeartbeats 1000000 in
set_option maxRecDepth 8000 in
theorem x_sho2_30z {Rr} (hT : xTg Sp n tk par) (h : xWk Sp S sd rm B oc (.inl v :: K, Rr) ((p, 2) :: R) nx gr st) (ht : tk p = 30) (hv : v = 0) (hb : (aNum K).length ≤ 40) (hp : p < 700) (he : Sp.2.1 9 p = nI e) (hP : ∀ S', xWk Sp S' sd rm B oc (.inl 0 :: K, Rr) R e gr st → P none S') : mv_big layX sysX (d + 6) 155 [.ref 7, .int (nI p), .int 2] S P := by
  refine ⟨80, ?_⟩
  refine ws_iload_n rfl (rfl) rfl (ws_i rfl ⟨fun _ => ?_, fun z => absurd z (show ¬ (2 : Int32) = 0 by decide)⟩)
  refine ws_aload_n rfl (rfl) rfl (ws_getr rfl rfl rfl (ws_iload_n rfl (rfl) rfl (ws_iv rfl rfl rfl ?_)))
  refine mv_deep (d := d + 1) (by omega) (x_tokW hT h.1 rfl (by omega) ?_)
  refine ws_bipush (x := 30) rfl rfl rfl (ws_i rfl ⟨fun z => absurd ht z, fun _ => ?_⟩)
  refine ws_iconst (x := 0) rfl rfl rfl (ws_goto (t := 28) rfl (by decide) (ws_istore_n rfl rfl rfl rfl (ws_aload_n rfl (rfl) rfl (ws_getr rfl rfl rfl (ws_iv rfl rfl rfl ?_)))))
  refine mv_deep (d := d + 2) (by omega) (x_popW h hb (fun S1 h1 => ?_))
  refine ws_i rfl ⟨fun z => absurd hv z, fun _ => ?_⟩
  refine ws_iconst (x := 0) rfl rfl rfl (ws_goto (t := 44) rfl (by decide) (ws_istore rfl rfl rfl rfl (ws_iload_n rfl (rfl) rfl (ws_iconst (x := 1) rfl rfl rfl (ws_i rfl ⟨fun _ => ?_, fun z => absurd z (show ¬ (2 : Int32) = 1 by decide)⟩)))))
  refine ws_aload_n rfl (rfl) rfl (ws_getr rfl rfl rfl (ws_iload rfl (rfl) rfl (ws_iv rfl rfl rfl ?_)))
  refine mv_deep (d := d + 2) (by omega) (x_pushW h1 hb (fun S2 h2 => ?_))
  refine ws_aload_n rfl (rfl) rfl (ws_iload_n rfl (rfl) rfl (ws_iv rfl rfl rfl ?_))
  refine mv_deep (d := d + 3) (by omega) (x_closeBehindW he hp h2 (fun S3 h3 => ?_))
  refine ws_i rfl ?_
  exact hP S3 h3
set_option maxHeartbeats 1000000 in
set_option maxRecDepth 8000 in
theorem x_sho1_30n {Rr} (hT : xTg Sp n tk par) (h : xWk Sp S sd rm B oc (.inl v :: K, Rr) ((p, 1) :: R) nx gr st) (ht : tk p = 30) (hv : ¬ v = 0) (hb : (aNum K).length ≤ 40) (hp : p < 700) (hO : R.length + 1 < 425) (hx : nx < 2 ^ 30) (hg : gr ≤ 5000) (hs : st ≤ 5000) (hS : gr ≤ st → ∀ S', xWs Sp S' sd rm B (K, Rr) st 1 → P none S') (hP : st < gr → ∀ S', xWk Sp S' sd rm B oc (K, Rr) ((nx, 0) :: (p, 2) :: R) (nx + 1 + (tkArg (tk nx)).toNatClampNeg) gr (st + 1) → P none S') : mv_big layX sysX (d + 6) 155 [.ref 7, .int (nI p), .int 1] S P := by
  refine ⟨80, ?_⟩
  refine ws_iload_n rfl (rfl) rfl (ws_i rfl ⟨fun _ => ?_, fun z => absurd z (show ¬ (1 : Int32) = 0 by decide)⟩)
  refine ws_aload_n rfl (rfl) rfl (ws_getr rfl rfl rfl (ws_iload_n rfl (rfl) rfl (ws_iv rfl rfl rfl ?_)))
  refine mv_deep (d := d + 1) (by omega) (x_tokW hT h.1 rfl (by omega) ?_)
  refine ws_bipush (x := 30) rfl rfl rfl (ws_i rfl ⟨fun z => absurd ht z, fun _ => ?_⟩)
  refine ws_iconst (x := 0) rfl rfl rfl (ws_goto (t := 28) rfl (by decide) (ws_istore_n rfl rfl rfl rfl (ws_aload_n rfl (rfl) rfl (ws_getr rfl rfl rfl (ws_iv rfl rfl rfl ?_)))))
  refine mv_deep (d := d + 2) (by omega) (x_popW h hb (fun S1 h1 => ?_))
  refine ws_i rfl ⟨fun _ => ?_, fun z => absurd z hv⟩
  refine ws_iconst (x := 1) rfl rfl rfl (ws_istore rfl rfl rfl rfl (ws_iload_n rfl (rfl) rfl (ws_iconst (x := 1) rfl rfl rfl (ws_i rfl ⟨fun z => absurd rfl z, fun _ => ?_⟩))))
  refine ws_iload rfl (rfl) rfl (ws_iload_n rfl (rfl) rfl (ws_i rfl ⟨fun z => absurd z (show ¬ (1 : Int32) = 0 by decide), fun _ => ?_⟩))
  refine ws_aload_n rfl (rfl) rfl (ws_iconst (x := 2) rfl rfl rfl (ws_iv rfl rfl rfl ?_))
  refine mv_deep (d := d + 4) (by omega) (x_beginPartW hT h1 hO hx hg hs (fun z S1 h1 => ?_) (fun z S1 h1 => ?_))
  · refine ws_goto (t := 79) rfl (by decide) (ws_i rfl ?_)
    exact hS z S1 h1
  · refine ws_goto (t := 79) rfl (by decide) (ws_i rfl ?_)
    exact hP z S1 h1
set_option maxHeartbeats 1000000 in
set_option maxRecDepth 8000 in
theorem x_sho2_30n {Rr} (hT : xTg Sp n tk par) (h : xWk Sp S sd rm B oc (.inl v :: K, Rr) ((p, 2) :: R) nx gr st) (ht : tk p = 30) (hv : ¬ v = 0) (hb : (aNum K).length ≤ 40) (hp : p < 700) (he : Sp.2.1 9 p = nI e) (hP : ∀ S', xWk Sp S' sd rm B oc (.inl 1 :: K, Rr) R e gr st → P none S') : mv_big layX sysX (d + 6) 155 [.ref 7, .int (nI p), .int 2] S P := by
  refine ⟨80, ?_⟩
  refine ws_iload_n rfl (rfl) rfl (ws_i rfl ⟨fun _ => ?_, fun z => absurd z (show ¬ (2 : Int32) = 0 by decide)⟩)
  refine ws_aload_n rfl (rfl) rfl (ws_getr rfl rfl rfl (ws_iload_n rfl (rfl) rfl (ws_iv rfl rfl rfl ?_)))
  refine mv_deep (d := d + 1) (by omega) (x_tokW hT h.1 rfl (by omega) ?_)
  refine ws_bipush (x := 30) rfl rfl rfl (ws_i rfl ⟨fun z => absurd ht z, fun _ => ?_⟩)
  refine ws_iconst (x := 0) rfl rfl rfl (ws_goto (t := 28) rfl (by decide) (ws_istore_n rfl rfl rfl rfl (ws_aload_n rfl (rfl) rfl (ws_getr rfl rfl rfl (ws_iv rfl rfl rfl ?_)))))
  refine mv_deep (d := d + 2) (by omega) (x_popW h hb (fun S1 h1 => ?_))
  refine ws_i rfl ⟨fun _ => ?_, fun z => absurd z hv⟩
  refine ws_iconst (x := 1) rfl rfl rfl (ws_istore rfl rfl rfl rfl (ws_iload_n rfl (rfl) rfl (ws_iconst (x := 1) rfl rfl rfl (ws_i rfl ⟨fun _ => ?_, fun z => absurd z (show ¬ (2 : Int32) = 1 by decide)⟩))))
  refine ws_aload_n rfl (rfl) rfl (ws_getr rfl rfl rfl (ws_iload rfl (rfl) rfl (ws_iv rfl rfl rfl ?_)))
  refine mv_deep (d := d + 2) (by omega) (x_pushW h1 hb (fun S2 h2 => ?_))
  refine ws_aload_n rfl (rfl) rfl (ws_iload_n rfl (rfl) rfl (ws_iv rfl rfl rfl ?_))
  refine mv_deep (d := d + 3) (by omega) (x_closeBehindW he hp h2 (fun S3 h3 => ?_))
  refine ws_i rfl ?_
  exact hP S3 h3
set_option maxHeartbeats 1000000 in
set_option maxRecDepth 8000 in
theorem x_sho1_31z {Rr} (hT : xTg Sp n tk par) (h : xWk Sp S sd rm B oc (.inl v :: K, Rr) ((p, 1) :: R) nx gr st) (ht : tk p = 31) (hv : v = 0) (hb : (aNum K).length ≤ 40) (hp : p < 700) (hO : R.length + 1 < 425) (hx : nx < 2 ^ 30) (hg : gr ≤ 5000) (hs : st ≤ 5000) (hS : gr ≤ st → ∀ S', xWs Sp S' sd rm B (K, Rr) st 1 → P none S') (hP : st < gr → ∀ S', xWk Sp S' sd rm B oc (K, Rr) ((nx, 0) :: (p, 2) :: R) (nx + 1 + (tkArg (tk nx)).toNatClampNeg) gr (st + 1) → P none S') : mv_big layX sysX (d + 6) 155 [.ref 7, .int (nI p), .int 1] S P := by
  refine ⟨80, ?_⟩
  refine ws_iload_n rfl (rfl) rfl (ws_i rfl ⟨fun _ => ?_, fun z => absurd z (show ¬ (1 : Int32) = 0 by decide)⟩)
  refine ws_aload_n rfl (rfl) rfl (ws_getr rfl rfl rfl (ws_iload_n rfl (rfl) rfl (ws_iv rfl rfl rfl ?_)))
  refine mv_deep (d := d + 1) (by omega) (x_tokW hT h.1 rfl (by omega) ?_)
  refine ws_bipush (x := 30) rfl rfl rfl (ws_i rfl ⟨fun _ => ?_, fun z => absurd (show tk p = 30 from z) (by rw [ht]; decide)⟩)
  refine ws_iconst (x := 1) rfl rfl rfl (ws_istore_n rfl rfl rfl rfl (ws_aload_n rfl (rfl) rfl (ws_getr rfl rfl rfl (ws_iv rfl rfl rfl ?_))))
  refine mv_deep (d := d + 2) (by omega) (x_popW h hb (fun S1 h1 => ?_))
  refine ws_i rfl ⟨fun z => absurd hv z, fun _ => ?_⟩
  refine ws_iconst (x := 0) rfl rfl rfl (ws_goto (t := 44) rfl (by decide) (ws_istore rfl rfl rfl rfl (ws_iload_n rfl (rfl) rfl (ws_iconst (x := 1) rfl rfl rfl (ws_i rfl ⟨fun z => absurd rfl z, fun _ => ?_⟩)))))
  refine ws_iload rfl (rfl) rfl (ws_iload_n rfl (rfl) rfl (ws_i rfl ⟨fun z => absurd z (show ¬ (0 : Int32) = 1 by decide), fun _ => ?_⟩))
  refine ws_aload_n rfl (rfl) rfl (ws_iconst (x := 2) rfl rfl rfl (ws_iv rfl rfl rfl ?_))
  refine mv_deep (d := d + 4) (by omega) (x_beginPartW hT h1 hO hx hg hs (fun z S1 h1 => ?_) (fun z S1 h1 => ?_))
  · refine ws_goto (t := 79) rfl (by decide) (ws_i rfl ?_)
    exact hS z S1 h1
  · refine ws_goto (t := 79) rfl (by decide) (ws_i rfl ?_)
    exact hP z S1 h1
set_option maxHeartbeats 1000000 in
set_option maxRecDepth 8000 in
theorem x_sho2_31z {Rr} (hT : xTg Sp n tk par) (h : xWk Sp S sd rm B oc (.inl v :: K, Rr) ((p, 2) :: R) nx gr st) (ht : tk p = 31) (hv : v = 0) (hb : (aNum K).length ≤ 40) (hp : p < 700) (he : Sp.2.1 9 p = nI e) (hP : ∀ S', xWk Sp S' sd rm B oc (.inl 0 :: K, Rr) R e gr st → P none S') : mv_big layX sysX (d + 6) 155 [.ref 7, .int (nI p), .int 2] S P := by
  refine ⟨80, ?_⟩
  refine ws_iload_n rfl (rfl) rfl (ws_i rfl ⟨fun _ => ?_, fun z => absurd z (show ¬ (2 : Int32) = 0 by decide)⟩)
  refine ws_aload_n rfl (rfl) rfl (ws_getr rfl rfl rfl (ws_iload_n rfl (rfl) rfl (ws_iv rfl rfl rfl ?_)))
  refine mv_deep (d := d + 1) (by omega) (x_tokW hT h.1 rfl (by omega) ?_)
  refine ws_bipush (x := 30) rfl rfl rfl (ws_i rfl ⟨fun _ => ?_, fun z => absurd (show tk p = 30 from z) (by rw [ht]; decide)⟩)
  refine ws_iconst (x := 1) rfl rfl rfl (ws_istore_n rfl rfl rfl rfl (ws_aload_n rfl (rfl) rfl (ws_getr rfl rfl rfl (ws_iv rfl rfl rfl ?_))))
  refine mv_deep (d := d + 2) (by omega) (x_popW h hb (fun S1 h1 => ?_))
  refine ws_i rfl ⟨fun z => absurd hv z, fun _ => ?_⟩
  refine ws_iconst (x := 0) rfl rfl rfl (ws_goto (t := 44) rfl (by decide) (ws_istore rfl rfl rfl rfl (ws_iload_n rfl (rfl) rfl (ws_iconst (x := 1) rfl rfl rfl (ws_i rfl ⟨fun _ => ?_, fun z => absurd z (show ¬ (2 : Int32) = 1 by decide)⟩)))))
  refine ws_aload_n rfl (rfl) rfl (ws_getr rfl rfl rfl (ws_iload rfl (rfl) rfl (ws_iv rfl rfl rfl ?_)))
  refine mv_deep (d := d + 2) (by omega) (x_pushW h1 hb (fun S2 h2 => ?_))
  refine ws_aload_n rfl (rfl) rfl (ws_iload_n rfl (rfl) rfl (ws_iv rfl rfl rfl ?_))
  refine mv_deep (d := d + 3) (by omega) (x_closeBehindW he hp h2 (fun S3 h3 => ?_))
  refine ws_i rfl ?_
  exact hP S3 h3
set_option maxHeartbeats 1000000 in
set_option maxRecDepth 8000 in
theorem x_sho1_31n {Rr} (hT : xTg Sp n tk par) (h : xWk Sp S sd rm B oc (.inl v :: K, Rr) ((p, 1) :: R) nx gr st) (ht : tk p = 31) (hv : ¬ v = 0) (hb : (aNum K).length ≤ 40) (hp : p < 700) (he : Sp.2.1 9 p = nI e) (hP : ∀ S', xWk Sp S' sd rm B oc (.inl 1 :: K, Rr) R e gr st → P none S') : mv_big layX sysX (d + 6) 155 [.ref 7, .int (nI p), .int 1] S P := by
  refine ⟨80, ?_⟩
  refine ws_iload_n rfl (rfl) rfl (ws_i rfl ⟨fun _ => ?_, fun z => absurd z (show ¬ (1 : Int32) = 0 by decide)⟩)
  refine ws_aload_n rfl (rfl) rfl (ws_getr rfl rfl rfl (ws_iload_n rfl (rfl) rfl (ws_iv rfl rfl rfl ?_)))
  refine mv_deep (d := d + 1) (by omega) (x_tokW hT h.1 rfl (by omega) ?_)
  refine ws_bipush (x := 30) rfl rfl rfl (ws_i rfl ⟨fun _ => ?_, fun z => absurd (show tk p = 30 from z) (by rw [ht]; decide)⟩)
  refine ws_iconst (x := 1) rfl rfl rfl (ws_istore_n rfl rfl rfl rfl (ws_aload_n rfl (rfl) rfl (ws_getr rfl rfl rfl (ws_iv rfl rfl rfl ?_))))
  refine mv_deep (d := d + 2) (by omega) (x_popW h hb (fun S1 h1 => ?_))
  refine ws_i rfl ⟨fun _ => ?_, fun z => absurd z hv⟩
  refine ws_iconst (x := 1) rfl rfl rfl (ws_istore rfl rfl rfl rfl (ws_iload_n rfl (rfl) rfl (ws_iconst (x := 1) rfl rfl rfl (ws_i rfl ⟨fun z => absurd rfl z, fun _ => ?_⟩))))
  refine ws_iload rfl (rfl) rfl (ws_iload_n rfl (rfl) rfl (ws_i rfl ⟨fun _ => ?_, fun z => absurd rfl z⟩))
  refine ws_aload_n rfl (rfl) rfl (ws_getr rfl rfl rfl (ws_iload rfl (rfl) rfl (ws_iv rfl rfl rfl ?_)))
  refine mv_deep (d := d + 2) (by omega) (x_pushW h1 hb (fun S2 h2 => ?_))
  refine ws_aload_n rfl (rfl) rfl (ws_iload_n rfl (rfl) rfl (ws_iv rfl rfl rfl ?_))
  refine mv_deep (d := d + 3) (by omega) (x_closeBehindW he hp h2 (fun S3 h3 => ?_))
  refine ws_i rfl ?_
  exact hP S3 h3
set_option maxHeartbeats 1000000 in
set_option maxRecDepth 8000 in
theorem x_sho2_31n {Rr} (hT : xTg Sp n tk par) (h : xWk Sp S sd rm B oc (.inl v :: K, Rr) ((p, 2) :: R) nx gr st) (ht : tk p = 31) (hv : ¬ v = 0) (hb : (aNum K).length ≤ 40) (hp : p < 700) (he : Sp.2.1 9 p = nI e) (hP : ∀ S', xWk Sp S' sd rm B oc (.inl 1 :: K, Rr) R e gr st → P none S') : mv_big layX sysX (d + 6) 155 [.ref 7, .int (nI p), .int 2] S P := by
  refine ⟨80, ?_⟩
  refine ws_iload_n rfl (rfl) rfl (ws_i rfl ⟨fun _ => ?_, fun z => absurd z (show ¬ (2 : Int32) = 0 by decide)⟩)
  refine ws_aload_n rfl (rfl) rfl (ws_getr rfl rfl rfl (ws_iload_n rfl (rfl) rfl (ws_iv rfl rfl rfl ?_)))
  refine mv_deep (d := d + 1) (by omega) (x_tokW hT h.1 rfl (by omega) ?_)
  refine ws_bipush (x := 30) rfl rfl rfl (ws_i rfl ⟨fun _ => ?_, fun z => absurd (show tk p = 30 from z) (by rw [ht]; decide)⟩)
  refine ws_iconst (x := 1) rfl rfl rfl (ws_istore_n rfl rfl rfl rfl (ws_aload_n rfl (rfl) rfl (ws_getr rfl rfl rfl (ws_iv rfl rfl rfl ?_))))
  refine mv_deep (d := d + 2) (by omega) (x_popW h hb (fun S1 h1 => ?_))
  refine ws_i rfl ⟨fun _ => ?_, fun z => absurd z hv⟩
  refine ws_iconst (x := 1) rfl rfl rfl (ws_istore rfl rfl rfl rfl (ws_iload_n rfl (rfl) rfl (ws_iconst (x := 1) rfl rfl rfl (ws_i rfl ⟨fun _ => ?_, fun z => absurd z (show ¬ (2 : Int32) = 1 by decide)⟩))))
  refine ws_aload_n rfl (rfl) rfl (ws_getr rfl rfl rfl (ws_iload rfl (rfl) rfl (ws_iv rfl rfl rfl ?_)))
  refine mv_deep (d := d + 2) (by omega) (x_pushW h1 hb (fun S2 h2 => ?_))
  refine ws_aload_n rfl (rfl) rfl (ws_iload_n rfl (rfl) rfl (ws_iv rfl rfl rfl ?_))
  refine mv_deep (d := d + 3) (by omega) (x_closeBehindW he hp h2 (fun S3 h3 => ?_))
  refine ws_i rfl ?_
  exact hP S3 h3
set_option maxHeartbeats 1000000 in
set_option maxRecDepth 8000 in
theorem x_plaB (hT : xTg Sp n tk par) (h : xWk Sp S sd rm B oc D ((p, g) :: R) nx gr st) (hN : tkMaps (tk p) + tkNums (tk p) = nI r) (hr : r ≤ 3) (hp : p < 700) (hgr : g < r) (hO : R.length + 1 < 425) (hx : nx < 2 ^ 30) (hg : gr ≤ 5000) (hs : st ≤ 5000) (hS : gr ≤ st → ∀ S', xWs Sp S' sd rm B D st 1 → P none S') (hP : st < gr → ∀ S', xWk Sp S' sd rm B oc D ((nx, 0) :: (p, g + 1) :: R) (nx + 1 + (tkArg (tk nx)).toNatClampNeg) gr (st + 1) → P none S') : mv_big layX sysX (d + 7) 156 [.ref 7, .int (nI p), .int (nI g)] S P := by
  refine ⟨60, ?_⟩
  refine ws_aload_n rfl (rfl) rfl (ws_getr rfl rfl rfl (ws_iload_n rfl (rfl) rfl (ws_iv rfl rfl rfl ?_)))
  refine mv_deep (d := d + 1) (by omega) (x_tokW hT h.1 rfl (by omega) ?_)
  refine ws_istore_n rfl rfl rfl rfl (ws_iload_n rfl (rfl) rfl (ws_iload_n rfl (rfl) rfl (ws_is rfl rfl rfl ?_)))
  refine mv_deep (d := d + 1) (by omega) (x_maps ?_)
  refine ws_iload_n rfl (rfl) rfl (ws_is rfl rfl rfl ?_)
  refine mv_deep (d := d + 1) (by omega) (x_numbersT ?_)
  refine ws_iadd rfl (hN) rfl (ws_i rfl ⟨fun z => absurd z (nI_ge hgr (by omega)), fun _ => ?_⟩)
  refine ws_aload_n rfl (rfl) rfl (ws_iload_n rfl (rfl) rfl (ws_iconst (x := 1) rfl rfl rfl (ws_iadd rfl (nI_1 _) rfl (ws_iv rfl rfl rfl ?_))))
  refine mv_deep (d := d + 4) (by omega) (x_beginPartW hT h hO hx hg hs (fun z S1 h1 => ?_) (fun z S1 h1 => ?_))
  · refine ws_goto (t := 61) rfl (by decide) (ws_i rfl ?_)
    exact hS z S1 h1
  · refine ws_goto (t := 61) rfl (by decide) (ws_i rfl ?_)
    exact hP z S1 h1
set_option maxHeartbeats 1000000 in
set_option maxRecDepth 8000 in
theorem x_plaA {w : Nat → Int32} {L : Nat} {mn : Bool} {Q : Nat → shT → Prop} {pc k : Nat} (hT : xTg Sp n tk par) (h : xWk Sp S sd rm B oc D ((p, r) :: R) nx gr st) (hN : tkMaps (tk p) + tkNums (tk p) = nI r) (hr : r ≤ 3) (hp : p < 700) (hk : aDw k) (hQ : ∀ p s, Q p s → shM s ≤ 17) (i : okI w par L mn Q pc (aSh D.1)) (hw : w pc = nI k) (hwt : tkWord (tk p) = nI k) (hy : aWl k = 2 → tk (p + 1) = w (pc + 1)) (ok : aOk sd rm D) (hB : B + 5 < 2 ^ 31) (hP : ∀ S' D', aAp sd rm k (w (pc + 1)) D = (1, D') → xWk Sp S' sd rm (B + 1) oc D' R nx gr st → P none S') (hF : ∀ c S', aAp sd rm k (w (pc + 1)) D = (c, D) → ¬ c = 1 → ¬ c = 99 → xWs Sp S' sd rm (B + 1) D st c → P none S') : mv_big layX sysX (d + 7) 156 [.ref 7, .int (nI p), .int (nI r)] S P := by
  refine ⟨60, ?_⟩
  refine ws_aload_n rfl (rfl) rfl (ws_getr rfl rfl rfl (ws_iload_n rfl (rfl) rfl (ws_iv rfl rfl rfl ?_)))
  refine mv_deep (d := d + 1) (by omega) (x_tokW hT h.1 rfl (by omega) ?_)
  refine ws_istore_n rfl rfl rfl rfl (ws_iload_n rfl (rfl) rfl (ws_iload_n rfl (rfl) rfl (ws_is rfl rfl rfl ?_)))
  refine mv_deep (d := d + 1) (by omega) (x_maps ?_)
  refine ws_iload_n rfl (rfl) rfl (ws_is rfl rfl rfl ?_)
  refine mv_deep (d := d + 1) (by omega) (x_numbersT ?_)
  refine ws_iadd rfl (hN) rfl (ws_i rfl ⟨fun _ => ?_, fun z => absurd (nI_le (Nat.le_refl r) (by omega)) z⟩)
  refine ws_aload_n rfl (rfl) rfl (ws_aload_n rfl (rfl) rfl (ws_getr rfl rfl rfl (ws_iload_n rfl (rfl) rfl (ws_is rfl rfl rfl ?_))))
  refine mv_deep (d := d + 1) (by omega) (x_wordT ?_)
  rw [hwt]
  refine ws_aload_n rfl (rfl) rfl (ws_getr rfl rfl rfl (ws_iload_n rfl (rfl) rfl (ws_iconst (x := 1) rfl rfl rfl (ws_iadd rfl rfl rfl (ws_iv rfl rfl rfl ?_)))))
  refine mv_deep (d := d + 1) (by omega) (x_tokW hT h.1 (nI_1 p) (by omega) ?_)
  refine ws_iv rfl rfl rfl ?_
  refine x_apA hk hQ i hw ok h.2.1 hB hy (fun S1 D1 er g1 => ?_) (fun c S1 K1 er c1 c99 em g1 => ?_)
  · have k1 := xWk_o h (xD_o g1) g1
    have k2 : xWk Sp (mv_pf S1 7 8 1) sd rm (B + 1) oc D1 ((p, r) :: R) nx gr st := by
      obtain ⟨f, hD, c1, c2, c3, c4, c5, c6, c7, c8⟩ := k1
      have q := xWb_out (S' := mv_pf S1 7 8 1) f hD (fun o g a _ => by rw [pf_get, if_neg (fun z => a z.1)]) (fun _ _ _ => rfl) rfl
      refine ⟨q.1, q.2, ?_, c2, xOs_go (S := S1) (fun _ _ => ⟨rfl, rfl⟩) c3, ?_, ?_, ?_, ?_, ?_⟩
      · rw [pf_get, if_neg (by omega)]; exact c1
      · rw [pf_get, if_neg (by omega)]; exact c4
      · rw [pf_get, if_neg (by omega)]; exact c5
      · rw [pf_get, if_neg (by omega)]; exact c6
      · rw [pf_get, if_pos ⟨rfl, rfl⟩]
      · rw [pf_get, if_neg (by omega)]; exact c8
    refine ws_puti rfl rfl rfl (ws_aload_n rfl (rfl) rfl (ws_iv rfl rfl rfl ?_))
    refine mv_deep (d := d + 1) (by omega) (x_closeW k2 (fun S2 k3 => ?_))
    refine ws_i rfl ?_
    exact hP S2 D1 er k3
  · have k1 := xWk_o h (xD_o g1) g1
    have e4 : S1.1 7 4 = nI (R.length + 1) := k1.2.2.1
    have s1 := xWk_end (D := D) (c := c) k1 em c1
    have s2 : xWs Sp (mv_pf (mv_pf S1 7 8 c) 7 4 (nI R.length)) sd rm (B + 1) D st c := by
      obtain ⟨q1, ⟨oc2, K2, q2, q3⟩, q4, q5, q6⟩ := s1
      have q := xWb_out (S' := mv_pf (mv_pf S1 7 8 c) 7 4 (nI R.length)) q1 q3 (fun o g a _ => by rw [pf_get, if_neg (fun z => a z.1)]) (fun _ _ _ => rfl) rfl
      refine ⟨q.1, ⟨oc2, K2, q2, q.2⟩, ?_, ?_, fun z => absurd z c1⟩
      · rw [pf_get, if_neg (by omega)]; exact q4
      · rw [pf_get, if_neg (by omega)]; exact q5
    have e5 : (mv_pf S1 7 8 c).1 7 4 = nI (R.length + 1) := by rw [pf_get, if_neg (by omega)]; exact e4
    refine ws_puti rfl rfl rfl (ws_aload_n rfl (rfl) rfl (ws_iv rfl rfl rfl ?_))
    refine mv_deep (d := d + 1) (by omega) (x_close1 e5 ?_)
    refine ws_i rfl ?_
    exact hF c _ er c1 c99 s2
end XW

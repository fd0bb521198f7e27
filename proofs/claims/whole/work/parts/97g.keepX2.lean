/-! THE CLASS KEEPS WHAT IT MADE -/
section XA
variable {d : Nat} {P : Option Value → mv_S → Prop} {S0 S S1 S' : mv_S} {σ σ' : Nat → Nat} {sd : Int32} {rm fb fb' B B' st m : Nat} {rets : List Nat} {K : List aI} {Ks : List (List aI)} {vs : Nat → Int32} {mp : Nat → tT} {told : List Int32} {most : Nat} {R : tT} {c' : Int32} {L : List (Nat × Int32)}
/-- a cell of the new tree: live before, or made -/
theorem xK_cell (sg : xSg S σ σ' fb st (aMap (K ++ Ks.flatten)) Ks.length mp) (hR : xCl (S.2.1 20) (fb - m) xNo S1 σ' sd R c') (hRs : tSt (fun s => s = st ∨ s < st) R) {i : Nat} (hi : i ∈ hCs (S1.2.1 18) (S1.2.1 19) R c') : xIn (S.2.1 20) fb i ∨ xLv S (aMap (K ++ Ks.flatten)) Ks.length mp i := by
  by_cases a : xIn (S.2.1 20) fb i
  · exact Or.inl a
  · by_cases b : xLv S (aMap (K ++ Ks.flatten)) Ks.length mp i
    · exact Or.inr b
    · have e := sg.2.2 i a b
      have q := tSt_nd.mp hRs _ ((hCs_mem (by decide) (xCl_tr hR) (σ' i, S1.2.1 15 i)).mpr ⟨i, hi, rfl⟩)
      have q : σ' i = st ∨ σ' i < st := q
      omega
theorem xK_low (h : xA S0 S σ sd rm fb B rets K Ks vs mp told most) (hst : ∀ T c, xRt S (aMap (K ++ Ks.flatten)) Ks.length mp T c → tSt (fun s => s < st) T) {i : Nat} (hi : xLv S (aMap (K ++ Ks.flatten)) Ks.length mp i) : σ i < st := by
  obtain ⟨T, c, h1, h2⟩ := hi
  exact tSt_nd.mp (hst T c h1) _ ((hCs_mem (by decide) (xCl_tr (xA_cl h h1)) (σ i, S.2.1 15 i)).mpr ⟨i, h2, rfl⟩)
theorem xK_cs (h : xA S0 S σ sd rm fb B rets K Ks vs mp told most) (g : xFmX (xBM S) S1 fb) {T : tT} {c : Int32} (t1 : xRt S (aMap (K ++ Ks.flatten)) Ks.length mp T c) : hCs (S1.2.1 18) (S1.2.1 19) T c = hCs (S.2.1 18) (S.2.1 19) T c := xCs_re (xA_cl h t1) (fun j hj => by
  obtain ⟨_, q4⟩ := xLv_old h g ⟨T, c, t1, hj⟩
  exact ⟨q4 18 (by decide) (by decide), q4 19 (by decide) (by decide)⟩)
/-- no two cells of what is held and of the new tree have one step and one key -/
theorem xK_inj (h : xA S0 S σ sd rm fb B rets K Ks vs mp told most) (g : xFmX (xBM S) S1 fb) (sg : xSg S σ σ' fb st (aMap (K ++ Ks.flatten)) Ks.length mp) (hst : ∀ T c, xRt S (aMap (K ++ Ks.flatten)) Ks.length mp T c → tSt (fun s => s < st) T) (hR : xCl (S.2.1 20) (fb - m) xNo S1 σ' sd R c') (hRs : tSt (fun s => s = st ∨ s < st) R) (hRo : tOrd R) : hInj (S1.2.1 15) (S1.2.1 18) (S1.2.1 19) σ' (fun T c => xRt S (aMap (K ++ Ks.flatten)) Ks.length mp T c ∨ (T = R ∧ c = c')) := by
  have cls : ∀ T c i, (xRt S (aMap (K ++ Ks.flatten)) Ks.length mp T c ∨ (T = R ∧ c = c')) → i ∈ hCs (S1.2.1 18) (S1.2.1 19) T c → xLv S (aMap (K ++ Ks.flatten)) Ks.length mp i ∨ (i ∈ hCs (S1.2.1 18) (S1.2.1 19) R c' ∧ σ' i = st) := fun T c i z hi => by
    rcases z with z | ⟨rfl, rfl⟩
    · rw [xK_cs h g z] at hi
      exact Or.inl ⟨T, c, z, hi⟩
    · rcases xK_cell sg hR hRs hi with y | y
      · exact Or.inr ⟨hi, sg.1 i y⟩
      · exact Or.inl y
  intro T c T' c2 i j t1 t2 hi hj e1 e2
  rcases cls T c i t1 hi with a | ⟨a1, a2⟩
  · rcases cls T' c2 j t2 hj with b | ⟨b1, b2⟩
    · have e3 := (xLv_old h g a).2 15 (by decide) (by decide)
      have e4 := (xLv_old h g b).2 15 (by decide) (by decide)
      rw [e3, e4] at e2
      rw [sg.2.1 i a, sg.2.1 j b] at e1
      obtain ⟨Ta, ca, q1, q2⟩ := a
      obtain ⟨Tb, cb, q3, q4⟩ := b
      exact h.2.2.2.2.2.2.2.2.2 Ta ca Tb cb i j q1 q3 q2 q4 e1 e2
    · have l1 := xK_low h hst a
      rw [sg.2.1 i a, b2] at e1
      omega
  · rcases cls T' c2 j t2 hj with b | ⟨b1, b2⟩
    · have l1 := xK_low h hst b
      rw [sg.2.1 j b, a2] at e1
      omega
    · exact hCs_key (by decide) (xCl_tr hR) hRo a1 b1 e2
/-- kept: the store anew, from what stays of the store in which it was made -/
theorem xK_keep (h : xA S0 S σ sd rm fb B rets K Ks vs mp told most) (g : xFmX (xBM S) S1 fb) (sg : xSg S σ σ' fb st (aMap (K ++ Ks.flatten)) Ks.length mp) (hst : ∀ T c, xRt S (aMap (K ++ Ks.flatten)) Ks.length mp T c → tSt (fun s => s < st) T) (hR : xCl (S.2.1 20) (fb - m) xNo S1 σ' sd R c') (hRs : tSt (fun s => s = st ∨ s < st) R) (hRo : tOrd R)
    (f1 : ∀ o f, o ≠ 3 → o ≠ 5 → ¬ (o = 4 ∧ f = 16) → S'.1 o f = S1.1 o f) (r1 : ∀ o i, o ≠ 20 → o ≠ 21 → o ≠ 22 → S'.2.1 o i = S1.2.1 o i) (l1 : S'.2.2 = S1.2.2) (hp : xHp S' sd rm fb' B') (fr1 : ∀ i, xLv S (aMap (K ++ Ks.flatten)) Ks.length mp i → ¬ xIn (S'.2.1 20) fb' i) (fr2 : ∀ i, i ∈ hCs (S1.2.1 18) (S1.2.1 19) R c' → ¬ xIn (S'.2.1 20) fb' i) {most' : Nat} (e16 : S'.1 4 16 = nI most') :
    xA S0 S' σ' sd rm fb' B' rets K Ks vs mp told most' ∧ xCl (S'.2.1 20) fb' xNo S' σ' sd R c' ∧ hInj (S'.2.1 15) (S'.2.1 18) (S'.2.1 19) σ' (fun T c => xRt S' (aMap (K ++ Ks.flatten)) Ks.length mp T c ∨ (T = R ∧ c = c')) := by
  have e15 : S'.2.1 15 = S1.2.1 15 := funext (fun i => r1 15 i (by decide) (by decide) (by decide))
  have e18 : S'.2.1 18 = S1.2.1 18 := funext (fun i => r1 18 i (by decide) (by decide) (by decide))
  have e19 : S'.2.1 19 = S1.2.1 19 := funext (fun i => r1 19 i (by decide) (by decide) (by decide))
  have inj := xK_inj h g sg hst hR hRs hRo
  have r24 : ∀ p, S'.2.1 24 p = S.2.1 24 p := fun p => (r1 24 p (by decide) (by decide) (by decide)).trans (g.2.1 24 p (by omega) (by omega))
  have r26 : ∀ p, S'.2.1 26 p = S.2.1 26 p := fun p => (r1 26 p (by decide) (by decide) (by decide)).trans (g.2.1 26 p (by omega) (by omega))
  refine ⟨xA_re (fb' := fb') h (fun o f a b c => ?_) (fun o i a b => (r1 o i (by omega) (by omega) (by omega)).trans (g.2.1 o i (by omega) b)) (l1.trans g.2.2.1) hp (fun T c z => ?_) ?_ e16, ?_, ?_⟩
  · rw [f1 o f a b c, g.1 o f (by omega) (by omega), xBM_f, if_neg (by omega), if_neg (by omega), if_neg (by omega)]
  · refine xCl_re (xA_cl h z) (fun i hi => ?_)
    have lv : xLv S (aMap (K ++ Ks.flatten)) Ks.length mp i := ⟨T, c, z, hi⟩
    exact ⟨fr1 i lv, sg.2.1 i lv, fun o a b => (r1 o i (by omega) (by omega) (by omega)).trans ((xLv_old h g lv).2 o a b)⟩
  · rw [e15, e18, e19]
    exact fun T c T' c2 i j t1 t2 => inj T c T' c2 i j (Or.inl t1) (Or.inl t2)
  · exact xCl_re hR (fun i hi => ⟨fr2 i hi, rfl, fun o a b => r1 o i (by omega) (by omega) (by omega)⟩)
  · rw [e15, e18, e19]
    exact fun T c T' c2 i j t1 t2 => inj T c T' c2 i j (t1.elim (fun z => Or.inl (xRt_re r24 r26 z)) Or.inr) (t2.elim (fun z => Or.inl (xRt_re r24 r26 z)) Or.inr)
abbrev xKw (P : Option Value → mv_S → Prop) (d F pc : Nat) (l : List (Nat × Value)) (st : List Value) (S : mv_S) : Prop := mv_wp layX sysX tT5 2 (some .boolean) mX5_keep.2.2.2.2.2.2.2 (mv_big layX sysX (d + 2)) P F pc l st S
set_option maxHeartbeats 1000000 in
set_option maxRecDepth 8000 in
theorem xK_tail {l : List (Nat × Value)} (l0 : mv_at 0 l = some (.ref 4)) (e14 : S'.1 3 14 = nI m) (e16 : S'.1 4 16 = nI most) (hm : m ≤ 400) (hmost : most ≤ 400) (hP : P (some (.int 1)) (mv_pf S' 4 16 (nI (max most m)))) : xKw P d 30 48 l [] S' := by
  refine ws_aload_n rfl (l0) rfl (ws_aload_n rfl (l0) rfl (ws_getr rfl rfl rfl (ws_iv rfl rfl rfl ?_)))
  refine x_made ?_
  rw [e14]
  by_cases c : m ≤ most
  · rw [show max most m = most by omega] at hP
    refine ws_aload_n rfl (l0) rfl (ws_geti rfl rfl (e16) rfl (ws_i rfl ⟨fun _ => ?_, fun z => absurd (nI_le c (by omega)) z⟩))
    refine ws_aload_n rfl (l0) rfl (ws_geti rfl rfl (e16) rfl (ws_puti rfl rfl rfl (ws_iconst (x := 1) rfl rfl rfl (ws_i rfl ?_))))
    exact ⟨Or.inr rfl, hP⟩
  · rw [show max most m = m by omega] at hP
    refine ws_aload_n rfl (l0) rfl (ws_geti rfl rfl (e16) rfl (ws_i rfl ⟨fun z => absurd z (nI_ge (by omega) (by omega)), fun _ => ?_⟩))
    refine ws_aload_n rfl (l0) rfl (ws_getr rfl rfl rfl (ws_iv rfl rfl rfl ?_))
    refine x_made ?_
    rw [e14]
    refine ws_goto (t := 77) rfl (by decide) (ws_puti rfl rfl rfl (ws_iconst (x := 1) rfl rfl rfl (ws_i rfl ?_)))
    exact ⟨Or.inr rfl, hP⟩
set_option maxHeartbeats 1000000 in
set_option maxRecDepth 8000 in
theorem x_keepM (h : xA S0 S σ sd rm fb B rets K Ks vs mp told most) (hk : (aMap K).length ≤ 17) (hM : xMs (xBM S) S1 rm fb m) (sg : xSg S σ σ' fb st (aMap (K ++ Ks.flatten)) Ks.length mp) (hst : ∀ T c, xRt S (aMap (K ++ Ks.flatten)) Ks.length mp T c → tSt (fun s => s < st) T) (hR : xCl (S.2.1 20) (fb - m) xNo S1 σ' sd R c') (hRs : tSt (fun s => s = st ∨ s < st) R) (hRo : tOrd R) (hL : hNs (fun T => ∃ c, xRt S (aMap (K ++ Ks.flatten)) Ks.length mp T c) L) (hB : B + 5 < 2 ^ 31) (hmost : most ≤ 400)
    (hF : rm < L.length + m → ∀ S', xA S0 S' σ sd rm fb (B + 1) rets K Ks vs mp told most → P (some (.int 0)) S')
    (hK : L.length + m ≤ rm → ∀ S' fb', xA S0 S' σ' sd rm fb' (B + 1) rets K Ks vs mp told (max most m) → xCl (S'.2.1 20) fb' xNo S' σ' sd R c' → hInj (S'.2.1 15) (S'.2.1 18) (S'.2.1 19) σ' (fun T c => xRt S' (aMap (K ++ Ks.flatten)) Ks.length mp T c ∨ (T = R ∧ c = c')) → P (some (.int 1)) S') : mv_big layX sysX (d + 3) 121 [.ref 4, .int c'] S1 P := by
  have h0 := h
  obtain ⟨a1, a2, a3, a4, a5, a6, a7, a8, a9, a10⟩ := h
  obtain ⟨h1, h2, h3, h4, h5, h6, h7, h8, r0, h9, h10⟩ := a2
  obtain ⟨g, m8, m14, m15, mr⟩ := hM
  obtain ⟨W, ndW, memW, _⟩ := xLv_list h0
  obtain ⟨_, lvfb⟩ := xA_lv h0 hL ndW memW
  have f3 : ∀ f, f = 10 ∨ f = 12 ∨ f = 13 → S1.1 3 f = S.1 3 f := fun f a => by rw [g.1 3 f (by omega) (by omega), xBM_f, if_neg (by omega), if_neg (by omega), if_neg (by omega)]
  have f16 : S1.1 4 16 = nI most := by rw [g.1 4 16 (by omega) (by omega), xBM_f, if_neg (by omega), if_neg (by omega), if_neg (by omega)]; exact a9
  have e20 : S1.2.1 20 = S.2.1 20 := funext (fun i => g.2.1 20 i (by omega) (by omega))
  have ro : xRo S1 r0 := ⟨(f3 10 (by omega)).trans h10.1, fun i i1 i2 => by rw [g.2.1 21 i (by omega) (by omega)]; exact h10.2 i i1 i2⟩
  have lnK := xBs_len a5.2.2
  refine ⟨80, ?_⟩
  refine ws_aload_n rfl (rfl) rfl (ws_getr rfl rfl rfl (ws_iv rfl rfl rfl ?_))
  refine x_surelyFits (fun no => ?_) (fun yes => ?_)
  rotate_left 1
  · refine ws_i rfl ⟨fun _ => ?_, fun z => absurd z (show ¬ (1 : Int32) = 0 by decide)⟩
    have sure : 800 - (fb - m) ≤ rm := by
      have y := yes.2
      rw [m8, f3 13 (by omega), h2, show (800 : Int32) = nI 800 from rfl, nI_subN (by omega) (by decide)] at y
      by_cases c : 800 - (fb - m) ≤ rm
      · exact c
      · exact absurd y (nI_ge (by omega) (by omega))
    refine mv_fuel (n := 30) (by omega) (xK_tail rfl m14 f16 (by omega) hmost ?_)
    have hp : xHp (mv_pf S1 4 16 (nI (max most m))) sd rm (fb - m) (B + 1) := by
      refine ⟨?_, ?_, h3, ?_, by omega, by omega, fun p hp => ?_, fun p q hp hq => ?_, r0, by omega, ?_, ro.2⟩
      · rw [pf_get, if_neg (by omega)]; exact (f3 12 (by omega)).trans h1
      · rw [pf_get, if_neg (by omega)]; exact (f3 13 (by omega)).trans h2
      · rw [pf_get, if_neg (by omega)]; exact m8
      · show ∃ i, 1 ≤ i ∧ i ≤ 800 ∧ S1.2.1 20 p = nI i
        rw [e20]; exact h7 p (by omega)
      · show S1.2.1 20 p = S1.2.1 20 q → p = q
        rw [e20]; exact h8 p q (by omega) (by omega)
      · rw [pf_get, if_neg (by omega)]; exact ro.1
    have fr1 : ∀ i, xLv S (aMap (K ++ Ks.flatten)) Ks.length mp i → ¬ xIn ((mv_pf S1 4 16 (nI (max most m))).2.1 20) (fb - m) i := fun i hi => by
      show ¬ xIn (S1.2.1 20) (fb - m) i
      rw [e20]; exact fun z => (xLv_old h0 g hi).1.2.2 (xIn_le (by omega) z)
    have fr2 : ∀ i, i ∈ hCs (S1.2.1 18) (S1.2.1 19) R c' → ¬ xIn ((mv_pf S1 4 16 (nI (max most m))).2.1 20) (fb - m) i := fun i hi => by
      show ¬ xIn (S1.2.1 20) (fb - m) i
      rw [e20]; exact (xCl_cs hR i hi).2.2
    obtain ⟨q1, q2, q3⟩ := xK_keep (S' := mv_pf S1 4 16 (nI (max most m))) (fb' := fb - m) (B' := B + 1) h0 g sg hst hR hRs hRo (fun o f a b c => by rw [pf_get, if_neg c]) (fun o i _ _ _ => rfl) rfl hp fr1 fr2 (by rw [pf_get, if_pos ⟨rfl, rfl⟩])
    exact hK (by omega) _ _ q1 q2 q3
  refine ws_i rfl ⟨fun z => absurd rfl z, fun _ => ?_⟩
  refine ws_aload_n rfl (rfl) rfl (ws_iv rfl rfl rfl ?_)
  refine xK_reach h0 hk g hB (fun S2 V r r1 g1 g2 g3 g4 => ?_)
  obtain ⟨eV, _⟩ := xA_lv h0 hL g2.1 g4
  have e11 : S2.1 3 11 + S2.1 3 14 = nI (L.length + m) := by
    rw [g2.2.2.1, g1.1 3 14 (by omega), m14, eV, nI_addN (by omega)]
  have e13 : S2.1 3 13 = nI rm := (g1.1 3 13 (by omega)).trans ((f3 13 (by omega)).trans h2)
  have e15 : S2.1 3 15 = 0 := (g1.1 3 15 (by omega)).trans m15
  refine ws_aload_n rfl (rfl) rfl (ws_getr rfl rfl rfl (ws_iv rfl rfl rfl ?_))
  refine x_fits (fun no2 => ?_) (fun yes => ?_)
  · refine ws_i rfl ⟨fun z => absurd rfl z, fun _ => ?_⟩
    refine ws_aload_n rfl (rfl) rfl (ws_getr rfl rfl rfl (ws_iv rfl rfl rfl ?_))
    refine x_undo ?_
    refine ws_iconst (x := 0) rfl rfl rfl (ws_i rfl ?_)
    refine ⟨Or.inl rfl, hF ?_ _ (xK_undo h0 g g1 r1 rfl)⟩
    by_cases c : rm < L.length + m
    · exact c
    · exact absurd ⟨e15, by rw [e11, e13]; exact nI_le (by omega) (by omega)⟩ no2
  · refine ws_i rfl ⟨fun _ => ?_, fun z => absurd z (show ¬ (1 : Int32) = 0 by decide)⟩
    refine ws_aload_n rfl (rfl) rfl (ws_getr rfl rfl rfl (ws_iload_n rfl (rfl) rfl (ws_iv rfl rfl rfl ?_)))
    have fit : L.length + m ≤ rm := by
      have y := yes.2
      rw [e11, e13] at y
      by_cases c : L.length + m ≤ rm
      · exact c
      · exact absurd y (nI_ge (by omega) (by omega))
    have okR := hCs_ok (by decide) (xCl_tr hR)
    have q18 : ∀ i, S2.2.1 18 i = S1.2.1 18 i := fun i => g1.2.1 18 i (by decide) (by decide)
    have q19 : ∀ i, S2.2.1 19 i = S1.2.1 19 i := fun i => g1.2.1 19 i (by decide) (by decide)
    refine mv_deep (d := d + 1) (by omega) (x_reach (V0 := V) (G := fun i => xLv S (aMap (K ++ Ks.flatten)) Ks.length mp i ∨ i ∈ hCs (S1.2.1 18) (S1.2.1 19) R c') (fun i hi => ?_) g2 g3 (hOk_imp (fun i hi => Or.inr hi) okR.1) (fun S3 V3 k1 k2 k3 k4 k5 k6 => ?_))
    · rw [q18, q19]
      rcases hi with hi | hi
      · obtain ⟨b1, b2, b3, b4⟩ := xLv_G h0 g i hi
        exact ⟨b1, b2, hOk_imp (fun i hi => Or.inl hi) b3, hOk_imp (fun i hi => Or.inl hi) b4⟩
      · obtain ⟨b1, b2, b3, b4⟩ := okR.2 i hi
        exact ⟨b1, b2, hOk_imp (fun i hi => Or.inr hi) b3, hOk_imp (fun i hi => Or.inr hi) b4⟩
    have v3 : V3.length ≤ V.length + m := by
      have q := nd_sub (W := V ++ (List.range m).map (fun p => (S.2.1 20 (fb - m + p)).toNatClampNeg)) k2.1 (fun i hi => ?_)
      · rw [List.length_append, List.length_map, List.length_range] at q; exact q
      · rw [List.mem_append]
        by_cases c : i ∈ V
        · exact Or.inl c
        · right
          have hi2 := (k5 i hi).resolve_left c
          have hi3 := hi2.resolve_left (fun z => c ((g4 i).mpr z))
          rcases xK_cell sg hR hRs hi3 with ⟨p, p1, p2⟩ | y
          · have nf := (xCl_cs hR i hi3).2.2
            have ge : fb - m ≤ p := by
              by_cases c2 : fb - m ≤ p
              · exact c2
              · exact absurd ⟨p, by omega, p2⟩ nf
            refine List.mem_map.mpr ⟨p - (fb - m), List.mem_range.mpr (by omega), ?_⟩
            show (S.2.1 20 (fb - m + (p - (fb - m)))).toNatClampNeg = i
            rw [show fb - m + (p - (fb - m)) = p by omega, p2]
            exact nI_clamp (by have := (xCl_cs hR i hi3).2.1; omega)
          · exact absurd ((g4 i).mpr y) c
    refine ws_aload_n rfl (rfl) rfl (ws_getr rfl rfl rfl (ws_iv rfl rfl rfl ?_))
    refine mv_deep (d := d + 1) (by omega) (x_giveBack k2 (fun S4 F b1 b2 b3 b4 => ?_))
    have fl := fl_len b3 k2.1 k2.2.1 b4
    have x4 : ∀ o f, ¬ (o = 3 ∧ (f = 8 ∨ f = 10 ∨ f = 11)) → S4.1 o f = S1.1 o f := fun o f a => by rw [b1.1 o f (by omega), k1.1 o f (by omega), g1.1 o f (by omega)]
    have y4 : ∀ o i, o ≠ 20 → o ≠ 21 → o ≠ 22 → S4.2.1 o i = S1.2.1 o i := fun o i a b c => by rw [b1.2.1 o i a, k1.2.1 o i b c, g1.2.1 o i b c]
    have fin : ∀ p, p < F.length → ∃ i, F[p]? = some i := fun p hp => ⟨F[p], List.getElem?_eq_getElem hp⟩
    refine mv_fuel (n := 30) (by omega) (xK_tail rfl ((x4 3 14 (by omega)).trans m14) ((x4 4 16 (by omega)).trans f16) (by omega) hmost ?_)
    have nin : ∀ i, i ∈ V3 → ¬ xIn (S4.2.1 20) F.length i := fun i hi z => by
      obtain ⟨p, p1, p2⟩ := z
      obtain ⟨j, j1⟩ := fin p p1
      have jm := (b4 j).mp (List.mem_of_getElem? j1)
      have := b2.2 p j j1
      rw [this] at p2
      have ib := k2.2.1 i hi
      have e := (nI_eq (by omega) (by omega)).mp p2
      exact jm.2.2 (by rw [e]; exact hi)
    have inR : ∀ i, i ∈ hCs (S1.2.1 18) (S1.2.1 19) R c' → i ∈ V3 := hCs_sub (W := fun i => i ∈ V3) (by decide) (fun i hi => by
      have := k3 i hi
      rw [k1.2.1 18 i (by decide) (by decide), k1.2.1 19 i (by decide) (by decide), q18, q19] at this
      exact this) (xCl_tr hR) k6
    have hp : xHp (mv_pf S4 4 16 (nI (max most m))) sd rm F.length (B + 1) := by
      refine ⟨?_, ?_, h3, ?_, by omega, by omega, fun p hp => ?_, fun p q hp hq e => ?_, r + 1, by omega, ?_, fun i i1 i2 => ?_⟩
      · rw [pf_get, if_neg (by omega)]; exact (x4 3 12 (by omega)).trans ((f3 12 (by omega)).trans h1)
      · rw [pf_get, if_neg (by omega)]; exact (x4 3 13 (by omega)).trans ((f3 13 (by omega)).trans h2)
      · rw [pf_get, if_neg (by omega)]; exact b2.1
      · obtain ⟨j, j1⟩ := fin p hp
        have jm := (b4 j).mp (List.mem_of_getElem? j1)
        exact ⟨j, jm.1, jm.2.1, b2.2 p j j1⟩
      · obtain ⟨j, j1⟩ := fin p hp
        obtain ⟨j2, j3⟩ := fin q hq
        have e : S4.2.1 20 p = S4.2.1 20 q := e
        rw [b2.2 p j j1, b2.2 q j2 j3] at e
        have jm := (b4 j).mp (List.mem_of_getElem? j1)
        have jm2 := (b4 j2).mp (List.mem_of_getElem? j3)
        have e := (nI_eq (by omega) (by omega)).mp e
        subst e
        exact (List.getElem?_inj hp b3).mp (by rw [j1, j3])
      · rw [pf_get, if_neg (by omega), b1.1 3 10 (by omega), k1.1 3 10 (by omega)]; exact g1.2.2.2.1
      · show ∃ a, a ≤ r + 1 ∧ S4.2.1 21 i = nI a
        rw [b1.2.1 21 i (by decide)]
        rcases k1.2.2.2 i with z | z
        · rw [z]; exact g1.2.2.2.2 i i1 i2
        · exact ⟨r + 1, Nat.le_refl _, z.trans g1.2.2.2.1⟩
    obtain ⟨q1, q2, q3⟩ := xK_keep (S' := mv_pf S4 4 16 (nI (max most m))) (fb' := F.length) (B' := B + 1) h0 g sg hst hR hRs hRo (fun o f a b c => by rw [pf_get, if_neg c]; exact x4 o f (by omega)) y4 (by show S4.2.2 = _; rw [b1.2.2, k1.2.2.1, g1.2.2.1]) hp (fun i hi => nin i (k4 i ((g4 i).mpr hi))) (fun i hi => nin i (inR i hi)) (by rw [pf_get, if_pos ⟨rfl, rfl⟩])
    exact hK fit _ _ q1 q2 q3
end XA

/-! THE CLASS'S STORE: put, without, union -/
def tSel {α : Type} : tT → α → α → α
  | .leaf, a, _ => a
  | .inner _ _ _ _ _, _, b => b
theorem tSel_l {α : Type} {T : tT} {a b : α} (h : T = .leaf) : tSel T a b = a := by rw [h]; rfl
theorem tSel_n {α : Type} : ∀ {T : tT} {a b : α}, ¬ T = .leaf → tSel T a b = b
  | .leaf, _, _, h => absurd rfl h
  | .inner _ _ _ _ _, _, _, _ => rfl
/-- without, also where the key isn't there -/
def tWt (R : Int32 → Int32) (s : Nat) (k : Int32) (T : tT) : tT := tSel (tFnd k T) T (tWo R s k T)
def tWtN (R : Int32 → Int32) (k : Int32) (T : tT) : Nat := tSel (tFnd k T) 0 (tWoN R k T)
theorem nI_m2 (n : Nat) : nI (n + 2) - 2 = nI n := by
  rw [show nI (n + 2) = nI n + 2 from (nI_add n 2).symm, Int32.add_sub_cancel]
section XA
variable {d : Nat} {P : Option Value → mv_S → Prop} {S0 S S1 S' : mv_S} {σ σ' : Nat → Nat} {sd : Int32} {rm fb fb' B B' st m : Nat} {rets : List Nat} {K : List aI} {Ks : List (List aI)} {vs : Nat → Int32} {mp : Nat → tT} {told : List Int32} {most : Nat} {T U : tT} {c' x y a b : Int32} {q q2 : Option Int32} {L : List (Nat × Int32)}
theorem xBM_cl (h : xA S0 S σ sd rm fb B rets K Ks vs mp told most) (sg : xSg S σ σ' fb st (aMap (K ++ Ks.flatten)) Ks.length mp) {T : tT} {c : Int32} (z : xRt S (aMap (K ++ Ks.flatten)) Ks.length mp T c) : xCl ((xBM S).2.1 20) fb xNo (xBM S) σ' sd T c := by
  show xCl (S.2.1 20) fb xNo (xBM S) σ' sd T c
  exact xCl_re (xA_cl h z) (fun i hi => ⟨(xCl_cs (xA_cl h z) i hi).2.2, sg.2.1 i ⟨T, c, z, hi⟩, fun o _ _ => rfl⟩)
theorem xA_sz (h : xA S0 S σ sd rm fb B rets K Ks vs mp told most) (hL : hNs (fun T => ∃ c, xRt S (aMap (K ++ Ks.flatten)) Ks.length mp T c) L) {T : tT} {c : Int32} (z : xRt S (aMap (K ++ Ks.flatten)) Ks.length mp T c) (ho : tOrd T) : tN T ≤ 400 := by
  obtain ⟨W, ndW, memW, _⟩ := xLv_list h
  obtain ⟨_, lvfb⟩ := xA_lv h hL ndW memW
  have q := nd_sub (tNd_nodup ho) (fun x hx => (hL.2 x).mpr ⟨T, ⟨c, z⟩, hx⟩)
  rw [tNd_len] at q
  have h3 := h.2.1.2.2.1
  have h5 := h.2.1.2.2.2.2.1
  omega
set_option maxHeartbeats 1000000 in
set_option maxRecDepth 8000 in
theorem x_ap22 (h : xA S0 S σ sd rm fb B rets (.inl b :: .inl a :: .inr (T, q) :: K) Ks vs mp told most) (hoT : tOrd T) (hst : ∀ T' c, xRt S (aMap ((.inl b :: .inl a :: .inr (T, q) :: K) ++ Ks.flatten)) Ks.length mp T' c → tSt (fun s => s < st) T') (hL : hNs (fun T' => ∃ c, xRt S (aMap ((.inl b :: .inl a :: .inr (T, q) :: K) ++ Ks.flatten)) Ks.length mp T' c) L) (hB : B + 5 < 2 ^ 31) (hmost : most ≤ 400) (hb : (aNum K).length ≤ 35) (hm : (aMap K).length ≤ 16)
    (hF : rm < L.length + (tPutN (xRank sd) a T) → ∀ S', xA S0 S' σ sd rm fb (B + 1) rets (.inl b :: .inl a :: .inr (T, q) :: K) Ks vs mp told most → P (some (.int 5)) S')
    (hK : L.length + (tPutN (xRank sd) a T) ≤ rm → ∀ S' σ' fb', xA S0 S' σ' sd rm fb' (B + 1) rets (.inr ((tPut (xRank sd) st a b T), none) :: K) Ks vs mp told (max most (tPutN (xRank sd) a T)) → P (some (.int 1)) S') : mv_big layX sysX (d + 6) 114 [.ref 4, .int 22, .int y] S P := by
  have chg : mv_big layX sysX (d + 5) 119 [.ref 4, .int 22] S (fun r S2 => ∃ x, r = some (.int x) ∧ P r S2) := by
    have h0 := h
    obtain ⟨σ', sg⟩ := xSg_ex st h0
    obtain ⟨bg, ms⟩ := xBM_bg h0
    obtain ⟨W, ndW, memW, _⟩ := xLv_list h0
    obtain ⟨_, lvfb⟩ := xA_lv h0 hL ndW memW
    have h3 := h.2.1.2.2.1
    have h5 := h.2.1.2.2.2.2.1
    have ln := xBs_len h.2.2.2.2.1.2.2
    have n24 := h.2.2.2.2.1.2.1
    obtain ⟨a1, a2, a3, a4, a5, a6, a7, a8, a9, a10⟩ := h
    have ltN : (aNum (K ++ Ks.flatten)).length < 840 := by rw [aNum_app, List.length_append]; omega
    have ltZ : (aMap (K ++ Ks.flatten)).length < 425 := by rw [aMap_app, List.length_append]; omega
    have e11 : S.1 4 11 = nI ((aNum (K ++ Ks.flatten)).length + 2) := a3.1
    have e12 : S.1 4 12 = nI ((aMap (K ++ Ks.flatten)).length + 1) := a4.1
    have nb : S.2.1 25 ((aNum (K ++ Ks.flatten)).length + 1) = b := a3.2.1
    have na : S.2.1 25 (aNum (K ++ Ks.flatten)).length = a := a3.2.2.1
    have zT : xRt S (aMap (.inl b :: .inl a :: .inr (T, q) :: K ++ Ks.flatten)) Ks.length mp T (S.2.1 26 (aMap (K ++ Ks.flatten)).length) := Or.inr (Or.inl ⟨rfl, rfl⟩)
    have nT := xA_sz h0 hL zT hoT
    have cT := xBM_cl h0 sg zT
    refine ⟨140, ?_⟩
    refine ws_aload_n rfl (rfl) rfl (ws_getr rfl rfl rfl (ws_aload_n rfl (rfl) rfl (ws_geti rfl rfl (e11) rfl (ws_iconst (x := 2) rfl rfl rfl (ws_isub rfl (nI_m2 _) rfl (ws_is rfl rfl rfl ?_))))))
    refine mv_deep (d := d + 1) (by omega) (x_at_25 ?_)
    rw [rAt_nI (by omega) (by decide), na]
    refine ws_istore_n rfl rfl rfl rfl (ws_aload_n rfl (rfl) rfl (ws_getr rfl rfl rfl (ws_aload_n rfl (rfl) rfl (ws_geti rfl rfl (e11) rfl (ws_iconst (x := 1) rfl rfl rfl (ws_isub rfl (nI_pred _) rfl (ws_is rfl rfl rfl ?_)))))))
    refine mv_deep (d := d + 1) (by omega) (x_at_25 ?_)
    rw [rAt_nI (by omega) (by decide), nb]
    refine ws_istore_n rfl rfl rfl rfl (ws_aload_n rfl (rfl) rfl (ws_getr rfl rfl rfl (ws_aload_n rfl (rfl) rfl (ws_geti rfl rfl (e12) rfl (ws_iconst (x := 2) rfl rfl rfl (ws_isub rfl (rfl) rfl (ws_is rfl rfl rfl ?_)))))))
    refine mv_deep (d := d + 1) (by omega) (x_at_26 ?_)
    refine ws_istore rfl rfl rfl rfl (ws_aload_n rfl (rfl) rfl (ws_getr rfl rfl rfl (ws_aload_n rfl (rfl) rfl (ws_geti rfl rfl (e12) rfl (ws_iconst (x := 1) rfl rfl rfl (ws_isub rfl (nI_pred _) rfl (ws_is rfl rfl rfl ?_)))))))
    refine mv_deep (d := d + 1) (by omega) (x_at_26 ?_)
    rw [rAt_nI (by omega) (by decide)]
    refine ws_istore rfl rfl rfl rfl (ws_aload_n rfl (rfl) rfl (ws_getr rfl rfl rfl (ws_iv rfl rfl rfl ?_)))
    refine mv_deep (d := d + 1) (by omega) (x_beginMaking ?_)
    rw [show mv_pf (mv_pf (mv_pf S 3 14 0) 3 15 0) 3 9 (S.1 3 8) = xBM S from rfl]
    refine ws_iload_n rfl (rfl) rfl (ws_lku (t := 92) rfl rfl (by decide) (ws_aload_n rfl (rfl) rfl (ws_getr rfl rfl rfl (ws_iload rfl (rfl) rfl (ws_iload_n rfl (rfl) rfl (ws_iload_n rfl (rfl) rfl (ws_iv rfl rfl rfl ?_)))))))
    refine mv_deep (d := d + 3) (by omega) (x_put bg sg.1 ms cT (fun z x S1 o1 => ?_) (fun z c1 S1 r1 => ?_))
    · refine ws_istore rfl rfl rfl rfl (ws_goto (t := 136) rfl (by decide) ?_)
      exact mv_fuel (n := 30) (by omega) (xH_over h0 (by show (aMap K).length + 1 ≤ 17; omega) rfl rfl o1 hB (fun S2 g2 => ⟨_, rfl, hF (by omega) S2 g2⟩))
    · refine ws_istore rfl rfl rfl rfl (ws_goto (t := 136) rfl (by decide) ?_)
      exact mv_fuel (n := 40) (by omega) (xH_made (K := K) (m := (tPutN (xRank sd) a T)) (R := (tPut (xRank sd) st a b T)) h0 (by show (aMap K).length + 1 ≤ 17; omega) (by omega) rfl rfl rfl (fun S2 σ2 fb2 B2 most2 Q g1 g2 => x_parts22 g1 hb (by omega) g2) (fun _ _ => trivial) ⟨[(T, q)], rfl⟩ r1.1 sg hst r1.2 (tSt_put (Or.inl rfl) (tSt_imp (fun s z => Or.inr z) (hst T _ zT))) (tOrd_put hoT) hL hB hmost (fun z S2 g2 => ⟨_, rfl, hF z S2 g2⟩) (fun z S2 σ2 fb2 g2 => ⟨_, rfl, hK z S2 σ2 fb2 g2⟩))
  refine ⟨40, ?_⟩
  refine ws_iload_n rfl (rfl) rfl (ws_iconst (x := 4) rfl rfl rfl (ws_i rfl ⟨fun z => absurd z (show ¬ (22 : Int32) < 4 by decide), fun _ => ?_⟩))
  refine ws_iload_n rfl (rfl) rfl (ws_bipush (x := 10) rfl rfl rfl (ws_i rfl ⟨fun _ => ?_, fun z => absurd (show (10 : Int32) < 22 by decide) z⟩))
  refine ws_iload_n rfl (rfl) rfl (ws_bipush (x := 22) rfl rfl rfl (ws_i rfl ⟨fun z => absurd z (show ¬ (22 : Int32) < 22 by decide), fun _ => ?_⟩))
  refine ws_iload_n rfl (rfl) rfl (ws_bipush (x := 24) rfl rfl rfl (ws_i rfl ⟨fun z => absurd z (show ¬ (24 : Int32) < 22 by decide), fun _ => ?_⟩))
  refine ws_aload_n rfl (rfl) rfl (ws_iload_n rfl (rfl) rfl (ws_iv rfl rfl rfl ?_))
  refine mv_big_mono _ _ (Nat.le_refl _) _ _ _ _ _ (fun r S1 z => ?_) chg
  obtain ⟨x, rfl, z⟩ := z
  refine ws_i rfl ?_
  exact z
set_option maxHeartbeats 1000000 in
set_option maxRecDepth 8000 in
theorem x_ap23 (h : xA S0 S σ sd rm fb B rets (.inl a :: .inr (T, q) :: K) Ks vs mp told most) (hoT : tOrd T) (hst : ∀ T' c, xRt S (aMap ((.inl a :: .inr (T, q) :: K) ++ Ks.flatten)) Ks.length mp T' c → tSt (fun s => s < st) T') (hL : hNs (fun T' => ∃ c, xRt S (aMap ((.inl a :: .inr (T, q) :: K) ++ Ks.flatten)) Ks.length mp T' c) L) (hB : B + 5 < 2 ^ 31) (hmost : most ≤ 400) (hb : (aNum K).length ≤ 35) (hm : (aMap K).length ≤ 16)
    (hF : rm < L.length + (tWtN (xRank sd) a T) → ∀ S', xA S0 S' σ sd rm fb (B + 1) rets (.inl a :: .inr (T, q) :: K) Ks vs mp told most → P (some (.int 5)) S')
    (hK : L.length + (tWtN (xRank sd) a T) ≤ rm → ∀ S' σ' fb', xA S0 S' σ' sd rm fb' (B + 1) rets (.inr ((tWt (xRank sd) st a T), none) :: K) Ks vs mp told (max most (tWtN (xRank sd) a T)) → P (some (.int 1)) S') : mv_big layX sysX (d + 6) 114 [.ref 4, .int 23, .int y] S P := by
  have chg : mv_big layX sysX (d + 5) 119 [.ref 4, .int 23] S (fun r S2 => ∃ x, r = some (.int x) ∧ P r S2) := by
    have h0 := h
    obtain ⟨σ', sg⟩ := xSg_ex st h0
    obtain ⟨bg, ms⟩ := xBM_bg h0
    obtain ⟨W, ndW, memW, _⟩ := xLv_list h0
    obtain ⟨_, lvfb⟩ := xA_lv h0 hL ndW memW
    have h3 := h.2.1.2.2.1
    have h5 := h.2.1.2.2.2.2.1
    have ln := xBs_len h.2.2.2.2.1.2.2
    have n24 := h.2.2.2.2.1.2.1
    obtain ⟨a1, a2, a3, a4, a5, a6, a7, a8, a9, a10⟩ := h
    have ltN : (aNum (K ++ Ks.flatten)).length < 840 := by rw [aNum_app, List.length_append]; omega
    have ltZ : (aMap (K ++ Ks.flatten)).length < 425 := by rw [aMap_app, List.length_append]; omega
    have e11 : S.1 4 11 = nI ((aNum (K ++ Ks.flatten)).length + 1) := a3.1
    have e12 : S.1 4 12 = nI ((aMap (K ++ Ks.flatten)).length + 1) := a4.1
    have na : S.2.1 25 (aNum (K ++ Ks.flatten)).length = a := a3.2.1
    have zT : xRt S (aMap (.inl a :: .inr (T, q) :: K ++ Ks.flatten)) Ks.length mp T (S.2.1 26 (aMap (K ++ Ks.flatten)).length) := Or.inr (Or.inl ⟨rfl, rfl⟩)
    have nT := xA_sz h0 hL zT hoT
    have cT := xBM_cl h0 sg zT
    refine ⟨140, ?_⟩
    refine ws_aload_n rfl (rfl) rfl (ws_getr rfl rfl rfl (ws_aload_n rfl (rfl) rfl (ws_geti rfl rfl (e11) rfl (ws_iconst (x := 2) rfl rfl rfl (ws_isub rfl (rfl) rfl (ws_is rfl rfl rfl ?_))))))
    refine mv_deep (d := d + 1) (by omega) (x_at_25 ?_)
    refine ws_istore_n rfl rfl rfl rfl (ws_aload_n rfl (rfl) rfl (ws_getr rfl rfl rfl (ws_aload_n rfl (rfl) rfl (ws_geti rfl rfl (e11) rfl (ws_iconst (x := 1) rfl rfl rfl (ws_isub rfl (nI_pred _) rfl (ws_is rfl rfl rfl ?_)))))))
    refine mv_deep (d := d + 1) (by omega) (x_at_25 ?_)
    rw [rAt_nI (by omega) (by decide), na]
    refine ws_istore_n rfl rfl rfl rfl (ws_aload_n rfl (rfl) rfl (ws_getr rfl rfl rfl (ws_aload_n rfl (rfl) rfl (ws_geti rfl rfl (e12) rfl (ws_iconst (x := 2) rfl rfl rfl (ws_isub rfl (rfl) rfl (ws_is rfl rfl rfl ?_)))))))
    refine mv_deep (d := d + 1) (by omega) (x_at_26 ?_)
    refine ws_istore rfl rfl rfl rfl (ws_aload_n rfl (rfl) rfl (ws_getr rfl rfl rfl (ws_aload_n rfl (rfl) rfl (ws_geti rfl rfl (e12) rfl (ws_iconst (x := 1) rfl rfl rfl (ws_isub rfl (nI_pred _) rfl (ws_is rfl rfl rfl ?_)))))))
    refine mv_deep (d := d + 1) (by omega) (x_at_26 ?_)
    rw [rAt_nI (by omega) (by decide)]
    refine ws_istore rfl rfl rfl rfl (ws_aload_n rfl (rfl) rfl (ws_getr rfl rfl rfl (ws_iv rfl rfl rfl ?_)))
    refine mv_deep (d := d + 1) (by omega) (x_beginMaking ?_)
    rw [show mv_pf (mv_pf (mv_pf S 3 14 0) 3 15 0) 3 9 (S.1 3 8) = xBM S from rfl]
    refine ws_iload_n rfl (rfl) rfl (ws_lku (t := 108) rfl rfl (by decide) (ws_aload_n rfl (rfl) rfl (ws_getr rfl rfl rfl (ws_iload rfl (rfl) rfl (ws_iload_n rfl (rfl) rfl (ws_iv rfl rfl rfl ?_))))))
    refine mv_deep (d := d + 3) (by omega) (x_without bg sg.1 ms cT (by omega) (fun z => ?_) (fun n z x S1 o1 => ?_) (fun n z c1 S1 r1 => ?_))
    · have eR : tWt (xRank sd) st a T = T := tSel_l z
      have eC : tWtN (xRank sd) a T = 0 := tSel_l z
      rw [eR, eC] at hK
      rw [eC] at hF
      refine ws_istore rfl rfl rfl rfl (ws_goto (t := 136) rfl (by decide) ?_)
      exact mv_fuel (n := 40) (by omega) (xH_made (K := K) (m := 0) (R := T) h0 (by show (aMap K).length + 1 ≤ 17; omega) (by omega) rfl rfl rfl (fun S2 σ2 fb2 B2 most2 Q g1 g2 => x_parts23 g1 hb (by omega) g2) (fun _ _ => trivial) ⟨[(T, q)], rfl⟩ ms sg hst cT (tSt_imp (fun s z => Or.inr z) (hst T _ zT)) hoT hL hB hmost (fun z S2 g2 => ⟨_, rfl, hF z S2 g2⟩) (fun z S2 σ2 fb2 g2 => ⟨_, rfl, hK z S2 σ2 fb2 g2⟩))
    · have eC : tWtN (xRank sd) a T = tWoN (xRank sd) a T := tSel_n n
      refine ws_istore rfl rfl rfl rfl (ws_goto (t := 136) rfl (by decide) ?_)
      exact mv_fuel (n := 30) (by omega) (xH_over h0 (by show (aMap K).length + 1 ≤ 17; omega) rfl rfl o1 hB (fun S2 g2 => ⟨_, rfl, hF (by rw [eC]; omega) S2 g2⟩))
    · have eR : tWt (xRank sd) st a T = tWo (xRank sd) st a T := tSel_n n
      have eC : tWtN (xRank sd) a T = tWoN (xRank sd) a T := tSel_n n
      rw [eR, eC] at hK
      rw [eC] at hF
      refine ws_istore rfl rfl rfl rfl (ws_goto (t := 136) rfl (by decide) ?_)
      exact mv_fuel (n := 40) (by omega) (xH_made (K := K) (m := tWoN (xRank sd) a T) (R := tWo (xRank sd) st a T) h0 (by show (aMap K).length + 1 ≤ 17; omega) (by omega) rfl rfl rfl (fun S2 σ2 fb2 B2 most2 Q g1 g2 => x_parts23 g1 hb (by omega) g2) (fun _ _ => trivial) ⟨[(T, q)], rfl⟩ r1.1 sg hst r1.2 (tSt_wo (Or.inl rfl) (tSt_imp (fun s z => Or.inr z) (hst T _ zT))) (tOrd_wo hoT) hL hB hmost (fun z S2 g2 => ⟨_, rfl, hF z S2 g2⟩) (fun z S2 σ2 fb2 g2 => ⟨_, rfl, hK z S2 σ2 fb2 g2⟩))
  refine ⟨40, ?_⟩
  refine ws_iload_n rfl (rfl) rfl (ws_iconst (x := 4) rfl rfl rfl (ws_i rfl ⟨fun z => absurd z (show ¬ (23 : Int32) < 4 by decide), fun _ => ?_⟩))
  refine ws_iload_n rfl (rfl) rfl (ws_bipush (x := 10) rfl rfl rfl (ws_i rfl ⟨fun _ => ?_, fun z => absurd (show (10 : Int32) < 23 by decide) z⟩))
  refine ws_iload_n rfl (rfl) rfl (ws_bipush (x := 22) rfl rfl rfl (ws_i rfl ⟨fun z => absurd z (show ¬ (23 : Int32) < 22 by decide), fun _ => ?_⟩))
  refine ws_iload_n rfl (rfl) rfl (ws_bipush (x := 24) rfl rfl rfl (ws_i rfl ⟨fun z => absurd z (show ¬ (24 : Int32) < 23 by decide), fun _ => ?_⟩))
  refine ws_aload_n rfl (rfl) rfl (ws_iload_n rfl (rfl) rfl (ws_iv rfl rfl rfl ?_))
  refine mv_big_mono _ _ (Nat.le_refl _) _ _ _ _ _ (fun r S1 z => ?_) chg
  obtain ⟨x, rfl, z⟩ := z
  refine ws_i rfl ?_
  exact z
set_option maxHeartbeats 1000000 in
set_option maxRecDepth 8000 in
theorem x_ap24 (h : xA S0 S σ sd rm fb B rets (.inr (U, q2) :: .inr (T, q) :: K) Ks vs mp told most) (hoT : tOrd T) (hoU : tOrd U) (hst : ∀ T' c, xRt S (aMap ((.inr (U, q2) :: .inr (T, q) :: K) ++ Ks.flatten)) Ks.length mp T' c → tSt (fun s => s < st) T') (hL : hNs (fun T' => ∃ c, xRt S (aMap ((.inr (U, q2) :: .inr (T, q) :: K) ++ Ks.flatten)) Ks.length mp T' c) L) (hB : B + 5 < 2 ^ 31) (hmost : most ≤ 400) (hb : (aNum K).length ≤ 35) (hm : (aMap K).length ≤ 15)
    (hF : rm < L.length + (tUnN (xRank sd) st 801 T U) → ∀ S', xA S0 S' σ sd rm fb (B + 1) rets (.inr (U, q2) :: .inr (T, q) :: K) Ks vs mp told most → P (some (.int 5)) S')
    (hK : L.length + (tUnN (xRank sd) st 801 T U) ≤ rm → ∀ S' σ' fb', xA S0 S' σ' sd rm fb' (B + 1) rets (.inr ((tUn (xRank sd) st 801 T U), none) :: K) Ks vs mp told (max most (tUnN (xRank sd) st 801 T U)) → P (some (.int 1)) S') : mv_big layX sysX (d + 6) 114 [.ref 4, .int 24, .int y] S P := by
  have chg : mv_big layX sysX (d + 5) 119 [.ref 4, .int 24] S (fun r S2 => ∃ x, r = some (.int x) ∧ P r S2) := by
    have h0 := h
    obtain ⟨σ', sg⟩ := xSg_ex st h0
    obtain ⟨bg, ms⟩ := xBM_bg h0
    obtain ⟨W, ndW, memW, _⟩ := xLv_list h0
    obtain ⟨_, lvfb⟩ := xA_lv h0 hL ndW memW
    have h3 := h.2.1.2.2.1
    have h5 := h.2.1.2.2.2.2.1
    have ln := xBs_len h.2.2.2.2.1.2.2
    have n24 := h.2.2.2.2.1.2.1
    obtain ⟨a1, a2, a3, a4, a5, a6, a7, a8, a9, a10⟩ := h
    have ltN : (aNum (K ++ Ks.flatten)).length < 840 := by rw [aNum_app, List.length_append]; omega
    have ltZ : (aMap (K ++ Ks.flatten)).length < 425 := by rw [aMap_app, List.length_append]; omega
    have ltZ2 : (aMap (K ++ Ks.flatten)).length < 424 := by rw [aMap_app, List.length_append]; omega
    have e12 : S.1 4 12 = nI ((aMap (K ++ Ks.flatten)).length + 2) := a4.1
    have zU : xRt S (aMap (.inr (U, q2) :: .inr (T, q) :: K ++ Ks.flatten)) Ks.length mp U (S.2.1 26 ((aMap (K ++ Ks.flatten)).length + 1)) := Or.inr (Or.inl ⟨rfl, rfl⟩)
    have zT : xRt S (aMap (.inr (U, q2) :: .inr (T, q) :: K ++ Ks.flatten)) Ks.length mp T (S.2.1 26 (aMap (K ++ Ks.flatten)).length) := Or.inr (Or.inr (Or.inl ⟨rfl, rfl⟩))
    have nU := xA_sz h0 hL zU hoU
    have cU := xBM_cl h0 sg zU
    have nT := xA_sz h0 hL zT hoT
    have cT := xBM_cl h0 sg zT
    refine ⟨140, ?_⟩
    refine ws_aload_n rfl (rfl) rfl (ws_getr rfl rfl rfl (ws_aload_n rfl (rfl) rfl (ws_geti rfl rfl (rfl) rfl (ws_iconst (x := 2) rfl rfl rfl (ws_isub rfl (rfl) rfl (ws_is rfl rfl rfl ?_))))))
    refine mv_deep (d := d + 1) (by omega) (x_at_25 ?_)
    refine ws_istore_n rfl rfl rfl rfl (ws_aload_n rfl (rfl) rfl (ws_getr rfl rfl rfl (ws_aload_n rfl (rfl) rfl (ws_geti rfl rfl (rfl) rfl (ws_iconst (x := 1) rfl rfl rfl (ws_isub rfl (rfl) rfl (ws_is rfl rfl rfl ?_)))))))
    refine mv_deep (d := d + 1) (by omega) (x_at_25 ?_)
    refine ws_istore_n rfl rfl rfl rfl (ws_aload_n rfl (rfl) rfl (ws_getr rfl rfl rfl (ws_aload_n rfl (rfl) rfl (ws_geti rfl rfl (e12) rfl (ws_iconst (x := 2) rfl rfl rfl (ws_isub rfl (nI_m2 _) rfl (ws_is rfl rfl rfl ?_)))))))
    refine mv_deep (d := d + 1) (by omega) (x_at_26 ?_)
    rw [rAt_nI (by omega) (by decide)]
    refine ws_istore rfl rfl rfl rfl (ws_aload_n rfl (rfl) rfl (ws_getr rfl rfl rfl (ws_aload_n rfl (rfl) rfl (ws_geti rfl rfl (e12) rfl (ws_iconst (x := 1) rfl rfl rfl (ws_isub rfl (nI_pred _) rfl (ws_is rfl rfl rfl ?_)))))))
    refine mv_deep (d := d + 1) (by omega) (x_at_26 ?_)
    rw [rAt_nI (by omega) (by decide)]
    refine ws_istore rfl rfl rfl rfl (ws_aload_n rfl (rfl) rfl (ws_getr rfl rfl rfl (ws_iv rfl rfl rfl ?_)))
    refine mv_deep (d := d + 1) (by omega) (x_beginMaking ?_)
    rw [show mv_pf (mv_pf (mv_pf S 3 14 0) 3 15 0) 3 9 (S.1 3 8) = xBM S from rfl]
    refine ws_iload_n rfl (rfl) rfl (ws_lku (t := 123) rfl rfl (by decide) (ws_aload_n rfl (rfl) rfl (ws_getr rfl rfl rfl (ws_iload rfl (rfl) rfl (ws_iload rfl (rfl) rfl (ws_iv rfl rfl rfl ?_))))))
    refine mv_deep (d := d + 3) (by omega) (x_union bg sg.1 ms cT cU (by omega) (fun z x S1 o1 => ?_) (fun z c1 S1 r1 => ?_))
    · refine ws_istore rfl rfl rfl rfl ?_
      exact mv_fuel (n := 30) (by omega) (xH_over h0 (by show (aMap K).length + 2 ≤ 17; omega) rfl rfl o1 hB (fun S2 g2 => ⟨_, rfl, hF (by omega) S2 g2⟩))
    · refine ws_istore rfl rfl rfl rfl ?_
      exact mv_fuel (n := 40) (by omega) (xH_made (K := K) (m := (tUnN (xRank sd) st 801 T U)) (R := (tUn (xRank sd) st 801 T U)) h0 (by show (aMap K).length + 2 ≤ 17; omega) (by omega) rfl rfl rfl (fun S2 σ2 fb2 B2 most2 Q g1 g2 => x_parts24 g1 hb (by omega) g2) (fun _ _ => trivial) ⟨[(U, q2), (T, q)], rfl⟩ r1.1 sg hst r1.2 (tSt_un (Or.inl rfl) 801 (tSt_imp (fun s z => Or.inr z) (hst T _ zT)) (tSt_imp (fun s z => Or.inr z) (hst U _ zU))) (tOrd_un 801 hoT hoU) hL hB hmost (fun z S2 g2 => ⟨_, rfl, hF z S2 g2⟩) (fun z S2 σ2 fb2 g2 => ⟨_, rfl, hK z S2 σ2 fb2 g2⟩))
  refine ⟨40, ?_⟩
  refine ws_iload_n rfl (rfl) rfl (ws_iconst (x := 4) rfl rfl rfl (ws_i rfl ⟨fun z => absurd z (show ¬ (24 : Int32) < 4 by decide), fun _ => ?_⟩))
  refine ws_iload_n rfl (rfl) rfl (ws_bipush (x := 10) rfl rfl rfl (ws_i rfl ⟨fun _ => ?_, fun z => absurd (show (10 : Int32) < 24 by decide) z⟩))
  refine ws_iload_n rfl (rfl) rfl (ws_bipush (x := 22) rfl rfl rfl (ws_i rfl ⟨fun z => absurd z (show ¬ (24 : Int32) < 22 by decide), fun _ => ?_⟩))
  refine ws_iload_n rfl (rfl) rfl (ws_bipush (x := 24) rfl rfl rfl (ws_i rfl ⟨fun z => absurd z (show ¬ (24 : Int32) < 24 by decide), fun _ => ?_⟩))
  refine ws_aload_n rfl (rfl) rfl (ws_iload_n rfl (rfl) rfl (ws_iv rfl rfl rfl ?_))
  refine mv_big_mono _ _ (Nat.le_refl _) _ _ _ _ _ (fun r S1 z => ?_) chg
  obtain ⟨x, rfl, z⟩ := z
  refine ws_i rfl ?_
  exact z
end XA

/-! THE CLASS'S STORE: words that make a map -/
theorem xZr_pre {S : mv_S} {T : tT} {c : Int32} : ∀ {D Z : List (tT × Option Int32)}, xZr S Z T c → xZr S (D ++ Z) T c
  | [], _, h => h
  | _ :: _, _, h => Or.inr (xZr_pre h)
section XA
variable {d : Nat} {P : Option Value → mv_S → Prop} {S0 S S1 S' : mv_S} {σ σ' : Nat → Nat} {sd : Int32} {rm fb fb' B B' st m : Nat} {rets : List Nat} {K : List aI} {Ks : List (List aI)} {vs : Nat → Int32} {mp : Nat → tT} {told : List Int32} {most : Nat} {R T : tT} {c' x y a b : Int32} {q q2 : Option Int32} {L : List (Nat × Int32)}
theorem x_popE (h : xA S0 S σ sd rm fb B rets (.inl x :: K) Ks vs mp told most) (hb : (aNum K).length ≤ 40) (hP : ∀ S', S'.2 = S.2 → xA S0 S' σ sd rm fb B rets K Ks vs mp told most → P (some (.int x)) S') : mv_big layX sysX (d + 2) 107 [.ref 4] S P := by
  have ln := xBs_len h.2.2.2.2.1.2.2
  have n24 := h.2.2.2.2.1.2.1
  have e11 : S.1 4 11 = nI ((aNum (K ++ Ks.flatten)).length + 1) := h.2.2.1.1
  have ns : S.2.1 25 (aNum (K ++ Ks.flatten)).length = x ∧ xNs S (aNum (K ++ Ks.flatten)) := h.2.2.1.2
  have lt : (aNum (K ++ Ks.flatten)).length < 850 := by rw [aNum_app, List.length_append]; omega
  have eS : xPopS S = mv_pf S 4 11 (nI (aNum (K ++ Ks.flatten)).length) := by
    unfold xPopS
    rw [e11, if_pos (by rw [← nI_0]; exact nI_lt (by omega) (by omega)), nI_pred]
  have eV : xPopV S = x := by
    unfold xPopV
    rw [eS, pf_get, if_pos ⟨rfl, rfl⟩, rAt_nI lt (by decide)]; exact ns.1
  refine x_pop ?_
  rw [eV, eS]
  exact hP _ rfl (xA_num (K' := K) h rfl (fun o f a => by rw [pf_get, if_neg a]) (fun o i a => rfl) rfl (by rw [pf_get, if_pos ⟨rfl, rfl⟩]) (xNs_go (S := S) (fun p hp => rfl) ns.2))
theorem x_popMapE (h : xA S0 S σ sd rm fb B rets (.inr (T, q) :: K) Ks vs mp told most) (hb : (aMap K).length ≤ 16) (hP : ∀ S' c, S'.2 = S.2 → xA S0 S' σ sd rm fb B rets K Ks vs mp told most → P (some (.int c)) S') : mv_big layX sysX (d + 2) 109 [.ref 4] S P := by
  obtain ⟨e1, e2, _⟩ := x_popMapR h hb
  refine x_popMap ?_
  rw [e1, e2]
  exact hP _ _ rfl (xA_popM h)
theorem x_pushMapE {c : Int32} (h : xA S0 S σ sd rm fb B rets K Ks vs mp told most) (hb : (aMap K).length ≤ 16) (hc : xCl (S.2.1 20) fb xNo S σ sd T c) (hI : hInj (S.2.1 15) (S.2.1 18) (S.2.1 19) σ (fun T' c' => xRt S (aMap (K ++ Ks.flatten)) Ks.length mp T' c' ∨ (T' = T ∧ c' = c))) (hP : ∀ S', xA S0 S' σ sd rm fb B rets (.inr (T, none) :: K) Ks vs mp told most → P none S') : mv_big layX sysX (d + 2) 108 [.ref 4, .int c] S P := by
  have ln := xBs_len h.2.2.2.2.1.2.2
  have n24 := h.2.2.2.2.1.2.1
  have e12 := h.2.2.2.1.1
  have lt : (aMap (K ++ Ks.flatten)).length < 425 := by rw [aMap_app, List.length_append]; omega
  refine x_pushMap ?_
  unfold xPushM
  rw [e12, if_pos (show nI _ < (425 : Int32) from nI_lt (b := 425) lt (by decide)), sR_nI lt (by decide), sL_nI lt (by decide), nI_1]
  obtain ⟨n, hn⟩ : ∃ n, n = (aMap (K ++ Ks.flatten)).length := ⟨_, rfl⟩
  obtain ⟨S', hS⟩ : ∃ S', S' = mv_pf (mv_pl (mv_pr S 26 n c) 27 n (-2147483648)) 4 12 (nI (n + 1)) := ⟨_, rfl⟩
  rw [← hn, ← hS]
  have f' : ∀ o f, S'.1 o f = if o = 4 ∧ f = 12 then nI (n + 1) else S.1 o f := fun o f => by rw [hS, pf_get]; rfl
  have r' : ∀ o i, S'.2.1 o i = if o = 26 ∧ i = n then c else S.2.1 o i := fun o i => by
    rw [hS]
    show (mv_pr S 26 n c).2.1 o i = _
    rw [pr_get]
  have l' : ∀ o i, S'.2.2 o i = if o = 27 ∧ i = n then -2147483648 else S.2.2 o i := fun o i => by
    rw [hS]
    show (mv_pl (mv_pr S 26 n c) 27 n (-2147483648)).2.2 o i = _
    rw [pl_get]
    rfl
  have f : ∀ o f, ¬ (o = 4 ∧ f = 12) → S'.1 o f = S.1 o f := fun o f a => by rw [f', if_neg a]
  have r : ∀ o i, o ≠ 26 → S'.2.1 o i = S.2.1 o i := fun o i a => by rw [r', if_neg (fun z => a z.1)]
  have hs : xHs S S' := ⟨fun g => f 3 g (by omega), fun o i _ _ => r o i (by omega)⟩
  obtain ⟨a1, a2, a3, a4, a5, a6, a7, a8, a9, a10⟩ := h
  have e15 : S'.2.1 15 = S.2.1 15 := funext (fun i => hs.2 15 i (by decide) (by decide))
  have e18 : S'.2.1 18 = S.2.1 18 := funext (fun i => hs.2 18 i (by decide) (by decide))
  have e19 : S'.2.1 19 = S.2.1 19 := funext (fun i => hs.2 19 i (by decide) (by decide))
  have rt : ∀ T' c2, xRt S' ((T, none) :: aMap (K ++ Ks.flatten)) Ks.length mp T' c2 → xRt S (aMap (K ++ Ks.flatten)) Ks.length mp T' c2 ∨ (T' = T ∧ c2 = c) := fun T' c2 z => by
    rcases z with ⟨i, i1, i2, i3⟩ | ⟨z1, z2⟩ | z
    · exact Or.inl (Or.inl ⟨i, i1, i2, by rw [i3]; exact r 24 i (by decide)⟩)
    · rw [r', if_pos ⟨rfl, hn.symm⟩] at z2
      exact Or.inr ⟨z1, z2⟩
    · exact Or.inl (Or.inr (xZr_go (fun p hp => by rw [r', if_neg (by omega)]) z))
  refine hP S' ⟨xO_trans a1 ⟨fun o g a b c => f o g (by omega), f 4 15 (by omega), fun o i _ => r o i (by omega)⟩, xHp_go hs a2, ⟨(f 4 11 (by omega)).trans a3.1, xNs_go (fun p _ => r 25 p (by decide)) a3.2⟩, ⟨?_, ⟨?_, ?_⟩, ?_⟩, ⟨(f 4 13 (by omega)).trans a5.1, a5.2.1, xBs_go (fun o i _ _ => r o i (by omega)) a5.2.2⟩, fun i hi => (r 23 i (by decide)).trans (a6 i hi), fun i hi => by rw [r 24 i (by decide)]; exact xCl_hs hs (a7 i hi), ⟨(f 4 14 (by omega)).trans a8.1, a8.2.1, fun p x hp => (r 31 p (by decide)).trans (a8.2.2 p x hp)⟩, (f 4 16 (by omega)).trans a9, ?_⟩
  · rw [f', if_pos ⟨rfl, rfl⟩, hn]; rfl
  · show xCl _ _ _ _ _ _ T (S'.2.1 26 (aMap (K ++ Ks.flatten)).length)
    rw [r', if_pos ⟨rfl, hn.symm⟩]; exact xCl_hs hs hc
  · show S'.2.2 27 (aMap (K ++ Ks.flatten)).length = _
    rw [l', if_pos ⟨rfl, hn.symm⟩]; rfl
  · exact xZs_go hs (fun p hp => by
      have hp : p < (aMap (K ++ Ks.flatten)).length := hp
      exact ⟨by rw [r', if_neg (by omega)], by rw [l', if_neg (by omega)]⟩) a4.2
  · rw [e15, e18, e19]
    exact fun T1 c1 T2 c2 i j t1 t2 => hI T1 c1 T2 c2 i j (rt T1 c1 t1) (rt T2 c2 t2)
set_option maxHeartbeats 1000000 in
set_option maxRecDepth 8000 in
theorem x_parts22 (h : xA S0 S σ sd rm fb B rets (.inl b :: .inl a :: .inr (T, q) :: K) Ks vs mp told most) (hb : (aNum K).length ≤ 35) (hm : (aMap K).length ≤ 16) (hP : ∀ S2, S2.2 = S.2 → xA S0 S2 σ sd rm fb B rets K Ks vs mp told most → P none S2) : mv_big layX sysX (d + 4) 120 [.ref 4, .int 22] S P := by
  refine ⟨40, ?_⟩
  refine ws_aload_n rfl (rfl) rfl (ws_iv rfl rfl rfl ?_)
  refine mv_deep (d := d + 2) (by omega) (x_popMapE (K := .inl b :: .inl a :: K) h (by show (aMap K).length ≤ 16; omega) (fun S1 c e1 h1 => ?_))
  refine ws_pop rfl rfl (ws_iload_n rfl (rfl) rfl (ws_lku (t := 32) rfl rfl (by decide) (ws_aload_n rfl (rfl) rfl (ws_iv rfl rfl rfl ?_))))
  refine mv_deep (d := d + 2) (by omega) (x_popE h1 (by show (aNum K).length + 1 ≤ 40; omega) (fun S2 e2 h2 => ?_))
  refine ws_pop rfl rfl (ws_aload_n rfl (rfl) rfl (ws_iv rfl rfl rfl ?_))
  refine mv_deep (d := d + 2) (by omega) (x_popE h2 (by omega) (fun S3 e3 h3 => ?_))
  refine ws_pop rfl rfl (ws_goto (t := 58) rfl (by decide) (ws_i rfl ?_))
  exact hP S3 (e3.trans (e2.trans e1)) h3
set_option maxHeartbeats 1000000 in
set_option maxRecDepth 8000 in
theorem x_parts23 (h : xA S0 S σ sd rm fb B rets (.inl a :: .inr (T, q) :: K) Ks vs mp told most) (hb : (aNum K).length ≤ 35) (hm : (aMap K).length ≤ 16) (hP : ∀ S2, S2.2 = S.2 → xA S0 S2 σ sd rm fb B rets K Ks vs mp told most → P none S2) : mv_big layX sysX (d + 4) 120 [.ref 4, .int 23] S P := by
  refine ⟨40, ?_⟩
  refine ws_aload_n rfl (rfl) rfl (ws_iv rfl rfl rfl ?_)
  refine mv_deep (d := d + 2) (by omega) (x_popMapE (K := .inl a :: K) h (by show (aMap K).length ≤ 16; omega) (fun S1 c e1 h1 => ?_))
  refine ws_pop rfl rfl (ws_iload_n rfl (rfl) rfl (ws_lku (t := 45) rfl rfl (by decide) (ws_aload_n rfl (rfl) rfl (ws_iv rfl rfl rfl ?_))))
  refine mv_deep (d := d + 2) (by omega) (x_popE h1 (by omega) (fun S2 e2 h2 => ?_))
  refine ws_pop rfl rfl (ws_goto (t := 58) rfl (by decide) (ws_i rfl ?_))
  exact hP S2 (e2.trans e1) h2
set_option maxHeartbeats 1000000 in
set_option maxRecDepth 8000 in
theorem x_parts24 (h : xA S0 S σ sd rm fb B rets (.inr (T, q) :: .inr (R, q2) :: K) Ks vs mp told most) (hb : (aNum K).length ≤ 35) (hm : (aMap K).length ≤ 15) (hP : ∀ S2, S2.2 = S.2 → xA S0 S2 σ sd rm fb B rets K Ks vs mp told most → P none S2) : mv_big layX sysX (d + 4) 120 [.ref 4, .int 24] S P := by
  refine ⟨40, ?_⟩
  refine ws_aload_n rfl (rfl) rfl (ws_iv rfl rfl rfl ?_)
  refine mv_deep (d := d + 2) (by omega) (x_popMapE h (by show (aMap K).length + 1 ≤ 16; omega) (fun S1 c e1 h1 => ?_))
  refine ws_pop rfl rfl (ws_iload_n rfl (rfl) rfl (ws_lku (t := 53) rfl rfl (by decide) (ws_aload_n rfl (rfl) rfl (ws_iv rfl rfl rfl ?_))))
  refine mv_deep (d := d + 2) (by omega) (x_popMapE h1 (by omega) (fun S2 c2 e2 h2 => ?_))
  refine ws_pop rfl rfl (ws_i rfl ?_)
  exact hP S2 (e2.trans e1) h2
abbrev xHw (P : Option Value → mv_S → Prop) (d F pc : Nat) (l : List (Nat × Value)) (st : List Value) (S : mv_S) : Prop := mv_wp layX sysX tT5 7 (some .int) mX5_changeMap.2.2.2.2.2.2.2 (mv_big layX sysX (d + 4)) P F pc l st S
variable {Ko : List aI} {wd : Int32} {l : List (Nat × Value)}
set_option maxHeartbeats 1000000 in
set_option maxRecDepth 8000 in
theorem xH_over (h : xA S0 S σ sd rm fb B rets Ko Ks vs mp told most) (hk : (aMap Ko).length ≤ 17) (l0 : mv_at 0 l = some (.ref 4)) (l6 : mv_at 6 l = some (.int c')) (ho : xOv (xBM S) S1 rm fb) (hB : B + 5 < 2 ^ 31) (hF : ∀ S', xA S0 S' σ sd rm fb (B + 1) rets Ko Ks vs mp told most → P (some (.int 5)) S') : xHw P d 30 136 l [] S1 := by
  refine ws_aload_n rfl (l0) rfl (ws_iload rfl (l6) rfl (ws_iv rfl rfl rfl ?_))
  refine mv_deep (d := d + 3) (by omega) (x_keepO h hk ho hB (fun S2 h2 => ?_))
  refine ws_i rfl ⟨fun z => absurd rfl z, fun _ => ?_⟩
  refine ws_iconst (x := 5) rfl rfl rfl (ws_i rfl ?_)
  exact hF S2 h2
set_option maxHeartbeats 1000000 in
set_option maxRecDepth 8000 in
theorem xH_made (h : xA S0 S σ sd rm fb B rets Ko Ks vs mp told most) (hk : (aMap Ko).length ≤ 17) (hm : (aMap K).length ≤ 16) (l0 : mv_at 0 l = some (.ref 4)) (l1 : mv_at 1 l = some (.int wd)) (l6 : mv_at 6 l = some (.int c'))
    (tp : ∀ (S2 : mv_S) (σ2 : Nat → Nat) (fb2 B2 most2 : Nat) (Q : Option Value → mv_S → Prop), xA S0 S2 σ2 sd rm fb2 B2 rets Ko Ks vs mp told most2 → (∀ S3, S3.2 = S2.2 → xA S0 S3 σ2 sd rm fb2 B2 rets K Ks vs mp told most2 → Q none S3) → mv_big layX sysX (d + 4) 120 [.ref 4, .int wd] S2 Q)
    (sub : ∀ t, t ∈ aMap (K ++ Ks.flatten) → True) (pre : ∃ D, aMap (Ko ++ Ks.flatten) = D ++ aMap (K ++ Ks.flatten))
    (hM : xMs (xBM S) S1 rm fb m) (sg : xSg S σ σ' fb st (aMap (Ko ++ Ks.flatten)) Ks.length mp) (hst : ∀ T c, xRt S (aMap (Ko ++ Ks.flatten)) Ks.length mp T c → tSt (fun s => s < st) T) (hR : xCl (S.2.1 20) (fb - m) xNo S1 σ' sd R c') (hRs : tSt (fun s => s = st ∨ s < st) R) (hRo : tOrd R) (hL : hNs (fun T => ∃ c, xRt S (aMap (Ko ++ Ks.flatten)) Ks.length mp T c) L) (hB : B + 5 < 2 ^ 31) (hmost : most ≤ 400)
    (hF : rm < L.length + m → ∀ S', xA S0 S' σ sd rm fb (B + 1) rets Ko Ks vs mp told most → P (some (.int 5)) S')
    (hK : L.length + m ≤ rm → ∀ S' σ' fb', xA S0 S' σ' sd rm fb' (B + 1) rets (.inr (R, none) :: K) Ks vs mp told (max most m) → P (some (.int 1)) S') : xHw P d 40 136 l [] S1 := by
  refine ws_aload_n rfl (l0) rfl (ws_iload rfl (l6) rfl (ws_iv rfl rfl rfl ?_))
  refine mv_deep (d := d + 3) (by omega) (x_keepM h hk hM sg hst hR hRs hRo hL hB hmost (fun z S2 h2 => ?_) (fun z S2 fb2 h2 hc hI => ?_))
  · refine ws_i rfl ⟨fun z => absurd rfl z, fun _ => ?_⟩
    refine ws_iconst (x := 5) rfl rfl rfl (ws_i rfl ?_)
    exact hF z S2 h2
  · refine ws_i rfl ⟨fun _ => ?_, fun z => absurd z (show ¬ (1 : Int32) = 0 by decide)⟩
    refine ws_aload_n rfl (l0) rfl (ws_iload_n rfl (l1) rfl (ws_iv rfl rfl rfl ?_))
    refine tp S2 σ' fb2 (B + 1) _ _ h2 (fun S3 e3 h3 => ?_)
    have r3 : ∀ o i, S3.2.1 o i = S2.2.1 o i := fun o i => by rw [e3]
    have hs : ∀ {T : tT} {c : Int32}, xCl (S2.2.1 20) fb2 xNo S2 σ' sd T c → xCl (S3.2.1 20) fb2 xNo S3 σ' sd T c := fun {T c} z => by
      rw [show S3.2.1 20 = S2.2.1 20 by rw [e3]]
      exact xCl_re z (fun i hi => ⟨(xCl_cs z i hi).2.2, rfl, fun o _ _ => r3 o i⟩)
    refine ws_aload_n rfl (l0) rfl (ws_iload rfl (l6) rfl (ws_iv rfl rfl rfl ?_))
    refine mv_deep (d := d + 2) (by omega) (x_pushMapE h3 hm (hs hc) ?_ (fun S4 h4 => ?_))
    · rw [show S3.2.1 15 = S2.2.1 15 by rw [e3], show S3.2.1 18 = S2.2.1 18 by rw [e3], show S3.2.1 19 = S2.2.1 19 by rw [e3]]
      have rt : ∀ T c, xRt S3 (aMap (K ++ Ks.flatten)) Ks.length mp T c → xRt S2 (aMap (Ko ++ Ks.flatten)) Ks.length mp T c := fun T c z => by
        obtain ⟨D, eD⟩ := pre
        rcases z with ⟨i, i1, i2, i3⟩ | z
        · exact Or.inl ⟨i, i1, i2, by rw [i3]; exact r3 24 i⟩
        · rw [eD]
          exact Or.inr (xZr_pre (xZr_go (fun p _ => r3 26 p) z))
      exact fun T c T' c2 i j t1 t2 => hI T c T' c2 i j (t1.elim (fun z => Or.inl (rt T c z)) Or.inr) (t2.elim (fun z => Or.inl (rt T' c2 z)) Or.inr)
    · skip
      refine ws_iconst (x := 1) rfl rfl rfl (ws_i rfl ?_)
      exact hK z S4 _ _ h4
end XA

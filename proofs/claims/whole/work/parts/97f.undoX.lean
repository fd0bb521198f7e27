/-! THE CLASS KEEPS WHAT IT MADE, or undoes it -/
def xBM (S : mv_S) : mv_S := mv_pf (mv_pf (mv_pf S 3 14 0) 3 15 0) 3 9 (S.1 3 8)
theorem xBM_f (S : mv_S) (o f : Nat) : (xBM S).1 o f = if o = 3 ∧ f = 9 then S.1 3 8 else if o = 3 ∧ f = 15 then 0 else if o = 3 ∧ f = 14 then 0 else S.1 o f := by
  unfold xBM
  rw [pf_get, pf_get, pf_get]
theorem nI_subN {a b : Nat} (h : b ≤ a) (ha : a < 2 ^ 31) : nI a - nI b = nI (a - b) := by
  apply Int32.toInt_inj.mp
  rw [Int32.toInt_sub, nI_toInt ha, nI_toInt (by omega), nI_toInt (by omega)]
  rw [Int.bmod_eq_of_le (by omega) (by omega)]
  omega
theorem nI_addN {a b : Nat} (h : a + b < 2 ^ 31) : nI a + nI b = nI (a + b) := by
  apply Int32.toInt_inj.mp
  rw [Int32.toInt_add, nI_toInt (by omega), nI_toInt (by omega), nI_toInt h]
  rw [Int.bmod_eq_of_le (by omega) (by omega)]
  omega
section XA
variable {d : Nat} {P : Option Value → mv_S → Prop} {S0 S S1 S' : mv_S} {σ σ' : Nat → Nat} {sd : Int32} {rm fb B st m : Nat} {rets : List Nat} {K : List aI} {Ks : List (List aI)} {vs : Nat → Int32} {mp : Nat → tT} {told : List Int32} {most : Nat} {R : tT} {c' : Int32} {L : List (Nat × Int32)}
theorem xBM_bg (h : xA S0 S σ sd rm fb B rets K Ks vs mp told most) : xBg (xBM S) sd rm fb ∧ xMs (xBM S) (xBM S) rm fb 0 := by
  obtain ⟨h1, h2, h3, h4, h5, h6, h7, h8, r, h9, h10⟩ := h.2.1
  refine ⟨⟨?_, ?_, h3, by omega, h6, h7, h8⟩, ⟨fun _ _ _ _ => rfl, fun _ _ _ _ => rfl, rfl, fun _ _ _ _ _ _ => rfl⟩, ?_, ?_, ?_, by omega⟩
  · rw [xBM_f, if_neg (by omega), if_neg (by omega), if_neg (by omega)]; exact h1
  · rw [xBM_f, if_neg (by omega), if_neg (by omega), if_neg (by omega)]; exact h2
  · rw [xBM_f, if_neg (by omega), if_neg (by omega), if_neg (by omega)]; exact h4
  · rw [xBM_f, if_neg (by omega), if_neg (by omega), if_pos ⟨rfl, rfl⟩]; rfl
  · rw [xBM_f, if_neg (by omega), if_pos ⟨rfl, rfl⟩]
/-- steps for the cells: the live as they were, the free the new one, others none that is held -/
def xSg (S : mv_S) (σ σ' : Nat → Nat) (fb st : Nat) (Z : List (tT × Option Int32)) (n : Nat) (mp : Nat → tT) : Prop := (∀ i, xIn (S.2.1 20) fb i → σ' i = st) ∧ (∀ i, xLv S Z n mp i → σ' i = σ i) ∧ (∀ i, ¬ xIn (S.2.1 20) fb i → ¬ xLv S Z n mp i → σ' i = st + 1)
theorem xSg_ex (st : Nat) (h : xA S0 S σ sd rm fb B rets K Ks vs mp told most) : ∃ σ', xSg S σ σ' fb st (aMap (K ++ Ks.flatten)) Ks.length mp := by
  classical
  refine ⟨fun i => if xIn (S.2.1 20) fb i then st else if xLv S (aMap (K ++ Ks.flatten)) Ks.length mp i then σ i else st + 1, fun i z => if_pos z, fun i z => ?_, fun i z y => ?_⟩
  · have z0 := z
    obtain ⟨T, c, h1, h2⟩ := z
    have q := xCl_cs (xA_cl h h1) i h2
    show (if xIn (S.2.1 20) fb i then st else if xLv S (aMap (K ++ Ks.flatten)) Ks.length mp i then σ i else st + 1) = _
    rw [if_neg q.2.2, if_pos z0]
  · show (if xIn (S.2.1 20) fb i then st else if xLv S (aMap (K ++ Ks.flatten)) Ks.length mp i then σ i else st + 1) = _
    rw [if_neg z, if_neg y]
/-- the live cells stay as they are while cells are made -/
theorem xLv_old (h : xA S0 S σ sd rm fb B rets K Ks vs mp told most) (g : xFmX (xBM S) S1 fb) {i : Nat} (hi : xLv S (aMap (K ++ Ks.flatten)) Ks.length mp i) : (1 ≤ i ∧ i ≤ 800 ∧ ¬ xIn (S.2.1 20) fb i) ∧ ∀ o, 15 ≤ o → o ≤ 19 → S1.2.1 o i = S.2.1 o i := by
  obtain ⟨T, c, h1, h2⟩ := hi
  have q := xCl_cs (xA_cl h h1) i h2
  exact ⟨q, fun o a b => g.2.2.2 o i a b q.2.1 q.2.2⟩
theorem xLv_ok (h : xA S0 S σ sd rm fb B rets K Ks vs mp told most) {T : tT} {c : Int32} (z : xRt S (aMap (K ++ Ks.flatten)) Ks.length mp T c) : hOk 800 (xLv S (aMap (K ++ Ks.flatten)) Ks.length mp) c := hOk_imp (fun i hi => ⟨T, c, z, hi⟩) (hCs_ok (by decide) (xCl_tr (xA_cl h z))).1
theorem xLv_G (h : xA S0 S σ sd rm fb B rets K Ks vs mp told most) (g : xFmX (xBM S) S1 fb) : ∀ i, xLv S (aMap (K ++ Ks.flatten)) Ks.length mp i → 1 ≤ i ∧ i ≤ 800 ∧ hOk 800 (xLv S (aMap (K ++ Ks.flatten)) Ks.length mp) (S1.2.1 18 i) ∧ hOk 800 (xLv S (aMap (K ++ Ks.flatten)) Ks.length mp) (S1.2.1 19 i) := fun i hi => by
  obtain ⟨⟨q1, q2, q3⟩, q4⟩ := xLv_old h g hi
  obtain ⟨T, c, h1, h2⟩ := hi
  obtain ⟨_, _, a, b⟩ := (hCs_ok (by decide) (xCl_tr (xA_cl h h1))).2 i h2
  rw [q4 18 (by decide) (by decide), q4 19 (by decide) (by decide)]
  exact ⟨q1, q2, hOk_imp (fun i hi => ⟨T, c, h1, hi⟩) a, hOk_imp (fun i hi => ⟨T, c, h1, hi⟩) b⟩
theorem xZr_idx : ∀ {Z : List (tT × Option Int32)} {p : Nat}, p < Z.length → ∃ T, xZr S Z T (S.2.1 26 p)
  | [], p, h => absurd h (by simp)
  | (T, o) :: R, p, h => by
    by_cases c : p = R.length
    · exact ⟨T, Or.inl ⟨rfl, by rw [c]⟩⟩
    · obtain ⟨T', z⟩ := xZr_idx (Z := R) (p := p) (by simp only [List.length_cons] at h; omega)
      exact ⟨T', Or.inr z⟩
theorem xZr_hok {V : Int32 → Prop} : ∀ {Z : List (tT × Option Int32)} {T : tT} {c : Int32}, xZr S Z T c → ∃ p, p < Z.length ∧ c = S.2.1 26 p
  | (T, o) :: R, _, _, h => h.elim (fun z => ⟨R.length, by simp, z.2⟩) (fun z => by
    obtain ⟨p, p1, p2⟩ := xZr_hok (V := V) z
    exact ⟨p, by simp only [List.length_cons]; omega, p2⟩)
set_option maxHeartbeats 1000000 in
set_option maxRecDepth 8000 in
theorem xK_reach (h : xA S0 S σ sd rm fb B rets K Ks vs mp told most) (hk : (aMap K).length ≤ 17) (g : xFmX (xBM S) S1 fb) (hB : B + 5 < 2 ^ 31) (hP : ∀ S2 V r, r ≤ B → xRg S1 S2 r → xMd S2 V → xCd S2 V → (∀ i, i ∈ V ↔ xLv S (aMap (K ++ Ks.flatten)) Ks.length mp i) → P none S2) : mv_big layX sysX (d + 2) 123 [.ref 4] S1 P := by
  have h0 := h
  obtain ⟨a1, a2, a3, a4, a5, a6, a7, a8, a9, a10⟩ := h
  obtain ⟨h1, h2, h3, h4, h5, h6, h7, h8, r, h9, h10⟩ := a2
  have ff : ∀ f, S1.1 4 f = S.1 4 f := fun f => by rw [g.1 4 f (by omega) (by omega), xBM_f, if_neg (by omega), if_neg (by omega), if_neg (by omega)]
  have rr : ∀ o i, 20 ≤ o → o ≤ 31 → S1.2.1 o i = S.2.1 o i := fun o i a b => g.2.1 o i (by omega) (by omega)
  have ro : xRo S1 r := ⟨by rw [g.1 3 10 (by omega) (by omega), xBM_f, if_neg (by omega), if_neg (by omega), if_neg (by omega)]; exact h10.1, fun i i1 i2 => by rw [rr 21 i (by decide) (by decide)]; exact h10.2 i i1 i2⟩
  have ln := xBs_len a5.2.2
  have zl : (aMap (K ++ Ks.flatten)).length ≤ 425 := by rw [aMap_app, List.length_append]; omega
  refine x_reachAll (G := xLv S (aMap (K ++ Ks.flatten)) Ks.length mp) (t := (aMap (K ++ Ks.flatten)).length) (cs := Ks.length) ro (by omega) (xLv_G h0 g) a5.2.1 zl ((ff 13).trans a5.1) ((ff 12).trans a4.1) (fun p hp => ?_) (fun p hp => ?_) (fun S2 V g1 g2 g3 g4 g5 => hP S2 V r h9 g1 g2 g3 (fun i => ⟨g4 i, fun hi => ?_⟩))
  · rw [rr 24 p (by decide) (by decide)]; exact xLv_ok h0 (Or.inl ⟨p, hp, rfl, rfl⟩)
  · rw [rr 26 p (by decide) (by decide)]
    obtain ⟨T, z⟩ := xZr_idx (S := S) hp
    exact xLv_ok h0 (Or.inr z)
  · obtain ⟨T, c, t1, t2⟩ := hi
    have cl1 : xTr S1 σ T c := by
      refine xCl_tr (sd := sd) (fr := S.2.1 20) (fc := fb) (H := xNo) (xCl_re (xA_cl h0 t1) (fun j hj => ?_))
      obtain ⟨⟨q1, q2, q3⟩, q4⟩ := xLv_old h0 g ⟨T, c, t1, hj⟩
      exact ⟨q3, rfl, q4⟩
    have cs1 : hCs (S1.2.1 18) (S1.2.1 19) T c = hCs (S.2.1 18) (S.2.1 19) T c := xCs_re (xA_cl h0 t1) (fun j hj => by
      obtain ⟨_, q4⟩ := xLv_old h0 g ⟨T, c, t1, hj⟩
      exact ⟨q4 18 (by decide) (by decide), q4 19 (by decide) (by decide)⟩)
    rw [← cs1] at t2
    refine hCs_sub (W := fun i => i ∈ V) (by decide) (fun j hj => ?_) cl1 (g5 c ?_) i t2
    · have := g3 j hj
      rw [g1.2.1 18 j (by decide) (by decide), g1.2.1 19 j (by decide) (by decide)] at this
      exact this
    · rcases t1 with ⟨p, p1, p2, p3⟩ | z
      · exact Or.inl ⟨p, p1, by rw [rr 24 p (by decide) (by decide)]; exact p3⟩
      · obtain ⟨p, p1, p2⟩ := xZr_hok (V := fun _ => True) z
        exact Or.inr ⟨p, p1, by rw [rr 26 p (by decide) (by decide)]; exact p2⟩
/-- nothing is kept: all is as before -/
theorem xK_undo {S3 : mv_S} {r : Nat} (h : xA S0 S σ sd rm fb B rets K Ks vs mp told most) (g : xFmX (xBM S) S1 fb) (g1 : xRg S1 S' r) (hr : r ≤ B) (e3 : S3 = mv_pf S' 3 8 (S'.1 3 9)) : xA S0 S3 σ sd rm fb (B + 1) rets K Ks vs mp told most := by
  have h0 := h
  obtain ⟨a1, a2, a3, a4, a5, a6, a7, a8, a9, a10⟩ := h
  obtain ⟨h1, h2, h3, h4, h5, h6, h7, h8, r', h9, h10⟩ := a2
  have f1 : ∀ o f, o ≠ 3 → o ≠ 5 → S3.1 o f = S.1 o f := fun o f a b => by rw [e3, pf_get, if_neg (by omega), g1.1 o f (by omega), g.1 o f (by omega) (by omega), xBM_f, if_neg (by omega), if_neg (by omega), if_neg (by omega)]
  have f3 : ∀ f, f = 12 ∨ f = 13 → S3.1 3 f = S.1 3 f := fun f a => by rw [e3, pf_get, if_neg (by omega), g1.1 3 f (by omega), g.1 3 f (by omega) (by omega), xBM_f, if_neg (by omega), if_neg (by omega), if_neg (by omega)]
  have e8 : S3.1 3 8 = nI fb := by rw [e3, pf_get, if_pos ⟨rfl, rfl⟩, g1.1 3 9 (by omega), g.1 3 9 (by omega) (by omega), xBM_f, if_pos ⟨rfl, rfl⟩]; exact h4
  have rw1 : ∀ o i, o ≠ 21 → o ≠ 22 → S3.2.1 o i = S1.2.1 o i := fun o i a b => by rw [e3]; exact g1.2.1 o i a b
  have rw2 : ∀ o i, o ≠ 21 → o ≠ 22 → ¬ (15 ≤ o ∧ o ≤ 19) → ¬ (32 ≤ o ∧ o ≤ 34) → S3.2.1 o i = S.2.1 o i := fun o i a b c e => (rw1 o i a b).trans (g.2.1 o i c e)
  have e20 : S3.2.1 20 = S.2.1 20 := funext (fun i => rw2 20 i (by decide) (by decide) (by omega) (by omega))
  have old : ∀ T c, xRt S (aMap (K ++ Ks.flatten)) Ks.length mp T c → ∀ i, i ∈ hCs (S.2.1 18) (S.2.1 19) T c → ∀ o, 15 ≤ o → o ≤ 19 → S3.2.1 o i = S.2.1 o i := fun T c z i hi o a b => (rw1 o i (by omega) (by omega)).trans ((xLv_old h0 g ⟨T, c, z, hi⟩).2 o a b)
  refine xA_re (σ' := σ) (fb' := fb) h0 (fun o f a b c => f1 o f a b) (fun o i a b => rw2 o i (by omega) (by omega) (by omega) (by omega)) (by rw [e3]; exact g1.2.2.1.trans g.2.2.1) ⟨(f3 12 (Or.inl rfl)).trans h1, (f3 13 (Or.inr rfl)).trans h2, h3, e8, h5, h6, by rw [e20]; exact h7, by rw [e20]; exact h8, r + 1, by omega, by rw [e3, pf_get, if_neg (by omega)]; exact g1.2.2.2.1, fun i i1 i2 => by rw [e3]; exact g1.2.2.2.2 i i1 i2⟩ (fun T c z => ?_) (fun T c T' c2 i j t1 t2 hi hj e1 e2 => ?_) ((f1 4 16 (by decide) (by decide)).trans a9)
  · exact xCl_re (xA_cl h0 z) (fun i hi => ⟨by rw [e20]; exact (xLv_old h0 g ⟨T, c, z, hi⟩).1.2.2, rfl, old T c z i hi⟩)
  · rw [xCs_re (xA_cl h0 t1) (fun q hq => ⟨old T c t1 q hq 18 (by decide) (by decide), old T c t1 q hq 19 (by decide) (by decide)⟩)] at hi
    rw [xCs_re (xA_cl h0 t2) (fun q hq => ⟨old T' c2 t2 q hq 18 (by decide) (by decide), old T' c2 t2 q hq 19 (by decide) (by decide)⟩)] at hj
    rw [old T c t1 i hi 15 (by decide) (by decide), old T' c2 t2 j hj 15 (by decide) (by decide)] at e2
    exact a10 T c T' c2 i j t1 t2 hi hj e1 e2
set_option maxHeartbeats 1000000 in
set_option maxRecDepth 8000 in
theorem x_keepO (h : xA S0 S σ sd rm fb B rets K Ks vs mp told most) (hk : (aMap K).length ≤ 17) (ho : xOv (xBM S) S1 rm fb) (hB : B + 5 < 2 ^ 31) (hP : ∀ S', xA S0 S' σ sd rm fb (B + 1) rets K Ks vs mp told most → P (some (.int 0)) S') : mv_big layX sysX (d + 3) 121 [.ref 4, .int c'] S1 P := by
  refine ⟨60, ?_⟩
  refine ws_aload_n rfl (rfl) rfl (ws_getr rfl rfl rfl (ws_iv rfl rfl rfl ?_))
  refine x_surelyFits (fun _ => ?_) (fun z => absurd z.1 (by rw [ho.2.2]; decide))
  refine ws_i rfl ⟨fun z => absurd rfl z, fun _ => ?_⟩
  refine ws_aload_n rfl (rfl) rfl (ws_iv rfl rfl rfl ?_)
  refine xK_reach h hk ho.1 hB (fun S2 V r r1 g1 g2 g3 g4 => ?_)
  have o2 : S2.1 3 15 = 1 := (g1.1 3 15 (by omega)).trans ho.2.2
  refine ws_aload_n rfl (rfl) rfl (ws_getr rfl rfl rfl (ws_iv rfl rfl rfl ?_))
  refine x_fits (fun _ => ?_) (fun z => absurd z.1 (by rw [o2]; decide))
  refine ws_i rfl ⟨fun z => absurd rfl z, fun _ => ?_⟩
  refine ws_aload_n rfl (rfl) rfl (ws_getr rfl rfl rfl (ws_iv rfl rfl rfl ?_))
  refine x_undo ?_
  refine ws_iconst (x := 0) rfl rfl rfl (ws_i rfl ?_)
  exact ⟨Or.inl rfl, hP _ (xK_undo h ho.1 g1 r1 rfl)⟩
end XA

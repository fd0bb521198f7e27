/-! THE REFERENCE'S WORDS that make a map: put, without, union -/
section YB
variable {d : Nat} {P : Option Value → mv_S → Prop} {T0 T T' T2 T3 : mv_S} {σ σ' : Nat → Nat} {sd : Int32} {rm pc st m N' lv bd : Nat} {e a b : Int32} {rets : List Nat} {K Ko : List aI} {Ks : List (List aI)} {vs : Nat → Int32} {mp : Nat → tT} {told : List Int32} {most : Nat} {U W R : tT} {c c' : Int32} {q q2 : Option Int32} {L : List (Nat × Int32)} {V : List Nat}
theorem y_isMade0 (h : T.1 0 34 = 1) (hP : P (some (.int 0)) T) : mv_big layY sysY (d + 1) 40 [.ref 0] T P := by
  refine ⟨20, ?_⟩
  refine ws_aload_n rfl (rfl) rfl (ws_getz rfl rfl (h) rfl (ws_i rfl ⟨fun z => absurd z (show ¬ (1 : Int32) = 0 by decide), fun _ => ?_⟩))
  refine ws_iconst (x := 0) rfl rfl rfl (ws_i rfl ?_)
  exact ⟨Or.inl rfl, hP⟩
theorem y_isMade1 (h : T.1 0 34 = 0) (h2 : T.1 0 32 = nI m) (h3 : T.1 0 33 = nI most) (hm : m ≤ 400) (hmost : most ≤ 400) (hP : P (some (.int 1)) (mv_pf T 0 33 (nI (max most m)))) : mv_big layY sysY (d + 1) 40 [.ref 0] T P := by
  refine ⟨20, ?_⟩
  by_cases c : m ≤ most
  · rw [show max most m = most by omega] at hP
    refine ws_aload_n rfl (rfl) rfl (ws_getz rfl rfl (h) rfl (ws_i rfl ⟨fun _ => ?_, fun z => absurd rfl z⟩))
    refine ws_aload_n rfl (rfl) rfl (ws_aload_n rfl (rfl) rfl (ws_geti rfl rfl (h2) rfl (ws_aload_n rfl (rfl) rfl (ws_geti rfl rfl (h3) rfl (ws_i rfl ⟨fun _ => ?_, fun z => absurd (nI_le c (by omega)) z⟩)))))
    refine ws_aload_n rfl (rfl) rfl (ws_geti rfl rfl (h3) rfl (ws_puti rfl rfl rfl (ws_iconst (x := 1) rfl rfl rfl (ws_i rfl ?_))))
    exact ⟨Or.inr rfl, hP⟩
  · rw [show max most m = m by omega] at hP
    refine ws_aload_n rfl (rfl) rfl (ws_getz rfl rfl (h) rfl (ws_i rfl ⟨fun _ => ?_, fun z => absurd rfl z⟩))
    refine ws_aload_n rfl (rfl) rfl (ws_aload_n rfl (rfl) rfl (ws_geti rfl rfl (h2) rfl (ws_aload_n rfl (rfl) rfl (ws_geti rfl rfl (h3) rfl (ws_i rfl ⟨fun z => absurd z (nI_ge (by omega) (by omega)), fun _ => ?_⟩)))))
    refine ws_aload_n rfl (rfl) rfl (ws_geti rfl rfl (h2) rfl (ws_goto (t := 32) rfl (by decide) (ws_puti rfl rfl rfl (ws_iconst (x := 1) rfl rfl rfl (ws_i rfl ?_)))))
    exact ⟨Or.inr rfl, hP⟩
theorem y_pushMapE (h : yA T0 T σ sd rm pc e rets K Ks vs mp told most) (hq : (K ++ Ks.flatten).length < 2000) (hc : yTr T σ U c) (hI : hInj (T.2.1 13) (T.2.1 15) (T.2.1 16) σ (fun U' c' => yRt T (K ++ Ks.flatten) Ks.length mp U' c' ∨ (U' = U ∧ c' = c))) (hP : ∀ T', yA T0 T' σ sd rm pc e rets (.inr (U, none) :: K) Ks vs mp told most → P none T') : mv_big layY sysY (d + 1) 54 [.ref 0, .int c] T P := by
  obtain ⟨n, hn⟩ : ∃ n, n = (K ++ Ks.flatten).length := ⟨_, rfl⟩
  obtain ⟨a1, a2, a3, a4, a5, a6, a7, a8, a9, a10⟩ := h
  refine y_pushMap (a4.1.trans (by rw [← hn])) (by omega) ?_
  obtain ⟨T', hT⟩ : ∃ T', T' = yPushM T n c := ⟨_, rfl⟩
  rw [← hT]
  have f' : ∀ o f, T'.1 o f = if o = 0 ∧ f = 48 then nI (n + 1) else T.1 o f := fun o f => by rw [hT]; unfold yPushM; rw [pf_get]; rfl
  have r' : ∀ o i, T'.2.1 o i = if o = 26 ∧ i = n then c else if o = 27 ∧ i = n then 0 else if o = 25 ∧ i = n then 1 else T.2.1 o i := fun o i => by
    rw [hT]
    show (mv_pr (mv_pr (mv_pr T 25 n 1) 27 n 0) 26 n c).2.1 o i = _
    rw [pr_get, pr_get, pr_get]
  have f : ∀ o f, ¬ (o = 0 ∧ f = 48) → T'.1 o f = T.1 o f := fun o f a => by rw [f', if_neg a]
  have r : ∀ o i, ¬ (25 ≤ o ∧ o ≤ 27) → T'.2.1 o i = T.2.1 o i := fun o i a => by rw [r', if_neg (by omega), if_neg (by omega), if_neg (by omega)]
  have hs : yHs T T' := fun o i _ _ => r o i (by omega)
  have e13 : T'.2.1 13 = T.2.1 13 := funext (fun i => hs 13 i (by decide) (by decide))
  have e15 : T'.2.1 15 = T.2.1 15 := funext (fun i => hs 15 i (by decide) (by decide))
  have e16 : T'.2.1 16 = T.2.1 16 := funext (fun i => hs 16 i (by decide) (by decide))
  have low : ∀ p o, p < (K ++ Ks.flatten).length → 25 ≤ o → o ≤ 28 → T'.2.1 o p = T.2.1 o p := fun p o hp _ _ => by rw [r', if_neg (by omega), if_neg (by omega), if_neg (by omega)]
  have rt : ∀ U' c2, yRt T' (.inr (U, none) :: (K ++ Ks.flatten)) Ks.length mp U' c2 → yRt T (K ++ Ks.flatten) Ks.length mp U' c2 ∨ (U' = U ∧ c2 = c) := fun U' c2 z => by
    rcases z with ⟨i, i1, i2, i3⟩ | ⟨i, i1, i2, i3⟩ | ⟨z1, z2⟩ | z
    · exact Or.inl (Or.inl ⟨i, i1, i2, by rw [i3]; exact r 20 i (by omega)⟩)
    · exact Or.inl (Or.inr (Or.inl ⟨i, i1, i2, by rw [i3]; exact r 22 i (by omega)⟩))
    · rw [r', if_pos ⟨rfl, hn.symm⟩] at z2
      exact Or.inr ⟨z1, z2⟩
    · exact Or.inl (Or.inr (Or.inr (yZr_go (fun p hp => low p 26 hp (by decide) (by decide)) z)))
  refine hP T' ⟨yO_trans a1 ⟨fun o g a => f o g (fun z => a ⟨z.1, by unfold yFs; omega⟩), fun o i a => r o i (by omega)⟩, a2, ⟨(f 0 51 (by omega)).trans a3.1, (f 0 53 (by omega)).trans a3.2⟩, ⟨?_, ⟨?_, ?_, ?_⟩, ?_⟩, ⟨(f 0 43 (by omega)).trans a5.1, a5.2.1, yBs_go (fun o i _ _ => r o i (by omega)) a5.2.2⟩, ⟨fun i hi => (r 19 i (by omega)).trans (a6.1 i hi), fun k hk => (r 21 k (by omega)).trans (a6.2 k hk)⟩, ⟨fun i hi => by rw [r 20 i (by omega)]; exact yTr_hs hs (a7.1 i hi), fun k hk => by rw [r 22 k (by omega)]; exact yTr_hs hs (a7.2 k hk)⟩, ⟨(f 0 50 (by omega)).trans a8.1, a8.2.1, fun p x hp => (r 29 p (by omega)).trans (a8.2.2 p x hp)⟩, (f 0 33 (by omega)).trans a9, ?_⟩
  · rw [f', if_pos ⟨rfl, rfl⟩, hn]; rfl
  · show T'.2.1 25 (K ++ Ks.flatten).length = 1
    rw [r', if_neg (by omega), if_neg (by omega), if_pos ⟨rfl, hn.symm⟩]
  · show yTr T' σ U (T'.2.1 26 (K ++ Ks.flatten).length)
    rw [r', if_pos ⟨rfl, hn.symm⟩]; exact yTr_hs hs hc
  · show T'.2.1 27 (K ++ Ks.flatten).length = 0
    rw [r', if_neg (by omega), if_pos ⟨rfl, hn.symm⟩]
  · exact yAs_go hs low a4.2
  · rw [e13, e15, e16]
    exact fun U1 c1 U2 c2 i j t1 t2 => hI U1 c1 U2 c2 i j (rt U1 c1 t1) (rt U2 c2 t2)
theorem yB_old (h : yA T0 T σ sd rm pc e rets K Ks vs mp told most) (g : yBm T T2 V (K ++ Ks.flatten) Ks.length mp lv rm) (k : yFm T2 T3) {i : Nat} (hi : yLive T (K ++ Ks.flatten) Ks.length mp i) : (∀ o, 13 ≤ o → o ≤ 16 → T3.2.1 o i = T.2.1 o i) ∧ ¬ T2.2.1 17 i = 0 ∧ i ≤ 899 := by
  have iv := (g.2.2.2.1 i).mpr hi
  obtain ⟨U, c, h1, h2⟩ := hi
  have bd := (hCs_ok (by decide) (yA_cl h h1)).2 i h2
  have mk : ¬ T2.2.1 17 i = 0 := by
    rcases g.2.2.2.2.1 i (by omega) with ⟨_, y⟩ | ⟨y, _⟩
    · rw [y]; decide
    · exact absurd iv y
  exact ⟨fun o a b => (k.2.2.2 i o mk a b).trans (g.2.1 o i (by omega) (by omega)), mk, bd.2.1⟩
theorem yB_tr (h : yA T0 T σ sd rm pc e rets K Ks vs mp told most) (g : yBm T T2 V (K ++ Ks.flatten) Ks.length mp lv rm) (k : yFm T2 T3) (hσ : ∀ i, ¬ T2.2.1 17 i = 0 → σ' i = σ i) {U : tT} {c : Int32} (z : yRt T (K ++ Ks.flatten) Ks.length mp U c) : yTr T3 σ' U c ∧ hCs (T3.2.1 15) (T3.2.1 16) U c = hCs (T.2.1 15) (T.2.1 16) U c := by
  refine hTr_congr (by decide) (fun i hi => ?_) (yA_cl h z)
  obtain ⟨q1, q2, _⟩ := yB_old h g k (i := i) ⟨U, c, z, hi⟩
  exact ⟨q1 13 (by decide) (by decide), q1 14 (by decide) (by decide), q1 15 (by decide) (by decide), q1 16 (by decide) (by decide), hσ i q2⟩
/-- nothing is kept -/
theorem yB_full (h : yA T0 T σ sd rm pc e rets K Ks vs mp told most) (g : yBm T T2 V (K ++ Ks.flatten) Ks.length mp lv rm) (k : yFm T2 T3) : yA T0 T3 σ sd rm pc e rets K Ks vs mp told most := by
  refine yA_re h (fun o f a => (k.1 o f (fun z => by omega)).trans (g.1 o f (by omega))) (fun o i a b => (k.2.1 o i (by omega) b).trans (g.2.1 o i (by omega) (by omega))) (fun U c z => (yB_tr h g k (fun _ _ => rfl) z).1) (fun U c U' c2 i j t1 t2 hi hj e1 e2 => ?_) ((k.1 0 33 (by omega)).trans ((g.1 0 33 (by omega)).trans h.2.2.2.2.2.2.2.2.1))
  rw [(yB_tr h g k (σ' := σ) (fun _ _ => rfl) t1).2] at hi
  rw [(yB_tr h g k (σ' := σ) (fun _ _ => rfl) t2).2] at hj
  rw [(yB_old h g k ⟨U, c, t1, hi⟩).1 13 (by decide) (by decide), (yB_old h g k ⟨U', c2, t2, hj⟩).1 13 (by decide) (by decide)] at e2
  exact h.2.2.2.2.2.2.2.2.2 U c U' c2 i j t1 t2 hi hj e1 e2
/-- kept -/
theorem yB_made (h : yA T0 T σ sd rm pc e rets K Ks vs mp told most) (g : yBm T T2 V (K ++ Ks.flatten) Ks.length mp lv rm) (k : yFm T2 T3) (hst : ∀ U c, yRt T (K ++ Ks.flatten) Ks.length mp U c → tSt (fun s => s < st) U) (hR : yV T2 T3 σ st N' R c') (hRo : tOrd R) (e4 : T' = mv_pf T3 0 33 (nI (max most m))) : yA T0 T' (ySig T2 σ st) sd rm pc e rets K Ks vs mp told (max most m) ∧ yTr T' (ySig T2 σ st) R c' ∧ hInj (T'.2.1 13) (T'.2.1 15) (T'.2.1 16) (ySig T2 σ st) (fun U' c2 => yRt T' (K ++ Ks.flatten) Ks.length mp U' c2 ∨ (U' = R ∧ c2 = c')) := by
  have hσ : ∀ i, ¬ T2.2.1 17 i = 0 → ySig T2 σ st i = σ i := fun i z => if_neg z
  have hσ2 : ∀ i, T2.2.1 17 i = 0 → ySig T2 σ st i = st := fun i z => if_pos z
  have r4 : ∀ o i, T'.2.1 o i = T3.2.1 o i := fun o i => by rw [e4]; rfl
  have f4 : ∀ o f, T'.1 o f = if o = 0 ∧ f = 33 then nI (max most m) else T3.1 o f := fun o f => by rw [e4, pf_get]
  have cls : ∀ U c i, (yRt T (K ++ Ks.flatten) Ks.length mp U c ∨ (U = R ∧ c = c')) → i ∈ hCs (T3.2.1 15) (T3.2.1 16) U c → yLive T (K ++ Ks.flatten) Ks.length mp i ∨ (i ∈ hCs (T3.2.1 15) (T3.2.1 16) R c' ∧ ySig T2 σ st i = st) := fun U c i z hi => by
    rcases z with z | ⟨rfl, rfl⟩
    · rw [(yB_tr h g k hσ z).2] at hi
      exact Or.inl ⟨U, c, z, hi⟩
    · by_cases mk : T2.2.1 17 i = 0
      · exact Or.inr ⟨hi, hσ2 i mk⟩
      · have bd := ((hCs_ok (by decide) hR.1).2 i hi).2.1
        rcases g.2.2.2.2.1 i (by omega) with ⟨y, _⟩ | ⟨_, y⟩
        · exact Or.inl ((g.2.2.2.1 i).mp y)
        · exact absurd y mk
  have low : ∀ i, yLive T (K ++ Ks.flatten) Ks.length mp i → σ i < st := fun i hi => by
    obtain ⟨U, c, h1, h2⟩ := hi
    exact tSt_nd.mp (hst U c h1) _ ((hCs_mem (by decide) (yA_cl h h1) (σ i, T.2.1 13 i)).mpr ⟨i, h2, rfl⟩)
  have inj : hInj (T3.2.1 13) (T3.2.1 15) (T3.2.1 16) (ySig T2 σ st) (fun U' c2 => yRt T (K ++ Ks.flatten) Ks.length mp U' c2 ∨ (U' = R ∧ c2 = c')) := by
    intro U c U' c2 i j t1 t2 hi hj e1 e2
    rcases cls U c i t1 hi with x1 | ⟨x1, x2⟩
    · obtain ⟨o1, o2, _⟩ := yB_old h g k x1
      rcases cls U' c2 j t2 hj with y1 | ⟨y1, y2⟩
      · obtain ⟨p1, p2, _⟩ := yB_old h g k y1
        rw [o1 13 (by decide) (by decide), p1 13 (by decide) (by decide)] at e2
        rw [hσ i o2, hσ j p2] at e1
        obtain ⟨Ua, ca, q1, q2⟩ := x1
        obtain ⟨Ub, cb, q3, q4⟩ := y1
        exact h.2.2.2.2.2.2.2.2.2 Ua ca Ub cb i j q1 q3 q2 q4 e1 e2
      · have l1 := low i x1
        rw [hσ i o2, y2] at e1
        omega
    · rcases cls U' c2 j t2 hj with y1 | ⟨y1, y2⟩
      · have l1 := low j y1
        rw [x2, hσ j (yB_old h g k y1).2.1] at e1
        omega
      · exact hCs_key (by decide) hR.1 hRo x1 y1 e2
  have e13 : T'.2.1 13 = T3.2.1 13 := funext (fun i => r4 13 i)
  have e15 : T'.2.1 15 = T3.2.1 15 := funext (fun i => r4 15 i)
  have e16 : T'.2.1 16 = T3.2.1 16 := funext (fun i => r4 16 i)
  have hs : yHs T3 T' := fun o i _ _ => r4 o i
  have rr : ∀ o i, ¬ (13 ≤ o ∧ o ≤ 18) → ¬ (30 ≤ o ∧ o ≤ 36) → T'.2.1 o i = T.2.1 o i := fun o i a b => (r4 o i).trans ((k.2.1 o i (by omega) b).trans (g.2.1 o i (by omega) (by omega)))
  refine ⟨yA_re h (fun o f a => ?_) rr (fun U c z => yTr_hs hs (yB_tr h g k hσ z).1) ?_ (by rw [f4, if_pos ⟨rfl, rfl⟩]), yTr_hs hs hR.1, ?_⟩
  · rw [f4, if_neg (by omega), k.1 o f (fun z => by omega), g.1 o f (by omega)]
  · rw [e13, e15, e16]
    exact fun U c U' c2 i j t1 t2 => inj U c U' c2 i j (Or.inl t1) (Or.inl t2)
  · rw [e13, e15, e16]
    exact fun U c U' c2 i j t1 t2 => inj U c U' c2 i j (t1.elim (fun z => Or.inl (yRt_re (fun o p _ _ => rr o p (by omega) (by omega)) z)) Or.inr) (t2.elim (fun z => Or.inl (yRt_re (fun o p _ _ => rr o p (by omega) (by omega)) z)) Or.inr)
theorem yB_v (h : yA T0 T σ sd rm pc e rets K Ks vs mp told most) (g : yBm T T2 V (K ++ Ks.flatten) Ks.length mp lv rm) (z : yRt T (K ++ Ks.flatten) Ks.length mp U c) : yV T2 T2 σ st 1 U c := by
  have k : yFm T2 T2 := g.2.2.1.1
  obtain ⟨t1, t2⟩ := yB_tr h g k (σ' := ySig T2 σ st) (fun i z => if_neg z) z
  exact ⟨t1, fun i hi => by rw [t2] at hi; exact Or.inl (yB_old h g k ⟨U, c, z, hi⟩).2.1⟩
abbrev yHw (P : Option Value → mv_S → Prop) (d F pc : Nat) (l : List (Nat × Value)) (st : List Value) (S : mv_S) : Prop := mv_wp layY sysY tT11 4 none mX11_make.2.2.2.2.2.2.2 (mv_big layY sysY (d + 4)) P F pc l st S
variable {l : List (Nat × Value)} {x : Int32} {D0 : List aI}
set_option maxHeartbeats 1000000 in
set_option maxRecDepth 8000 in
theorem yH_full (h : yA T0 T σ sd rm pc e rets Ko Ks vs mp told most) (hi : yIn T0 pc) (hw : ¬ yW T0 pc = 16) (g : yBm T T2 V (Ko ++ Ks.flatten) Ks.length mp lv rm) (k : yFull T2 T3 lv rm bd) (l0 : mv_at 0 l = some (.ref 0)) (hF : ∀ T', yA T0 T' σ sd rm (pc + 1) 5 rets Ko Ks vs mp told most → P none T') : yHw P d 30 101 l [.int x] T3 := by
  refine ws_istore_n rfl rfl rfl rfl (ws_aload_n rfl (mv_at_sr (by decide) (l0)) rfl (ws_iv rfl rfl rfl ?_))
  refine mv_deep (d := d + 1) (by omega) (y_isMade0 k.2.2.2.2.1 ?_)
  refine ws_i rfl ⟨fun z => absurd rfl z, fun _ => ?_⟩
  refine ws_aload_n rfl (mv_at_sr (by decide) (l0)) rfl (ws_iconst (x := 5) rfl rfl rfl (ws_iv rfl rfl rfl ?_))
  refine mv_deep (d := d + 2) (by omega) (y_endA (yB_full h g k.1) hi (fun T4 h4 => ?_))
  rw [if_neg hw] at h4
  refine ws_i rfl ?_
  exact hF T4 h4
set_option maxHeartbeats 1000000 in
set_option maxRecDepth 8000 in
theorem yH_made (h : yA T0 T σ sd rm pc e rets (D0 ++ K) Ks vs mp told most) (hq : (K ++ Ks.flatten).length < 1980) (g : yBm T T2 V ((D0 ++ K) ++ Ks.flatten) Ks.length mp lv rm) (k : yMk T2 T3 lv rm m N') (hst : ∀ U c, yRt T ((D0 ++ K) ++ Ks.flatten) Ks.length mp U c → tSt (fun s => s < st) U) (hR : yV T2 T3 σ st N' R c') (hRo : tOrd R) (hmost : most ≤ 400) (l0 : mv_at 0 l = some (.ref 0)) (l2 : mv_at 2 l = some (.int (nI (K ++ Ks.flatten).length))) (hP : ∀ T' σ', yA T0 T' σ' sd rm (pc + 1) e rets (.inr (R, none) :: K) Ks vs mp told (max most m) → P none T') : yHw P d 50 101 l [.int c'] T3 := by
  have hm : m ≤ 400 := by have := k.2.2.2.2.2.2.1; have := k.2.2.2.1; omega
  have e33 : T3.1 0 33 = nI most := (k.1.1 0 33 (by omega)).trans ((g.1 0 33 (by omega)).trans h.2.2.2.2.2.2.2.2.1)
  refine ws_istore_n rfl rfl rfl rfl (ws_aload_n rfl (mv_at_sr (by decide) (l0)) rfl (ws_iv rfl rfl rfl ?_))
  refine mv_deep (d := d + 1) (by omega) (y_isMade1 k.2.2.2.2.1 k.2.2.2.2.2.1 e33 hm hmost ?_)
  obtain ⟨T4, hT4⟩ : ∃ T4, T4 = mv_pf T3 0 33 (nI (max most m)) := ⟨_, rfl⟩
  rw [← hT4]
  obtain ⟨q1, q2, q3⟩ := yB_made h g k.1 hst hR hRo hT4
  have h5 := yA_drop q1
  have hI : hInj ((mv_pf T4 0 48 (nI (K ++ Ks.flatten).length)).2.1 13) ((mv_pf T4 0 48 (nI (K ++ Ks.flatten).length)).2.1 15) ((mv_pf T4 0 48 (nI (K ++ Ks.flatten).length)).2.1 16) (ySig T2 σ st) (fun U' c2 => yRt (mv_pf T4 0 48 (nI (K ++ Ks.flatten).length)) (K ++ Ks.flatten) Ks.length mp U' c2 ∨ (U' = R ∧ c2 = c')) := by
    have rt : ∀ U' c2, yRt (mv_pf T4 0 48 (nI (K ++ Ks.flatten).length)) (K ++ Ks.flatten) Ks.length mp U' c2 → yRt T4 ((D0 ++ K) ++ Ks.flatten) Ks.length mp U' c2 := fun U' c2 z => by
      rcases z with z | z | z
      · exact Or.inl z
      · exact Or.inr (Or.inl z)
      · rw [List.append_assoc]
        exact Or.inr (Or.inr (yZr_app (yZr_go (T := T4) (T' := mv_pf T4 0 48 (nI (K ++ Ks.flatten).length)) (fun p hp => rfl) z)))
    exact fun U1 c1 U2 c2 i j t1 t2 => q3 U1 c1 U2 c2 i j (t1.elim (fun z => Or.inl (rt _ _ z)) Or.inr) (t2.elim (fun z => Or.inl (rt _ _ z)) Or.inr)
  refine ws_i rfl ⟨fun _ => ?_, fun z => absurd z (show ¬ (1 : Int32) = 0 by decide)⟩
  refine ws_aload_n rfl (mv_at_sr (by decide) (l0)) rfl (ws_iload_n rfl (mv_at_sv (by decide) (l2)) rfl (ws_puti rfl rfl rfl (ws_aload_n rfl (mv_at_sr (by decide) (l0)) rfl (ws_iload_n rfl (mv_at_me) rfl (ws_iv rfl rfl rfl ?_)))))
  refine mv_deep (d := d + 1) (by omega) (y_pushMapE (T := mv_pf T4 0 48 (nI (K ++ Ks.flatten).length)) h5 (by omega) (yTr_hs (T := T4) (fun o i _ _ => rfl) q2) hI (fun T5 h6 => ?_))
  refine ws_aload_n rfl (mv_at_sr (by decide) (l0)) rfl (ws_dup_r rfl rfl (ws_geti rfl rfl (h6.2.2.1.1) rfl (ws_iconst (x := 1) rfl rfl rfl (ws_iadd rfl (nI_1 _) rfl (ws_puti rfl rfl rfl (ws_i rfl ?_))))))
  exact hP _ _ (yA_next h6)
set_option maxHeartbeats 1000000 in
set_option maxRecDepth 8000 in
theorem y_pf22 (h : yA T0 T σ sd rm pc e rets (.inl b :: .inl a :: .inr (U, q) :: K) Ks vs mp told most) (hi : yIn T0 pc) (hw : yW T0 pc = 22) (hoU : tOrd U) (hnU : tN U ≤ 800) (hrm : rm ≤ 400) (hst : ∀ U' c, yRt T ((.inl b :: .inl a :: .inr (U, q) :: K) ++ Ks.flatten) Ks.length mp U' c → tSt (fun s => s < st) U') (hL : hNs (fun U' => ∃ c, yRt T ((.inl b :: .inl a :: .inr (U, q) :: K) ++ Ks.flatten) Ks.length mp U' c) L) (hlv : L.length ≤ rm) (hmost : most ≤ 400) (hq : (K ++ Ks.flatten).length < 1980) (hF : rm < L.length + (tPutN (xRank sd) a U) → ∀ T', yA T0 T' σ sd rm (pc + 1) 5 rets (.inl b :: .inl a :: .inr (U, q) :: K) Ks vs mp told most → P none T')
    (hP : L.length + (tPutN (xRank sd) a U) ≤ rm → ∀ T' σ', yA T0 T' σ' sd rm (pc + 1) e rets (.inr ((tPut (xRank sd) st a b U), none) :: K) Ks vs mp told (max most (tPutN (xRank sd) a U)) → P none T') : mv_big layY sysY (d + 7) 58 [.ref 0] T P := by
  have inn : mv_big layY sysY (d + 6) 65 [.ref 0, .int 22] T (fun r T1 => r = none ∧ P none T1) := by
    have e48 : T.1 0 48 = nI ((K ++ Ks.flatten).length + 3) := h.2.2.2.1.1
    have as : (T.2.1 25 ((K ++ Ks.flatten).length + 2) = 0 ∧ T.2.1 26 ((K ++ Ks.flatten).length + 2) = b) ∧ (T.2.1 25 ((K ++ Ks.flatten).length + 1) = 0 ∧ T.2.1 26 ((K ++ Ks.flatten).length + 1) = a) ∧ (T.2.1 25 (K ++ Ks.flatten).length = 1 ∧ yTr T σ U (T.2.1 26 (K ++ Ks.flatten).length) ∧ yGo T (K ++ Ks.flatten).length q) ∧ yAs T σ (K ++ Ks.flatten) := h.2.2.2.1.2
    have v0 : vp_in (nI (K ++ Ks.flatten).length) 4000 := vp_in_nI (by omega) (by decide)
    have c0 : (nI (K ++ Ks.flatten).length).toNatClampNeg = (K ++ Ks.flatten).length := nI_clamp (by omega)
    have v1 : vp_in (nI ((K ++ Ks.flatten).length + 1)) 4000 := vp_in_nI (by omega) (by decide)
    have c1 : (nI ((K ++ Ks.flatten).length + 1)).toNatClampNeg = ((K ++ Ks.flatten).length + 1) := nI_clamp (by omega)
    have v2 : vp_in (nI ((K ++ Ks.flatten).length + 2)) 4000 := vp_in_nI (by omega) (by decide)
    have c2 : (nI ((K ++ Ks.flatten).length + 2)).toNatClampNeg = ((K ++ Ks.flatten).length + 2) := nI_clamp (by omega)
    have zU : yRt T ([.inl b, .inl a, .inr (U, q)] ++ K ++ Ks.flatten) Ks.length mp U (T.2.1 26 (K ++ Ks.flatten).length) := Or.inr (Or.inr (Or.inl ⟨rfl, rfl⟩))
    have h : yA T0 T σ sd rm pc e rets ([.inl b, .inl a, .inr (U, q)] ++ K) Ks vs mp told most := h
    have lnn : ([.inl b, .inl a, .inr (U, q)] ++ K ++ Ks.flatten : List aI).length = (K ++ Ks.flatten).length + 3 := rfl
    have mk : mv_big layY sysY (d + 5) 66 [.ref 0, .int 22] T (fun r T1 => r = none ∧ P none T1) := by
      refine ⟨160, ?_⟩
      refine ws_aload_n rfl (rfl) rfl (ws_geti rfl rfl (e48) rfl (ws_iload_n rfl (rfl) rfl (ws_bipush (x := 22) rfl rfl rfl (ws_i rfl ⟨fun z => absurd rfl z, fun _ => ?_⟩))))
      refine ws_iconst (x := 3) rfl rfl rfl (ws_goto (t := 15) rfl (by decide) (ws_isub rfl (nI_m3 _) rfl (ws_istore_n rfl rfl rfl rfl (ws_aload_n rfl (rfl) rfl (ws_iv rfl rfl rfl ?_)))))
      refine mv_deep (d := d + 3) (by omega) (y_begin h (by omega) hrm hL hlv (fun T2 V g => ?_))
      have e35 : T2.1 0 35 = sd := (g.1 0 35 (by omega)).trans ((h.1.1 0 35 (fun z => by unfold yFs at z; omega)).trans h.2.1.1)
      have r26 : ∀ p, T2.2.1 26 p = T.2.1 26 p := fun p => g.2.1 26 p (by decide) (by decide)
      have vU := yB_v (st := st) h g zU
      refine ws_iload_n rfl (rfl) rfl (ws_bipush (x := 22) rfl rfl rfl (ws_i rfl ⟨fun z => absurd rfl z, fun _ => ?_⟩))
      refine ws_aload_n rfl (rfl) rfl (ws_aload_n rfl (rfl) rfl (ws_getr rfl rfl rfl (ws_iload_n rfl (rfl) rfl (ws_i rfl ⟨v0, ?_⟩))))
      rw [c0, r26]
      refine ws_aload_n rfl (rfl) rfl (ws_getr rfl rfl rfl (ws_iload_n rfl (rfl) rfl (ws_iconst (x := 1) rfl rfl rfl (ws_iadd rfl (nI_1 _) rfl (ws_i rfl ⟨v1, ?_⟩)))))
      rw [c1, r26, as.2.1.2]
      refine ws_aload_n rfl (rfl) rfl (ws_getr rfl rfl rfl (ws_iload_n rfl (rfl) rfl (ws_iconst (x := 2) rfl rfl rfl (ws_iadd rfl (nI_add _ 2) rfl (ws_i rfl ⟨v2, ?_⟩)))))
      rw [c2, r26, as.1.2]
      refine ws_iv rfl rfl rfl ?_
      refine mv_deep (d := d + 3) (by omega) (y_put g.2.2.1 vU e35 hnU (fun z x T3 k => ?_) (fun z T3 N1 c1 k => ?_))
      · refine ws_goto (t := 101) rfl (by decide) ?_
        exact mv_fuel (n := 30) (by omega) (yH_full h hi (by rw [hw]; decide) g k rfl (fun T4 h4 => ⟨rfl, hF (by omega) T4 h4⟩))
      · refine ws_goto (t := 101) rfl (by decide) ?_
        rw [Nat.zero_add] at z k
        exact mv_fuel (n := 50) (by omega) (yH_made h hq g k.1 hst k.2.2.2 (tOrd_put hoU) hmost rfl rfl (fun T4 σ4 h4 => ⟨rfl, hP (by omega) T4 σ4 h4⟩))
    refine ⟨20, ?_⟩
    refine ws_iload_n rfl (rfl) rfl (ws_tab (t := 159) rfl rfl (by decide) (ws_aload_n rfl (rfl) rfl (ws_iload_n rfl (rfl) rfl (ws_iv rfl rfl rfl ?_))))
    refine mv_big_mono _ _ (Nat.le_refl _) _ _ _ _ _ (fun r T1 z => ?_) mk
    obtain ⟨rfl, z⟩ := z
    refine ws_goto (t := 179) rfl (by decide) (ws_i rfl ?_)
    exact ⟨rfl, z⟩
  refine ⟨40, ?_⟩
  refine ws_aload_n rfl (rfl) rfl (ws_iconst (x := 0) rfl rfl rfl (ws_iv rfl rfl rfl ?_))
  refine mv_deep (d := d + 1) (by omega) (y_wordA (k := 0) h hi (by decide) ?_)
  rw [show yW T0 (pc + 0) = _ from hw]
  refine ws_istore_n rfl rfl rfl rfl (ws_iload_n rfl (rfl) rfl (ws_bipush (x := 30) rfl rfl rfl (ws_i rfl ⟨fun _ => ?_, fun z => absurd z (show ¬ (22 : Int32) = 30 by decide)⟩)))
  refine ws_iload_n rfl (rfl) rfl (ws_bipush (x := 12) rfl rfl rfl (ws_i rfl ⟨fun _ => ?_, fun z => absurd (show (12 : Int32) ≤ 22 by decide) z⟩))
  refine ws_iload_n rfl (rfl) rfl (ws_bipush (x := 19) rfl rfl rfl (ws_i rfl ⟨fun _ => ?_, fun z => absurd (show (19 : Int32) ≤ 22 by decide) z⟩))
  refine ws_aload_n rfl (rfl) rfl (ws_iload_n rfl (rfl) rfl (ws_iv rfl rfl rfl ?_))
  refine mv_big_mono _ _ (Nat.le_refl _) _ _ _ _ _ (fun r T1 z => ?_) inn
  obtain ⟨rfl, z⟩ := z
  refine ws_i rfl ?_
  exact z
set_option maxHeartbeats 1000000 in
set_option maxRecDepth 8000 in
theorem y_pf23 (h : yA T0 T σ sd rm pc e rets (.inl a :: .inr (U, q) :: K) Ks vs mp told most) (hi : yIn T0 pc) (hw : yW T0 pc = 23) (hoU : tOrd U) (hnU : tN U ≤ 800) (hrm : rm ≤ 400) (hst : ∀ U' c, yRt T ((.inl a :: .inr (U, q) :: K) ++ Ks.flatten) Ks.length mp U' c → tSt (fun s => s < st) U') (hL : hNs (fun U' => ∃ c, yRt T ((.inl a :: .inr (U, q) :: K) ++ Ks.flatten) Ks.length mp U' c) L) (hlv : L.length ≤ rm) (hmost : most ≤ 400) (hq : (K ++ Ks.flatten).length < 1980) (hF : rm < L.length + (tWtN (xRank sd) a U) → ∀ T', yA T0 T' σ sd rm (pc + 1) 5 rets (.inl a :: .inr (U, q) :: K) Ks vs mp told most → P none T')
    (hP : L.length + (tWtN (xRank sd) a U) ≤ rm → ∀ T' σ', yA T0 T' σ' sd rm (pc + 1) e rets (.inr ((tWt (xRank sd) st a U), none) :: K) Ks vs mp told (max most (tWtN (xRank sd) a U)) → P none T') : mv_big layY sysY (d + 7) 58 [.ref 0] T P := by
  have inn : mv_big layY sysY (d + 6) 65 [.ref 0, .int 23] T (fun r T1 => r = none ∧ P none T1) := by
    have e48 : T.1 0 48 = nI ((K ++ Ks.flatten).length + 2) := h.2.2.2.1.1
    have as : (T.2.1 25 ((K ++ Ks.flatten).length + 1) = 0 ∧ T.2.1 26 ((K ++ Ks.flatten).length + 1) = a) ∧ (T.2.1 25 (K ++ Ks.flatten).length = 1 ∧ yTr T σ U (T.2.1 26 (K ++ Ks.flatten).length) ∧ yGo T (K ++ Ks.flatten).length q) ∧ yAs T σ (K ++ Ks.flatten) := h.2.2.2.1.2
    have v0 : vp_in (nI (K ++ Ks.flatten).length) 4000 := vp_in_nI (by omega) (by decide)
    have c0 : (nI (K ++ Ks.flatten).length).toNatClampNeg = (K ++ Ks.flatten).length := nI_clamp (by omega)
    have v1 : vp_in (nI ((K ++ Ks.flatten).length + 1)) 4000 := vp_in_nI (by omega) (by decide)
    have c1 : (nI ((K ++ Ks.flatten).length + 1)).toNatClampNeg = ((K ++ Ks.flatten).length + 1) := nI_clamp (by omega)
    have zU : yRt T ([.inl a, .inr (U, q)] ++ K ++ Ks.flatten) Ks.length mp U (T.2.1 26 (K ++ Ks.flatten).length) := Or.inr (Or.inr (Or.inl ⟨rfl, rfl⟩))
    have h : yA T0 T σ sd rm pc e rets ([.inl a, .inr (U, q)] ++ K) Ks vs mp told most := h
    have lnn : ([.inl a, .inr (U, q)] ++ K ++ Ks.flatten : List aI).length = (K ++ Ks.flatten).length + 2 := rfl
    have mk : mv_big layY sysY (d + 5) 66 [.ref 0, .int 23] T (fun r T1 => r = none ∧ P none T1) := by
      refine ⟨160, ?_⟩
      refine ws_aload_n rfl (rfl) rfl (ws_geti rfl rfl (e48) rfl (ws_iload_n rfl (rfl) rfl (ws_bipush (x := 22) rfl rfl rfl (ws_i rfl ⟨fun _ => ?_, fun z => absurd z (show ¬ (23 : Int32) = 22 by decide)⟩))))
      refine ws_iconst (x := 2) rfl rfl rfl (ws_isub rfl (nI_m2 _) rfl (ws_istore_n rfl rfl rfl rfl (ws_aload_n rfl (rfl) rfl (ws_iv rfl rfl rfl ?_))))
      refine mv_deep (d := d + 3) (by omega) (y_begin h (by omega) hrm hL hlv (fun T2 V g => ?_))
      have e35 : T2.1 0 35 = sd := (g.1 0 35 (by omega)).trans ((h.1.1 0 35 (fun z => by unfold yFs at z; omega)).trans h.2.1.1)
      have r26 : ∀ p, T2.2.1 26 p = T.2.1 26 p := fun p => g.2.1 26 p (by decide) (by decide)
      have vU := yB_v (st := st) h g zU
      refine ws_iload_n rfl (rfl) rfl (ws_bipush (x := 22) rfl rfl rfl (ws_i rfl ⟨fun _ => ?_, fun z => absurd z (show ¬ (23 : Int32) = 22 by decide)⟩))
      refine ws_iload_n rfl (rfl) rfl (ws_bipush (x := 23) rfl rfl rfl (ws_i rfl ⟨fun z => absurd rfl z, fun _ => ?_⟩))
      refine ws_aload_n rfl (rfl) rfl (ws_aload_n rfl (rfl) rfl (ws_getr rfl rfl rfl (ws_iload_n rfl (rfl) rfl (ws_i rfl ⟨v0, ?_⟩))))
      rw [c0, r26]
      refine ws_aload_n rfl (rfl) rfl (ws_getr rfl rfl rfl (ws_iload_n rfl (rfl) rfl (ws_iconst (x := 1) rfl rfl rfl (ws_iadd rfl (nI_1 _) rfl (ws_i rfl ⟨v1, ?_⟩)))))
      rw [c1, r26, as.1.2]
      refine ws_iv rfl rfl rfl ?_
      refine mv_deep (d := d + 3) (by omega) (y_without g.2.2.1 vU e35 hnU (fun z => ?_) (fun n z x T3 k => ?_) (fun n z T3 N1 c1 k => ?_))
      · have eR : tWt (xRank sd) st a U = U := tSel_l z
        have eC : tWtN (xRank sd) a U = 0 := tSel_l z
        rw [eR, eC] at hP
        refine ws_goto (t := 101) rfl (by decide) ?_
        exact mv_fuel (n := 50) (by omega) (yH_made h hq g g.2.2.1 hst vU hoU hmost rfl rfl (fun T4 σ4 h4 => ⟨rfl, hP (by omega) T4 σ4 h4⟩))
      · have eC : tWtN (xRank sd) a U = tWoN (xRank sd) a U := tSel_n n
        rw [eC] at hF
        refine ws_goto (t := 101) rfl (by decide) ?_
        exact mv_fuel (n := 30) (by omega) (yH_full h hi (by rw [hw]; decide) g k rfl (fun T4 h4 => ⟨rfl, hF (by omega) T4 h4⟩))
      · have eR : tWt (xRank sd) st a U = tWo (xRank sd) st a U := tSel_n n
        have eC : tWtN (xRank sd) a U = tWoN (xRank sd) a U := tSel_n n
        rw [eR, eC] at hP
        refine ws_goto (t := 101) rfl (by decide) ?_
        rw [Nat.zero_add] at z k
        exact mv_fuel (n := 50) (by omega) (yH_made h hq g k.1 hst k.2.2.2 (tOrd_wo hoU) hmost rfl rfl (fun T4 σ4 h4 => ⟨rfl, hP (by omega) T4 σ4 h4⟩))
    refine ⟨20, ?_⟩
    refine ws_iload_n rfl (rfl) rfl (ws_tab (t := 159) rfl rfl (by decide) (ws_aload_n rfl (rfl) rfl (ws_iload_n rfl (rfl) rfl (ws_iv rfl rfl rfl ?_))))
    refine mv_big_mono _ _ (Nat.le_refl _) _ _ _ _ _ (fun r T1 z => ?_) mk
    obtain ⟨rfl, z⟩ := z
    refine ws_goto (t := 179) rfl (by decide) (ws_i rfl ?_)
    exact ⟨rfl, z⟩
  refine ⟨40, ?_⟩
  refine ws_aload_n rfl (rfl) rfl (ws_iconst (x := 0) rfl rfl rfl (ws_iv rfl rfl rfl ?_))
  refine mv_deep (d := d + 1) (by omega) (y_wordA (k := 0) h hi (by decide) ?_)
  rw [show yW T0 (pc + 0) = _ from hw]
  refine ws_istore_n rfl rfl rfl rfl (ws_iload_n rfl (rfl) rfl (ws_bipush (x := 30) rfl rfl rfl (ws_i rfl ⟨fun _ => ?_, fun z => absurd z (show ¬ (23 : Int32) = 30 by decide)⟩)))
  refine ws_iload_n rfl (rfl) rfl (ws_bipush (x := 12) rfl rfl rfl (ws_i rfl ⟨fun _ => ?_, fun z => absurd (show (12 : Int32) ≤ 23 by decide) z⟩))
  refine ws_iload_n rfl (rfl) rfl (ws_bipush (x := 19) rfl rfl rfl (ws_i rfl ⟨fun _ => ?_, fun z => absurd (show (19 : Int32) ≤ 23 by decide) z⟩))
  refine ws_aload_n rfl (rfl) rfl (ws_iload_n rfl (rfl) rfl (ws_iv rfl rfl rfl ?_))
  refine mv_big_mono _ _ (Nat.le_refl _) _ _ _ _ _ (fun r T1 z => ?_) inn
  obtain ⟨rfl, z⟩ := z
  refine ws_i rfl ?_
  exact z
set_option maxHeartbeats 1000000 in
set_option maxRecDepth 8000 in
theorem y_pf24 (h : yA T0 T σ sd rm pc e rets (.inr (W, q2) :: .inr (U, q) :: K) Ks vs mp told most) (hi : yIn T0 pc) (hw : yW T0 pc = 24) (hoU : tOrd U) (hoW : tOrd W) (hnU : tN U + tN W ≤ 800) (hhp : tHp (xRank sd) W) (hrm : rm ≤ 400) (hst : ∀ U' c, yRt T ((.inr (W, q2) :: .inr (U, q) :: K) ++ Ks.flatten) Ks.length mp U' c → tSt (fun s => s < st) U') (hL : hNs (fun U' => ∃ c, yRt T ((.inr (W, q2) :: .inr (U, q) :: K) ++ Ks.flatten) Ks.length mp U' c) L) (hlv : L.length ≤ rm) (hmost : most ≤ 400) (hq : (K ++ Ks.flatten).length < 1980) (hF : rm < L.length + (tUnN (xRank sd) st 801 U W) → ∀ T', yA T0 T' σ sd rm (pc + 1) 5 rets (.inr (W, q2) :: .inr (U, q) :: K) Ks vs mp told most → P none T')
    (hP : L.length + (tUnN (xRank sd) st 801 U W) ≤ rm → ∀ T' σ', yA T0 T' σ' sd rm (pc + 1) e rets (.inr ((tUn (xRank sd) st 801 U W), none) :: K) Ks vs mp told (max most (tUnN (xRank sd) st 801 U W)) → P none T') : mv_big layY sysY (d + 7) 58 [.ref 0] T P := by
  have inn : mv_big layY sysY (d + 6) 65 [.ref 0, .int 24] T (fun r T1 => r = none ∧ P none T1) := by
    have e48 : T.1 0 48 = nI ((K ++ Ks.flatten).length + 2) := h.2.2.2.1.1
    have as : (T.2.1 25 ((K ++ Ks.flatten).length + 1) = 1 ∧ yTr T σ W (T.2.1 26 ((K ++ Ks.flatten).length + 1)) ∧ yGo T ((K ++ Ks.flatten).length + 1) q2) ∧ (T.2.1 25 (K ++ Ks.flatten).length = 1 ∧ yTr T σ U (T.2.1 26 (K ++ Ks.flatten).length) ∧ yGo T (K ++ Ks.flatten).length q) ∧ yAs T σ (K ++ Ks.flatten) := h.2.2.2.1.2
    have v0 : vp_in (nI (K ++ Ks.flatten).length) 4000 := vp_in_nI (by omega) (by decide)
    have c0 : (nI (K ++ Ks.flatten).length).toNatClampNeg = (K ++ Ks.flatten).length := nI_clamp (by omega)
    have v1 : vp_in (nI ((K ++ Ks.flatten).length + 1)) 4000 := vp_in_nI (by omega) (by decide)
    have c1 : (nI ((K ++ Ks.flatten).length + 1)).toNatClampNeg = ((K ++ Ks.flatten).length + 1) := nI_clamp (by omega)
    have zW : yRt T ([.inr (W, q2), .inr (U, q)] ++ K ++ Ks.flatten) Ks.length mp W (T.2.1 26 ((K ++ Ks.flatten).length + 1)) := Or.inr (Or.inr (Or.inl ⟨rfl, rfl⟩))
    have zU : yRt T ([.inr (W, q2), .inr (U, q)] ++ K ++ Ks.flatten) Ks.length mp U (T.2.1 26 (K ++ Ks.flatten).length) := Or.inr (Or.inr (Or.inr (Or.inl ⟨rfl, rfl⟩)))
    have h : yA T0 T σ sd rm pc e rets ([.inr (W, q2), .inr (U, q)] ++ K) Ks vs mp told most := h
    have lnn : ([.inr (W, q2), .inr (U, q)] ++ K ++ Ks.flatten : List aI).length = (K ++ Ks.flatten).length + 2 := rfl
    have mk : mv_big layY sysY (d + 5) 66 [.ref 0, .int 24] T (fun r T1 => r = none ∧ P none T1) := by
      refine ⟨160, ?_⟩
      refine ws_aload_n rfl (rfl) rfl (ws_geti rfl rfl (e48) rfl (ws_iload_n rfl (rfl) rfl (ws_bipush (x := 22) rfl rfl rfl (ws_i rfl ⟨fun _ => ?_, fun z => absurd z (show ¬ (24 : Int32) = 22 by decide)⟩))))
      refine ws_iconst (x := 2) rfl rfl rfl (ws_isub rfl (nI_m2 _) rfl (ws_istore_n rfl rfl rfl rfl (ws_aload_n rfl (rfl) rfl (ws_iv rfl rfl rfl ?_))))
      refine mv_deep (d := d + 3) (by omega) (y_begin h (by omega) hrm hL hlv (fun T2 V g => ?_))
      have e35 : T2.1 0 35 = sd := (g.1 0 35 (by omega)).trans ((h.1.1 0 35 (fun z => by unfold yFs at z; omega)).trans h.2.1.1)
      have r26 : ∀ p, T2.2.1 26 p = T.2.1 26 p := fun p => g.2.1 26 p (by decide) (by decide)
      have vU := yB_v (st := st) h g zU
      have vW := yB_v (st := st) h g zW
      refine ws_iload_n rfl (rfl) rfl (ws_bipush (x := 22) rfl rfl rfl (ws_i rfl ⟨fun _ => ?_, fun z => absurd z (show ¬ (24 : Int32) = 22 by decide)⟩))
      refine ws_iload_n rfl (rfl) rfl (ws_bipush (x := 23) rfl rfl rfl (ws_i rfl ⟨fun _ => ?_, fun z => absurd z (show ¬ (24 : Int32) = 23 by decide)⟩))
      refine ws_aload_n rfl (rfl) rfl (ws_aload_n rfl (rfl) rfl (ws_getr rfl rfl rfl (ws_iload_n rfl (rfl) rfl (ws_i rfl ⟨v0, ?_⟩))))
      rw [c0, r26]
      refine ws_aload_n rfl (rfl) rfl (ws_getr rfl rfl rfl (ws_iload_n rfl (rfl) rfl (ws_iconst (x := 1) rfl rfl rfl (ws_iadd rfl (nI_1 _) rfl (ws_i rfl ⟨v1, ?_⟩)))))
      rw [c1, r26]
      refine ws_iv rfl rfl rfl ?_
      refine mv_deep (d := d + 3) (by omega) (y_union g.2.2.1 e35 vU vW hnU hhp (fun z x T3 k => ?_) (fun z T3 N1 c1 k k2 => ?_))
      · exact mv_fuel (n := 30) (by omega) (yH_full h hi (by rw [hw]; decide) g k rfl (fun T4 h4 => ⟨rfl, hF (by omega) T4 h4⟩))
      · exact mv_fuel (n := 50) (by omega) (yH_made h hq g k hst k2 (tOrd_un 801 hoU hoW) hmost rfl rfl (fun T4 σ4 h4 => ⟨rfl, hP (by omega) T4 σ4 h4⟩))
    refine ⟨20, ?_⟩
    refine ws_iload_n rfl (rfl) rfl (ws_tab (t := 159) rfl rfl (by decide) (ws_aload_n rfl (rfl) rfl (ws_iload_n rfl (rfl) rfl (ws_iv rfl rfl rfl ?_))))
    refine mv_big_mono _ _ (Nat.le_refl _) _ _ _ _ _ (fun r T1 z => ?_) mk
    obtain ⟨rfl, z⟩ := z
    refine ws_goto (t := 179) rfl (by decide) (ws_i rfl ?_)
    exact ⟨rfl, z⟩
  refine ⟨40, ?_⟩
  refine ws_aload_n rfl (rfl) rfl (ws_iconst (x := 0) rfl rfl rfl (ws_iv rfl rfl rfl ?_))
  refine mv_deep (d := d + 1) (by omega) (y_wordA (k := 0) h hi (by decide) ?_)
  rw [show yW T0 (pc + 0) = _ from hw]
  refine ws_istore_n rfl rfl rfl rfl (ws_iload_n rfl (rfl) rfl (ws_bipush (x := 30) rfl rfl rfl (ws_i rfl ⟨fun _ => ?_, fun z => absurd z (show ¬ (24 : Int32) = 30 by decide)⟩)))
  refine ws_iload_n rfl (rfl) rfl (ws_bipush (x := 12) rfl rfl rfl (ws_i rfl ⟨fun _ => ?_, fun z => absurd (show (12 : Int32) ≤ 24 by decide) z⟩))
  refine ws_iload_n rfl (rfl) rfl (ws_bipush (x := 19) rfl rfl rfl (ws_i rfl ⟨fun _ => ?_, fun z => absurd (show (19 : Int32) ≤ 24 by decide) z⟩))
  refine ws_aload_n rfl (rfl) rfl (ws_iload_n rfl (rfl) rfl (ws_iv rfl rfl rfl ?_))
  refine mv_big_mono _ _ (Nat.le_refl _) _ _ _ _ _ (fun r T1 z => ?_) inn
  obtain ⟨rfl, z⟩ := z
  refine ws_i rfl ?_
  exact z
end YB

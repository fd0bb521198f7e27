/-! THE CLASS'S STORE: key by key; a call's end -/
def aP : Option Int32 → Int32 → Prop
  | none, _ => True
  | some a, k => a < k
def aD : (q : Option Int32) → ∀ k, Decidable (aP q k)
  | none, _ => .isTrue trivial
  | some a, k => inferInstanceAs (Decidable (a < k))
/-- the part with the next key -/
def tNx (q : Option Int32) (T : tT) : tT := tAbv (aP q) (aD q) .leaf T
theorem lg_lt {x y : Int64} : lg_cmp x y < 0 ↔ x < y := by
  unfold lg_cmp
  by_cases c : x > y
  · rw [if_pos c]
    exact ⟨fun z => absurd z (by decide), fun z => absurd (Int64.lt_trans c z) Int64.lt_irrefl⟩
  · rw [if_neg c]
    by_cases e : x = y
    · rw [if_pos e, e]
      exact ⟨fun z => absurd z (by decide), fun z => absurd z Int64.lt_irrefl⟩
    · rw [if_neg e]
      refine ⟨fun _ => ?_, fun _ => by decide⟩
      rw [Int64.lt_iff_toInt_lt]
      have c : ¬ y < x := c
      rw [Int64.lt_iff_toInt_lt] at c
      have e : ¬ x.toInt = y.toInt := fun z => e (Int64.toInt_inj.mp z)
      omega
theorem aP_x (q : Option Int32) (k : Int32) : aP q k ↔ ¬ lg_cmp k.toInt64 (aNx q) < 0 := by
  rw [lg_lt, Int64.lt_iff_toInt_lt, Int32.toInt_toInt64]
  have b1 := Int32.le_toInt k
  have b2 := Int32.toInt_lt k
  cases q with
  | none =>
    rw [show (aNx none).toInt = -2147483648 by decide]
    exact ⟨fun _ => by omega, fun _ => trivial⟩
  | some a =>
    have c1 := Int32.le_toInt a
    have c2 := Int32.toInt_lt a
    have e : (aNx (some a)).toInt = a.toInt + 1 := by
      show (a.toInt64 + 1).toInt = _
      rw [Int64.toInt_add, Int32.toInt_toInt64, show (1 : Int64).toInt = 1 by decide, Int.bmod_eq_of_le (by omega) (by omega)]
    rw [e]
    show a < k ↔ _
    rw [Int32.lt_iff_toInt_lt]
    omega
theorem rLt_nI {n i : Nat} {r : Nat → Int64} (hi : i < n) (hn : n < 2 ^ 31) : rLt n r (nI i) = r i := by
  unfold rLt
  rw [if_pos ⟨nI_pos' (by omega), nI_lt hi hn⟩, nI_clamp (by omega)]
theorem tAbv_in {p : Int32 → Prop} {D : ∀ k, Decidable (p k)} {Q : tT → Prop} : ∀ {T b : tT}, (∀ s k v l r, Q (.inner s k v l r) → Q l ∧ Q r) → Q T → Q b → Q (tAbv p D b T)
  | .leaf, b, _, _, h => h
  | .inner s k v l r, b, hq, hT, hb => by
    unfold tAbv
    split
    · exact tAbv_in hq (hq s k v l r hT).1 hT
    · exact tAbv_in hq (hq s k v l r hT).2 hb
theorem xNs_app {S : mv_S} : ∀ {D N : List Int32}, xNs S (D ++ N) → xNs S N
  | [], _, h => h
  | _ :: _, _, h => xNs_app h.2
theorem xZs_app {S : mv_S} {σ : Nat → Nat} {sd : Int32} {fb : Nat} : ∀ {D Z : List (tT × Option Int32)}, xZs S σ sd fb (D ++ Z) → xZs S σ sd fb Z
  | [], _, h => h
  | _ :: _, _, h => xZs_app h.2
section XA
variable {d : Nat} {P : Option Value → mv_S → Prop} {S0 S S1 S' : mv_S} {σ : Nat → Nat} {sd : Int32} {rm fb B : Nat} {rets : List Nat} {K : List aI} {Ks : List (List aI)} {vs : Nat → Int32} {mp : Nat → tT} {told : List Int32} {most : Nat} {T U : tT} {x y : Int32} {q : Option Int32} {v w : Nat}
theorem x_setNumberH (h : xA S0 S σ sd rm fb B rets K Ks vs mp told most) (hv : v < 14) (hP : ∀ S', (∀ o i, o ≠ 23 → S'.2.1 o i = S.2.1 o i) → xA S0 S' σ sd rm fb B rets K Ks (aUp vs (aVP Ks.length v) x) mp told most → P none S') : mv_big layX sysX (d + 2) 104 [.ref 4, .int (nI v), .int x] S P := by
  have n24 := h.2.2.2.2.1.2.1
  have lt := aVP_lt (n := Ks.length) hv
  refine x_setNumber ?_
  unfold xVP
  rw [h.2.2.2.2.1.1, aVP_n v hv _ (by omega), sR_nI (by omega) (by decide)]
  refine hP _ (fun o i a => by rw [pr_get, if_neg (fun z => a z.1)]) (xA_var h (fun o f => rfl) (fun o i a => by rw [pr_get, if_neg (fun z => a z.1)]) rfl (fun i hi => ?_))
  rw [pr_get]
  unfold aUp
  by_cases c : i = aVP Ks.length v
  · rw [if_pos ⟨rfl, c⟩, if_pos c]
  · rw [if_neg (fun z => c z.2), if_neg c]; exact h.2.2.2.2.2.1 i hi
set_option maxHeartbeats 1000000 in
set_option maxRecDepth 8000 in
theorem x_comingA (h : xA S0 S σ sd rm fb B rets (.inr (T, q) :: K) Ks vs mp told most) (ho : tOrd T) (hm : (aMap K).length ≤ 16) (hP : ∀ c, xTr S σ (tNx q T) c → P (some (.int c)) S) : mv_big layX sysX (d + 4) 110 [.ref 4] S P := by
  have ln := xBs_len h.2.2.2.2.1.2.2
  have n24 := h.2.2.2.2.1.2.1
  have lt : (aMap (K ++ Ks.flatten)).length < 425 := by rw [aMap_app, List.length_append]; omega
  have e12 : S.1 4 12 = nI ((aMap (K ++ Ks.flatten)).length + 1) := h.2.2.2.1.1
  have z := h.2.2.2.1.2.1
  have t := xCl_tr z.1
  refine ⟨40, ?_⟩
  refine ws_aload_n rfl (rfl) rfl (ws_getr rfl rfl rfl (ws_aload_n rfl (rfl) rfl (ws_getr rfl rfl rfl (ws_aload_n rfl (rfl) rfl (ws_geti rfl rfl (e12) rfl (ws_iconst (x := 1) rfl rfl rfl (ws_isub rfl (nI_pred _) rfl (ws_is rfl rfl rfl ?_))))))))
  refine mv_deep (d := d + 1) (by omega) (x_at_26 ?_)
  rw [rAt_nI lt (by decide)]
  refine ws_aload_n rfl (rfl) rfl (ws_getr rfl rfl rfl (ws_aload_n rfl (rfl) rfl (ws_geti rfl rfl (e12) rfl (ws_iconst (x := 1) rfl rfl rfl (ws_isub rfl (nI_pred _) rfl (ws_is rfl rfl rfl ?_))))))
  refine mv_deep (d := d + 1) (by omega) (x_at_27 ?_)
  rw [rLt_nI lt (by decide)]
  refine ws_iv rfl rfl rfl ?_
  refine mv_deep (d := d + 2) (by omega) (x_least ?_)
  have z2 : S.2.2 27 (aMap (K ++ Ks.flatten)).length = aNx q := z.2
  rw [z2]
  refine ws_i rfl ?_
  exact hP _ (x_abv (fun k => aP_x q k) (by have := xTr_8 t ho; omega) t rfl)
set_option maxHeartbeats 1000000 in
set_option maxRecDepth 8000 in
theorem x_comeToA {c : Int32} (h : xA S0 S σ sd rm fb B rets (.inr (T, q) :: K) Ks vs mp told most) (hm : (aMap K).length ≤ 16) (hv : v < 14) (hw : w < 14) (hc : xTr S σ U c) (hP : ∀ S', xA S0 S' σ sd rm fb B rets (.inr (T, some (tKy U)) :: K) Ks (aUp (aUp vs (aVP Ks.length v) (tKy U)) (aVP Ks.length w) (tV U)) mp told most → P none S') : mv_big layX sysX (d + 4) 111 [.ref 4, .int c, .int (nI v), .int (nI w)] S P := by
  have ln := xBs_len h.2.2.2.2.1.2.2
  have n24 := h.2.2.2.2.1.2.1
  have lt : (aMap (K ++ Ks.flatten)).length < 425 := by rw [aMap_app, List.length_append]; omega
  have e12 : S.1 4 12 = nI ((aMap (K ++ Ks.flatten)).length + 1) := h.2.2.2.1.1
  have eK := (xTr_v hc).2
  refine ⟨60, ?_⟩
  refine ws_aload_n rfl (rfl) rfl (ws_getr rfl rfl rfl (ws_iload_n rfl (rfl) rfl (ws_iv rfl rfl rfl ?_)))
  refine mv_deep (d := d + 1) (by omega) (x_key ?_)
  rw [eK]
  refine ws_istore rfl rfl rfl rfl (ws_aload_n rfl (rfl) rfl (ws_getr rfl rfl rfl (ws_aload_n rfl (rfl) rfl (ws_geti rfl rfl (e12) rfl (ws_iconst (x := 1) rfl rfl rfl (ws_isub rfl (nI_pred _) rfl (ws_iload rfl (rfl) rfl (ws_i2l rfl rfl (ws_lconst (x := 1) rfl rfl rfl (ws_ladd rfl rfl (ws_is rfl rfl rfl ?_)))))))))))
  refine mv_deep (d := d + 1) (by omega) (x_set_27 ?_)
  rw [sL_nI lt (by decide)]
  obtain ⟨S1, hS1⟩ : ∃ S1, S1 = mv_pl S 27 (aMap (K ++ Ks.flatten)).length ((tKy U).toInt64 + 1) := ⟨_, rfl⟩
  rw [← hS1]
  have r1 : ∀ o i, S1.2.1 o i = S.2.1 o i := fun o i => by rw [hS1]; rfl
  have f1 : ∀ o f, S1.1 o f = S.1 o f := fun o f => by rw [hS1]; rfl
  have l1 : ∀ o i, S1.2.2 o i = if o = 27 ∧ i = (aMap (K ++ Ks.flatten)).length then (tKy U).toInt64 + 1 else S.2.2 o i := fun o i => by rw [hS1, pl_get]
  have hs : xHs S S1 := ⟨fun g => f1 3 g, fun o i _ _ => r1 o i⟩
  have h1 : xA S0 S1 σ sd rm fb B rets (.inr (T, some (tKy U)) :: K) Ks vs mp told most := by
    refine xA_map (K' := .inr (T, some (tKy U)) :: K) h rfl (fun o f _ => f1 o f) (fun o i _ => r1 o i) ⟨(f1 4 12).trans e12, ⟨?_, ?_⟩, ?_⟩ (fun T' c2 z => Or.inr (Or.inr ?_))
    · rw [r1]; exact xCl_hs hs h.2.2.2.1.2.1.1
    · rw [l1, if_pos ⟨rfl, rfl⟩]; rfl
    · exact xZs_go hs (fun p hp => by
        have hp : p < (aMap (K ++ Ks.flatten)).length := hp
        exact ⟨r1 26 p, by rw [l1, if_neg (by omega)]⟩) h.2.2.2.1.2.2
    · rcases z with ⟨z1, z2⟩ | z
      · exact Or.inl ⟨z1, by rw [z2]; exact r1 26 _⟩
      · exact Or.inr (xZr_go (fun p _ => r1 26 p) z)
  refine ws_aload_n rfl (rfl) rfl (ws_iload_n rfl (rfl) rfl (ws_iload rfl (rfl) rfl (ws_iv rfl rfl rfl ?_)))
  refine mv_deep (d := d + 2) (by omega) (x_setNumberH h1 hv (fun S2 g2 h2 => ?_))
  refine ws_aload_n rfl (rfl) rfl (ws_iload_n rfl (rfl) rfl (ws_aload_n rfl (rfl) rfl (ws_getr rfl rfl rfl (ws_iload_n rfl (rfl) rfl (ws_iv rfl rfl rfl ?_)))))
  refine mv_deep (d := d + 1) (by omega) (x_value ?_)
  have eV : xC S2 16 c = tV U := by
    rw [← (xTr_v hc).1]
    have gg : ∀ i, S2.2.1 16 i = S.2.1 16 i := fun i => (g2 16 i (by decide)).trans (r1 16 i)
    unfold xC
    rw [gg]
  rw [eV]
  refine ws_iv rfl rfl rfl ?_
  refine mv_deep (d := d + 2) (by omega) (x_setNumberA h2 hw (fun S3 h3 => ?_))
  refine ws_i rfl ?_
  exact hP S3 h3
set_option maxHeartbeats 1000000 in
set_option maxRecDepth 8000 in
theorem x_leaveA {K1 : List aI} {r : Nat} (h : xA S0 S σ sd rm fb B (r :: rets) K (K1 :: Ks) vs mp told most) (hP : ∀ S', xA S0 S' σ sd rm fb B rets (.inl x :: K1) Ks vs mp told most → P (some (.int (nI r))) S') : mv_big layX sysX (d + 4) 113 [.ref 4, .int x] S P := by
  have h0 := h
  obtain ⟨a1, a2, a3, a4, a5, a6, a7, a8, a9, a10⟩ := h
  obtain ⟨b1, b2, b3⟩ := a5
  obtain ⟨⟨b4, b5, b6, b7, b8⟩, b9⟩ := b3
  simp only [List.length_cons] at b1 b2 a6 a7
  have ln := xBs_len b9
  refine ⟨60, ?_⟩
  refine ws_aload_n rfl (rfl) rfl (ws_aload_n rfl (rfl) rfl (ws_getr rfl rfl rfl (ws_aload_n rfl (rfl) rfl (ws_geti rfl rfl (b1) rfl (ws_is rfl rfl rfl ?_)))))
  refine mv_deep (d := d + 1) (by omega) (x_at_28 ?_)
  rw [rAt_nI (by omega) (by decide), b4]
  refine ws_puti rfl rfl rfl ?_
  refine ws_aload_n rfl (rfl) rfl (ws_aload_n rfl (rfl) rfl (ws_getr rfl rfl rfl (ws_aload_n rfl (rfl) rfl (ws_geti rfl rfl ((show (mv_pf S 4 11 _).1 4 13 = nI (Ks.length + 1) by rw [pf_get, if_neg (by omega)]; exact b1)) rfl (ws_is rfl rfl rfl ?_)))))
  refine mv_deep (d := d + 1) (by omega) (x_at_29 ?_)
  rw [rAt_nI (by omega) (by decide), show (mv_pf S 4 11 _).2.1 29 = S.2.1 29 from rfl, b5]
  refine ws_puti rfl rfl rfl ?_
  obtain ⟨S1, hS1⟩ : ∃ S1, S1 = mv_pf (mv_pf S 4 11 (nI (aNum (K1 ++ Ks.flatten)).length)) 4 12 (nI (aMap (K1 ++ Ks.flatten)).length) := ⟨_, rfl⟩
  rw [← hS1]
  have f1 : ∀ o f, S1.1 o f = if o = 4 ∧ f = 12 then nI (aMap (K1 ++ Ks.flatten)).length else if o = 4 ∧ f = 11 then nI (aNum (K1 ++ Ks.flatten)).length else S.1 o f := fun o f => by rw [hS1, pf_get, pf_get]
  have e2 : S1.2 = S.2 := by rw [hS1]; rfl
  have c1 : S1.1 4 13 = nI (Ks.length + 1) := by rw [f1, if_neg (by omega), if_neg (by omega)]; exact b1
  refine ws_aload_n rfl (rfl) rfl (ws_getr rfl rfl rfl (ws_aload_n rfl (rfl) rfl (ws_geti rfl rfl (c1) rfl (ws_is rfl rfl rfl ?_))))
  refine mv_deep (d := d + 1) (by omega) (x_at_30 ?_)
  rw [rAt_nI (by omega) (by decide), e2, b6]
  refine ws_istore_n rfl rfl rfl rfl (ws_aload_n rfl (rfl) rfl (ws_geti rfl rfl (c1) rfl (ws_i rfl ⟨fun z => absurd z (show ¬ nI (Ks.length + 1) ≤ 0 from fun z => absurd z (by rw [← nI_0]; exact nI_ge (by omega) (by omega))), fun _ => ?_⟩)))
  refine ws_aload_n rfl (rfl) rfl (ws_dup_r rfl rfl (ws_geti rfl rfl (c1) rfl (ws_iconst (x := 1) rfl rfl rfl (ws_isub rfl (nI_pred _) rfl (?_)))))
  refine ws_puti rfl rfl rfl ?_
  obtain ⟨S2, hS2⟩ : ∃ S2, S2 = mv_pf S1 4 13 (nI Ks.length) := ⟨_, rfl⟩
  rw [← hS2]
  have f2 : ∀ o f, S2.1 o f = if o = 4 ∧ f = 13 then nI Ks.length else if o = 4 ∧ f = 12 then nI (aMap (K1 ++ Ks.flatten)).length else if o = 4 ∧ f = 11 then nI (aNum (K1 ++ Ks.flatten)).length else S.1 o f := fun o f => by rw [hS2, pf_get, f1]
  have r2 : ∀ o i, S2.2.1 o i = S.2.1 o i := fun o i => by rw [hS2]; show S1.2.1 o i = _; rw [e2]
  have l2 : S2.2.2 = S.2.2 := by rw [hS2]; show S1.2.2 = _; rw [e2]
  have hs : xHs S S2 := ⟨fun g => by rw [f2, if_neg (by omega), if_neg (by omega), if_neg (by omega)], fun o i _ _ => r2 o i⟩
  have en : aNum (K ++ (K1 :: Ks).flatten) = aNum K ++ aNum (K1 ++ Ks.flatten) := by rw [List.flatten_cons, aNum_app]
  have ez : aMap (K ++ (K1 :: Ks).flatten) = aMap K ++ aMap (K1 ++ Ks.flatten) := by rw [List.flatten_cons, aMap_app]
  have h2 : xA S0 S2 σ sd rm fb B rets K1 Ks vs mp told most := by
    rw [en] at a3
    rw [ez] at a4
    refine xA_gen h0 ⟨fun o g a b c => by rw [f2, if_neg (by omega), if_neg (by omega), if_neg (by omega)], by rw [f2, if_neg (by omega), if_neg (by omega), if_neg (by omega)], fun o i _ => r2 o i⟩ hs ⟨by rw [f2, if_neg (by omega), if_neg (by omega), if_pos ⟨rfl, rfl⟩], xNs_go (fun p _ => r2 25 p) (xNs_app a3.2)⟩ ⟨by rw [f2, if_neg (by omega), if_pos ⟨rfl, rfl⟩], xZs_go hs (fun p _ => ⟨r2 26 p, by rw [l2]⟩) (xZs_app a4.2)⟩ ⟨by rw [f2, if_pos ⟨rfl, rfl⟩], by omega, xBs_go (fun o i _ _ => r2 o i) b9⟩ (fun i hi => (r2 23 i).trans (a6 i (by omega))) (fun i hi => by rw [r2 24 i]; exact xCl_hs hs (a7 i (by omega))) ⟨by rw [f2, if_neg (by omega), if_neg (by omega), if_neg (by omega)]; exact a8.1, a8.2.1, fun p x hp => (r2 31 p).trans (a8.2.2 p x hp)⟩ (by rw [f2, if_neg (by omega), if_neg (by omega), if_neg (by omega)]; exact a9) (fun T c z => Or.inr ?_)
    rcases z with ⟨i, i1, i2, i3⟩ | z
    · exact Or.inl ⟨i, by simp only [List.length_cons]; omega, i2, by rw [i3]; exact r2 24 i⟩
    · rw [ez]
      exact Or.inr (xZr_pre (xZr_go (fun p _ => r2 26 p) z))
  refine ws_aload_n rfl (rfl) rfl (ws_iload_n rfl (rfl) rfl (ws_iv rfl rfl rfl ?_))
  refine mv_deep (d := d + 2) (by omega) (x_pushA h2 (by omega) (fun S3 h3 => ?_))
  refine ws_iload_n rfl (rfl) rfl (ws_i rfl ?_)
  exact hP S3 h3
end XA

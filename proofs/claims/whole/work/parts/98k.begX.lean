/-! THE CLASS BEGINS, WALKS -/
/-- what is held at a beginning -/
def aD0 (arg : Int32) : aDt := ([], [], fun i => if i = 0 then arg else 0, fun _ => .leaf, [], 0, 0)
theorem aD0_ok {sd arg : Int32} {rm : Nat} : aOk sd rm (aD0 arg) := by
  have hd : ∀ U, aHd (aD0 arg) U → U = .leaf := by
    intro U z
    rcases z with ⟨i, _, e⟩ | ⟨q, z⟩
    · exact e
    · cases z
  refine ⟨fun U z => ?_, Nat.zero_le _, ?_⟩
  · rw [hd U z]; exact ⟨trivial, trivial, trivial⟩
  · have : hNs (aHd (aD0 arg)) [] := by
      refine ⟨List.nodup_nil, fun x => Iff.intro (fun z => absurd z List.not_mem_nil) (fun z => ?_)⟩
      obtain ⟨T, h1, h2⟩ := z
      rw [hd T h1] at h2
      exact absurd h2 List.not_mem_nil
    rw [aLv_eq this]
    exact Nat.zero_le _
theorem nI_surj (x : Int32) : ∃ n, x = nI n := ⟨x.toBitVec.toNat, by
  apply Int32.toBitVec_inj.mp
  show x.toBitVec = BitVec.ofNat 32 x.toBitVec.toNat
  simp⟩
theorem xCL_f (S : mv_S) (o f : Nat) : (xCL S).1 o f = if o = 4 ∧ (f = 11 ∨ f = 12 ∨ f = 13 ∨ f = 14 ∨ f = 15 ∨ f = 16) then 0 else S.1 o f := by
  show (mv_pf (mv_pf (mv_pf (mv_pf (mv_pf (mv_pf S 4 13 0) 4 11 0) 4 12 0) 4 14 0) 4 15 0) 4 16 0).1 o f = _
  rw [pf_get, pf_get, pf_get, pf_get, pf_get, pf_get]
  by_cases h : o = 4 ∧ (f = 11 ∨ f = 12 ∨ f = 13 ∨ f = 14 ∨ f = 15 ∨ f = 16)
  · rw [if_pos h]
    obtain ⟨rfl, h⟩ := h
    rcases h with rfl | rfl | rfl | rfl | rfl | rfl <;> simp
  · rw [if_neg h, if_neg (by omega), if_neg (by omega), if_neg (by omega), if_neg (by omega), if_neg (by omega), if_neg (by omega)]
theorem xCL_r (S : mv_S) (o i : Nat) : (xCL S).2.1 o i = if (o = 23 ∧ i < 158) ∨ (o = 24 ∧ i < 54) then 0 else S.2.1 o i := by
  show va_up (va_up (va_up S.2.1 23 (rFill (S.2.1 23) 0 158 0)) 24 (rFill ((va_up S.2.1 23 (rFill (S.2.1 23) 0 158 0)) 24) 0 54 0)) 24 (rFill (va_up (va_up S.2.1 23 (rFill (S.2.1 23) 0 158 0)) 24 (rFill ((va_up S.2.1 23 (rFill (S.2.1 23) 0 158 0)) 24) 0 54 0) 24) 4 54 0) o i = _
  by_cases h : o = 24
  · subst h
    by_cases h2 : i < 54
    · by_cases h3 : 4 ≤ i
      · simp [va_up, rFill, h2, h3]
      · simp [va_up, rFill, h2, h3]
    · simp [va_up, rFill, h2]
  · by_cases h1 : o = 23
    · subst h1
      by_cases h2 : i < 158 <;> simp [va_up, rFill, h2]
    · simp [va_up, h, h1]
section XB
variable {d : Nat} {P : Option Value → mv_S → Prop} {S S' : mv_S} {sd arg : Int32} {rm r : Nat}
set_option maxHeartbeats 1000000 in
set_option maxRecDepth 8000 in
theorem x_giveAll (hR : xRo S r) (hr : r + 1 < 2 ^ 31) (hP : ∀ S' F, (∀ o f, o ≠ 3 → S'.1 o f = S.1 o f) → S'.1 3 12 = S.1 3 12 → S'.1 3 13 = S.1 3 13 → (∀ o i, o ≠ 20 → S'.2.1 o i = S.2.1 o i) → S'.2.2 = S.2.2 → xRo S' (r + 1) → xFL S' F → F.Nodup → F.length = 800 → (∀ i, i ∈ F ↔ 1 ≤ i ∧ i ≤ 800) → P none S') : mv_big layX sysX (d + 2) 1 [.ref 3] S P := by
  refine ⟨20, ?_⟩
  refine ws_aload_n rfl (rfl) rfl (ws_iv rfl rfl rfl ?_)
  refine mv_deep (d := d + 1) (by omega) (x_beginReaching ?_)
  have md := xBR_md hR hr
  obtain ⟨S1, eS⟩ : ∃ S1, S1 = mv_pf (mv_pf S 3 10 (S.1 3 10 + 1)) 3 11 0 := ⟨_, rfl⟩
  rw [← eS] at md ⊢
  have f1 : ∀ o f, S1.1 o f = if o = 3 ∧ f = 11 then 0 else if o = 3 ∧ f = 10 then S.1 3 10 + 1 else S.1 o f := fun o f => by rw [eS, pf_get, pf_get]
  have r1 : S1.2 = S.2 := by rw [eS]; rfl
  refine ws_aload_n rfl (rfl) rfl (ws_iv rfl rfl rfl ?_)
  refine mv_deep (d := d + 1) (by omega) (x_giveBack md (fun S2 F g1 g2 g3 g4 => ?_))
  refine ws_i rfl ?_
  refine hP S2 F (fun o f a => ?_) ?_ ?_ (fun o i a => ?_) ?_ ⟨?_, fun i i1 i2 => ?_⟩ g2 g3 ?_ (fun i => ?_)
  · rw [g1.1 o f (fun z => a z.1), f1, if_neg (fun z => a z.1), if_neg (fun z => a z.1)]
  · rw [g1.1 3 12 (by omega), f1, if_neg (by omega), if_neg (by omega)]
  · rw [g1.1 3 13 (by omega), f1, if_neg (by omega), if_neg (by omega)]
  · rw [g1.2.1 o i a, r1]
  · rw [g1.2.2, r1]
  · rw [g1.1 3 10 (by omega), f1, if_neg (by omega), if_pos ⟨rfl, rfl⟩, hR.1, nI_1]
  · rw [g1.2.1 21 i (by decide), r1]
    obtain ⟨a, a1, a2⟩ := hR.2 i i1 i2
    exact ⟨a, by omega, a2⟩
  · have := fl_len g3 List.nodup_nil (fun i z => by cases z) g4
    exact this
  · rw [g4 i]
    exact ⟨fun z => ⟨z.1, z.2.1⟩, fun z => ⟨z.1, z.2, fun y => by cases y⟩⟩
set_option maxHeartbeats 1000000 in
set_option maxRecDepth 8000 in
theorem x_begin (hR : xRo S r) (hr : r + 1 < 2 ^ 31) (e12 : S.1 3 12 = sd) (e13 : S.1 3 13 = nI rm) (hrm : rm ≤ 400) (hP : ∀ S', (∀ o f, o ≠ 3 → o ≠ 4 → S'.1 o f = S.1 o f) → (∀ o i, (o < 15 ∨ 35 ≤ o) → S'.2.1 o i = S.2.1 o i) → S'.1 4 15 = 0 → xD S' S' sd rm (r + 1) [] (aD0 arg) → P none S') : mv_big layX sysX (d + 4) 93 [.ref 4, .int arg] S P := by
  refine ⟨40, ?_⟩
  refine ws_aload_n rfl (rfl) rfl (ws_iv rfl rfl rfl ?_)
  refine mv_deep (d := d + 2) (by omega) (x_sclear ?_)
  have fC := xCL_f S
  have rC := xCL_r S
  have lC : (xCL S).2.2 = S.2.2 := rfl
  obtain ⟨S1, eS⟩ : ∃ S1, S1 = xCL S := ⟨_, rfl⟩
  rw [← eS] at fC rC lC ⊢
  have hR1 : xRo S1 r := by
    refine ⟨by rw [fC, if_neg (by omega)]; exact hR.1, fun i i1 i2 => ?_⟩
    rw [rC, if_neg (by omega)]; exact hR.2 i i1 i2
  refine ws_aload_n rfl (rfl) rfl (ws_getr rfl rfl rfl (ws_iv rfl rfl rfl ?_))
  refine mv_deep (d := d + 2) (by omega) (x_giveAll hR1 hr (fun S2 F g1 g2 g3 g4 g5 g6 g7 g8 g9 g10 => ?_))
  refine ws_aload_n rfl (rfl) rfl (ws_getr rfl rfl rfl (ws_iconst (x := 0) rfl rfl rfl (ws_iload_n rfl (rfl) rfl (ws_is rfl rfl rfl ?_))))
  refine mv_deep (d := d + 1) (by omega) (x_set_23 ?_)
  rw [show (0 : Int32) = nI 0 from rfl, sR_nI (by decide) (by decide)]
  refine ws_i rfl ?_
  obtain ⟨S3, eS3⟩ : ∃ S3, S3 = mv_pr S2 23 0 arg := ⟨_, rfl⟩
  rw [← eS3]
  have r3 : ∀ o i, S3.2.1 o i = if o = 23 ∧ i = 0 then arg else S2.2.1 o i := fun o i => by rw [eS3, pr_get]
  have f3 : ∀ o f, S3.1 o f = S2.1 o f := fun o f => by rw [eS3]; rfl
  have ff : ∀ o f, o ≠ 3 → S3.1 o f = if o = 4 ∧ (f = 11 ∨ f = 12 ∨ f = 13 ∨ f = 14 ∨ f = 15 ∨ f = 16) then 0 else S.1 o f := fun o f a => by rw [f3, g1 o f a, fC]
  have rr : ∀ o i, o ≠ 20 → S3.2.1 o i = if o = 23 ∧ i = 0 then arg else if (o = 23 ∧ i < 158) ∨ (o = 24 ∧ i < 54) then 0 else S.2.1 o i := fun o i a => by rw [r3, g4 o i a, rC]
  have r20 : ∀ i, S3.2.1 20 i = S2.2.1 20 i := fun i => by rw [r3, if_neg (by omega)]
  have zero : ∀ f, (f = 11 ∨ f = 12 ∨ f = 13 ∨ f = 14 ∨ f = 15 ∨ f = 16) → S3.1 4 f = 0 := fun f hf => by rw [ff 4 f (by decide), if_pos ⟨rfl, hf⟩]
  refine hP S3 (fun o f a b => ?_) (fun o i a => ?_) (zero 15 (by omega)) ⟨fun _ => 0, 800, xO_refl, ?_, ⟨zero 11 (by omega), trivial⟩, ⟨zero 12 (by omega), trivial⟩, ⟨zero 13 (by omega), Nat.zero_le _, trivial⟩, fun i hi => ?_, fun i hi => ?_, ⟨zero 14 (by omega), Nat.zero_le _, fun p x hp => ?_⟩, zero 16 (by omega), ?_⟩
  · rw [ff o f a, if_neg (fun z => b z.1)]
  · rw [rr o i (by omega), if_neg (by omega), if_neg (by omega)]
  · refine ⟨?_, ?_, hrm, ?_, by omega, by omega, fun p hp => ?_, fun p q hp hq e => ?_, r + 1, Nat.le_refl _, ?_, fun i i1 i2 => ?_⟩
    · rw [f3, g2, fC, if_neg (by omega)]; exact e12
    · rw [f3, g3, fC, if_neg (by omega)]; exact e13
    · rw [f3, g7.1, g9]
    · have hp' : p < F.length := by omega
      have hF := g7.2 p F[p] (List.getElem?_eq_getElem hp')
      have hi := (g10 F[p]).mp (List.getElem_mem hp')
      exact ⟨F[p], hi.1, hi.2, by rw [r20]; exact hF⟩
    · have hp' : p < F.length := by omega
      have hq' : q < F.length := by omega
      have h1 := g7.2 p F[p] (List.getElem?_eq_getElem hp')
      have h2 := g7.2 q F[q] (List.getElem?_eq_getElem hq')
      have i1 := (g10 F[p]).mp (List.getElem_mem hp')
      have i2 := (g10 F[q]).mp (List.getElem_mem hq')
      rw [r20, r20, h1, h2] at e
      have e2 : F[p] = F[q] := (nI_eq (by omega) (by omega)).mp e
      exact (List.getElem_inj g8).mp e2
    · rw [f3]; exact g6.1
    · rw [r3, if_neg (by omega)]; exact g6.2 i i1 i2
  · have hi : i < 14 := hi
    show S3.2.1 23 i = if i = 0 then arg else 0
    rw [rr 23 i (by decide)]
    by_cases c : i = 0
    · rw [if_pos ⟨rfl, c⟩, if_pos c]
    · rw [if_neg (fun z => c z.2), if_pos (by omega), if_neg c]
  · have hi : i < 6 := hi
    show S3.2.1 24 i = 0
    rw [rr 24 i (by decide), if_neg (by omega), if_pos (by omega)]
  · cases hp
  · intro T c T' c' i j h1 h2 hi
    exfalso
    rcases h1 with ⟨q, _, e, _⟩ | z
    · have e : T = .leaf := e
      rw [e] at hi
      cases hi
    · exact z
end XB
section XV
variable {d : Nat} {P : Option Value → mv_S → Prop} {S : mv_S} {w par : Nat → Int32} {fa ft : Nat → Nat} {sd : Int32} {rm gr Bt L n B : Nat} {tk : Nat → Int32} {mt mm pe : Nat} {l1 : List Int32} {s1 : List (Bool × Nat × Nat)} {arg : Int32}
set_option maxHeartbeats 1000000 in
set_option maxRecDepth 8000 in
theorem x_walk (hy : wHy S w par fa ft rm gr Bt L n tk) (hB : B + 1000000 ≤ Bt) (hD : xD S S sd rm B [] (aD0 arg)) (e15 : S.1 4 15 = 0) (e8 : S.1 1 8 = nI mt) (hmt : tk mt = 11) (hm7 : mt < 700) (hc : cLoop tk (cStm n tk par true true 16) 700 (mt + 1) mm = .ok (pe, l1, s1)) (hpe : tk pe = 0) (hs : Seg w mm (l1 ++ [0])) (hl : mm + l1.length + 1 ≤ L) (hn : wN S s1) (hsub : wSub par par) (hty : tyA w par L true mm []) (hG : wG P S w par fa sd rm gr Bt gr (mm, [], aD0 arg)) : mv_big layX sysX (d + 8) 138 [.ref 7, .int (nI gr)] S P := by
  have hn7 := hy.1.2.1
  have hgr := hy.2.2.1
  obtain ⟨nx0, ex0⟩ := nI_surj (S.1 7 5)
  obtain ⟨S1, eS⟩ : ∃ S1, S1 = mv_pf (mv_pf (mv_pf (mv_pf S 7 6 (nI gr)) 7 7 0) 7 8 1) 7 4 0 := ⟨_, rfl⟩
  have f1 : ∀ o f, S1.1 o f = if o = 7 ∧ f = 4 then 0 else if o = 7 ∧ f = 8 then 1 else if o = 7 ∧ f = 7 then 0 else if o = 7 ∧ f = 6 then nI gr else S.1 o f := fun o f => by rw [eS, pf_get, pf_get, pf_get, pf_get]
  have r1 : S1.2 = S.2 := by rw [eS]; rfl
  have q := xWb_out (Sp := S) (S' := S1) ⟨fun _ _ _ _ _ _ => rfl, fun _ _ _ => rfl⟩ hD (fun o g a _ => by rw [f1, if_neg (fun z => a z.1), if_neg (fun z => a z.1), if_neg (fun z => a z.1), if_neg (fun z => a z.1)]) (fun _ _ _ => by rw [r1]) (by rw [r1])
  have h1 : xWk S S1 sd rm B [] (aD0 arg) [] nx0 gr 0 := by
    refine ⟨q.1, q.2, ?_, by decide, trivial, ?_, ?_, ?_, ?_, ?_⟩
    · rw [f1, if_pos ⟨rfl, rfl⟩]; rfl
    · rw [f1, if_neg (by omega), if_neg (by omega), if_neg (by omega), if_neg (by omega)]; exact ex0
    · rw [f1, if_neg (by omega), if_neg (by omega), if_neg (by omega), if_pos ⟨rfl, rfl⟩]
    · rw [f1, if_neg (by omega), if_neg (by omega), if_pos ⟨rfl, rfl⟩]
    · rw [f1, if_neg (by omega), if_pos ⟨rfl, rfl⟩]
    · rw [f1, if_neg (by omega), if_neg (by omega), if_neg (by omega), if_neg (by omega)]; exact e15
  have e81 : S1.1 1 8 = nI mt := by rw [f1, if_neg (by omega), if_neg (by omega), if_neg (by omega), if_neg (by omega)]; exact e8
  refine ⟨80 * 1000000 + 200, ?_⟩
  refine ws_aload_n rfl (rfl) rfl (ws_iload_n rfl (rfl) rfl (ws_puti rfl rfl rfl (ws_aload_n rfl (rfl) rfl (ws_iconst (x := 0) rfl rfl rfl (ws_putz rfl rfl (Or.inl rfl) rfl (ws_aload_n rfl (rfl) rfl (ws_iconst (x := 1) rfl rfl rfl (ws_puti rfl rfl rfl (ws_aload_n rfl (rfl) rfl (ws_iconst (x := 0) rfl rfl rfl (ws_puti rfl rfl rfl (ws_aload_n rfl (rfl) rfl (ws_aload_n rfl (rfl) rfl (ws_getr rfl rfl rfl (ws_iv rfl rfl rfl ?_)))))))))))))))
  rw [← eS]
  refine mv_deep (d := d + 1) (by omega) (x_mainToken ?_)
  rw [e81]
  refine ws_iv rfl rfl rfl ?_
  refine mv_deep (d := d + 2) (by omega) (x_openAtW h1 (by decide) (fun S2 h2 => ?_))
  have e82 : S2.1 1 8 = nI mt := (h2.1.1 1 8 (by decide) (by decide) (by decide) (by decide)).trans e8
  refine ws_aload_n rfl (rfl) rfl (ws_aload_n rfl (rfl) rfl (ws_getr rfl rfl rfl (ws_iv rfl rfl rfl ?_)))
  refine mv_deep (d := d + 1) (by omega) (x_mainToken ?_)
  rw [e82]
  refine ws_iconst (x := 1) rfl rfl rfl (ws_iadd rfl (nI_1 _) rfl (?_))
  refine ws_puti rfl rfl rfl (ws_iconst (x := nI 0) rfl rfl rfl (ws_istore_n rfl rfl rfl rfl ?_))
  have h3 := xWk_nx (g := mt + 1) h2
  refine mv_fuel (n := 80 * 1000000 + 80) (by omega) ?_
  have goal : xLp P d 1000000 (mv_pf S2 7 5 (nI (mt + 1))) := by
    have hM : wM P S w par fa sd rm gr Bt L gr (mm, [], aD0 arg) := ⟨⟨hty, trivial, Nat.zero_le _, aD0_ok⟩, hG⟩
    obtain ⟨g1, g2⟩ := Seg_app hs
    obtain ⟨w0, _⟩ := Seg_cons g2
    have hw0 : w (mm + l1.length) = nI 0 := w0
    refine wBlk (X := 100) (g := 0) (q := mt) (O := []) (oc := []) (rets := []) (mn := true) (r := 16) hy (wAll hy gr).2 (Nat.le_refl _) hsub (by omega) (wTn_b11 hy hm7 hmt) 0 (by omega) 700 (mt + 1) mm pe l1 s1 hc g1 hn (by omega) 1000000 gr [] (aD0 arg).2 _ (Nat.le_refl _) rfl (by omega) (show 0 + 1 + 16 ≤ 17 * (0 + 1) by decide) ⟨B, by omega, Nat.le_refl _, Nat.le_refl _, by rw [Nat.sub_self]; exact h3⟩ hM (fun z => by cases z) (fun k5 left5 Rr5 S5 v1 v2 v3 hX5 hM5 => ?_)
    obtain ⟨Ks5, Re5⟩ := Rr5
    have v3 : Ks5 = [] := v3
    subst v3
    obtain ⟨k5, rfl⟩ : ∃ k0, k5 = k0 + 1 := ⟨k5 - 1, by omega⟩
    obtain ⟨B5, d1, d2, d3, d4⟩ := hX5
    have hpn : pe < n := tk_in hy.1.2.2.2.1 (by rw [hpe]; decide)
    refine x_lp11 hy.1 d4 (by omega) hm7 hmt (mv_deep (d := d + 6) (by omega) (x_bodyE hy.1 d4 (by omega) hpe (x_comeBack0 d4 (fun S6 h6 => ⟨rfl, ?_⟩)) (fun r S z => z.1)))
    have e9 : aSt w par fa sd rm (mm + l1.length, [], [], [], Re5) = (0, mm + l1.length + 1, [], [], [], Re5) := aSt_k (k := 0) (s := (mm + l1.length, [], [], [], Re5)) hw0 (by decide)
    exact x_lpS h6 (by omega) (wG_en (B := B5) hM5.2 (aIs_no (k := 0) hw0 (by decide)) (by rw [e9]) (by decide) (by decide) (by omega) (by rw [e9]; exact h6))
  exact goal _ rfl (by rw [show (1000000 : Nat) - 1000000 = 0 from Nat.sub_self _]; rfl)
end XV

/-! THE CLASS SPLITS A TREE: with room -/
section XW
variable {d : Nat} {P : Option Value → mv_S → Prop} {S0 S : mv_S} {σ : Nat → Nat} {st : Nat} {sd : Int32} {rm fb m : Nat} {H : Bool → Nat → Prop}
/-- what differs not -/
def xSame (S S' : mv_S) : Prop := (∀ o f, ¬ (o = 3 ∧ (f = 8 ∨ f = 14)) → S'.1 o f = S.1 o f) ∧ (∀ o i, 32 ≤ o → o ≤ 34 → S'.2.1 o i = S.2.1 o i)
/-- the loop under way -/
def xSp (S0 S S' : mv_S) (σ : Nat → Nat) (sd : Int32) (rm fb m m' : Nat) (H : Bool → Nat → Prop) (fl fh : tT → tT) (T : tT) (c : Int32) (lb : Bool) (li : Nat) (gb : Bool) (gi : Nat) : Prop :=
  xMs S0 S' rm fb m' ∧ xHok S0 fb m' (x2 H lb li gb gi) ∧ ¬ H lb li ∧ ¬ H gb gi ∧ ¬ (lb = gb ∧ li = gi) ∧ xTo 802 (S0.2.1 20) (fb - m) (x2 H false 802 true 802) S (fb - m') (x2 H lb li gb gi) S' ∧ xHo 802 (S0.2.1 20) (fb - m') (x2 H lb li gb gi) S' σ sd lb li fl false 802 ∧ xHo 802 (S0.2.1 20) (fb - m') (x2 H lb li gb gi) S' σ sd gb gi fh true 802 ∧ xCl (S0.2.1 20) (fb - m') (x2 H lb li gb gi) S' σ sd T c ∧ xSame S S'
set_option maxHeartbeats 1000000 in
set_option maxRecDepth 8000 in
theorem xSp_tail {l : List (Nat × Value)} {key c i : Int32} {S' : mv_S} {m' : Nat} {fl fh : tT → tT} {T : tT} {lb gb : Bool} {li gi : Nat} (hl : xSL l key (xHv lb li) (xHv gb gi) c i) (h : xSp S0 S S' σ sd rm fb m m' H fl fh T c lb li gb gi)
    (hP : ∀ S3, xMs S0 S3 rm fb m' → xTo 802 (S0.2.1 20) (fb - m) (x2 H false 802 true 802) S (fb - m') H S3 → xCl (S0.2.1 20) (fb - m') H S3 σ sd (fl (tL T)) (S3.2.1 18 802) → xCl (S0.2.1 20) (fb - m') H S3 σ sd (fh (tR T)) (S3.2.1 19 802) → xSame S S3 → P none S3) : xPw P d 40 125 l [] S' := by
  obtain ⟨a1, a2, a3, a4, a5, a6, a7, a8, a9, a10⟩ := h
  obtain ⟨l0, l2, l3, l4, l5, l6⟩ := hl
  obtain ⟨b1, b2, b3, b4⟩ := a2 lb li (Or.inr (Or.inl ⟨rfl, rfl⟩))
  obtain ⟨c1, c2, c3, c4⟩ := a2 gb gi (Or.inr (Or.inr ⟨rfl, rfl⟩))
  refine ws_aload_n rfl (l0) rfl (ws_getr rfl rfl rfl (ws_iload_n rfl (l3) rfl (ws_aload_n rfl (l0) rfl (ws_getr rfl rfl rfl (ws_iload rfl (l5) rfl (ws_iv rfl rfl rfl ?_))))))
  refine x_lesser ?_
  refine ws_iv rfl rfl rfl ?_
  refine x_hng b1 b2 ?_
  obtain ⟨S2, hS2⟩ : ∃ S2, S2 = mv_pr S' (xRw lb) li (xC S' 18 c) := ⟨_, rfl⟩
  rw [← hS2]
  have r2 : ∀ o i, S2.2.1 o i = if o = xRw lb ∧ i = li then xC S' 18 c else S'.2.1 o i := fun o i => by rw [hS2, pr_get]
  have go1 : xTo 802 (S0.2.1 20) (fb - m') (x2 H lb li gb gi) S' (fb - m') (xRm (x2 H lb li gb gi) lb li) S2 := xClose (Or.inr (Or.inl ⟨rfl, rfl⟩)) (fun i o _ _ _ z => by rw [r2, if_neg z])
  refine ws_aload_n rfl (l0) rfl (ws_getr rfl rfl rfl (ws_iload rfl (l4) rfl (ws_aload_n rfl (l0) rfl (ws_getr rfl rfl rfl (ws_iload rfl (l5) rfl (ws_iv rfl rfl rfl ?_))))))
  refine x_greater ?_
  refine ws_iv rfl rfl rfl ?_
  refine x_hng c1 c2 ?_
  obtain ⟨S3, hS3⟩ : ∃ S3, S3 = mv_pr S2 (xRw gb) gi (xC S2 19 c) := ⟨_, rfl⟩
  rw [← hS3]
  have r3 : ∀ o i, S3.2.1 o i = if o = xRw gb ∧ i = gi then xC S2 19 c else S2.2.1 o i := fun o i => by rw [hS3, pr_get]
  have hg2 : xRm (x2 H lb li gb gi) lb li gb gi := ⟨Or.inr (Or.inr ⟨rfl, rfl⟩), fun z => a5 ⟨z.1.symm, z.2.symm⟩⟩
  have go2 : xTo 802 (S0.2.1 20) (fb - m') (xRm (x2 H lb li gb gi) lb li) S2 (fb - m') (xRm (xRm (x2 H lb li gb gi) lb li) gb gi) S3 := xClose hg2 (fun i o _ _ _ z => by rw [r3, if_neg z])
  rw [x2_rm a4 a3] at go2
  have go := xTo_trans go1 go2
  have v1 := (xCl_kids a9).1
  have v2 := (xCl_kids (xCl_go (by decide) go1 a9)).2
  have e1 : S3.2.1 (xRw lb) li = xC S' 18 c := by rw [r3, if_neg (fun z => a5 ⟨xRw_i z.1, z.2⟩), r2, if_pos ⟨rfl, rfl⟩]
  have e2 : S3.2.1 (xRw gb) gi = xC S2 19 c := by rw [r3, if_pos ⟨rfl, rfl⟩]
  have m3 : xMs S0 S3 rm fb m' := by rw [hS3, hS2]; exact xMs_pr (xMs_pr a1 b4) c4
  refine ws_i rfl ?_
  refine hP S3 m3 (xTo_trans a6 go) (a7 _ _ S3 go a3 _ (by rw [e1]; exact xCl_go (by decide) go v1)) (a8 _ _ S3 go a4 _ (by rw [e2]; exact xCl_go (by decide) go2 v2)) ⟨fun o f z => ?_, fun o i z1 z2 => ?_⟩
  · rw [hS3, hS2]; exact a10.1 o f z
  · have y1 := xRw_b lb
    have y2 := xRw_b gb
    rw [r3, if_neg (by omega), r2, if_neg (by omega)]; exact a10.2 o i z1 z2
set_option maxHeartbeats 2000000 in
set_option maxRecDepth 8000 in
theorem xSp_down {key : Int32} {T0 : tT} (hB : xBg S0 sd rm fb) (hs : ∀ i, xIn (S0.2.1 20) fb i → σ i = st) (hmr : m ≤ rm)
    (hf : rm < m + tSpN key T0 → ∀ S', xOv S0 S' rm fb → xSF S S' → P none S')
    (hP : m + tSpN key T0 ≤ rm → ∀ S3, xMs S0 S3 rm fb (m + tSpN key T0) → xTo 802 (S0.2.1 20) (fb - m) (x2 H false 802 true 802) S (fb - (m + tSpN key T0)) H S3 → xCl (S0.2.1 20) (fb - (m + tSpN key T0)) H S3 σ sd (tLo st key T0) (S3.2.1 18 802) → xCl (S0.2.1 20) (fb - (m + tSpN key T0)) H S3 σ sd (tHi st key T0) (S3.2.1 19 802) → xSame S S3 → P none S3) : ∀ (T : tT) (l : List (Nat × Value)) (c : Int32) (S' : mv_S) (m' n : Nat) (fl fh : tT → tT) (lb gb : Bool) (li gi : Nat), n + m = m' → m' + tSpN key T = m + tSpN key T0 → fl (tLo st key T) = tLo st key T0 → fh (tHi st key T) = tHi st key T0 → xSL l key (xHv lb li) (xHv gb gi) c (nI n) → xSp S0 S S' σ sd rm fb m m' H fl fh T c lb li gb gi → xPw P d (33000 + 80 * tN T) 15 l [] S' := by
  intro T
  induction T with
  | leaf =>
    intro l c S' m' n fl fh lb gb li gi hn hm e1 e2 hl h
    have c0 : c = 0 := h.2.2.2.2.2.2.2.2.1
    have lm : m' ≤ rm := h.1.2.2.2.2
    have b3 := hB.2.2.1
    simp only [tSpN, Nat.add_zero] at hm
    subst hm
    have tl := xSp_tail (d := d) (P := P) hl h (fun S3 g1 g2 g3 g4 g5 => hP lm S3 g1 g2 (by rw [← e1]; exact g3) (by rw [← e2]; exact g4) g5)
    subst c0
    obtain ⟨l0, l2, l3, l4, l5, l6⟩ := hl
    have lt : ¬ (401 : Int32) ≤ nI n := nI_ge (b := 401) (by omega) (by decide)
    refine ws_iload rfl (l6) rfl (ws_sipush (x := 401) rfl rfl rfl (ws_i rfl ⟨fun z => absurd z lt, fun _ => ?_⟩))
    refine ws_iload rfl (l5) rfl (ws_i rfl ⟨fun _ => ?_, fun z => absurd rfl z⟩)
    exact mv_fuel (by omega) tl
  | inner t k v xl xr ihl ihr =>
    intro l c S' m' n fl fh lb gb li gi hn hm e1 e2 hl h
    have lm : m' ≤ rm := h.1.2.2.2.2
    have b3 := hB.2.2.1
    have lt : ¬ (401 : Int32) ≤ nI n := nI_ge (b := 401) (by omega) (by decide)
    have h0 := h
    obtain ⟨a1, a2, a3, a4, a5, a6, a7, a8, a9, a10⟩ := h
    have a9' := a9
    obtain ⟨i, i1, i2, rfl, i4, i5, i6, i7, i8, i9, i10, i11⟩ := a9'
    have ne0 : ¬ nI i = 0 := nI_ne0 (by omega) (by omega)
    have ek : xC S' 15 (nI i) = k := by rw [xC_in i1 i2]; exact i7
    simp only [tN]
    refine mv_fuel (n := 33000 + 80 * (tN xl + tN xr) + 80) (by omega) ?_
    by_cases ekk : k = key
    · have en : tSpN key (.inner t k v xl xr) = 0 := by rw [tSpN, if_pos ekk]
      have el : tLo st key (.inner t k v xl xr) = xl := by rw [tLo, if_pos ekk]
      have eh : tHi st key (.inner t k v xl xr) = xr := by rw [tHi, if_pos ekk]
      rw [en, Nat.add_zero] at hm
      rw [el] at e1
      rw [eh] at e2
      subst hm
      have tl := xSp_tail (d := d) (P := P) hl h0 (fun S3 g1 g2 g3 g4 g5 => hP lm S3 g1 g2 (by rw [← e1]; exact g3) (by rw [← e2]; exact g4) g5)
      obtain ⟨l0, l2, l3, l4, l5, l6⟩ := hl
      refine ws_iload rfl (l6) rfl (ws_sipush (x := 401) rfl rfl rfl (ws_i rfl ⟨fun z => absurd z lt, fun _ => ?_⟩))
      refine ws_iload rfl (l5) rfl (ws_i rfl ⟨fun z => absurd z ne0, fun _ => ?_⟩)
      refine ws_aload_n rfl (l0) rfl (ws_getr rfl rfl rfl (ws_iload rfl (l5) rfl (ws_iv rfl rfl rfl ?_)))
      refine x_key ?_
      refine ws_iload_n rfl (l2) rfl (ws_i rfl ⟨fun _ => ?_, fun z => absurd (ek.trans ekk) z⟩)
      exact mv_fuel (by omega) tl
    · have hl0 := hl
      obtain ⟨l0, l2, l3, l4, l5, l6⟩ := hl
      refine ws_iload rfl (l6) rfl (ws_sipush (x := 401) rfl rfl rfl (ws_i rfl ⟨fun z => absurd z lt, fun _ => ?_⟩))
      refine ws_iload rfl (l5) rfl (ws_i rfl ⟨fun z => absurd z ne0, fun _ => ?_⟩)
      refine ws_aload_n rfl (l0) rfl (ws_getr rfl rfl rfl (ws_iload rfl (l5) rfl (ws_iv rfl rfl rfl ?_)))
      refine x_key ?_
      refine ws_iload_n rfl (l2) rfl (ws_i rfl ⟨fun z => absurd (ek.symm.trans z) ekk, fun _ => ?_⟩)
      refine ws_aload_n rfl (l0) rfl (ws_getr rfl rfl rfl (ws_iload rfl (l5) rfl (ws_iv rfl rfl rfl ?_)))
      refine x_cpy hB a1 (by omega) (fun em S1 g1 g2 => ?_) (fun lt2 j fc S1 f1 f2 j1 j8 jin jfr jd g1 rr ff => ?_)
      · have hbig : rm < m + tSpN key T0 := by
          rw [← hm, tSpN, if_neg ekk]
          split <;> omega
        have sf : xSF S S1 := fun f => by rw [g2 5 f (by omega)]; exact a10.1 5 f (by omega)
        refine mv_fuel (n := 80 * (401 - (n + 1)) + 60 + 40) (by omega) ?_
        exact xSp_aftF hl0 g1 sf (xHok_hl a2 (Or.inr (Or.inl ⟨rfl, rfl⟩))) (xHok_hl a2 (Or.inr (Or.inr ⟨rfl, rfl⟩))) (fun l lh gh c S' q1 q2 q3 q4 q5 => xSp_hdF hB (hf hbig) (401 - (n + 1)) (n + 1) l lh gh c S' (by omega) q1 q2 q3 q4 q5)
      · have ij : i ≠ j := fun e => i4 (by rw [e]; exact ⟨fc, by omega, jfr⟩)
        have ek1 : xC S1 15 (nI i) = k := by rw [xC_in i1 i2, rr, if_neg (fun z => ij z.1)]; exact i7
        have tj : ∀ (H' : Bool → Nat → Prop) (b : Bool), ¬ H b j := fun H' b z => (a2 b j (Or.inl z)).2.2.1 ⟨fc, by omega, jfr⟩
        refine ws_istore rfl rfl rfl rfl (ws_iload_n rfl (mv_at_sv (by decide) (l2)) rfl (ws_aload_n rfl (mv_at_sr (by decide) (l0)) rfl (ws_getr rfl rfl rfl (ws_iload rfl (mv_at_sv (by decide) (l5)) rfl (ws_iv rfl rfl rfl ?_)))))
        refine x_key ?_
        rw [ek1]
        refine ws_i rfl ⟨fun c => ?_, fun c => ?_⟩
        · have c : ¬ key < k := Int32.not_lt.mpr c
          obtain ⟨b1, b2, b3, b4⟩ := a2 lb li (Or.inr (Or.inl ⟨rfl, rfl⟩))
          obtain ⟨q1, q2, q3, q4⟩ := xStep (M := 802) (b' := true) (by decide) (by decide) hs a2 (Or.inr (Or.inl ⟨rfl, rfl⟩)) b2 a9 (by omega) f1 f2 j1 j8 jin jfr jd g1 rr
          refine ws_aload_n rfl (mv_at_sr (by decide) (l0)) rfl (ws_getr rfl rfl rfl (ws_iload_n rfl (mv_at_sv (by decide) (l3)) rfl (ws_iload rfl (mv_at_me) rfl (ws_iv rfl rfl rfl ?_))))
          refine x_hng b1 b2 ?_
          obtain ⟨S2, hS2⟩ : ∃ S2, S2 = mv_pr S1 (xRw lb) li (nI j) := ⟨_, rfl⟩
          rw [← hS2]
          rw [← hS2] at q1 q2 q4
          have eH : xMv (x2 H lb li gb gi) lb li true j = x2 H true j gb gi := by
            rw [x2_c (lb := lb), x2_g (H := H) a3 (fun z => a5 ⟨z.1.symm, z.2.symm⟩), x2_c (lb := gb)]
          rw [eH] at q2 q3 q4
          have kid := xCl_kids (xCl_go (by decide) q2 a9)
          have sm : xSame S S2 := ⟨fun o f z => by rw [hS2]; show S1.1 o f = _; rw [ff o f z]; exact a10.1 o f z, fun o x z1 z2 => by
            have y := xRw_b lb
            rw [hS2, pr_get, if_neg (by omega), rr, if_neg (by omega)]; exact a10.2 o x z1 z2⟩
          refine ws_iload rfl (mv_at_me) rfl (ws_ineg rfl rfl (ws_istore_n rfl rfl rfl rfl (ws_aload_n rfl (mv_at_sr (by decide) (mv_at_sr (by decide) (l0))) rfl (ws_getr rfl rfl rfl (ws_iload rfl (mv_at_sv (by decide) (mv_at_sv (by decide) (l5))) rfl (ws_iv rfl rfl rfl ?_))))))
          refine x_greater ?_
          refine ws_istore rfl rfl rfl rfl (ws_iinc (y := nI (n + 1)) rfl (mv_at_sv (by decide) (mv_at_sv (by decide) (mv_at_sv (by decide) (l6)))) rfl ((nI_succ n).symm) rfl rfl (ws_goto (t := 15) rfl (by decide) (?_)))
          have es : tSpN key (.inner t k v xl xr) = tSpN key xr + 1 := by rw [tSpN, if_neg ekk, if_neg c]
          have el : tLo st key (.inner t k v xl xr) = .inner st k v xl (tLo st key xr) := by rw [tLo, if_neg ekk, if_neg c]
          have eh : tHi st key (.inner t k v xl xr) = tHi st key xr := by rw [tHi, if_neg ekk, if_neg c]
          rw [es] at hm
          rw [el] at e1
          rw [eh] at e2
          refine mv_fuel (n := 33000 + 80 * tN xr) (by omega) (ihr _ _ S2 (m' + 1) (n + 1) (fun T => fl (tSd true st k v T xl)) fh true gb j gi (by omega) (by omega) e1 e2 ⟨mv_at_sr (by decide) (mv_at_sr (by decide) (mv_at_sr (by decide) (mv_at_sr (by decide) (l0)))), mv_at_sv (by decide) (mv_at_sv (by decide) (mv_at_sv (by decide) (mv_at_sv (by decide) (l2)))), mv_at_sv (by decide) (mv_at_sv (by decide) (mv_at_me)), mv_at_sv (by decide) (mv_at_sv (by decide) (mv_at_sv (by decide) (mv_at_sv (by decide) (l4)))), mv_at_sv (by decide) (mv_at_me), mv_at_me⟩ ⟨q1, q3, tj H true, a4, (fun z => (a2 gb gi (Or.inr (Or.inr ⟨rfl, rfl⟩))).2.2.1 (by rw [← z.2]; exact ⟨fc, by omega, jfr⟩)), xTo_trans a6 q2, q4 _ _ _ a7, xHo_go q2 a8, kid.2, sm⟩)
        · have c : key < k := Int32.not_le.mp c
          obtain ⟨b1, b2, b3, b4⟩ := a2 gb gi (Or.inr (Or.inr ⟨rfl, rfl⟩))
          obtain ⟨q1, q2, q3, q4⟩ := xStep (M := 802) (b' := false) (by decide) (by decide) hs a2 (Or.inr (Or.inr ⟨rfl, rfl⟩)) b2 a9 (by omega) f1 f2 j1 j8 jin jfr jd g1 rr
          refine ws_aload_n rfl (mv_at_sr (by decide) (l0)) rfl (ws_getr rfl rfl rfl (ws_iload rfl (mv_at_sv (by decide) (l4)) rfl (ws_iload rfl (mv_at_me) rfl (ws_iv rfl rfl rfl ?_))))
          refine x_hng b1 b2 ?_
          obtain ⟨S2, hS2⟩ : ∃ S2, S2 = mv_pr S1 (xRw gb) gi (nI j) := ⟨_, rfl⟩
          rw [← hS2]
          rw [← hS2] at q1 q2 q4
          rw [x2_g (H := H) a4 a5] at q2 q3 q4
          have kid := xCl_kids (xCl_go (by decide) q2 a9)
          have sm : xSame S S2 := ⟨fun o f z => by rw [hS2]; show S1.1 o f = _; rw [ff o f z]; exact a10.1 o f z, fun o x z1 z2 => by
            have y := xRw_b gb
            rw [hS2, pr_get, if_neg (by omega), rr, if_neg (by omega)]; exact a10.2 o x z1 z2⟩
          refine ws_iload rfl (mv_at_me) rfl (ws_istore rfl rfl rfl rfl (ws_aload_n rfl (mv_at_sr (by decide) (mv_at_sr (by decide) (l0))) rfl (ws_getr rfl rfl rfl (ws_iload rfl (mv_at_sv (by decide) (mv_at_sv (by decide) (l5))) rfl (ws_iv rfl rfl rfl ?_)))))
          refine x_lesser ?_
          refine ws_istore rfl rfl rfl rfl (ws_goto (t := 119) rfl (by decide) (ws_iinc (y := nI (n + 1)) rfl (mv_at_sv (by decide) (mv_at_sv (by decide) (mv_at_sv (by decide) (l6)))) rfl ((nI_succ n).symm) rfl rfl (ws_goto (t := 15) rfl (by decide) (?_))))
          have es : tSpN key (.inner t k v xl xr) = tSpN key xl + 1 := by rw [tSpN, if_neg ekk, if_pos c]
          have el : tLo st key (.inner t k v xl xr) = tLo st key xl := by rw [tLo, if_neg ekk, if_pos c]
          have eh : tHi st key (.inner t k v xl xr) = .inner st k v (tHi st key xl) xr := by rw [tHi, if_neg ekk, if_pos c]
          rw [es] at hm
          rw [el] at e1
          rw [eh] at e2
          refine mv_fuel (n := 33000 + 80 * tN xl) (by omega) (ihl _ _ S2 (m' + 1) (n + 1) fl (fun T => fh (tSd false st k v T xr)) lb false li j (by omega) (by omega) e1 e2 ⟨mv_at_sr (by decide) (mv_at_sr (by decide) (mv_at_sr (by decide) (mv_at_sr (by decide) (l0)))), mv_at_sv (by decide) (mv_at_sv (by decide) (mv_at_sv (by decide) (mv_at_sv (by decide) (l2)))), mv_at_sv (by decide) (mv_at_sv (by decide) (mv_at_sv (by decide) (mv_at_sv (by decide) (l3)))), mv_at_sv (by decide) (mv_at_sv (by decide) (mv_at_me)), mv_at_sv (by decide) (mv_at_me), mv_at_me⟩ ⟨q1, q3, a3, tj H false, (fun z => (a2 lb li (Or.inr (Or.inl ⟨rfl, rfl⟩))).2.2.1 (by rw [z.2]; exact ⟨fc, by omega, jfr⟩)), xTo_trans a6 q2, xHo_go q2 a7, q4 _ _ _ a8, kid.1, sm⟩)
theorem x2_ok (h : xHok S0 fb m H) : xHok S0 fb m (x2 H false 802 true 802) ∨ ∃ i, 801 ≤ i ∧ xIn (S0.2.1 20) (fb - m) i := by
  by_cases c : ∃ i, 801 ≤ i ∧ xIn (S0.2.1 20) (fb - m) i
  · exact Or.inr c
  · refine Or.inl (fun b i z => ?_)
    rcases z with z | z | z
    · exact h b i z
    · exact ⟨by omega, by omega, fun y => c ⟨i, by omega, y⟩, Or.inr (by omega)⟩
    · exact ⟨by omega, by omega, fun y => c ⟨i, by omega, y⟩, Or.inr (by omega)⟩
theorem xBg_in {fc i : Nat} (hB : xBg S0 sd rm fb) (hf : fc ≤ fb) (h : xIn (S0.2.1 20) fc i) (hi : i < 2 ^ 31) : 1 ≤ i ∧ i ≤ 800 := by
  obtain ⟨p, p1, p2⟩ := h
  obtain ⟨j, j1, j2, j3⟩ := hB.2.2.2.2.2.1 p (by omega)
  rw [j3] at p2
  have := (nI_eq (by omega) hi).mp p2
  omega
theorem x2_ok2 (hB : xBg S0 sd rm fb) (h : xHok S0 fb m H) : xHok S0 fb m (x2 H false 802 true 802) := by
  intro b i z
  rcases z with z | z | z
  · exact h b i z
  · exact ⟨by omega, by omega, fun y => by have := xBg_in hB (by omega) y (by omega); omega, Or.inr (by omega)⟩
  · exact ⟨by omega, by omega, fun y => by have := xBg_in hB (by omega) y (by omega); omega, Or.inr (by omega)⟩
theorem xCl_x2 : ∀ {T : tT} {c : Int32} {fc : Nat}, xCl (S0.2.1 20) fc H S σ sd T c → xCl (S0.2.1 20) fc (x2 H false 802 true 802) S σ sd T c
  | .leaf, _, _, h => h
  | .inner _ _ _ _ _, _, _, ⟨i, i1, i2, i3, i4, i5, i6, i7, i8, i9, i10, i11⟩ => ⟨i, i1, i2, i3, i4, fun b z => by
      rcases z with z | z | z
      · exact i5 b z
      · omega
      · omega, i6, i7, i8, i9, xCl_x2 i10, xCl_x2 i11⟩
set_option maxHeartbeats 1000000 in
set_option maxRecDepth 8000 in
theorem x_spl {key c : Int32} {T : tT} (hB : xBg S0 sd rm fb) (hs : ∀ i, xIn (S0.2.1 20) fb i → σ i = st) (h : xMs S0 S rm fb m) (hK : xHok S0 fb m H) (hH : ∀ b i, H b i → i ≤ 801) (hT : xCl (S0.2.1 20) (fb - m) H S σ sd T c)
    (hf : rm < m + tSpN key T → ∀ S', xOv S0 S' rm fb → xSF S S' → P none S')
    (ho : m + tSpN key T ≤ rm → ∀ S', xMs S0 S' rm fb (m + tSpN key T) → xTo 801 (S0.2.1 20) (fb - m) H S (fb - (m + tSpN key T)) H S' → xCl (S0.2.1 20) (fb - (m + tSpN key T)) H S' σ sd (tLo st key T) (S'.2.1 18 802) → xCl (S0.2.1 20) (fb - (m + tSpN key T)) H S' σ sd (tHi st key T) (S'.2.1 19 802) → xSame S S' → P none S') : mv_big layX sysX (d + 2) 136 [.ref 5, .int c, .int key] S P := by
  have dn := xSp_down (d := d) (P := P) (key := key) (T0 := T) (S := S) (m := m) (H := H) hB hs h.2.2.2.2 hf (fun q S3 g1 g2 g3 g4 g5 => ho q S3 g1 ⟨g2.1, fun i hi hn => ⟨(g2.2.1 i (by omega) hn).1, fun b nb => (g2.2.1 i (by omega) hn).2 b (fun z => by
      rcases z with z | z | z
      · exact nb z
      · omega
      · omega)⟩, fun b i z => Or.inl z⟩ g3 g4 g5)
  refine ⟨33000 + 80 * tN T + 20, ?_⟩
  refine ws_sipush (x := 802) rfl rfl rfl (ws_istore_n rfl rfl rfl rfl (ws_sipush (x := (-802)) rfl rfl rfl (ws_istore rfl rfl rfl rfl (ws_iload_n rfl rfl rfl (ws_istore rfl rfl rfl rfl (ws_iconst (x := 0) rfl rfl rfl (ws_istore rfl rfl rfl rfl ?_)))))))
  refine mv_fuel (n := 33000 + 80 * tN T) (by omega) (dn T _ c S m 0 (fun T => T) (fun T => T) false true 802 802 (by omega) rfl rfl rfl ⟨rfl, rfl, rfl, rfl, rfl, rfl⟩ ⟨h, x2_ok2 hB hK, fun z => absurd (hH _ _ z) (by decide), fun z => absurd (hH _ _ z) (by decide), (fun z => by cases z.1), xTo_refl, xHo_id, xHo_id, xCl_x2 hT, ⟨fun _ _ _ => rfl, fun _ _ _ _ => rfl⟩⟩)
set_option maxHeartbeats 1000000 in
set_option maxRecDepth 8000 in
theorem x_splF {key c : Int32} (hB : xBg S0 sd rm fb) (h : xOv S0 S rm fb) (hP : ∀ S', xOv S0 S' rm fb → xSF S S' → P none S') : mv_big layX sysX (d + 2) 136 [.ref 5, .int c, .int key] S P := by
  refine ⟨80 * 401 + 60 + 20, ?_⟩
  refine ws_sipush (x := 802) rfl rfl rfl (ws_istore_n rfl rfl rfl rfl (ws_sipush (x := (-802)) rfl rfl rfl (ws_istore rfl rfl rfl rfl (ws_iload_n rfl rfl rfl (ws_istore rfl rfl rfl rfl (ws_iconst (x := 0) rfl rfl rfl (ws_istore rfl rfl rfl rfl ?_)))))))
  refine mv_fuel (n := 80 * 401 + 60) (by omega) (xSp_hdF hB hP 401 0 _ (xHv false 802) (xHv true 802) c S (by omega) ⟨rfl, rfl, rfl, rfl, rfl, rfl⟩ h (fun _ => rfl) (Or.inr ⟨_, _, rfl, by decide, by decide, Or.inr (by decide)⟩) (Or.inr ⟨_, _, rfl, by decide, by decide, Or.inr (by decide)⟩))
end XW

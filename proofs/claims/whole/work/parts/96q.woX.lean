/-! THE CLASS MAKES WITHOUT -/
section XW
variable {d : Nat} {P : Option Value → mv_S → Prop} {S0 S : mv_S} {σ : Nat → Nat} {st : Nat} {sd : Int32} {rm fb m : Nat}
theorem xCl_tr {fr : Nat → Int32} {fc : Nat} {H : Bool → Nat → Prop} : ∀ {T : tT} {c : Int32}, xCl fr fc H S σ sd T c → xTr S σ T c
  | .leaf, _, a => a
  | .inner _ _ _ _ _, _, ⟨i, i1, i2, i3, _, _, i6, i7, i8, _, i10, i11⟩ => ⟨i, i1, i2, i3, i6, i7, i8, xCl_tr i10, xCl_tr i11⟩
abbrev xOw (P : Option Value → mv_S → Prop) (d F pc : Nat) (l : List (Nat × Value)) (st : List Value) (S : mv_S) : Prop := mv_wp layX sysX tT7 5 (some .int) mX7_without.2.2.2.2.2.2.2 (mv_big layX sysX (d + 2)) P F pc l st S
def xOL (l : List (Nat × Value)) (key c i : Int32) : Prop := mv_at 0 l = some (.ref 5) ∧ mv_at 2 l = some (.int key) ∧ mv_at 3 l = some (.int c) ∧ mv_at 4 l = some (.int i)
set_option maxHeartbeats 1000000 in
set_option maxRecDepth 8000 in
theorem xO_tailF {l : List (Nat × Value)} {key c i : Int32} (hB : xBg S0 sd rm fb) (hl : xOL l key c i) (h : xOv S0 S rm fb) (hh : xHl S0 fb (S.1 5 5)) (hP : ∀ x S', xOv S0 S' rm fb → P (some (.int x)) S') : xOw P d 40 63 l [] S := by
  obtain ⟨l0, l2, l3, l4⟩ := hl
  refine ws_aload_n rfl (l0) rfl (ws_aload_n rfl (l0) rfl (ws_getr rfl rfl rfl (ws_iload_n rfl (l3) rfl (ws_iv rfl rfl rfl ?_))))
  refine x_lesser ?_
  refine ws_aload_n rfl (l0) rfl (ws_getr rfl rfl rfl (ws_iload_n rfl (l3) rfl (ws_iv rfl rfl rfl ?_)))
  refine x_greater ?_
  refine ws_iv rfl rfl rfl ?_
  refine x_joinF hB h hh (fun S1 g1 => ?_)
  refine ws_aload_n rfl (l0) rfl (ws_getr rfl rfl rfl (ws_sipush (x := 801) rfl rfl rfl (ws_iv rfl rfl rfl ?_)))
  refine x_lesser ?_
  refine ws_i rfl ?_
  exact hP _ S1 g1
set_option maxHeartbeats 1000000 in
set_option maxRecDepth 8000 in
theorem xO_hdF {key : Int32} (hB : xBg S0 sd rm fb) (hP : ∀ x S', xOv S0 S' rm fb → P (some (.int x)) S') : ∀ (k n : Nat) (l : List (Nat × Value)) (c : Int32) (S' : mv_S), n + k = 401 → xOL l key c (nI n) → xOv S0 S' rm fb → xHl S0 fb (S'.1 5 5) → xOw P d (80 * k + 80) 26 l [] S'
  | 0, n, l, c, S', hk, hl, h, hh => by
    obtain rfl : n = 401 := by omega
    have tl := xO_tailF (d := d) (P := P) hB hl h hh hP
    obtain ⟨l0, l2, l3, l4⟩ := hl
    refine ws_iload rfl (l4) rfl (ws_sipush (x := 401) rfl rfl rfl (ws_i rfl ⟨fun _ => ?_, fun z => absurd (show (401 : Int32) ≤ nI 401 by decide) z⟩))
    exact mv_fuel (by omega) tl
  | k + 1, n, l, c, S', hk, hl, h, hh => by
    have tl := xO_tailF (d := d) (P := P) hB hl h hh hP
    obtain ⟨l0, l2, l3, l4⟩ := hl
    have lt : ¬ (401 : Int32) ≤ nI n := nI_ge (b := 401) (by omega) (by decide)
    refine mv_fuel (n := 80 * k + 80 + 80) (by omega) ?_
    refine ws_iload rfl (l4) rfl (ws_sipush (x := 401) rfl rfl rfl (ws_i rfl ⟨fun z => absurd z lt, fun _ => ?_⟩))
    refine ws_iload_n rfl (l3) rfl (ws_i rfl ⟨fun c => ?_, fun c => ?_⟩)
    · exact mv_fuel (by omega) tl
    refine ws_aload_n rfl (l0) rfl (ws_getr rfl rfl rfl (ws_iload_n rfl (l3) rfl (ws_iv rfl rfl rfl ?_)))
    refine x_key ?_
    refine ws_iload_n rfl (l2) rfl (ws_i rfl ⟨fun c => ?_, fun c => ?_⟩)
    · exact mv_fuel (by omega) tl
    refine ws_aload_n rfl (l0) rfl (ws_iload_n rfl (l3) rfl (ws_iload_n rfl (l2) rfl (ws_iv rfl rfl rfl ?_)))
    refine x_ctwF hB h hh (fun x S1 g1 g2 => ?_)
    refine ws_istore_n rfl rfl rfl rfl (ws_iinc (y := nI (n + 1)) rfl (mv_at_sv (by decide) (l4)) rfl ((nI_succ n).symm) rfl rfl (ws_goto (t := 26) rfl (by decide) (?_)))
    exact mv_fuel (n := 80 * k + 80) (by omega) (xO_hdF hB hP k (n + 1) _ _ S1 (by omega) ⟨mv_at_sr (by decide) (mv_at_sr (by decide) (l0)), mv_at_sv (by decide) (mv_at_sv (by decide) (l2)), mv_at_sv (by decide) (mv_at_me), mv_at_me⟩ g1 g2)
set_option maxHeartbeats 1000000 in
set_option maxRecDepth 8000 in
theorem xO_down {key b : Int32} {T0 B : tT} (hB : xBg S0 sd rm fb) (hs : ∀ i, xIn (S0.2.1 20) fb i → σ i = st)
    (hf : rm < tWoN (xRank sd) key T0 → ∀ x S', xOv S0 S' rm fb → P (some (.int x)) S')
    (ho : tWoN (xRank sd) key T0 ≤ rm → ∀ c' S', xRes S0 S' σ sd rm fb (tWoN (xRank sd) key T0) (tWo (xRank sd) st key T0) c' → P (some (.int c')) S') : ∀ (T : tT) (l : List (Nat × Value)) (c : Int32) (S' : mv_S) (m : Nat) (f : tT → tT), ¬ tFnd key T = .leaf → m + tWoN (xRank sd) key T = tWoN (xRank sd) key T0 → f (tWo (xRank sd) st key T) = tWo (xRank sd) st key T0 → xOL l key c (nI m) → xCt S0 S' σ sd rm fb m f T c B b → xOw P d (33000 + 80 * tN T) 26 l [] S' := by
  intro T
  induction T with
  | leaf => intro l c S' m f hne; exact absurd rfl hne
  | inner t k' v' xl xr ihl ihr =>
    intro l c S' m f hne hm e1 hl h
    have lm : m ≤ rm := h.1.2.2.2.2
    have b3 := hB.2.2.1
    have lt : ¬ (401 : Int32) ≤ nI m := nI_ge (b := 401) (by omega) (by decide)
    have hcl : ∃ H, xCl (S0.2.1 20) (fb - m) H S' σ sd (.inner t k' v' xl xr) c := by obtain ⟨_, H, _, _, _, _, _, _, _, z, _⟩ := h; exact ⟨H, z⟩
    obtain ⟨H, i, i1, i2, rfl, i4, i5, i6, i7, i8, i9, i10, i11⟩ := hcl
    have ne0 : ¬ nI i = 0 := nI_ne0 (by omega) (by omega)
    have ek : xC S' 15 (nI i) = k' := by rw [xC_in i1 i2]; exact i7
    simp only [tN]
    refine mv_fuel (n := 33000 + 80 * (tN xl + tN xr) + 80) (by omega) ?_
    obtain ⟨l0, l2, l3, l4⟩ := hl
    refine ws_iload rfl (l4) rfl (ws_sipush (x := 401) rfl rfl rfl (ws_i rfl ⟨fun z => absurd z lt, fun _ => ?_⟩))
    refine ws_iload_n rfl (l3) rfl (ws_i rfl ⟨fun z => absurd z ne0, fun _ => ?_⟩)
    refine ws_aload_n rfl (l0) rfl (ws_getr rfl rfl rfl (ws_iload_n rfl (l3) rfl (ws_iv rfl rfl rfl ?_)))
    refine x_key ?_
    rw [ek]
    by_cases ekk : k' = key
    · refine ws_iload_n rfl l2 rfl (ws_i rfl ⟨fun _ => ?_, fun z => absurd ekk z⟩)
      rw [tWoN, if_pos ekk] at hm
      rw [tWo, if_pos ekk] at e1
      have h2 : xCt S0 S' σ sd rm fb m f xl (xC S' 18 (nI i)) xr (xC S' 19 (nI i)) := by
        obtain ⟨a1, H, hb, hi, a2, a3, a4, a5, a6, a7, a8⟩ := h
        exact ⟨a1, H, hb, hi, a2, a3, a4, a5, a6, (xCl_kids a7).1, (xCl_kids a7).2⟩
      refine ws_aload_n rfl (l0) rfl (ws_aload_n rfl (l0) rfl (ws_getr rfl rfl rfl (ws_iload_n rfl (l3) rfl (ws_iv rfl rfl rfl ?_))))
      refine x_lesser ?_
      refine ws_aload_n rfl (l0) rfl (ws_getr rfl rfl rfl (ws_iload_n rfl (l3) rfl (ws_iv rfl rfl rfl ?_)))
      refine x_greater ?_
      refine ws_iv rfl rfl rfl ?_
      refine x_join hB hs h2 (fun q S1 g1 => ?_) (fun q S1 g1 g2 => ?_)
      · have hF := hf (by omega)
        refine ws_aload_n rfl (l0) rfl (ws_getr rfl rfl rfl (ws_sipush (x := 801) rfl rfl rfl (ws_iv rfl rfl rfl ?_)))
        refine x_lesser ?_
        refine ws_i rfl ?_
        exact hF _ S1 g1
      · skip
        refine ws_aload_n rfl (l0) rfl (ws_getr rfl rfl rfl (ws_sipush (x := 801) rfl rfl rfl (ws_iv rfl rfl rfl ?_)))
        refine x_lesser ?_
        refine ws_i rfl ?_
        rw [hm] at q g1 g2
        rw [e1] at g2
        exact ho q _ S1 ⟨g1, g2⟩
    · refine ws_iload_n rfl l2 rfl (ws_i rfl ⟨fun z => absurd z ekk, fun _ => ?_⟩)
      have es : tWoN (xRank sd) key (.inner t k' v' xl xr) = if key < k' then tWoN (xRank sd) key xl + 1 else tWoN (xRank sd) key xr + 1 := by rw [tWoN, if_neg ekk]
      have et : tWo (xRank sd) st key (.inner t k' v' xl xr) = if key < k' then .inner st k' v' (tWo (xRank sd) st key xl) xr else .inner st k' v' xl (tWo (xRank sd) st key xr) := by rw [tWo, if_neg ekk]
      have ef : tFnd key (.inner t k' v' xl xr) = if key < k' then tFnd key xl else tFnd key xr := by rw [tFnd, if_neg ekk]
      rw [es] at hm
      rw [et] at e1
      rw [ef] at hne
      refine ws_aload_n rfl (l0) rfl (ws_iload_n rfl (l3) rfl (ws_iload_n rfl (l2) rfl (ws_iv rfl rfl rfl ?_)))
      refine x_ctw hB hs h (fun em x S1 g1 g2 => ?_) (fun ck lt2 c1 S1 g1 => ?_) (fun ck lt2 c1 S1 g1 => ?_)
      · have hbig : rm < tWoN (xRank sd) key T0 := by
          rw [← hm]
          split <;> omega
        refine ws_istore_n rfl rfl rfl rfl (ws_iinc (y := nI (m + 1)) rfl (mv_at_sv (by decide) (l4)) rfl ((nI_succ m).symm) rfl rfl (ws_goto (t := 26) rfl (by decide) (?_)))
        exact mv_fuel (n := 80 * (401 - (m + 1)) + 80) (by omega) (xO_hdF hB (hf hbig) (401 - (m + 1)) (m + 1) _ _ S1 (by omega) ⟨mv_at_sr (by decide) (mv_at_sr (by decide) (l0)), mv_at_sv (by decide) (mv_at_sv (by decide) (l2)), mv_at_sv (by decide) (mv_at_me), mv_at_me⟩ g1 g2)
      · rw [if_pos ck] at hm e1 hne
        refine ws_istore_n rfl rfl rfl rfl (ws_iinc (y := nI (m + 1)) rfl (mv_at_sv (by decide) (l4)) rfl ((nI_succ m).symm) rfl rfl (ws_goto (t := 26) rfl (by decide) (?_)))
        exact mv_fuel (n := 33000 + 80 * tN xl) (by omega) (ihl _ c1 S1 (m + 1) _ hne (by omega) e1 ⟨mv_at_sr (by decide) (mv_at_sr (by decide) (l0)), mv_at_sv (by decide) (mv_at_sv (by decide) (l2)), mv_at_sv (by decide) (mv_at_me), mv_at_me⟩ g1)
      · rw [if_neg ck] at hm e1 hne
        refine ws_istore_n rfl rfl rfl rfl (ws_iinc (y := nI (m + 1)) rfl (mv_at_sv (by decide) (l4)) rfl ((nI_succ m).symm) rfl rfl (ws_goto (t := 26) rfl (by decide) (?_)))
        exact mv_fuel (n := 33000 + 80 * tN xr) (by omega) (ihr _ c1 S1 (m + 1) _ hne (by omega) e1 ⟨mv_at_sr (by decide) (mv_at_sr (by decide) (l0)), mv_at_sv (by decide) (mv_at_sv (by decide) (l2)), mv_at_sv (by decide) (mv_at_me), mv_at_me⟩ g1)
set_option maxHeartbeats 1000000 in
set_option maxRecDepth 8000 in
theorem x_without {key c : Int32} {T : tT} (hB : xBg S0 sd rm fb) (hs : ∀ i, xIn (S0.2.1 20) fb i → σ i = st) (h : xMs S0 S rm fb 0) (hT : xCl (S0.2.1 20) fb xNo S σ sd T c) (h8 : tN T ≤ 800)
    (h0 : tFnd key T = .leaf → P (some (.int c)) S)
    (hf : ¬ tFnd key T = .leaf → rm < tWoN (xRank sd) key T → ∀ x S', xOv S0 S' rm fb → P (some (.int x)) S')
    (ho : ¬ tFnd key T = .leaf → tWoN (xRank sd) key T ≤ rm → ∀ c' S', xRes S0 S' σ sd rm fb (tWoN (xRank sd) key T) (tWo (xRank sd) st key T) c' → P (some (.int c')) S') : mv_big layX sysX (d + 3) 132 [.ref 5, .int c, .int key] S P := by
  have fd := x_fnd (k := key) (n := 803) (by omega) (xCl_tr hT)
  have fz := hTr_leaf (by decide) fd
  refine ⟨33000 + 80 * tN T + 40, ?_⟩
  refine ws_aload_n rfl (rfl) rfl (ws_getr rfl rfl rfl (ws_iload_n rfl (rfl) rfl (ws_iload_n rfl (rfl) rfl (ws_iv rfl rfl rfl ?_))))
  refine x_find ?_
  refine ws_i rfl ⟨fun c => ?_, fun c => ?_⟩
  · have c : ¬ xFindN 803 S _ key = 0 := c
    have ne : ¬ tFnd key T = .leaf := fun z => c (fz.mpr z)
    refine ws_iload_n rfl rfl rfl (ws_istore_n rfl rfl rfl rfl (ws_aload_n rfl rfl rfl (ws_sipush (x := 801) rfl rfl rfl (ws_puti rfl rfl rfl (ws_iconst (x := 0) rfl rfl rfl (ws_istore rfl rfl rfl rfl ?_))))))
    exact mv_fuel (n := 33000 + 80 * tN T) (by omega) (xO_down (b := 0) (B := .leaf) hB hs (hf ne) (ho ne) T _ _ _ 0 (fun T => T) ne (by omega) rfl ⟨rfl, rfl, rfl, rfl⟩ (xCt_0 hB h hT rfl))
  · have c : xFindN 803 S _ key = 0 := c
    exact ws_iload_n rfl rfl rfl (ws_i rfl (h0 (fz.mp c)))
end XW

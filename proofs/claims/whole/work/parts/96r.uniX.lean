/-! THE CLASS UNITES: one union at once, or kept -/
def x1 (H : Bool → Nat → Prop) (hb : Bool) (hi : Nat) : Bool → Nat → Prop := fun b i => H b i ∨ (b = hb ∧ i = hi)
theorem x1_rm {H : Bool → Nat → Prop} {hb : Bool} {hi : Nat} (h : ¬ H hb hi) : xRm (x1 H hb hi) hb hi = H := by
  funext b i
  refine propext ⟨fun z => ?_, fun z => ?_⟩
  · rcases z with ⟨z | z, y⟩
    · exact z
    · exact absurd z y
  · exact ⟨Or.inl z, fun y => h (by rw [← y.1, ← y.2]; exact z)⟩
theorem x1_c {H : Bool → Nat → Prop} {a b : Bool} {i j : Nat} : x1 (x1 H a i) b j = x1 (x1 H b j) a i := by
  funext c k
  refine propext ⟨fun z => ?_, fun z => ?_⟩
  · rcases z with (z | z) | z
    · exact Or.inl (Or.inl z)
    · exact Or.inr z
    · exact Or.inl (Or.inr z)
  · rcases z with (z | z) | z
    · exact Or.inl (Or.inl z)
    · exact Or.inr z
    · exact Or.inl (Or.inr z)
/-- the rows of what waits -/
def xUr (fr : Nat → Int32) (fc : Nat) (H : Bool → Nat → Prop) (S : mv_S) (σ : Nat → Nat) (sd : Int32) (ps : List (tT × tT × Bool × Nat)) : Prop := ∀ p A B hb hi, ps[p]? = some (A, B, hb, hi) → S.2.1 34 p = xHv hb hi ∧ xCl fr fc H S σ sd A (S.2.1 32 p) ∧ xCl fr fc H S σ sd B (S.2.1 33 p)
def xUH (ps : List (tT × tT × Bool × Nat)) : Bool → Nat → Prop := fun b i => ∃ A B, (A, B, b, i) ∈ ps
theorem xUH_s {ps : List (tT × tT × Bool × Nat)} {A B : tT} {hb : Bool} {hi : Nat} : xUH (ps ++ [(A, B, hb, hi)]) = x1 (xUH ps) hb hi := by
  funext b i
  refine propext ⟨fun z => ?_, fun z => ?_⟩
  · obtain ⟨A', B', z⟩ := z
    rcases List.mem_append.mp z with z | z
    · exact Or.inl ⟨A', B', z⟩
    · simp at z
      exact Or.inr ⟨z.2.2.1, z.2.2.2⟩
  · rcases z with ⟨A', B', z⟩ | ⟨rfl, rfl⟩
    · exact ⟨A', B', List.mem_append.mpr (Or.inl z)⟩
    · exact ⟨A, B, by simp⟩
section XW
variable {d : Nat} {P : Option Value → mv_S → Prop} {S0 S S2 : mv_S} {σ : Nat → Nat} {st : Nat} {sd : Int32} {rm fb m : Nat} {fr : Nat → Int32} {fc fc2 : Nat} {H H2 : Bool → Nat → Prop} {ps : List (tT × tT × Bool × Nat)}
theorem xUr_go (h : xUr fr fc H S σ sd ps) (go : xTo 801 fr fc H S fc2 H2 S2) (hr : ∀ o i, 32 ≤ o → o ≤ 34 → i < ps.length → S2.2.1 o i = S.2.1 o i) : xUr fr fc2 H2 S2 σ sd ps := by
  intro p A B hb hi hp
  have hlt := (List.getElem?_eq_some_iff.mp hp).1
  obtain ⟨h1, h2, h3⟩ := h p A B hb hi hp
  rw [hr 32 p (by decide) (by decide) hlt, hr 33 p (by decide) (by decide) hlt, hr 34 p (by decide) (by decide) hlt]
  exact ⟨h1, xCl_go (by decide) go h2, xCl_go (by decide) go h3⟩
theorem xUr_push {A B : tT} {hb : Bool} {hi : Nat} (h : xUr fr fc H S σ sd ps) (h1 : S.2.1 34 ps.length = xHv hb hi) (h2 : xCl fr fc H S σ sd A (S.2.1 32 ps.length)) (h3 : xCl fr fc H S σ sd B (S.2.1 33 ps.length)) : xUr fr fc H S σ sd (ps ++ [(A, B, hb, hi)]) := by
  intro p A' B' hb' hi' hp
  by_cases c : p < ps.length
  · rw [List.getElem?_append_left c] at hp
    exact h p A' B' hb' hi' hp
  · have hlt := (List.getElem?_eq_some_iff.mp hp).1
    simp at hlt
    have e : p = ps.length := by omega
    subst e
    rw [stk_last] at hp
    simp only [Option.some.injEq, Prod.mk.injEq] at hp
    obtain ⟨rfl, rfl, rfl, rfl⟩ := hp
    exact ⟨h1, h2, h3⟩
theorem xUr_pop {A B : tT} {hb : Bool} {hi : Nat} (h : xUr fr fc H S σ sd (ps ++ [(A, B, hb, hi)])) : xUr fr fc H S σ sd ps ∧ S.2.1 34 ps.length = xHv hb hi ∧ xCl fr fc H S σ sd A (S.2.1 32 ps.length) ∧ xCl fr fc H S σ sd B (S.2.1 33 ps.length) :=
  ⟨fun p A' B' hb' hi' hp => h p A' B' hb' hi' (by rw [List.getElem?_append_left (List.getElem?_eq_some_iff.mp hp).1]; exact hp), h ps.length A B hb hi stk_last⟩
theorem xCl_0 : ∀ {T : tT} {c : Int32}, xCl fr fc H S σ sd T c → (c = 0 ↔ T = .leaf)
  | .leaf, _, h => ⟨fun _ => rfl, fun _ => h⟩
  | .inner _ _ _ _ _, c, ⟨i, i1, i2, i3, _⟩ => ⟨fun z => by rw [z] at i3; exact absurd i3.symm (nI_ne0 (by omega) (by omega)), fun z => by cases z⟩
set_option maxHeartbeats 1000000 in
set_option maxRecDepth 8000 in
theorem x_uni {a b : Int32} {A B : tT} {hb : Bool} {hi : Nat} (h : xMs S0 S rm fb m) (hK : xHok S0 fb m (x1 H hb hi)) (hn : ¬ H hb hi) (hu : S.1 5 4 = nI ps.length) (hu4 : ps.length < 402) (hA : xCl (S0.2.1 20) (fb - m) (x1 H hb hi) S σ sd A a) (hBt : xCl (S0.2.1 20) (fb - m) (x1 H hb hi) S σ sd B b) (hr : xUr (S0.2.1 20) (fb - m) (x1 H hb hi) S σ sd ps)
    (hp : ¬ A = .leaf → ¬ B = .leaf → ∀ S', xMs S0 S' rm fb m → xTo 801 (S0.2.1 20) (fb - m) (x1 H hb hi) S (fb - m) (x1 H hb hi) S' → S'.1 5 4 = nI (ps.length + 1) → xUr (S0.2.1 20) (fb - m) (x1 H hb hi) S' σ sd (ps ++ [(A, B, hb, hi)]) → P none S')
    (hc : (A = .leaf ∨ B = .leaf) → ∀ S', xMs S0 S' rm fb m → xTo 801 (S0.2.1 20) (fb - m) (x1 H hb hi) S (fb - m) H S' → S'.1 5 4 = nI ps.length → xUr (S0.2.1 20) (fb - m) H S' σ sd ps → xCl (S0.2.1 20) (fb - m) H S' σ sd (tOr A B) (S'.2.1 (xRw hb) hi) → P none S') : mv_big layX sysX (d + 2) 134 [.ref 5, .int a, .int b, .int (xHv hb hi)] S P := by
  obtain ⟨b1, b2, b3, b4⟩ := hK hb hi (Or.inr ⟨rfl, rfl⟩)
  have za := xCl_0 hA
  have zb := xCl_0 hBt
  have fin : ∀ x, (A = .leaf ∨ B = .leaf) → xCl (S0.2.1 20) (fb - m) (x1 H hb hi) S σ sd (tOr A B) x → P none (mv_pr S (xRw hb) hi x) := by
    intro x hlf hx
    obtain ⟨S3, hS3⟩ : ∃ S3, S3 = mv_pr S (xRw hb) hi x := ⟨_, rfl⟩
    rw [← hS3]
    have r3 : ∀ o i, S3.2.1 o i = if o = xRw hb ∧ i = hi then x else S.2.1 o i := fun o i => by rw [hS3, pr_get]
    have go : xTo 801 (S0.2.1 20) (fb - m) (x1 H hb hi) S (fb - m) H S3 := by
      have := xClose (fr := S0.2.1 20) (fc := fb - m) (H := x1 H hb hi) (S := S) (S2 := S3) (M := 801) (hb := hb) (hi := hi) (Or.inr ⟨rfl, rfl⟩) (fun i o _ _ _ z => by rw [r3, if_neg z])
      rw [x1_rm hn] at this
      exact this
    refine hc hlf S3 (by rw [hS3]; exact xMs_pr h b4) go (by rw [hS3]; exact hu) (xUr_go hr go (fun o i o1 o2 _ => by have := xRw_b hb; rw [r3, if_neg (by omega)])) ?_
    rw [r3, if_pos ⟨rfl, rfl⟩]
    exact xCl_go (by decide) go hx
  refine ⟨60, ?_⟩
  by_cases cA : A = .leaf
  · have a0 := za.mpr cA
    subst a0
    have fin2 := fin b (Or.inl cA) (by rw [tOr_l cA]; exact hBt)
    refine ws_iload_n rfl (rfl) rfl (ws_i rfl ⟨fun _ => ?_, fun z => absurd rfl z⟩)
    refine ws_aload_n rfl (rfl) rfl (ws_getr rfl rfl rfl (ws_iload_n rfl (rfl) rfl (ws_iload_n rfl (rfl) rfl (ws_i rfl ⟨fun z => absurd rfl z, fun _ => ?_⟩))))
    refine ws_iload_n rfl (rfl) rfl (ws_goto (t := 22) rfl (by decide) (ws_iv rfl rfl rfl ?_))
    refine x_hng b1 b2 ?_
    refine ws_goto (t := 84) rfl (by decide) (ws_i rfl ?_)
    exact fin2
  · have a0 : ¬ a = 0 := fun z => cA (za.mp z)
    by_cases cB : B = .leaf
    · have b0 := zb.mpr cB
      subst b0
      have fin2 := fin a (Or.inr cB) (by rw [tOr_r cA]; exact hA)
      refine ws_iload_n rfl (rfl) rfl (ws_i rfl ⟨fun z => absurd z a0, fun _ => ?_⟩)
      refine ws_iload_n rfl (rfl) rfl (ws_i rfl ⟨fun z => absurd rfl z, fun _ => ?_⟩)
      refine ws_aload_n rfl (rfl) rfl (ws_getr rfl rfl rfl (ws_iload_n rfl (rfl) rfl (ws_iload_n rfl (rfl) rfl (ws_i rfl ⟨fun _ => ?_, fun z => absurd z a0⟩))))
      refine ws_iload_n rfl (rfl) rfl (ws_iv rfl rfl rfl ?_)
      refine x_hng b1 b2 ?_
      refine ws_goto (t := 84) rfl (by decide) (ws_i rfl ?_)
      exact fin2
    · have b0 : ¬ b = 0 := fun z => cB (zb.mp z)
      have lt : ¬ (402 : Int32) ≤ nI ps.length := nI_ge (b := 402) hu4 (by decide)
      refine ws_iload_n rfl (rfl) rfl (ws_i rfl ⟨fun z => absurd z a0, fun _ => ?_⟩)
      refine ws_iload_n rfl (rfl) rfl (ws_i rfl ⟨fun _ => ?_, fun z => absurd z b0⟩)
      refine ws_aload_n rfl (rfl) rfl (ws_geti rfl rfl (hu) rfl (ws_sipush (x := 402) rfl rfl rfl (ws_i rfl ⟨fun z => absurd z lt, fun _ => ?_⟩)))
      refine ws_aload_n rfl (rfl) rfl (ws_getr rfl rfl rfl (ws_aload_n rfl (rfl) rfl (ws_geti rfl rfl (hu) rfl (ws_iload_n rfl (rfl) rfl (ws_is rfl rfl rfl ?_)))))
      refine mv_deep (d := d + 1) (by omega) (x_set_32 ?_)
      rw [sR_nI hu4 (by decide)]
      refine ws_aload_n rfl (rfl) rfl (ws_getr rfl rfl rfl (ws_aload_n rfl (rfl) rfl (ws_geti rfl rfl (hu) rfl (ws_iload_n rfl (rfl) rfl (ws_is rfl rfl rfl ?_)))))
      refine mv_deep (d := d + 1) (by omega) (x_set_33 ?_)
      rw [sR_nI hu4 (by decide)]
      refine ws_aload_n rfl (rfl) rfl (ws_getr rfl rfl rfl (ws_aload_n rfl (rfl) rfl (ws_geti rfl rfl (hu) rfl (ws_iload_n rfl (rfl) rfl (ws_is rfl rfl rfl ?_)))))
      refine mv_deep (d := d + 1) (by omega) (x_set_34 ?_)
      rw [sR_nI hu4 (by decide)]
      refine ws_aload_n rfl (rfl) rfl (ws_dup_r rfl rfl (ws_geti rfl rfl (hu) rfl (ws_iconst (x := 1) rfl rfl rfl (ws_iadd rfl (nI_1 _) rfl (ws_puti rfl rfl rfl (ws_i rfl ?_))))))
      obtain ⟨S3, hS3⟩ : ∃ S3, S3 = mv_pf (mv_pr (mv_pr (mv_pr S 32 ps.length a) 33 ps.length b) 34 ps.length (xHv hb hi)) 5 4 (nI (ps.length + 1)) := ⟨_, rfl⟩
      rw [← hS3]
      have r3 : ∀ o i, S3.2.1 o i = if o = 34 ∧ i = ps.length then xHv hb hi else if o = 33 ∧ i = ps.length then b else if o = 32 ∧ i = ps.length then a else S.2.1 o i := fun o i => by
        rw [hS3]
        show (mv_pr (mv_pr (mv_pr S 32 ps.length a) 33 ps.length b) 34 ps.length (xHv hb hi)).2.1 o i = _
        rw [pr_get, pr_get, pr_get]
      have go : xTo 801 (S0.2.1 20) (fb - m) (x1 H hb hi) S (fb - m) (x1 H hb hi) S3 := ⟨Nat.le_refl _, fun i _ _ => ⟨fun o o1 o2 => by rw [r3, if_neg (by omega), if_neg (by omega), if_neg (by omega)], fun bb _ => by
        have := xRw_b bb
        rw [r3, if_neg (by omega), if_neg (by omega), if_neg (by omega)]⟩, fun _ _ z => Or.inl z⟩
      refine hp cA cB S3 ?_ go (by rw [hS3, pf_get, if_pos ⟨rfl, rfl⟩]) (xUr_push (xUr_go hr go (fun o i o1 o2 hi => by rw [r3, if_neg (by omega), if_neg (by omega), if_neg (by omega)])) (by rw [r3, if_pos ⟨rfl, rfl⟩]) ?_ ?_)
      · rw [hS3]
        exact xMs_pf ⟨xFmX_pr (xFmX_pr (xFmX_pr h.1 (Or.inr (by decide))) (Or.inr (by decide))) (Or.inr (by decide)), h.2⟩ (Or.inl rfl)
      · rw [r3, if_neg (by omega), if_neg (by omega), if_pos ⟨rfl, rfl⟩]; exact xCl_go (by decide) go hA
      · rw [r3, if_neg (by omega), if_pos ⟨rfl, rfl⟩]; exact xCl_go (by decide) go hBt
set_option maxHeartbeats 1000000 in
set_option maxRecDepth 8000 in
theorem x_uniF {a b q : Int32} (h : xOv S0 S rm fb) (hq : xHl S0 fb q) (hP : ∀ S', xOv S0 S' rm fb → P none S') : mv_big layX sysX (d + 2) 134 [.ref 5, .int a, .int b, .int q] S P := by
  have sr : ∀ {S : mv_S} {o : Nat} {i x : Int32}, xOv S0 S rm fb → 32 ≤ o ∧ o ≤ 34 → xOv S0 (sR S o 402 i x) rm fb := by
    intro S o i x h ho
    unfold sR
    split
    · exact ⟨xFmX_pr h.1 (Or.inr ho), h.2⟩
    · exact h
  refine ⟨60, ?_⟩
  have hang : mv_wp layX sysX tT7 4 none mX7_unite.2.2.2.2.2.2.2 (mv_big layX sysX (d + 1)) P 40 8 [(0, .ref 5), (1, .int a), (2, .int b), (3, .int q)] [] S := by
    refine ws_aload_n rfl (rfl) rfl (ws_getr rfl rfl rfl (ws_iload_n rfl (rfl) rfl (ws_iload_n rfl (rfl) rfl (ws_i rfl ⟨fun c => ?_, fun c => ?_⟩))))
    · skip
      refine ws_iload_n rfl (rfl) rfl (ws_iv rfl rfl rfl ?_)
      refine x_hngF h hq (fun S1 g1 _ => ?_)
      refine ws_goto (t := 84) rfl (by decide) (ws_i rfl ?_)
      exact hP S1 g1
    · skip
      refine ws_iload_n rfl (rfl) rfl (ws_goto (t := 22) rfl (by decide) (ws_iv rfl rfl rfl ?_))
      refine x_hngF h hq (fun S1 g1 _ => ?_)
      refine ws_goto (t := 84) rfl (by decide) (ws_i rfl ?_)
      exact hP S1 g1
  refine ws_iload_n rfl (rfl) rfl (ws_i rfl ⟨fun c => ?_, fun c => ?_⟩)
  · exact mv_fuel (by omega) hang
  refine ws_iload_n rfl (rfl) rfl (ws_i rfl ⟨fun c => ?_, fun c => ?_⟩)
  · skip
    refine ws_aload_n rfl (rfl) rfl (ws_geti rfl rfl (rfl) rfl (ws_sipush (x := 402) rfl rfl rfl (ws_i rfl ⟨fun c => ?_, fun c => ?_⟩)))
    · exact ws_i rfl (hP S h)
    refine ws_aload_n rfl (rfl) rfl (ws_getr rfl rfl rfl (ws_aload_n rfl (rfl) rfl (ws_geti rfl rfl (rfl) rfl (ws_iload_n rfl (rfl) rfl (ws_is rfl rfl rfl ?_)))))
    refine mv_deep (d := d + 1) (by omega) (x_set_32 ?_)
    refine ws_aload_n rfl (rfl) rfl (ws_getr rfl rfl rfl (ws_aload_n rfl (rfl) rfl (ws_geti rfl rfl (rfl) rfl (ws_iload_n rfl (rfl) rfl (ws_is rfl rfl rfl ?_)))))
    refine mv_deep (d := d + 1) (by omega) (x_set_33 ?_)
    refine ws_aload_n rfl (rfl) rfl (ws_getr rfl rfl rfl (ws_aload_n rfl (rfl) rfl (ws_geti rfl rfl (rfl) rfl (ws_iload_n rfl (rfl) rfl (ws_is rfl rfl rfl ?_)))))
    refine mv_deep (d := d + 1) (by omega) (x_set_34 ?_)
    refine ws_aload_n rfl (rfl) rfl (ws_dup_r rfl rfl (ws_geti rfl rfl (rfl) rfl (ws_iconst (x := 1) rfl rfl rfl (ws_iadd rfl rfl rfl (ws_puti rfl rfl rfl (ws_i rfl ?_))))))
    exact hP _ (xOv_pf (sr (sr (sr h (by decide)) (by decide)) (by decide)) (Or.inl rfl))
  · exact mv_fuel (by omega) hang
theorem xGrow2 {hb : Bool} {hi j : Nat} (hfr : fr fc = nI j) (hv : ¬ xIn fr (fc + 1) hi) (hH : H hb hi)
    (hS : ∀ i o, i ≤ 801 → i ≠ j → 15 ≤ o → o ≤ 19 → ¬ (o = xRw hb ∧ i = hi) → S2.2.1 o i = S.2.1 o i) : xTo 801 fr (fc + 1) H S fc (x1 (x1 (xRm H hb hi) true j) false j) S2 := by
  have hj : xIn fr (fc + 1) j := ⟨fc, by omega, hfr⟩
  refine ⟨by omega, fun i h1 h2 => ?_, fun b i z => ?_⟩
  · have hne : i ≠ j := fun e => h2 (by rw [e]; exact hj)
    refine ⟨fun o o1 o2 => hS i o h1 hne o1 (by omega) (fun z => by have := xRw_b hb; omega), fun b nb => ?_⟩
    have := xRw_b b
    refine hS i (xRw b) h1 hne (by omega) (by omega) (fun z => nb ?_)
    rw [xRw_i z.1, z.2]; exact hH
  · rcases z with (z | z) | z
    · exact Or.inl z.1
    · rw [z.2]; exact Or.inr hj
    · rw [z.2]; exact Or.inr hj
/-- the new cell at (hb, hi), once both its trees are there -/
theorem xGrow2_cl {hb : Bool} {hi j fc3 : Nat} {k v : Int32} {H3 : Bool → Nat → Prop} {S3 : mv_S} {T1 T2 : tT} (h1 : 1 ≤ j) (h8 : j ≤ 800) (hd : ¬ xIn fr fc j) (hv : ¬ xIn fr fc hi) (hiM : hi ≤ 801) (hij : hi ≠ j) (hHn : ¬ H hb hi)
    (hp : S2.2.1 (xRw hb) hi = nI j) (hs : σ j = st) (e15 : S2.2.1 15 j = k) (e16 : S2.2.1 16 j = v) (e17 : S2.2.1 17 j = xRank sd k)
    (g : xTo 801 fr fc (x1 (x1 H true j) false j) S2 fc3 H3 S3) (n1 : ¬ H3 false j) (n2 : ¬ H3 true j) (c1 : xCl fr fc3 H3 S3 σ sd T1 (S3.2.1 18 j)) (c2 : xCl fr fc3 H3 S3 σ sd T2 (S3.2.1 19 j)) : xCl fr fc3 H3 S3 σ sd (.inner st k v T1 T2) (S3.2.1 (xRw hb) hi) := by
  have nh : ¬ x1 (x1 H true j) false j hb hi := fun z => by
    rcases z with (z | z) | z
    · exact hHn z
    · exact hij z.2
    · exact hij z.2
  rw [(g.2.1 hi hiM hv).2 hb nh, hp]
  obtain ⟨g1, _⟩ := g.2.1 j (by omega) hd
  refine ⟨j, h1, h8, rfl, fun z => hd (xIn_le g.1 z), fun b => ?_, hs, ?_, ?_, ?_, c1, c2⟩
  · cases b
    · exact n1
    · exact n2
  · rw [g1 15 (by decide) (by decide)]; exact e15
  · rw [g1 16 (by decide) (by decide)]; exact e16
  · rw [g1 17 (by decide) (by decide)]; exact e17
end XW

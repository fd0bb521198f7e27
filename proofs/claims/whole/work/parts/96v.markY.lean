/-! THE REFERENCE MARKS -/
def yMf (S S' : mv_S) : Prop := (∀ o f, ¬ (o = 0 ∧ f = 30) → S'.1 o f = S.1 o f) ∧ (∀ o i, o ≠ 17 → o ≠ 18 → S'.2.1 o i = S.2.1 o i) ∧ S'.2.2 = S.2.2
theorem yMf_refl {S : mv_S} : yMf S S := ⟨fun _ _ _ => rfl, fun _ _ _ _ => rfl, rfl⟩
theorem yMf_trans {S S' S2 : mv_S} (h : yMf S S') (g : yMf S' S2) : yMf S S2 := ⟨fun o f a => (g.1 o f a).trans (h.1 o f a), fun o i a b => (g.2.1 o i a b).trans (h.2.1 o i a b), g.2.2.trans h.2.2⟩
/-- the cells V are live, n of them not yet counted -/
def yMd (S : mv_S) (V : List Nat) (n lv : Nat) : Prop := V.Nodup ∧ (∀ i, i ∈ V → 1 ≤ i ∧ i ≤ 899) ∧ S.1 0 30 = nI lv ∧ lv + n = V.length ∧ (∀ i, i < 900 → (i ∈ V ∧ S.2.1 17 i = 1) ∨ (¬ i ∈ V ∧ S.2.1 17 i = 0))
def yCd (S : mv_S) (V : List Nat) : Prop := ∀ i, i ∈ V → hOk 899 (fun i => i ∈ V) (S.2.1 15 i) ∧ hOk 899 (fun i => i ∈ V) (S.2.1 16 i)
theorem yCd_go {S S' : mv_S} {V : List Nat} (g : yMf S S') (h : yCd S V) : yCd S' V := fun i hi => by
  rw [g.2.1 15 i (by decide) (by decide), g.2.1 16 i (by decide) (by decide)]; exact h i hi
def yMi (S S' : mv_S) (G : Nat → Prop) (V0 V : List Nat) (cur n lv : Nat) : Prop := yMf S S' ∧ yMd S' V n lv ∧ (∀ i, i ∈ V0 → i ∈ V) ∧ (∀ i, i ∈ V → i ∈ V0 ∨ G i) ∧ (∀ p, p < n → ∃ j, S'.2.1 18 p = nI j ∧ j ∈ V ∧ G j) ∧ (∀ i, i ∈ V → (hOk 899 (fun i => i ∈ V) (S.2.1 15 i) ∧ hOk 899 (fun i => i ∈ V) (S.2.1 16 i)) ∨ (∃ p, p < n ∧ S'.2.1 18 p = nI i) ∨ i = cur)
section YR
variable {d : Nat} {P : Option Value → mv_S → Prop} {S S' : mv_S} {G : Nat → Prop} {V0 V : List Nat} {c0 : Int32} {cur n lv : Nat}
theorem yM_mark {j : Nat} {S2 : mv_S} (hG : ∀ i, G i → 1 ≤ i ∧ i ≤ 899 ∧ hOk 899 G (S.2.1 15 i) ∧ hOk 899 G (S.2.1 16 i)) (h : yMi S S' G V0 V cur n lv) (hj : G j) (nj : ¬ j ∈ V)
    (f2 : S2.1 = S'.1) (r2 : ∀ o i, S2.2.1 o i = if o = 18 ∧ i = n then nI j else if o = 17 ∧ i = j then 1 else S'.2.1 o i) (l2 : S2.2.2 = S'.2.2) : yMi S S2 G V0 (j :: V) cur (n + 1) lv := by
  obtain ⟨h1, ⟨d1, d2, d3, d4, d5⟩, h3, h4, h5, h6⟩ := h
  obtain ⟨j1, j2, j3, j4⟩ := hG j hj
  have nd : (j :: V).Nodup := List.nodup_cons.mpr ⟨nj, d1⟩
  have bd : ∀ i, i ∈ j :: V → 1 ≤ i ∧ i ≤ 899 := fun i hi => by
    rcases List.mem_cons.mp hi with rfl | hi
    · exact ⟨j1, j2⟩
    · exact d2 i hi
  have up : ∀ {x}, hOk 899 (fun i => i ∈ V) x → hOk 899 (fun i => i ∈ j :: V) x := fun {x} => hOk_imp (fun i hi => List.mem_cons_of_mem _ hi)
  refine ⟨⟨fun o f a => by rw [f2]; exact h1.1 o f a, fun o i a b => by rw [r2, if_neg (fun z => b z.1), if_neg (fun z => a z.1)]; exact h1.2.1 o i a b, l2.trans h1.2.2⟩, ⟨nd, bd, by rw [f2]; exact d3, by rw [List.length_cons]; omega, fun i i1 => ?_⟩, fun i hi => List.mem_cons_of_mem _ (h3 i hi), fun i hi => ?_, fun p hp => ?_, fun i hi => ?_⟩
  · rw [r2, if_neg (by omega)]
    by_cases e : i = j
    · rw [if_pos ⟨rfl, e⟩, e]; exact Or.inl ⟨by simp, rfl⟩
    · rw [if_neg (fun z => e z.2), List.mem_cons]
      rcases d5 i i1 with ⟨a, b⟩ | ⟨a, b⟩
      · exact Or.inl ⟨Or.inr a, b⟩
      · exact Or.inr ⟨fun z => z.elim e a, b⟩
  · rcases List.mem_cons.mp hi with rfl | hi
    · exact Or.inr hj
    · exact h4 i hi
  · rw [r2]
    by_cases e : p = n
    · rw [if_pos ⟨rfl, e⟩]; exact ⟨j, rfl, by simp, hj⟩
    · rw [if_neg (fun z => e z.2), if_neg (by omega)]
      obtain ⟨q, q1, q2, q3⟩ := h5 p (by omega)
      exact ⟨q, q1, List.mem_cons_of_mem _ q2, q3⟩
  · rcases List.mem_cons.mp hi with rfl | hi
    · exact Or.inr (Or.inl ⟨n, by omega, by rw [r2, if_pos ⟨rfl, rfl⟩]⟩)
    · rcases h6 i hi with ⟨a, b⟩ | ⟨p, p1, p2⟩ | z
      · exact Or.inl ⟨up a, up b⟩
      · exact Or.inr (Or.inl ⟨p, by omega, by rw [r2, if_neg (by omega), if_neg (by omega)]; exact p2⟩)
      · exact Or.inr (Or.inr z)
theorem yM_pop {j : Nat} (h : yMi S S' G V0 V 0 (n + 1) lv) (hj : S'.2.1 18 n = nI j) (j8 : j ≤ 899) : yMi S (mv_pf S' 0 30 (nI (lv + 1))) G V0 V j n (lv + 1) := by
  obtain ⟨h1, ⟨d1, d2, d3, d4, d5⟩, h3, h4, h5, h6⟩ := h
  refine ⟨⟨fun o f a => by rw [pf_get, if_neg a]; exact h1.1 o f a, h1.2.1, h1.2.2⟩, ⟨d1, d2, by rw [pf_get, if_pos ⟨rfl, rfl⟩], by omega, d5⟩, h3, h4, fun p hp => h5 p (by omega), fun i hi => ?_⟩
  rcases h6 i hi with z | ⟨p, p1, p2⟩ | z
  · exact Or.inl z
  · by_cases e : p = n
    · rw [e, hj] at p2
      have := d2 i hi
      exact Or.inr (Or.inr ((nI_eq (by omega) (by omega)).mp p2.symm))
    · exact Or.inr (Or.inl ⟨p, by omega, p2⟩)
  · have := d2 i hi
    omega
theorem yM_fin {j : Nat} (h : yMi S S' G V0 V j n lv) (a : hOk 899 (fun i => i ∈ V) (S.2.1 15 j)) (b : hOk 899 (fun i => i ∈ V) (S.2.1 16 j)) : yMi S S' G V0 V 0 n lv := by
  obtain ⟨h1, h2, h3, h4, h5, h6⟩ := h
  refine ⟨h1, h2, h3, h4, h5, fun i hi => ?_⟩
  rcases h6 i hi with z | z | z
  · exact Or.inl z
  · exact Or.inr (Or.inl z)
  · rw [z]; exact Or.inl ⟨a, b⟩
def yNe (S : mv_S) (G : Nat → Prop) (V0 : List Nat) (c0 : Int32) (P : Option Value → mv_S → Prop) : Prop := ∀ S' V, yMf S S' → yMd S' V 0 V.length → yCd S' V → (∀ i, i ∈ V0 → i ∈ V) → (∀ i, i ∈ V → i ∈ V0 ∨ G i) → hOk 899 (fun i => i ∈ V) c0 → P none S'
theorem yM_end (h : yMi S S' G V0 V 0 0 lv) (hc : hOk 899 (fun i => i ∈ V) c0) (hP : yNe S G V0 c0 P) : P none S' := by
  obtain ⟨h1, h2, h3, h4, h5, h6⟩ := h
  have e : lv = V.length := by have := h2.2.2.2.1; omega
  subst e
  refine hP S' V h1 h2 (yCd_go h1 (fun i hi => ?_)) h3 h4 hc
  rcases h6 i hi with z | ⟨p, p1, p2⟩ | z
  · exact z
  · omega
  · have := h2.2.1 i hi
    omega
abbrev yNw (P : Option Value → mv_S → Prop) (d F pc : Nat) (l : List (Nat × Value)) (st : List Value) (S : mv_S) : Prop := mv_wp layY sysY tT11 6 none mX11_markTree.2.2.2.2.2.2.2 (mv_big layY sysY d) P F pc l st S
set_option maxHeartbeats 1000000 in
set_option maxRecDepth 8000 in
theorem yM_kid {l : List (Nat × Value)} {x c3 : Int32} {k F : Nat} (hG : ∀ i, G i → 1 ≤ i ∧ i ≤ 899 ∧ hOk 899 G (S.2.1 15 i) ∧ hOk 899 G (S.2.1 16 i)) (hx : hOk 899 G x) (h : yMi S S' G V0 V cur n lv) (l0 : mv_at 0 l = some (.ref 0)) (l2 : mv_at 2 l = some (.int (nI n))) (l3 : mv_at 3 l = some (.int c3)) (l4 : mv_at 4 l = some (.int (nI k)))
    (K : ∀ l' S2 V' n', yMi S S2 G V0 V' cur n' lv → (∀ i, i ∈ V → i ∈ V') → hOk 899 (fun i => i ∈ V') x → mv_at 0 l' = some (.ref 0) → mv_at 2 l' = some (.int (nI n')) → mv_at 3 l' = some (.int c3) → mv_at 4 l' = some (.int (nI (k + 1))) → yNw P d F 59 l' [] S2) : yNw P d (F + 40) 85 l [.int x] S' := by
  have nd8 := nd_len 899 h.2.1.1 h.2.1.2.1
  have hn8 := h.2.1.2.2.2.1
  rcases hx with rfl | ⟨j, rfl, j1, j2, hj⟩
  · refine ws_istore rfl rfl rfl rfl (ws_iload rfl (mv_at_me) rfl (ws_i rfl ⟨fun _ => ?_, fun z => absurd (show (0 : Int32) ≤ 0 by decide) z⟩))
    refine ws_iinc (y := nI (k + 1)) rfl (mv_at_sv (by decide) (l4)) rfl ((nI_succ k).symm) rfl rfl (ws_goto (t := 59) rfl (by decide) (?_))
    exact mv_fuel (n := F) (by omega) (K _ _ V _ h (fun _ z => z) (Or.inl rfl) (mv_at_sr (by decide) (mv_at_sr (by decide) (l0))) (mv_at_sv (by decide) (mv_at_sv (by decide) (l2))) (mv_at_sv (by decide) (mv_at_sv (by decide) (l3))) (mv_at_me))
  · have vj : vp_in (nI j) 900 := vp_in_nI (by omega) (by decide)
    have ecj : (nI j).toNatClampNeg = j := nI_clamp (by omega)
    have g1 : ¬ nI j ≤ 0 := fun z => absurd z (by rw [← nI_0]; exact nI_ge (by omega) (by omega))
    by_cases hm : j ∈ V
    · have em : S'.2.1 17 j = 1 := ((h.2.1.2.2.2.2 j (by omega)).resolve_right (fun z => z.1 hm)).2
      refine ws_istore rfl rfl rfl rfl (ws_iload rfl (mv_at_me) rfl (ws_i rfl ⟨fun z => absurd z g1, fun _ => ?_⟩))
      refine ws_aload_n rfl (mv_at_sr (by decide) (l0)) rfl (ws_getr rfl rfl rfl (ws_iload rfl (mv_at_me) rfl (ws_i rfl ⟨vj, ?_⟩)))
      rw [ecj, em]
      refine ws_i rfl ⟨fun _ => ?_, fun z => absurd z (show ¬ (1 : Int32) = 0 by decide)⟩
      refine ws_iinc (y := nI (k + 1)) rfl (mv_at_sv (by decide) (l4)) rfl ((nI_succ k).symm) rfl rfl (ws_goto (t := 59) rfl (by decide) (?_))
      exact mv_fuel (n := F) (by omega) (K _ _ V _ h (fun _ z => z) (Or.inr ⟨j, rfl, j1, j2, hm⟩) (mv_at_sr (by decide) (mv_at_sr (by decide) (l0))) (mv_at_sv (by decide) (mv_at_sv (by decide) (l2))) (mv_at_sv (by decide) (mv_at_sv (by decide) (l3))) (mv_at_me))
    · have em : S'.2.1 17 j = 0 := ((h.2.1.2.2.2.2 j (by omega)).resolve_left (fun z => hm z.1)).2
      have vn : vp_in (nI n) 900 := vp_in_nI (by omega) (by decide)
      have ecn : (nI n).toNatClampNeg = n := nI_clamp (by omega)
      refine ws_istore rfl rfl rfl rfl (ws_iload rfl (mv_at_me) rfl (ws_i rfl ⟨fun z => absurd z g1, fun _ => ?_⟩))
      refine ws_aload_n rfl (mv_at_sr (by decide) (l0)) rfl (ws_getr rfl rfl rfl (ws_iload rfl (mv_at_me) rfl (ws_i rfl ⟨vj, ?_⟩)))
      rw [ecj, em]
      refine ws_i rfl ⟨fun z => absurd rfl z, fun _ => ?_⟩
      refine ws_aload_n rfl (mv_at_sr (by decide) (l0)) rfl (ws_getr rfl rfl rfl (ws_iload rfl (mv_at_me) rfl (ws_iconst (x := 1) rfl rfl rfl (ws_i rfl ⟨Or.inr rfl, vj, ?_⟩))))
      rw [ecj]
      refine ws_aload_n rfl (mv_at_sr (by decide) (l0)) rfl (ws_getr rfl rfl rfl (ws_iload_n rfl (mv_at_sv (by decide) (l2)) rfl (ws_iload rfl (mv_at_me) rfl (ws_i rfl ⟨vn, ?_⟩))))
      rw [ecn]
      refine ws_iinc (y := nI (n + 1)) rfl (mv_at_sv (by decide) (l2)) rfl ((nI_succ n).symm) rfl rfl (ws_iinc (y := nI (k + 1)) rfl (mv_at_sv (by decide) (mv_at_sv (by decide) (l4))) rfl ((nI_succ k).symm) rfl rfl (ws_goto (t := 59) rfl (by decide) (?_)))
      obtain ⟨S2, hS2⟩ : ∃ S2, S2 = mv_pr (mv_pr S' 17 j 1) 18 n (nI j) := ⟨_, rfl⟩
      rw [← hS2]
      have r2 : ∀ o i, S2.2.1 o i = if o = 18 ∧ i = n then nI j else if o = 17 ∧ i = j then 1 else S'.2.1 o i := fun o i => by rw [hS2, pr_get, pr_get]
      exact mv_fuel (n := F) (by omega) (K _ _ (j :: V) (n + 1) (yM_mark hG h hj hm (by rw [hS2]; rfl) r2 (by rw [hS2]; rfl)) (fun _ z => List.mem_cons_of_mem _ z) (Or.inr ⟨j, rfl, j1, j2, by simp⟩) (mv_at_sr (by decide) (mv_at_sr (by decide) (mv_at_sr (by decide) (l0)))) (mv_at_sv (by decide) (mv_at_me)) (mv_at_sv (by decide) (mv_at_sv (by decide) (mv_at_sv (by decide) (l3)))) (mv_at_me))
set_option maxHeartbeats 1000000 in
set_option maxRecDepth 8000 in
theorem yM_loop (hG : ∀ i, G i → 1 ≤ i ∧ i ≤ 899 ∧ hOk 899 G (S.2.1 15 i) ∧ hOk 899 G (S.2.1 16 i)) (hP : yNe S G V0 c0 P) : ∀ (k lv n : Nat) (l : List (Nat × Value)) (S' : mv_S) (V : List Nat), lv + k = 900 → mv_at 0 l = some (.ref 0) → mv_at 2 l = some (.int (nI n)) → yMi S S' G V0 V 0 n lv → hOk 899 (fun i => i ∈ V) c0 → yNw P d (200 * k + 40) 32 l [] S'
  | 0, lv, n, l, S', V, hk, l0, l2, h, hc => by
    have nd8 := nd_len 899 h.2.1.1 h.2.1.2.1
    have hn8 := h.2.1.2.2.2.1
    omega
  | k + 1, lv, n, l, S', V, hk, l0, l2, h, hc => by
    have nd8 := nd_len 899 h.2.1.1 h.2.1.2.1
    have hn8 := h.2.1.2.2.2.1
    refine mv_fuel (n := 200 * k + 40 + 190) (by omega) ?_
    cases n with
    | zero =>
      refine ws_iload_n rfl (l2) rfl (ws_i rfl ⟨fun _ => ?_, fun z => absurd (show nI 0 ≤ 0 by decide) z⟩)
      refine ws_i rfl ?_
      exact yM_end h hc hP
    | succ m =>
      obtain ⟨j, j1, j2, hj⟩ := h.2.2.2.2.1 m (by omega)
      obtain ⟨b1, b2, b3, b4⟩ := hG j hj
      have vm : vp_in (nI m) 900 := vp_in_nI (by omega) (by decide)
      have ecm : (nI m).toNatClampNeg = m := nI_clamp (by omega)
      have vj : vp_in (nI j) 900 := vp_in_nI (by omega) (by decide)
      have ecj : (nI j).toNatClampNeg = j := nI_clamp (by omega)
      have gt : ¬ nI (m + 1) ≤ 0 := fun z => absurd z (by rw [← nI_0]; exact nI_ge (by omega) (by omega))
      have h30 : S'.1 0 30 = nI lv := h.2.1.2.2.1
      have q15 : S'.2.1 15 j = S.2.1 15 j := h.1.2.1 15 j (by decide) (by decide)
      have p1 := yM_pop h j1 b2
      refine ws_iload_n rfl (l2) rfl (ws_i rfl ⟨fun z => absurd z gt, fun _ => ?_⟩)
      refine ws_iinc (y := nI m) rfl (l2) rfl ((nI_dec m)) rfl rfl (ws_aload_n rfl (mv_at_sr (by decide) (l0)) rfl (ws_getr rfl rfl rfl (ws_iload_n rfl (mv_at_me) rfl (ws_i rfl ⟨vm, ?_⟩))))
      rw [ecm, j1]
      refine ws_istore_n rfl rfl rfl rfl (ws_aload_n rfl (mv_at_sr (by decide) (mv_at_sr (by decide) (l0))) rfl (ws_dup_r rfl rfl (ws_geti rfl rfl (h30) rfl (ws_iconst (x := 1) rfl rfl rfl (ws_iadd rfl (nI_1 _) rfl (?_))))))
      refine ws_puti rfl rfl rfl ?_
      refine ws_iconst (x := 0) rfl rfl rfl (ws_istore rfl rfl rfl rfl (ws_iload rfl (mv_at_me) rfl (ws_iconst (x := 2) rfl rfl rfl (ws_i rfl ⟨fun z => absurd z (show ¬ (2 : Int32) ≤ 0 by decide), fun _ => ?_⟩))))
      refine ws_iload rfl (mv_at_me) rfl (ws_i rfl ⟨fun z => absurd rfl z, fun _ => ?_⟩)
      refine ws_aload_n rfl (mv_at_sr (by decide) (mv_at_sr (by decide) (mv_at_sr (by decide) (l0)))) rfl (ws_getr rfl rfl rfl (ws_iload_n rfl (mv_at_sv (by decide) (mv_at_me)) rfl (ws_i rfl ⟨vj, ?_⟩)))
      rw [ecj]
      rw [show (mv_pf S' 0 30 (nI (lv + 1))).2.1 15 j = S.2.1 15 j from q15]
      refine ws_goto (t := 85) rfl (by decide) ?_
      refine mv_fuel (n := 200 * k + 40 + 120 + 40) (by omega) ?_
      refine yM_kid (k := 0) hG b3 p1 (mv_at_sr (by decide) (mv_at_sr (by decide) (mv_at_sr (by decide) (l0)))) (mv_at_sv (by decide) (mv_at_sv (by decide) (mv_at_me))) (mv_at_sv (by decide) (mv_at_me)) (mv_at_me) (fun l1 S1 V1 n1 i1 s1 o1 m0 m2 m3 m4 => ?_)
      have q16 : S1.2.1 16 j = S.2.1 16 j := i1.1.2.1 16 j (by decide) (by decide)
      refine ws_iload rfl (m4) rfl (ws_iconst (x := 2) rfl rfl rfl (ws_i rfl ⟨fun z => absurd z (show ¬ (2 : Int32) ≤ nI (0 + 1) by decide), fun _ => ?_⟩))
      refine ws_iload rfl (m4) rfl (ws_i rfl ⟨fun _ => ?_, fun z => absurd z (show ¬ nI (0 + 1) = 0 by decide)⟩)
      refine ws_aload_n rfl (m0) rfl (ws_getr rfl rfl rfl (ws_iload_n rfl (m3) rfl (ws_i rfl ⟨vj, ?_⟩)))
      rw [ecj, q16]
      refine mv_fuel (n := 200 * k + 40 + 20 + 40) (by omega) ?_
      refine yM_kid (k := 1) hG b4 i1 (m0) (m2) (m3) (m4) (fun l2 S2 V2 n2 i2 s2 o2 m0 m2 m3 m4 => ?_)
      refine ws_iload rfl (m4) rfl (ws_iconst (x := 2) rfl rfl rfl (ws_i rfl ⟨fun _ => ?_, fun z => absurd (show (2 : Int32) ≤ nI (1 + 1) by decide) z⟩))
      refine ws_goto (t := 32) rfl (by decide) (?_)
      exact mv_fuel (n := 200 * k + 40) (by omega) (yM_loop hG hP k (lv + 1) n2 _ S2 V2 (by omega) m0 m2 (yM_fin i2 (hOk_imp s2 o1) o2) (hOk_imp s2 (hOk_imp s1 hc)))
set_option maxHeartbeats 1000000 in
set_option maxRecDepth 8000 in
theorem y_markT (hG : ∀ i, G i → 1 ≤ i ∧ i ≤ 899 ∧ hOk 899 G (S.2.1 15 i) ∧ hOk 899 G (S.2.1 16 i)) (hV : yMd S V0 0 V0.length) (hC : yCd S V0) (hc : hOk 899 G c0) (hP : yNe S G V0 c0 P) : mv_big layY sysY (d + 1) 30 [.ref 0, .int c0] S P := by
  have nd8 := nd_len 899 hV.1 hV.2.1
  have i0 : yMi S S G V0 V0 0 0 V0.length := ⟨yMf_refl, hV, fun _ z => z, fun _ z => Or.inl z, fun p hp => absurd hp (by omega), fun i hi => Or.inl (hC i hi)⟩
  refine ⟨200 * 900 + 40 + 40, ?_⟩
  rcases hc with rfl | ⟨j, rfl, j1, j2, hj⟩
  · refine ws_iconst (x := 0) rfl rfl rfl (ws_istore_n rfl rfl rfl rfl (ws_iload_n rfl (rfl) rfl (ws_i rfl ⟨fun _ => ?_, fun z => absurd (show (0 : Int32) ≤ 0 by decide) z⟩)))
    exact mv_fuel (n := 200 * (900 - V0.length) + 40) (by omega) (yM_loop hG hP (900 - V0.length) V0.length 0 _ S V0 (by omega) rfl rfl i0 (Or.inl rfl))
  · have vj : vp_in (nI j) 900 := vp_in_nI (by omega) (by decide)
    have ecj : (nI j).toNatClampNeg = j := nI_clamp (by omega)
    have g1 : ¬ nI j ≤ 0 := fun z => absurd z (by rw [← nI_0]; exact nI_ge (by omega) (by omega))
    by_cases hm : j ∈ V0
    · have em : S.2.1 17 j = 1 := ((hV.2.2.2.2 j (by omega)).resolve_right (fun z => z.1 hm)).2
      refine ws_iconst (x := 0) rfl rfl rfl (ws_istore_n rfl rfl rfl rfl (ws_iload_n rfl (rfl) rfl (ws_i rfl ⟨fun z => absurd z g1, fun _ => ?_⟩)))
      refine ws_aload_n rfl (rfl) rfl (ws_getr rfl rfl rfl (ws_iload_n rfl (rfl) rfl (ws_i rfl ⟨vj, ?_⟩)))
      rw [ecj, em]
      refine ws_i rfl ⟨fun _ => ?_, fun z => absurd z (show ¬ (1 : Int32) = 0 by decide)⟩
      exact mv_fuel (n := 200 * (900 - V0.length) + 40) (by omega) (yM_loop hG hP (900 - V0.length) V0.length 0 _ S V0 (by omega) rfl rfl i0 (Or.inr ⟨j, rfl, j1, j2, hm⟩))
    · have em : S.2.1 17 j = 0 := ((hV.2.2.2.2 j (by omega)).resolve_left (fun z => hm z.1)).2
      refine ws_iconst (x := 0) rfl rfl rfl (ws_istore_n rfl rfl rfl rfl (ws_iload_n rfl (rfl) rfl (ws_i rfl ⟨fun z => absurd z g1, fun _ => ?_⟩)))
      refine ws_aload_n rfl (rfl) rfl (ws_getr rfl rfl rfl (ws_iload_n rfl (rfl) rfl (ws_i rfl ⟨vj, ?_⟩)))
      rw [ecj, em]
      refine ws_i rfl ⟨fun z => absurd rfl z, fun _ => ?_⟩
      refine ws_aload_n rfl (rfl) rfl (ws_getr rfl rfl rfl (ws_iload_n rfl (rfl) rfl (ws_iconst (x := 1) rfl rfl rfl (ws_i rfl ⟨Or.inr rfl, vj, ?_⟩))))
      rw [ecj]
      refine ws_aload_n rfl (rfl) rfl (ws_getr rfl rfl rfl (ws_iload_n rfl (rfl) rfl (ws_iload_n rfl (rfl) rfl (ws_i rfl ⟨vp_in_nI (n := 0) (N := 900) (by decide) (by decide), ?_⟩))))
      refine ws_iinc (y := nI 1) rfl (rfl) rfl (rfl) rfl rfl (?_)
      obtain ⟨S2, hS2⟩ : ∃ S2, S2 = mv_pr (mv_pr S 17 j 1) 18 0 (nI j) := ⟨_, rfl⟩
      have r2 : ∀ o i, S2.2.1 o i = if o = 18 ∧ i = 0 then nI j else if o = 17 ∧ i = j then 1 else S.2.1 o i := fun o i => by rw [hS2, pr_get, pr_get]
      show yNw P d _ 32 _ [] (mv_pr (mv_pr S 17 j 1) 18 0 (nI j))
      rw [← hS2]
      exact mv_fuel (n := 200 * (900 - V0.length) + 40) (by omega) (yM_loop hG hP (900 - V0.length) V0.length 1 _ S2 (j :: V0) (by omega) rfl rfl (yM_mark hG i0 hj hm (by rw [hS2]; rfl) r2 (by rw [hS2]; rfl)) (Or.inr ⟨j, rfl, j1, j2, by simp⟩))
end YR

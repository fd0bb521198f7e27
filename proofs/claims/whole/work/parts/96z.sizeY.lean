/-! THE REFERENCE: sizes, the beginning of a making -/
def tSum : List tT → Nat
  | [] => 0
  | T :: R => tN T + tSum R
/-- trees on the pile, the last first -/
def yPl (S S' : mv_S) (σ : Nat → Nat) : List tT → Prop
  | [] => True
  | T :: R => (¬ T = .leaf ∧ yTr S σ T (S'.2.1 18 R.length)) ∧ yPl S S' σ R
theorem yPl_len {S S' : mv_S} {σ : Nat → Nat} : ∀ {Z : List tT}, yPl S S' σ Z → Z.length ≤ tSum Z
  | [], _ => Nat.le_refl _
  | .leaf :: R, h => absurd rfl h.1.1
  | .inner s k v l r :: R, h => by
    have := yPl_len h.2
    simp only [List.length_cons, tSum, tN]
    omega
theorem yPl_go {S S' S2 : mv_S} {σ : Nat → Nat} : ∀ {Z : List tT}, (∀ p, p < Z.length → S2.2.1 18 p = S'.2.1 18 p) → yPl S S' σ Z → yPl S S2 σ Z
  | [], _, _ => trivial
  | T :: R, g, h => ⟨⟨h.1.1, by rw [g R.length (by simp)]; exact h.1.2⟩, yPl_go (fun p hp => g p (by first | omega | (simp only [List.length_cons]; omega))) h.2⟩
theorem tr_cell {S : mv_S} {σ : Nat → Nat} : ∀ {T : tT} {c : Int32}, yTr S σ T c → ¬ T = .leaf → ∃ j, 1 ≤ j ∧ j ≤ 899 ∧ c = nI j
  | .leaf, _, _, h => absurd rfl h
  | .inner _ _ _ _ _, _, ⟨i, i1, i2, i3, _⟩, _ => ⟨i, i1, i2, i3⟩
theorem tN_pos : ∀ {T : tT}, ¬ T = .leaf → 1 ≤ tN T
  | .leaf, h => absurd rfl h
  | .inner _ _ _ _ _, _ => by simp only [tN]; omega
section YR
variable {d : Nat} {P : Option Value → mv_S → Prop} {S S' : mv_S} {σ : Nat → Nat} {G : Nat → Prop} {V : List Nat}
abbrev yZw (P : Option Value → mv_S → Prop) (d F pc : Nat) (l : List (Nat × Value)) (st : List Value) (S : mv_S) : Prop := mv_wp layY sysY tT11 5 (some .int) mX11_sizeOf.2.2.2.2.2.2.2 (mv_big layY sysY d) P F pc l st S
set_option maxHeartbeats 1000000 in
set_option maxRecDepth 8000 in
theorem yZ_loop {N : Nat} (hN : N ≤ 800) (hP : ∀ S', yMf S S' → P (some (.int (nI N))) S') : ∀ (k z : Nat) (Z : List tT) (l : List (Nat × Value)) (S' : mv_S), tSum Z = k → z + k = N → yMf S S' → yPl S S' σ Z → mv_at 0 l = some (.ref 0) → mv_at 2 l = some (.int (nI Z.length)) → mv_at 3 l = some (.int (nI z)) → yZw P d (80 * k + 20) 17 l [] S'
  | k, z, [], l, S', hk, hz, h, hp, l0, l2, l3 => by
    have e : k = 0 := hk.symm
    subst e
    obtain rfl : z = N := by omega
    refine ws_iload_n rfl (l2) rfl (ws_i rfl ⟨fun _ => ?_, fun z => absurd (show nI 0 ≤ 0 by decide) z⟩)
    refine ws_iload_n rfl (l3) rfl (ws_i rfl ?_)
    exact hP S' h
  | k, z, .leaf :: R, l, S', hk, hz, h, hp, l0, l2, l3 => absurd rfl hp.1.1
  | 0, z, .inner s q v a b :: R, l, S', hk, hz, h, hp, l0, l2, l3 => by
    simp only [tSum, tN] at hk
    omega
  | k + 1, z, .inner s q v a b :: R, l, S', hk, hz, h, hp, l0, l2, l3 => by
    obtain ⟨⟨_, i, i1, i2, i3, i4, i5, i6, i7, i8⟩, hp2⟩ := hp
    have ln := yPl_len hp2
    simp only [tSum, tN] at hk
    simp only [List.length_cons] at l2
    have vn : vp_in (nI R.length) 900 := vp_in_nI (by omega) (by decide)
    have en : (nI R.length).toNatClampNeg = R.length := nI_clamp (by omega)
    have vi : vp_in (nI i) 900 := vp_in_nI (by omega) (by decide)
    have ei : (nI i).toNatClampNeg = i := nI_clamp (by omega)
    have q15 : S'.2.1 15 i = S.2.1 15 i := h.2.1 15 i (by decide) (by decide)
    have q16 : S'.2.1 16 i = S.2.1 16 i := h.2.1 16 i (by decide) (by decide)
    have gt : ¬ nI (R.length + 1) ≤ 0 := fun z => absurd z (by rw [← nI_0]; exact nI_ge (by omega) (by omega))
    refine mv_fuel (n := 80 * k + 20 + 80) (by omega) ?_
    refine ws_iload_n rfl (l2) rfl (ws_i rfl ⟨fun z => absurd z gt, fun _ => ?_⟩)
    refine ws_iinc (y := nI R.length) rfl (l2) rfl ((nI_dec _)) rfl rfl (ws_aload_n rfl (mv_at_sr (by decide) (l0)) rfl (ws_getr rfl rfl rfl (ws_iload_n rfl (mv_at_me) rfl (ws_i rfl ⟨vn, ?_⟩))))
    rw [en, i3]
    refine ws_istore rfl rfl rfl rfl (ws_iinc (y := nI (z + 1)) rfl (mv_at_sv (by decide) (mv_at_sv (by decide) (l3))) rfl ((nI_succ z).symm) rfl rfl (ws_aload_n rfl (mv_at_sr (by decide) (mv_at_sr (by decide) (mv_at_sr (by decide) (l0)))) rfl (ws_getr rfl rfl rfl (ws_iload rfl (mv_at_sv (by decide) (mv_at_me)) rfl (ws_i rfl ⟨vi, ?_⟩)))))
    rw [ei, q15]
    by_cases ca : a = .leaf
    · have z0 := (hTr_leaf (by decide) i7).mpr ca
      refine ws_i rfl ⟨fun _ => ?_, fun z => absurd (by rw [z0]; decide) z⟩
      subst ca
      have vm : vp_in (nI (R).length) 900 := vp_in_nI (by first | omega | (simp only [List.length_cons]; omega)) (by decide)
      have em : (nI (R).length).toNatClampNeg = (R).length := nI_clamp (by first | omega | (simp only [List.length_cons]; omega))
      refine ws_aload_n rfl (mv_at_sr (by decide) (mv_at_sr (by decide) (mv_at_sr (by decide) (l0)))) rfl (ws_getr rfl rfl rfl (ws_iload rfl (mv_at_sv (by decide) (mv_at_me)) rfl (ws_i rfl ⟨vi, ?_⟩)))
      rw [ei, q16]
      by_cases cb : b = .leaf
      · have z0 := (hTr_leaf (by decide) i8).mpr cb
        refine ws_i rfl ⟨fun _ => ?_, fun z => absurd (by rw [z0]; decide) z⟩
        refine ws_goto (t := 17) rfl (by decide) (?_)
        subst cb
        exact mv_fuel (n := 80 * k + 20) (by omega) (yZ_loop hN hP k (z + 1) (R) _ S' (by simp only [tN] at hk; omega) (by omega) h hp2 (mv_at_sr (by decide) (mv_at_sr (by decide) (mv_at_sr (by decide) (l0)))) (mv_at_sv (by decide) (mv_at_sv (by decide) (mv_at_me))) (mv_at_me))
      · obtain ⟨j, j1, j2, j3⟩ := tr_cell i8 cb
        have g1 : ¬ S.2.1 16 i ≤ 0 := by rw [j3]; exact fun z => absurd z (by rw [← nI_0]; exact nI_ge (by omega) (by omega))
        refine ws_i rfl ⟨fun z => absurd z g1, fun _ => ?_⟩
        refine ws_aload_n rfl (mv_at_sr (by decide) (mv_at_sr (by decide) (mv_at_sr (by decide) (l0)))) rfl (ws_getr rfl rfl rfl (ws_iload_n rfl (mv_at_sv (by decide) (mv_at_sv (by decide) (mv_at_me))) rfl (ws_aload_n rfl (mv_at_sr (by decide) (mv_at_sr (by decide) (mv_at_sr (by decide) (l0)))) rfl (ws_getr rfl rfl rfl (ws_iload rfl (mv_at_sv (by decide) (mv_at_me)) rfl (ws_i rfl ⟨vi, ?_⟩))))))
        rw [ei, q16]
        refine ws_i rfl ⟨vm, ?_⟩
        rw [em]
        refine ws_iinc (y := nI ((R).length + 1)) rfl (mv_at_sv (by decide) (mv_at_sv (by decide) (mv_at_me))) rfl ((nI_succ _).symm) rfl rfl (ws_goto (t := 17) rfl (by decide) (?_))
        obtain ⟨S3, hS3⟩ : ∃ S3, S3 = mv_pr S' 18 (R).length (S.2.1 16 i) := ⟨_, rfl⟩
        rw [← hS3]
        have r3 : ∀ o p, S3.2.1 o p = if o = 18 ∧ p = (R).length then S.2.1 16 i else (S').2.1 o p := fun o p => by rw [hS3, pr_get]
        exact mv_fuel (n := 80 * k + 20) (by omega) (yZ_loop hN hP k (z + 1) (b :: R) _ S3 (by simp only [tSum]; simp only [tN] at hk; omega) (by omega) (yMf_trans h ⟨fun o f a => by rw [hS3]; rfl, fun o p a b => by rw [r3, if_neg (fun z => b z.1)], by rw [hS3]; rfl⟩) ⟨⟨cb, by rw [r3, if_pos ⟨rfl, rfl⟩]; exact i8⟩, yPl_go (fun p hp => by rw [r3, if_neg (by omega)]) hp2⟩ (mv_at_sr (by decide) (mv_at_sr (by decide) (mv_at_sr (by decide) (mv_at_sr (by decide) (l0))))) (mv_at_me) (mv_at_sv (by decide) (mv_at_me)))
    · obtain ⟨j, j1, j2, j3⟩ := tr_cell i7 ca
      have g1 : ¬ S.2.1 15 i ≤ 0 := by rw [j3]; exact fun z => absurd z (by rw [← nI_0]; exact nI_ge (by omega) (by omega))
      refine ws_i rfl ⟨fun z => absurd z g1, fun _ => ?_⟩
      refine ws_aload_n rfl (mv_at_sr (by decide) (mv_at_sr (by decide) (mv_at_sr (by decide) (l0)))) rfl (ws_getr rfl rfl rfl (ws_iload_n rfl (mv_at_sv (by decide) (mv_at_sv (by decide) (mv_at_me))) rfl (ws_aload_n rfl (mv_at_sr (by decide) (mv_at_sr (by decide) (mv_at_sr (by decide) (l0)))) rfl (ws_getr rfl rfl rfl (ws_iload rfl (mv_at_sv (by decide) (mv_at_me)) rfl (ws_i rfl ⟨vi, ?_⟩))))))
      rw [ei, q15]
      refine ws_i rfl ⟨vn, ?_⟩
      rw [en]
      refine ws_iinc (y := nI ((a :: R).length)) rfl (mv_at_sv (by decide) (mv_at_sv (by decide) (mv_at_me))) rfl ((nI_succ _).symm) rfl rfl (?_)
      obtain ⟨S2, hS2⟩ : ∃ S2, S2 = mv_pr S' 18 R.length (S.2.1 15 i) := ⟨_, rfl⟩
      rw [← hS2]
      have r2 : ∀ o p, S2.2.1 o p = if o = 18 ∧ p = R.length then S.2.1 15 i else S'.2.1 o p := fun o p => by rw [hS2, pr_get]
      have f2 : yMf S S2 := yMf_trans h ⟨fun o f a => by rw [hS2]; rfl, fun o p a b => by rw [r2, if_neg (fun z => b z.1)], by rw [hS2]; rfl⟩
      have p2 : yPl S S2 σ (a :: R) := ⟨⟨ca, by rw [r2, if_pos ⟨rfl, rfl⟩]; exact i7⟩, yPl_go (fun p hp => by rw [r2, if_neg (by omega)]) hp2⟩
      have tp := tN_pos ca
      have t16 : S2.2.1 16 i = S.2.1 16 i := f2.2.1 16 i (by decide) (by decide)
      have vm : vp_in (nI (a :: R).length) 900 := vp_in_nI (by first | omega | (simp only [List.length_cons]; omega)) (by decide)
      have em : (nI (a :: R).length).toNatClampNeg = (a :: R).length := nI_clamp (by first | omega | (simp only [List.length_cons]; omega))
      refine ws_aload_n rfl (mv_at_sr (by decide) (mv_at_sr (by decide) (mv_at_sr (by decide) (mv_at_sr (by decide) (l0))))) rfl (ws_getr rfl rfl rfl (ws_iload rfl (mv_at_sv (by decide) (mv_at_sv (by decide) (mv_at_me))) rfl (ws_i rfl ⟨vi, ?_⟩)))
      rw [ei, t16]
      by_cases cb : b = .leaf
      · have z0 := (hTr_leaf (by decide) i8).mpr cb
        refine ws_i rfl ⟨fun _ => ?_, fun z => absurd (by rw [z0]; decide) z⟩
        refine ws_goto (t := 17) rfl (by decide) (?_)
        subst cb
        exact mv_fuel (n := 80 * k + 20) (by omega) (yZ_loop hN hP k (z + 1) (a :: R) _ S2 (by simp only [tSum]; simp only [tN] at hk; omega) (by omega) f2 p2 (mv_at_sr (by decide) (mv_at_sr (by decide) (mv_at_sr (by decide) (mv_at_sr (by decide) (l0))))) (mv_at_me) (mv_at_sv (by decide) (mv_at_me)))
      · obtain ⟨j, j1, j2, j3⟩ := tr_cell i8 cb
        have g1 : ¬ S.2.1 16 i ≤ 0 := by rw [j3]; exact fun z => absurd z (by rw [← nI_0]; exact nI_ge (by omega) (by omega))
        refine ws_i rfl ⟨fun z => absurd z g1, fun _ => ?_⟩
        refine ws_aload_n rfl (mv_at_sr (by decide) (mv_at_sr (by decide) (mv_at_sr (by decide) (mv_at_sr (by decide) (l0))))) rfl (ws_getr rfl rfl rfl (ws_iload_n rfl (mv_at_me) rfl (ws_aload_n rfl (mv_at_sr (by decide) (mv_at_sr (by decide) (mv_at_sr (by decide) (mv_at_sr (by decide) (l0))))) rfl (ws_getr rfl rfl rfl (ws_iload rfl (mv_at_sv (by decide) (mv_at_sv (by decide) (mv_at_me))) rfl (ws_i rfl ⟨vi, ?_⟩))))))
        rw [ei, t16]
        refine ws_i rfl ⟨vm, ?_⟩
        rw [em]
        refine ws_iinc (y := nI ((a :: R).length + 1)) rfl (mv_at_me) rfl ((nI_succ _).symm) rfl rfl (ws_goto (t := 17) rfl (by decide) (?_))
        obtain ⟨S3, hS3⟩ : ∃ S3, S3 = mv_pr S2 18 (a :: R).length (S.2.1 16 i) := ⟨_, rfl⟩
        rw [← hS3]
        have r3 : ∀ o p, S3.2.1 o p = if o = 18 ∧ p = (a :: R).length then S.2.1 16 i else (S2).2.1 o p := fun o p => by rw [hS3, pr_get]
        exact mv_fuel (n := 80 * k + 20) (by omega) (yZ_loop hN hP k (z + 1) (b :: a :: R) _ S3 (by simp only [tSum]; omega) (by omega) (yMf_trans f2 ⟨fun o f a => by rw [hS3]; rfl, fun o p a b => by rw [r3, if_neg (fun z => b z.1)], by rw [hS3]; rfl⟩) ⟨⟨cb, by rw [r3, if_pos ⟨rfl, rfl⟩]; exact i8⟩, yPl_go (fun p hp => by rw [r3, if_neg (by omega)]) p2⟩ (mv_at_sr (by decide) (mv_at_sr (by decide) (mv_at_sr (by decide) (mv_at_sr (by decide) (mv_at_sr (by decide) (l0)))))) (mv_at_me) (mv_at_sv (by decide) (mv_at_sv (by decide) (mv_at_me))))
set_option maxHeartbeats 1000000 in
set_option maxRecDepth 8000 in
theorem y_size {T : tT} {c : Int32} (hT : yTr S σ T c) (hn : tN T ≤ 800) (hP : ∀ S', yMf S S' → P (some (.int (nI (tN T)))) S') : mv_big layY sysY (d + 1) 41 [.ref 0, .int c] S P := by
  refine ⟨80 * tN T + 20 + 30, ?_⟩
  by_cases ct : T = .leaf
  · have z0 := (hTr_leaf (by decide) hT).mpr ct
    refine ws_iconst (x := 0) rfl rfl rfl (ws_istore_n rfl rfl rfl rfl (ws_iconst (x := 0) rfl rfl rfl (ws_istore_n rfl rfl rfl rfl (ws_iload_n rfl (rfl) rfl (ws_i rfl ⟨fun _ => ?_, fun z => absurd (by rw [z0]; decide) z⟩)))))
    subst ct
    exact mv_fuel (n := 80 * 0 + 20) (by omega) (yZ_loop (S := S) (σ := σ) (by omega) hP 0 0 [] _ S rfl rfl yMf_refl trivial rfl rfl rfl)
  · obtain ⟨j, j1, j2, j3⟩ := tr_cell hT ct
    have g1 : ¬ c ≤ 0 := by rw [j3]; exact fun z => absurd z (by rw [← nI_0]; exact nI_ge (by omega) (by omega))
    refine ws_iconst (x := 0) rfl rfl rfl (ws_istore_n rfl rfl rfl rfl (ws_iconst (x := 0) rfl rfl rfl (ws_istore_n rfl rfl rfl rfl (ws_iload_n rfl (rfl) rfl (ws_i rfl ⟨fun z => absurd z g1, fun _ => ?_⟩)))))
    refine ws_aload_n rfl (rfl) rfl (ws_getr rfl rfl rfl (ws_iconst (x := 0) rfl rfl rfl (ws_iload_n rfl (rfl) rfl (ws_i rfl ⟨vp_in_nI (n := 0) (N := 900) (by decide) (by decide), ?_⟩))))
    refine ws_iconst (x := 1) rfl rfl rfl (ws_istore_n rfl rfl rfl rfl ?_)
    obtain ⟨S2, hS2⟩ : ∃ S2, S2 = mv_pr S 18 0 c := ⟨_, rfl⟩
    have r2 : ∀ o p, S2.2.1 o p = if o = 18 ∧ p = 0 then c else S.2.1 o p := fun o p => by rw [hS2, pr_get]
    show yZw P d _ 17 _ [] (mv_pr S 18 0 c)
    rw [← hS2]
    exact mv_fuel (n := 80 * tN T + 20) (by omega) (yZ_loop (S := S) (σ := σ) hn hP (tN T) 0 [T] _ S2 rfl (by omega) ⟨fun o f a => by rw [hS2]; rfl, fun o p a b => by rw [r2, if_neg (fun z => b z.1)], by rw [hS2]; rfl⟩ ⟨⟨ct, by show yTr S σ T (S2.2.1 18 0); rw [r2, if_pos ⟨rfl, rfl⟩]; exact hT⟩, trivial⟩ rfl rfl rfl)
end YR

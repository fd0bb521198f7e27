/-! THE CLASS WALKS: its store, its small methods -/
/-- what the class's program holds of the tokens -/
def xTg (S : mv_S) (n : Nat) (tk par : Nat → Int32) : Prop := S.1 1 9 = nI n ∧ n ≤ 700 ∧ (∀ i, i < n → S.2.1 8 i = tk i) ∧ (∀ p, n ≤ p → tk p = -1) ∧ (∀ f, f < 8 → S.2.1 12 f = par f)
/-- what stays while it walks -/
def xWf (Sp S : mv_S) : Prop := (∀ o f, o ≠ 3 → o ≠ 4 → o ≠ 5 → o ≠ 7 → S.1 o f = Sp.1 o f) ∧ (∀ o i, o < 15 → S.2.1 o i = Sp.2.1 o i)
/-- what is open: places and stages, the last first -/
def xOs (S : mv_S) : List (Nat × Nat) → Prop
  | [] => True
  | (p, g) :: R => (S.2.1 35 R.length = nI p ∧ S.2.1 36 R.length = nI g) ∧ xOs S R
/-- the walker's own -/
def xWc (S : mv_S) (O : List (Nat × Nat)) (nx gr st : Nat) : Prop := S.1 7 4 = nI O.length ∧ O.length ≤ 425 ∧ xOs S O ∧ S.1 7 5 = nI nx ∧ S.1 7 6 = nI gr ∧ S.1 7 7 = 0 ∧ S.1 7 8 = 1 ∧ S.1 4 15 = nI st
def xWk (Sp S : mv_S) (sd : Int32) (rm B : Nat) (oc : List Nat) (D : aDt) (O : List (Nat × Nat)) (nx gr st : Nat) : Prop := xWf Sp S ∧ xD S S sd rm B oc D ∧ xWc S O nx gr st
/-- it stops; c: how it ended -/
def xWs (Sp S : mv_S) (sd : Int32) (rm B : Nat) (D : aDt) (st : Nat) (c : Int32) : Prop := xWf Sp S ∧ (∃ oc K', aMap K' = aMap D.1 ∧ xD S S sd rm B oc (K', D.2)) ∧ S.1 4 15 = nI st ∧ S.1 7 8 = c ∧ (c = 1 → ¬ S.1 7 7 = 0)
theorem tkArg_n (t : Int32) : tkArg t = nI (tkArg t).toNatClampNeg ∧ (tkArg t).toNatClampNeg ≤ 3 := by
  unfold tkArg
  split
  · decide
  · split <;> decide
section XW
variable {d : Nat} {P : Option Value → mv_S → Prop} {Sp S0 S S' : mv_S} {sd x c : Int32} {rm B B' n : Nat} {oc oc' : List Nat} {D D' : aDt} {O R : List (Nat × Nat)} {nx gr st p g g' r : Nat} {tk par : Nat → Int32}
theorem xOs_go : ∀ {O : List (Nat × Nat)}, (∀ q, q < O.length → S'.2.1 35 q = S.2.1 35 q ∧ S'.2.1 36 q = S.2.1 36 q) → xOs S O → xOs S' O
  | [], _, _ => trivial
  | (p, g) :: R, h, z => ⟨⟨(h R.length (by simp)).1.trans z.1.1, (h R.length (by simp)).2.trans z.1.2⟩, xOs_go (fun q hq => h q (by simp only [List.length_cons]; omega)) z.2⟩
theorem xOs_app : ∀ {T O : List (Nat × Nat)}, xOs S (T ++ O) → xOs S O
  | [], _, h => h
  | _ :: T, O, h => xOs_app (T := T) h.2
theorem xWb_out (f : xWf Sp S) (h : xD S0 S sd rm B oc D) (e1 : ∀ o g, o ≠ 7 → ¬ (o = 4 ∧ g = 15) → S'.1 o g = S.1 o g) (e2 : ∀ o i, o < 35 → S'.2.1 o i = S.2.1 o i) (l : S'.2.2 = S.2.2) : xWf Sp S' ∧ xD S' S' sd rm B oc D :=
  ⟨⟨fun o g a b c e => (e1 o g e (fun z => b z.1)).trans (f.1 o g a b c e), fun o i a => (e2 o i (by omega)).trans (f.2 o i a)⟩, xD_out h (fun g => e1 3 g (by decide) (by omega)) (fun g hg => e1 4 g (by decide) (by omega)) (fun o i _ b => e2 o i b) l⟩
/-- the store has changed -/
theorem xWk_o (h : xWk Sp S sd rm B oc D O nx gr st) (o : xO S S') (g : xD S S' sd rm B' oc' D') : xWk Sp S' sd rm B' oc' D' O nx gr st := by
  obtain ⟨f, _, c1, c2, c3, c4, c5, c6, c7, c8⟩ := h
  have e7 : ∀ k, S'.1 7 k = S.1 7 k := fun k => o.1 7 k (by decide) (by decide) (by decide)
  exact ⟨⟨fun q k a b c e => (o.1 q k a b c).trans (f.1 q k a b c e), fun q i a => (o.2.2 q i (Or.inl a)).trans (f.2 q i a)⟩, xD_self g, (e7 4).trans c1, c2, xOs_go (fun q _ => ⟨o.2.2 35 q (by decide), o.2.2 36 q (by decide)⟩) c3, (e7 5).trans c4, (e7 6).trans c5, (e7 7).trans c6, (e7 8).trans c7, o.2.1.trans c8⟩
/-- it has ended -/
theorem xWs_8 {K' : List aI} (h : xWk Sp S0 sd rm B' oc' D' O nx gr st) (o : xO S0 S) (g : xD S0 S sd rm B oc (K', D.2)) (hK : aMap K' = aMap D.1) (hc : ¬ c = 1) : xWs Sp (mv_pf S 7 8 c) sd rm B D st c := by
  have h1 := xWk_o h o g
  have q := xWb_out (S' := mv_pf S 7 8 c) h1.1 h1.2.1 (fun o g a _ => by rw [pf_get, if_neg (fun z => a z.1)]) (fun _ _ _ => rfl) rfl
  refine ⟨q.1, ⟨oc, K', hK, q.2⟩, ?_, ?_, fun z => absurd z hc⟩
  · rw [pf_get, if_neg (by omega)]; exact h1.2.2.2.2.2.2.2.2.2
  · rw [pf_get, if_pos ⟨rfl, rfl⟩]
theorem xTg_t (hT : xTg Sp n tk par) (f : xWf Sp S) {q : Nat} (hq : q < 2 ^ 31) : xTok S (nI q) = tk q := by
  obtain ⟨a1, a2, a3, a4, _⟩ := hT
  unfold xTok
  rw [f.1 1 9 (by decide) (by decide) (by decide) (by decide), a1]
  by_cases c : q < n
  · rw [if_pos ⟨nI_pos' (by omega), nI_lt c (by omega), nI_lt (b := 700) (by omega) (by decide)⟩, nI_clamp (by omega), f.2 8 q (by decide), a3 q c]
  · rw [if_neg (fun z => c ((nI_ltI (by omega) (by omega)).mp z.2.1)), a4 q (by omega)]
theorem x_tokW (hT : xTg Sp n tk par) (f : xWf Sp S) {i : Int32} {q : Nat} (hi : i = nI q) (hq : q < 2 ^ 31) (h : P (some (.int (tk q))) S) : mv_big layX sysX (d + 1) 57 [.ref 1, .int i] S P := by
  refine x_token ?_
  rw [hi, xTg_t hT f hq]; exact h
theorem x_numW (hT : xTg Sp n tk par) (f : xWf Sp S) {i : Int32} {q : Nat} (hi : i = nI q) (hq : q < 2 ^ 30) (h : P (some (.int (cNums tk par q))) S) : mv_big layX sysX (d + 3) 70 [.ref 1, .int i] S P := by
  subst hi
  have hF : ∀ v, xHasF S v ↔ cHasF par v := by
    intro v
    unfold xHasF
    constructor
    · rintro ⟨a, b, c⟩
      obtain ⟨v1, v2⟩ := aN_of (n := 8) rfl (by decide) a b
      rw [f.2 12 _ (by decide), hT.2.2.2.2 _ v2] at c
      exact ⟨a, b, c⟩
    · rintro ⟨a, b, c⟩
      obtain ⟨v1, v2⟩ := aN_of (n := 8) rfl (by decide) a b
      rw [f.2 12 _ (by decide), hT.2.2.2.2 _ v2]
      exact ⟨a, b, c⟩
  have fin : (tk q = 8 ∨ tk q = 36) → (¬ xHasF S (tk (q + 1)) → P (some (.int 0)) S) ∧ (xHasF S (tk (q + 1)) → P (some (.int (S.2.1 12 (tk (q + 1)).toNatClampNeg))) S) := by
    intro c
    unfold cNums at h
    rw [if_pos c] at h
    unfold cPar at h
    refine ⟨fun z => ?_, fun z => ?_⟩
    · rw [if_neg (fun y => z ((hF _).mpr y))] at h
      exact h
    · have z2 := (hF _).mp z
      rw [if_pos z2] at h
      obtain ⟨v1, v2⟩ := aN_of (n := 8) rfl (by decide) z2.1 z2.2.1
      rw [f.2 12 _ (by decide), hT.2.2.2.2 _ v2]
      exact h
  refine ⟨60, ?_⟩
  refine x_tokW hT f rfl (by omega) ?_
  refine ⟨fun c => ?_, fun c => ⟨fun c2 => ?_, fun c2 => ?_⟩⟩
  · have c : tk q = 8 := c
    refine ⟨fun z => absurd (show (1 : Int32) = 0 from z) (by decide), fun _ => ?_⟩
    refine x_tokW hT f (q := q + 1) (nI_1 q) (by omega) ?_
    exact x_parameters (fin (Or.inl c)).1 (fin (Or.inl c)).2
  · have c : ¬ tk q = 8 := c
    have c2 : ¬ tk q = 36 := c2
    refine ⟨fun _ => ?_, fun z => absurd rfl z⟩
    unfold cNums at h
    rw [if_neg (fun z => z.elim c c2)] at h
    exact x_numbersT h
  · have c2 : tk q = 36 := c2
    refine ⟨fun z => absurd (show (1 : Int32) = 0 from z) (by decide), fun _ => ?_⟩
    refine x_tokW hT f (q := q + 1) (nI_1 q) (by omega) ?_
    exact x_parameters (fin (Or.inr c2)).1 (fin (Or.inr c2)).2
set_option maxHeartbeats 1000000 in
set_option maxRecDepth 8000 in
theorem x_setStageW (h : xWk Sp S sd rm B oc D ((p, g) :: R) nx gr st) (hP : ∀ S', xWk Sp S' sd rm B oc D ((p, g') :: R) nx gr st → P none S') : mv_big layX sysX (d + 2) 142 [.ref 7, .int (nI g')] S P := by
  obtain ⟨f, hD, c1, c2, c3, c4⟩ := h
  have c2' : R.length + 1 ≤ 425 := c2
  refine ⟨40, ?_⟩
  refine ws_aload_n rfl (rfl) rfl (ws_getr rfl rfl rfl (ws_aload_n rfl (rfl) rfl (ws_geti rfl rfl (c1) rfl (ws_iconst (x := 1) rfl rfl rfl (ws_isub rfl (nI_pred _) rfl (ws_iload_n rfl (rfl) rfl (ws_is rfl rfl rfl ?_)))))))
  refine mv_deep (d := d + 1) (by omega) (x_set_36 ?_)
  refine ws_i rfl ?_
  rw [sR_nI (by omega) (by decide)]
  have q := xWb_out (S' := mv_pr S 36 R.length (nI g')) f hD (fun _ _ _ _ => rfl) (fun o i a => by rw [pr_get, if_neg (by omega)]) rfl
  refine hP _ ⟨q.1, q.2, c1, c2, ⟨⟨?_, ?_⟩, xOs_go (fun q hq => ⟨?_, ?_⟩) c3.2⟩, c4⟩
  · rw [pr_get, if_neg (by omega)]; exact c3.1.1
  · rw [pr_get, if_pos ⟨rfl, rfl⟩]
  · rw [pr_get, if_neg (by omega)]
  · rw [pr_get, if_neg (by omega)]
set_option maxHeartbeats 1000000 in
set_option maxRecDepth 8000 in
theorem x_closeW (h : xWk Sp S sd rm B oc D ((p, g) :: R) nx gr st) (hP : ∀ S', xWk Sp S' sd rm B oc D R nx gr st → P none S') : mv_big layX sysX (d + 1) 140 [.ref 7] S P := by
  obtain ⟨f, hD, c1, c2, c3, c4, c5, c6, c7, c8⟩ := h
  have c2' : R.length + 1 ≤ 425 := c2
  refine ⟨40, ?_⟩
  refine ws_aload_n rfl (rfl) rfl (ws_dup_r rfl rfl (ws_geti rfl rfl (c1) rfl (ws_iconst (x := 1) rfl rfl rfl (ws_isub rfl (nI_pred _) rfl (ws_puti rfl rfl rfl (ws_i rfl ?_))))))
  have q := xWb_out (S' := mv_pf S 7 4 (nI R.length)) f hD (fun o g a _ => by rw [pf_get, if_neg (fun z => a z.1)]) (fun _ _ _ => rfl) rfl
  refine hP _ ⟨q.1, q.2, ?_, by omega, xOs_go (S := S) (fun _ _ => ⟨rfl, rfl⟩) c3.2, ?_, ?_, ?_, ?_, ?_⟩
  · rw [pf_get, if_pos ⟨rfl, rfl⟩]
  · rw [pf_get, if_neg (by omega)]; exact c4
  · rw [pf_get, if_neg (by omega)]; exact c5
  · rw [pf_get, if_neg (by omega)]; exact c6
  · rw [pf_get, if_neg (by omega)]; exact c7
  · rw [pf_get, if_neg (by omega)]; exact c8
theorem xWk_nx (h : xWk Sp S sd rm B oc D O nx gr st) : xWk Sp (mv_pf S 7 5 (nI g)) sd rm B oc D O g gr st := by
  obtain ⟨f, hD, c1, c2, c3, c4, c5, c6, c7, c8⟩ := h
  have q := xWb_out (S' := mv_pf S 7 5 (nI g)) f hD (fun o g a _ => by rw [pf_get, if_neg (fun z => a z.1)]) (fun _ _ _ => rfl) rfl
  refine ⟨q.1, q.2, ?_, c2, xOs_go (S := S) (fun _ _ => ⟨rfl, rfl⟩) c3, ?_, ?_, ?_, ?_, ?_⟩
  · rw [pf_get, if_neg (by omega)]; exact c1
  · rw [pf_get, if_pos ⟨rfl, rfl⟩]
  · rw [pf_get, if_neg (by omega)]; exact c5
  · rw [pf_get, if_neg (by omega)]; exact c6
  · rw [pf_get, if_neg (by omega)]; exact c7
  · rw [pf_get, if_neg (by omega)]; exact c8
set_option maxHeartbeats 1000000 in
set_option maxRecDepth 8000 in
theorem x_openAtW (h : xWk Sp S sd rm B oc D O nx gr st) (hO : O.length < 425) (hP : ∀ S', xWk Sp S' sd rm B oc D ((p, 0) :: O) nx gr st → P none S') : mv_big layX sysX (d + 2) 139 [.ref 7, .int (nI p)] S P := by
  obtain ⟨f, hD, c1, c2, c3, c4, c5, c6, c7, c8⟩ := h
  refine ⟨60, ?_⟩
  refine ws_aload_n rfl (rfl) rfl (ws_geti rfl rfl (c1) rfl (ws_sipush (x := 425) rfl rfl rfl (ws_i rfl ⟨fun z => absurd z (nI_ge (show O.length < 425 from hO) (by decide)), fun _ => ?_⟩)))
  refine ws_aload_n rfl (rfl) rfl (ws_getr rfl rfl rfl (ws_aload_n rfl (rfl) rfl (ws_geti rfl rfl (c1) rfl (ws_iload_n rfl (rfl) rfl (ws_is rfl rfl rfl ?_)))))
  refine mv_deep (d := d + 1) (by omega) (x_set_35 ?_)
  rw [sR_nI hO (by decide)]
  refine ws_aload_n rfl (rfl) rfl (ws_getr rfl rfl rfl (ws_aload_n rfl (rfl) rfl (ws_geti rfl rfl (c1) rfl (ws_iconst (x := 0) rfl rfl rfl (ws_is rfl rfl rfl ?_)))))
  refine mv_deep (d := d + 1) (by omega) (x_set_36 ?_)
  rw [sR_nI hO (by decide)]
  refine ws_aload_n rfl (rfl) rfl (ws_dup_r rfl rfl (ws_geti rfl rfl (c1) rfl (ws_iconst (x := 1) rfl rfl rfl (ws_iadd rfl (nI_1 _) rfl (ws_puti rfl rfl rfl (ws_i rfl ?_))))))
  have q := xWb_out (S' := mv_pf (mv_pr (mv_pr S 35 O.length (nI p)) 36 O.length 0) 7 4 (nI (O.length + 1))) f hD (fun o g a _ => by rw [pf_get, if_neg (fun z => a z.1)]; rfl) (fun o i a => by
    show (mv_pr (mv_pr S 35 O.length (nI p)) 36 O.length 0).2.1 o i = _
    rw [pr_get, if_neg (by omega), pr_get, if_neg (by omega)]) rfl
  have rr : ∀ o i, (mv_pf (mv_pr (mv_pr S 35 O.length (nI p)) 36 O.length 0) 7 4 (nI (O.length + 1))).2.1 o i = if o = 36 ∧ i = O.length then 0 else if o = 35 ∧ i = O.length then nI p else S.2.1 o i := fun o i => by
    show (mv_pr (mv_pr S 35 O.length (nI p)) 36 O.length 0).2.1 o i = _
    rw [pr_get, pr_get]
  refine hP _ ⟨q.1, q.2, ?_, by simp only [List.length_cons]; omega, ⟨⟨?_, ?_⟩, xOs_go (fun q hq => ⟨?_, ?_⟩) c3⟩, ?_, ?_, ?_, ?_, ?_⟩
  · rw [pf_get, if_pos ⟨rfl, rfl⟩]; rfl
  · rw [rr, if_neg (by omega), if_pos ⟨rfl, rfl⟩]
  · rw [rr, if_pos ⟨rfl, rfl⟩]; rfl
  · rw [rr, if_neg (by omega), if_neg (by omega)]
  · rw [rr, if_neg (by omega), if_neg (by omega)]
  · rw [pf_get, if_neg (by omega)]; exact c4
  · rw [pf_get, if_neg (by omega)]; exact c5
  · rw [pf_get, if_neg (by omega)]; exact c6
  · rw [pf_get, if_neg (by omega)]; exact c7
  · rw [pf_get, if_neg (by omega)]; exact c8
set_option maxHeartbeats 1000000 in
set_option maxRecDepth 8000 in
theorem x_mayStepW (h : xWk Sp S sd rm B oc D O nx gr st) (hg : gr ≤ 5000) (hs : st ≤ 5000) (hS : gr ≤ st → ∀ S', xWs Sp S' sd rm B D st 1 → P (some (.int 0)) S') (hP : st < gr → ∀ S', (∀ o f, ¬ (o = 4 ∧ f = 15) → S'.1 o f = S.1 o f) → S'.2 = S.2 → xWk Sp S' sd rm B oc D O nx gr (st + 1) → P (some (.int 1)) S') : mv_big layX sysX (d + 2) 143 [.ref 7] S P := by
  obtain ⟨f, hD, c1, c2, c3, c4, c5, c6, c7, c8⟩ := h
  refine ⟨40, ?_⟩
  refine ws_aload_n rfl (rfl) rfl (ws_getr rfl rfl rfl (ws_iv rfl rfl rfl ?_))
  refine mv_deep (d := d + 1) (by omega) (x_steps ?_)
  rw [c8]
  by_cases c : st < gr
  · refine ws_aload_n rfl (rfl) rfl (ws_geti rfl rfl (c5) rfl (ws_i rfl ⟨fun _ => ?_, fun z => absurd (nI_lt c (by omega)) z⟩))
    refine ws_aload_n rfl (rfl) rfl (ws_getr rfl rfl rfl (ws_iv rfl rfl rfl ?_))
    refine mv_deep (d := d + 1) (by omega) (x_addStep ?_)
    rw [c8, nI_1]
    refine ws_iconst (x := 1) rfl rfl rfl (ws_i rfl ?_)
    have q := xWb_out (S' := mv_pf S 4 15 (nI (st + 1))) f hD (fun o g _ a => by rw [pf_get, if_neg a]) (fun _ _ _ => rfl) rfl
    refine ⟨Or.inr rfl, hP c _ (fun o f a => by rw [pf_get, if_neg a]) rfl ⟨q.1, q.2, ?_, c2, xOs_go (S := S) (fun _ _ => ⟨rfl, rfl⟩) c3, ?_, ?_, ?_, ?_, ?_⟩⟩
    · rw [pf_get, if_neg (by omega)]; exact c1
    · rw [pf_get, if_neg (by omega)]; exact c4
    · rw [pf_get, if_neg (by omega)]; exact c5
    · rw [pf_get, if_neg (by omega)]; exact c6
    · rw [pf_get, if_neg (by omega)]; exact c7
    · rw [pf_get, if_pos ⟨rfl, rfl⟩]
  · refine ws_aload_n rfl (rfl) rfl (ws_geti rfl rfl (c5) rfl (ws_i rfl ⟨fun z => absurd z (nI_nlt (by omega) (by omega)), fun _ => ?_⟩))
    refine ws_aload_n rfl (rfl) rfl (ws_iconst (x := 1) rfl rfl rfl (ws_putz rfl rfl (Or.inr rfl) rfl (ws_iconst (x := 0) rfl rfl rfl (ws_i rfl ?_))))
    have q := xWb_out (S' := mv_pf S 7 7 1) f hD (fun o g a _ => by rw [pf_get, if_neg (fun z => a z.1)]) (fun _ _ _ => rfl) rfl
    refine ⟨Or.inl rfl, hS (by omega) _ ⟨q.1, ⟨oc, D.1, rfl, q.2⟩, ?_, ?_, fun _ => ?_⟩⟩
    · rw [pf_get, if_neg (by omega)]; exact c8
    · rw [pf_get, if_neg (by omega)]; exact c7
    · rw [pf_get, if_pos ⟨rfl, rfl⟩]; decide
set_option maxHeartbeats 1000000 in
set_option maxRecDepth 8000 in
theorem x_beginNextW (hT : xTg Sp n tk par) (h : xWk Sp S sd rm B oc D O nx gr st) (hO : O.length < 425) (hx : nx < 2 ^ 30) (hg : gr ≤ 5000) (hs : st ≤ 5000) (hS : gr ≤ st → ∀ S', xWs Sp S' sd rm B D st 1 → P none S') (hP : st < gr → ∀ S', xWk Sp S' sd rm B oc D ((nx, 0) :: O) (nx + 1 + (tkArg (tk nx)).toNatClampNeg) gr (st + 1) → P none S') : mv_big layX sysX (d + 3) 144 [.ref 7] S P := by
  obtain ⟨t1, t2⟩ := tkArg_n (tk nx)
  refine ⟨60, ?_⟩
  refine ws_aload_n rfl (rfl) rfl (ws_iv rfl rfl rfl ?_)
  refine mv_deep (d := d + 2) (by omega) (x_mayStepW h hg hs (fun z S1 h1 => ?_) (fun z S1 _ _ h1 => ?_))
  · refine ws_i rfl ⟨fun _ => ?_, fun z => absurd rfl z⟩
    refine ws_i rfl ?_
    exact hS z S1 h1
  · refine ws_i rfl ⟨fun z => absurd z (show ¬ (1 : Int32) = 0 by decide), fun _ => ?_⟩
    refine ws_aload_n rfl (rfl) rfl (ws_aload_n rfl (rfl) rfl (ws_geti rfl rfl (h1.2.2.2.2.2.1) rfl (ws_iv rfl rfl rfl ?_)))
    refine mv_deep (d := d + 2) (by omega) (x_openAtW h1 hO (fun S2 h2 => ?_))
    refine ws_aload_n rfl (rfl) rfl (ws_dup_r rfl rfl (ws_geti rfl rfl (h2.2.2.2.2.2.1) rfl (ws_iconst (x := 1) rfl rfl rfl (ws_aload_n rfl (rfl) rfl (ws_getr rfl rfl rfl (ws_aload_n rfl (rfl) rfl (ws_geti rfl rfl (h2.2.2.2.2.2.1) rfl (ws_iv rfl rfl rfl ?_))))))))
    refine mv_deep (d := d + 1) (by omega) (x_tokW hT h2.1 rfl (by omega) ?_)
    refine ws_is rfl rfl rfl ?_
    refine mv_deep (d := d + 1) (by omega) (x_arguments ?_)
    rw [t1]
    refine ws_iadd rfl (nI_add 1 _) rfl (ws_iadd rfl (nI_add _ _) rfl (ws_puti rfl rfl rfl (ws_i rfl ?_)))
    have e : nx + (1 + (tkArg (tk nx)).toNatClampNeg) = nx + 1 + (tkArg (tk nx)).toNatClampNeg := by omega
    rw [e]
    exact hP z _ (xWk_nx h2)
set_option maxHeartbeats 1000000 in
set_option maxRecDepth 8000 in
theorem x_beginPartW (hT : xTg Sp n tk par) (h : xWk Sp S sd rm B oc D ((p, g) :: R) nx gr st) (hO : R.length + 1 < 425) (hx : nx < 2 ^ 30) (hg : gr ≤ 5000) (hs : st ≤ 5000) (hS : gr ≤ st → ∀ S', xWs Sp S' sd rm B D st 1 → P none S') (hP : st < gr → ∀ S', xWk Sp S' sd rm B oc D ((nx, 0) :: (p, g') :: R) (nx + 1 + (tkArg (tk nx)).toNatClampNeg) gr (st + 1) → P none S') : mv_big layX sysX (d + 4) 147 [.ref 7, .int (nI g')] S P := by
  refine ⟨20, ?_⟩
  refine ws_aload_n rfl (rfl) rfl (ws_iload_n rfl (rfl) rfl (ws_iv rfl rfl rfl ?_))
  refine mv_deep (d := d + 2) (by omega) (x_setStageW h (fun S1 h1 => ?_))
  refine ws_aload_n rfl (rfl) rfl (ws_iv rfl rfl rfl ?_)
  refine mv_deep (d := d + 3) (by omega) (x_beginNextW hT h1 hO hx hg hs (fun z S2 h2 => ?_) (fun z S2 h2 => ?_))
  · refine ws_i rfl ?_
    exact hS z S2 h2
  · refine ws_i rfl ?_
    exact hP z S2 h2
set_option maxHeartbeats 1000000 in
set_option maxRecDepth 8000 in
theorem x_closeBehindW {e : Nat} (hb : Sp.2.1 9 p = nI e) (hp : p < 700) (h : xWk Sp S sd rm B oc D ((p, g) :: R) nx gr st) (hP : ∀ S', xWk Sp S' sd rm B oc D R e gr st → P none S') : mv_big layX sysX (d + 3) 141 [.ref 7, .int (nI p)] S P := by
  refine ⟨30, ?_⟩
  refine ws_aload_n rfl (rfl) rfl (ws_aload_n rfl (rfl) rfl (ws_getr rfl rfl rfl (ws_iload_n rfl (rfl) rfl (ws_iv rfl rfl rfl ?_))))
  refine mv_deep (d := d + 2) (by omega) (x_behind ?_)
  rw [rAt_nI hp (by decide), h.1.2 9 p (by decide), hb]
  refine ws_puti rfl rfl rfl (ws_aload_n rfl (rfl) rfl (ws_iv rfl rfl rfl ?_))
  refine mv_deep (d := d + 1) (by omega) (x_closeW (xWk_nx h) (fun S1 h1 => ?_))
  refine ws_i rfl ?_
  exact hP S1 h1
end XW

/-! THE CLASS WALKS BESIDE THE MACHINE OF BOTH: beginnings, parts, blocks -/
def wN (Sp : mv_S) (s : List (Bool × Nat × Nat)) : Prop := ∀ g q e, (g, q, e) ∈ s → q < 700 ∧ Sp.2.1 (if g then 10 else 9) q = nI e
def wSub (par par1 : Nat → Int32) : Prop := ∀ f, f < 8 → ¬ par1 f = -1 → par f = par1 f ∧ 0 ≤ par f ∧ par f ≤ 3
theorem wN_app {Sp : mv_S} {a b : List (Bool × Nat × Nat)} (h : wN Sp (a ++ b)) : wN Sp a ∧ wN Sp b := ⟨fun g q e z => h g q e (List.mem_append.mpr (Or.inl z)), fun g q e z => h g q e (List.mem_append.mpr (Or.inr z))⟩
theorem aSh_app : ∀ (A B : List aI), aSh (A ++ B) = aSh A ++ aSh B
  | [], _ => rfl
  | .inl x :: R, B => by
    show false :: aSh (R ++ B) = false :: (aSh R ++ aSh B)
    rw [aSh_app R B]
  | .inr x :: R, B => by
    show true :: aSh (R ++ B) = true :: (aSh R ++ aSh B)
    rw [aSh_app R B]
/-- all that stays as it is: tokens, room, grants, functions -/
def wHy (Sp : mv_S) (w par : Nat → Int32) (fa ft : Nat → Nat) (rm gr Bt L n : Nat) (tk : Nat → Int32) : Prop :=
  xTg Sp n tk par ∧ rm ≤ 400 ∧ gr ≤ 5000 ∧ Bt + 10 < 2 ^ 31 ∧ L < 2 ^ 30 ∧ (∀ f, f < 8 → ¬ par f = -1 → tyA w par L false (fa f) []) ∧ (∀ f, f < 8 → ¬ par f = -1 → Sp.2.1 14 f = nI (ft f) ∧ tk (ft f) = 10 ∧ ft f < 700 ∧ ∃ par1 p1 l s, cLoop tk (cStm n tk par1 true false 16) 700 (ft f + 3) (fa f) = .ok (p1, l, s) ∧ tk p1 = 0 ∧ Seg w (fa f) (l ++ [1, 0, 17]) ∧ fa f + l.length + 3 ≤ L ∧ wN Sp s ∧ wSub par par1)
section WC
variable (d : Nat) (P : Option Value → mv_S → Prop) (Sp : mv_S) (w par : Nat → Int32) (fa : Nat → Nat) (sd : Int32) (rm gr Bt L n : Nat) (tk : Nat → Int32)
/-- a turn at (q, g) begins what is next, and leaves (q, g') -/
def wTn (sb : Bool) (oc : List Nat) (q g g' : Nat) (R : List (Nat × Nat)) : Prop := ∀ (D : aDt) (nx k B : Nat) (S : mv_S) (st : Nat), R.length + 1 < 425 → nx < 700 → (sb = true → cIsS (tk nx)) → k + 1 ≤ 1000000 → st ≤ 5000 → xWk Sp S sd rm B oc D ((q, g) :: R) nx gr st → (gr ≤ st → ∀ S', xWs Sp S' sd rm B D st 1 → xLp P d k S') → (st < gr → ∀ S', xWk Sp S' sd rm B oc D ((nx, 0) :: (q, g') :: R) (nx + 1 + (tkArg (tk nx)).toNatClampNeg) gr (st + 1) → xLp P d k S') → xLp P d (k + 1) S
/-- E (m false) or M, once begun with fewer than N steps left, goes as the machine says -/
def wEMs (N : Nat) : Prop := ∀ r m p b p1 l s par1, cEM n tk par1 true r m p b = .ok (p1, l, s) → r ≤ 16 → Seg w b l → wN Sp s → wSub par par1 → b + l.length ≤ L → ∀ (c k left : Nat) (O : List (Nat × Nat)) (oc rets : List Nat) (K : List aI) (Rr : List (List aI) × (Nat → Int32) × (Nat → tT) × List Int32 × Nat × Nat) (S : mv_S), left < N → 10 * left + c + 9 ≤ k → O.length + r ≤ 17 * (Rr.1.length + 1) → wX Sp sd rm gr Bt k left ((p, 0) :: O) (p + 1 + (tkArg (tk p)).toNatClampNeg) oc (K, Rr) S → wM P Sp w par fa sd rm gr Bt L left (b + 1, rets, K, Rr) → (∀ k' left' it Rr' S', left' ≤ left → 10 * left' + c + 5 ≤ k' → Rr'.1 = Rr.1 → aSh [it] = [m] → wX Sp sd rm gr Bt k' left' O p1 oc (it :: K, Rr') S' → wM P Sp w par fa sd rm gr Bt L left' (b + l.length, rets, it :: K, Rr') → xLp P d k' S') → xLp P d k S
/-- how a function's answer goes on -/
def wRet (cr l0 : Nat) (mn : Bool) (O : List (Nat × Nat)) (oc rets : List Nat) (Ks : List (List aI)) : Prop := mn = false → ∃ T p1 g1 R e K1 Ks' ret rets' oc', O = T ++ (p1, g1) :: R ∧ oc = (R.length + 1) :: oc' ∧ Ks = K1 :: Ks' ∧ rets = ret :: rets' ∧ p1 < 700 ∧ Sp.2.1 9 p1 = nI e ∧ ∀ k' left' v Re S', left' ≤ l0 → 10 * left' + cr ≤ k' → wX Sp sd rm gr Bt k' left' ((p1, g1) :: R) e oc' (.inl v :: K1, Ks', Re) S' → wM P Sp w par fa sd rm gr Bt L left' (ret, rets', .inl v :: K1, Ks', Re) → xLp P d k' S'
/-- S, once begun with fewer than N steps left -/
def wSTs (N : Nat) : Prop := ∀ r mn p b p1 l s par1, cIsS (tk p) → cStm n tk par1 true mn r p b = .ok (p1, l, s) → r ≤ 16 → Seg w b l → wN Sp s → wSub par par1 → b + l.length ≤ L → ∀ (c cr k left : Nat) (O : List (Nat × Nat)) (oc rets : List Nat) (K : List aI) (Rr : List (List aI) × (Nat → Int32) × (Nat → tT) × List Int32 × Nat × Nat) (S : mv_S), left < N → cr ≤ c + 5 → mn = Rr.1.isEmpty → 10 * left + c + 9 ≤ k → O.length + r ≤ 17 * (Rr.1.length + 1) → wX Sp sd rm gr Bt k left ((p, 0) :: O) (p + 1 + (tkArg (tk p)).toNatClampNeg) oc (K, Rr) S → wM P Sp w par fa sd rm gr Bt L left (b + 1, rets, K, Rr) → wRet d P Sp w par fa sd rm gr Bt L cr left mn O oc rets Rr.1 → (∀ k' left' Rr' S', left' ≤ left → 10 * left' + c + 5 ≤ k' → Rr'.1 = Rr.1 → wX Sp sd rm gr Bt k' left' O p1 oc (K, Rr') S' → wM P Sp w par fa sd rm gr Bt L left' (b + l.length, rets, K, Rr') → xLp P d k' S') → xLp P d k S
end WC
section WD
variable {d : Nat} {P : Option Value → mv_S → Prop} {Sp S : mv_S} {w par par1 : Nat → Int32} {fa ft : Nat → Nat} {sd : Int32} {rm gr Bt L n N : Nat} {tk : Nat → Int32} {k left b q g g' nx r p X : Nat} {R O : List (Nat × Nat)} {oc rets : List Nat} {D : aDt} {m mn : Bool}
theorem wRet_mono {cr l0 l1 : Nat} {Ks : List (List aI)} (h : wRet d P Sp w par fa sd rm gr Bt L cr l0 mn O oc rets Ks) (hl : l1 ≤ l0) : wRet d P Sp w par fa sd rm gr Bt L cr l1 mn O oc rets Ks := by
  intro hm
  obtain ⟨T, p1, g1, R, e, K1, Ks', ret, rets', oc', h1, h2, h3, h4, h5, h6, h7⟩ := h hm
  exact ⟨T, p1, g1, R, e, K1, Ks', ret, rets', oc', h1, h2, h3, h4, h5, h6, fun k' left' v Re S' a => h7 k' left' v Re S' (by omega)⟩
theorem wRet_cons {cr l0 : Nat} {Ks : List (List aI)} {x : Nat × Nat} (h : wRet d P Sp w par fa sd rm gr Bt L cr l0 mn O oc rets Ks) : wRet d P Sp w par fa sd rm gr Bt L cr l0 mn (x :: O) oc rets Ks := by
  intro hm
  obtain ⟨T, p1, g1, R, e, K1, Ks', ret, rets', oc', h1, h2⟩ := h hm
  exact ⟨x :: T, p1, g1, R, e, K1, Ks', ret, rets', oc', by rw [h1]; rfl, h2⟩
theorem wX_O (h : wX Sp sd rm gr Bt k left O nx oc D S) : O.length ≤ 425 := by
  obtain ⟨B, _, _, _, h⟩ := h
  exact h.2.2.2.1
/-- a beginning -/
theorem wBg (hy : wHy Sp w par fa ft rm gr Bt L n tk) {sb : Bool} (tn : wTn d P Sp sd rm gr tk sb oc q g g' R) (hO : R.length + 1 < 425) (hx : nx < 700) (hsb : sb = true → cIsS (tk nx)) (hX : wX Sp sd rm gr Bt (k + 1) left ((q, g) :: R) nx oc D S) (hM : wM P Sp w par fa sd rm gr Bt L left (b, rets, D)) (hw : w b = 30) (hK : ∀ left1 S', left = left1 + 1 → wX Sp sd rm gr Bt k left1 ((nx, 0) :: (q, g') :: R) (nx + 1 + (tkArg (tk nx)).toNatClampNeg) oc D S' → wM P Sp w par fa sd rm gr Bt L left1 (b + 1, rets, D) → xLp P d k S') : xLp P d (k + 1) S := by
  obtain ⟨y1, y2, y3, y4, y5, y6, y7⟩ := hy
  obtain ⟨B, h1, h2, h3, h4⟩ := hX
  refine tn D nx k B S (gr - left) hO hx hsb (by omega) (by omega) h4 (fun z S' hs => ?_) (fun z S' hs => ?_)
  · obtain rfl : left = 0 := by omega
    exact x_lpS hs (by omega) (wG_no hM.2 (aIs_30 hw) (by omega) hs)
  · obtain ⟨left1, rfl⟩ : ∃ left1, left = left1 + 1 := ⟨left - 1, by omega⟩
    have e : gr - (left1 + 1) + 1 = gr - left1 := by omega
    rw [e] at hs
    exact hK left1 S' rfl ⟨B, by omega, by omega, by omega, hs⟩ (wM_30 y6 y2 hM hw)
theorem cEM_30 {p1 : Nat} {l s} (h : cEM n tk par1 true r m p b = .ok (p1, l, s)) : cKind m (tk p) ∧ ∃ l0 s0 r0, r = r0 + 1 ∧ l = 30 :: l0 ∧ s = s0 ++ (if m then [] else [(false, p, p1)]) ∧ (if tk p = 30 ∨ tk p = 31 then cEither (cEM n tk par1 true r0) (tk p) p (b + 1) else cPlain n tk par1 (cEM n tk par1 true r0) p (b + 1)) = .ok (p1, l0, s0) := by
  match r, h with
  | 0, h =>
    rw [cEM] at h
    split at h <;> cases h
  | r + 1, h =>
    rw [cEM] at h
    split at h
    · rename_i c
      obtain ⟨l0, s0, h1, h2, h3⟩ := cMark_ok h
      exact ⟨c, l0, s0, r, rfl, h2, h3, h1⟩
    · cases h
theorem cStm_30 {p1 : Nat} {l s} (h : cStm n tk par1 true mn r p b = .ok (p1, l, s)) : ∃ l0 s0 r0, r = r0 + 1 ∧ l = 30 :: l0 ∧ s = s0 ++ [(false, p, p1)] ∧ (if tk p = 3 then cIf tk (cEM n tk par1 true r0) (cLoop tk (cStm n tk par1 true mn r0) 700) p (b + 1)
       else if tk p = 5 then cWhile tk (cEM n tk par1 true r0) (cLoop tk (cStm n tk par1 true mn r0) 700) p (b + 1)
       else if tk p = 6 then cEach n tk (cLoop tk (cStm n tk par1 true mn r0) 700) p (b + 1)
       else if tk p = 9 then cAnswer mn (cEM n tk par1 true r0) p (b + 1)
       else if tk p = 8 then cCallS (cPlain n tk par1 (cEM n tk par1 true r0) p (b + 1))
       else cPlain n tk par1 (cEM n tk par1 true r0) p (b + 1)) = .ok (p1, l0, s0) := by
  match r, h with
  | 0, h => rw [cStm] at h; cases h
  | r + 1, h =>
    rw [cStm] at h
    obtain ⟨l0, s0, h1, h2, h3⟩ := cMark_ok h
    exact ⟨l0, s0, r, rfl, h2, h3, h1⟩
/-- parts of one kind, one after the other -/
theorem wMany (hy : wHy Sp w par fa ft rm gr Bt L n tk) (ih : wEMs d P Sp w par fa sd rm gr Bt L n tk N) (hr : r ≤ 15) (hsub : wSub par par1) (hX1 : 1 ≤ X) : ∀ (j g p0 b0 p1 : Nat) (l : List Int32) (s : List (Bool × Nat × Nat)), cMany (cEM n tk par1 true r m) j p0 b0 = .ok (p1, l, s) → Seg w b0 l → wN Sp s → b0 + l.length ≤ L → (∀ g0, g ≤ g0 → g0 < g + j → wTn d P Sp sd rm gr tk false oc p g0 (g0 + 1) O) → ∀ (k left : Nat) (K : List aI) (Rr : List (List aI) × (Nat → Int32) × (Nat → tT) × List Int32 × Nat × Nat) (S : mv_S), left ≤ N → 10 * left + X ≤ k → O.length + (r + 1) ≤ 17 * (Rr.1.length + 1) → wX Sp sd rm gr Bt k left ((p, g) :: O) p0 oc (K, Rr) S → wM P Sp w par fa sd rm gr Bt L left (b0, rets, K, Rr) → (∀ k' left' its Rr' S', left' ≤ left → 10 * left' + X ≤ k' → Rr'.1 = Rr.1 → aSh its = List.replicate j m → wX Sp sd rm gr Bt k' left' ((p, g + j) :: O) p1 oc (its ++ K, Rr') S' → wM P Sp w par fa sd rm gr Bt L left' (b0 + l.length, rets, its ++ K, Rr') → xLp P d k' S') → xLp P d k S := by
  intro j
  induction j with
  | zero =>
    intro g p0 b0 p1 l s h hs hn hl tn k left K Rr S hN hk hO hX hM hK
    rw [cMany] at h
    simp only [Except.ok.injEq, Prod.mk.injEq] at h
    obtain ⟨rfl, rfl, rfl⟩ := h
    exact hK k left [] Rr S (Nat.le_refl _) hk rfl rfl hX hM
  | succ j ihj =>
    intro g p0 b0 p1 l s h hs hn hl tn k left K Rr S hN hk hO hX hM hK
    rw [cMany] at h
    obtain ⟨pa, la, sa, lb, sb, h1, h2, rfl, rfl⟩ := cThen_ok h
    obtain ⟨hs1, hs2⟩ := Seg_app hs
    obtain ⟨hn1, hn2⟩ := wN_app hn
    rw [List.length_append] at hl
    obtain ⟨hkd, l0, s0, r0, er, el, es, _⟩ := cEM_30 h1
    have hp0 : p0 < n := cKind_in hy.1.2.2.2.1 hkd
    have hn7 := hy.1.2.1
    have hw : w b0 = 30 := by
      rw [el] at hs1
      exact (Seg_cons hs1).1
    obtain ⟨k, rfl⟩ : ∃ k0, k = k0 + 1 := ⟨k - 1, by omega⟩
    have n24 : Rr.1.length ≤ 24 := hM.1.2.2.1
    refine wBg hy (tn g (Nat.le_refl _) (by omega)) (by omega) (by omega) (fun z => by cases z) hX hM hw (fun left1 S1 e1 hX1' hM1 => ?_)
    subst e1
    refine ih r m p0 b0 pa la sa par1 h1 (by omega) hs1 hn1 hsub (by omega) X k left1 ((p, g + 1) :: O) oc rets K Rr S1 (by omega) (by omega) (by simp only [List.length_cons]; omega) hX1' hM1 (fun k2 left2 it Rr2 S2 q1 q2 q3 q4 hX2 hM2 => ?_)
    refine ihj (g + 1) pa (b0 + la.length) p1 lb sb h2 hs2 hn2 (by omega) (fun g0 a1 a2 => tn g0 (by omega) (by omega)) k2 left2 (it :: K) Rr2 S2 (by omega) (by omega) (by rw [q3]; exact hO) hX2 hM2 (fun k3 left3 its Rr3 S3 u1 u2 u3 u4 hX3 hM3 => ?_)
    have e2 : its ++ it :: K = (its ++ [it]) ++ K := by simp
    have e3 : g + 1 + j = g + (j + 1) := by omega
    rw [e2, e3] at hX3
    rw [e2] at hM3
    rw [Nat.add_assoc, ← List.length_append] at hM3
    refine hK k3 left3 (its ++ [it]) Rr3 S3 (by omega) u2 (u3.trans q3) ?_ hX3 hM3
    rw [aSh_app, u4, q4, List.replicate_succ']
/-- statements one after the other -/
theorem wBlk (hy : wHy Sp w par fa ft rm gr Bt L n tk) (ih : wSTs d P Sp w par fa sd rm gr Bt L n tk N) (hr : r ≤ 16) (hsub : wSub par par1) (hX1 : 1 ≤ X) (tn : wTn d P Sp sd rm gr tk true oc q g g O) (cr : Nat) (hcr : cr ≤ X + 5) : ∀ (j p0 b0 p1 : Nat) (l : List Int32) (s : List (Bool × Nat × Nat)), cLoop tk (cStm n tk par1 true mn r) j p0 b0 = .ok (p1, l, s) → Seg w b0 l → wN Sp s → b0 + l.length ≤ L → ∀ (k left : Nat) (K : List aI) (Rr : List (List aI) × (Nat → Int32) × (Nat → tT) × List Int32 × Nat × Nat) (S : mv_S), left ≤ N → mn = Rr.1.isEmpty → 10 * left + X ≤ k → O.length + 1 + r ≤ 17 * (Rr.1.length + 1) → wX Sp sd rm gr Bt k left ((q, g) :: O) p0 oc (K, Rr) S → wM P Sp w par fa sd rm gr Bt L left (b0, rets, K, Rr) → wRet d P Sp w par fa sd rm gr Bt L cr left mn ((q, g) :: O) oc rets Rr.1 → (∀ k' left' Rr' S', left' ≤ left → 10 * left' + X ≤ k' → Rr'.1 = Rr.1 → wX Sp sd rm gr Bt k' left' ((q, g) :: O) p1 oc (K, Rr') S' → wM P Sp w par fa sd rm gr Bt L left' (b0 + l.length, rets, K, Rr') → xLp P d k' S') → xLp P d k S := by
  intro j
  induction j with
  | zero =>
    intro p0 b0 p1 l s h hs hn hl k left K Rr S hN hm hk hO hX hM hR hK
    rw [cLoop] at h
    simp only [Except.ok.injEq, Prod.mk.injEq] at h
    obtain ⟨rfl, rfl, rfl⟩ := h
    exact hK k left Rr S (Nat.le_refl _) hk rfl hX hM
  | succ j ihj =>
    intro p0 b0 p1 l s h hs hn hl k left K Rr S hN hm hk hO hX hM hR hK
    rw [cLoop] at h
    by_cases hS : cIsS (tk p0)
    · rw [if_pos hS] at h
      obtain ⟨pa, la, sa, lb, sb, h1, h2, rfl, rfl⟩ := cThen_ok h
      obtain ⟨hs1, hs2⟩ := Seg_app hs
      obtain ⟨hn1, hn2⟩ := wN_app hn
      rw [List.length_append] at hl
      obtain ⟨l0, s0, r0, er, el, es, _⟩ := cStm_30 h1
      have hp0 : p0 < n := cIsS_in hy.1.2.2.2.1 hS
      have hn7 := hy.1.2.1
      have hw : w b0 = 30 := by
        rw [el] at hs1
        exact (Seg_cons hs1).1
      obtain ⟨k, rfl⟩ : ∃ k0, k = k0 + 1 := ⟨k - 1, by omega⟩
      have n24 : Rr.1.length ≤ 24 := hM.1.2.2.1
      refine wBg hy tn (by omega) (by omega) (fun _ => hS) hX hM hw (fun left1 S1 e1 hX1' hM1 => ?_)
      subst e1
      refine ih r mn p0 b0 pa la sa par1 hS h1 hr hs1 hn1 hsub (by omega) X cr k left1 ((q, g) :: O) oc rets K Rr S1 (by omega) hcr hm (by omega) (by simp only [List.length_cons]; omega) hX1' hM1 (wRet_mono hR (by omega)) (fun k2 left2 Rr2 S2 q1 q2 q3 hX2 hM2 => ?_)
      refine ihj pa (b0 + la.length) p1 lb sb h2 hs2 hn2 (by omega) k2 left2 K Rr2 S2 (by omega) (by rw [q3]; exact hm) (by omega) (by rw [q3]; exact hO) hX2 hM2 (by rw [q3]; exact wRet_mono hR (by omega)) (fun k3 left3 Rr3 S3 u1 u2 u3 hX3 hM3 => ?_)
      rw [Nat.add_assoc, ← List.length_append] at hM3
      exact hK k3 left3 Rr3 S3 (by omega) u2 (u3.trans q3) hX3 hM3
    · rw [if_neg hS] at h
      simp only [Except.ok.injEq, Prod.mk.injEq] at h
      obtain ⟨rfl, rfl, rfl⟩ := h
      exact hK k left Rr S (Nat.le_refl _) hk rfl hX hM
end WD

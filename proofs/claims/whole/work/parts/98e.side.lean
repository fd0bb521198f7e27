/-! THE CLASS WALKS BESIDE THE MACHINE OF BOTH -/
section WG
variable (P : Option Value → mv_S → Prop) (Sp : mv_S) (w par : Nat → Int32) (fa : Nat → Nat) (sd : Int32) (rm gr Bt : Nat)
/-- what the machine comes to from s, with left steps, is what P asks of the class's end -/
def wG (left : Nat) (s : aMs) : Prop := ∀ f c left' s' S' B, aGo w par fa sd rm f left s = some (c, left', s') → B ≤ Bt → xWs Sp S' sd rm B s'.2.2 (gr - left') c → ¬ c = 99 → P (some (.int c)) S'
def wM (L left : Nat) (s : aMs) : Prop := aInv w par L sd rm s ∧ wG P Sp w par fa sd rm gr Bt left s
/-- the class's walker, k turns and left steps to go -/
def wX (k left : Nat) (O : List (Nat × Nat)) (nx : Nat) (oc : List Nat) (D : aDt) (S : mv_S) : Prop := ∃ B, B + k ≤ Bt ∧ left ≤ gr ∧ k ≤ 1000000 ∧ xWk Sp S sd rm B oc D O nx gr (gr - left)
end WG
theorem aIs_no {w : Nat → Int32} {s : aMs} {k : Nat} (h : w s.1 = nI k) (hk : k < 29) : aIs w s = false := by
  unfold aIs
  rw [if_neg (by rw [h]; intro z; have := (nI_eq (b := 30) (by omega) (by decide)).mp z; omega), if_neg (by rw [h]; intro z; have := (nI_eq (b := 29) (by omega) (by decide)).mp z; omega)]
theorem aIs_30 {w : Nat → Int32} {s : aMs} (h : w s.1 = 30) : aIs w s = true := by
  unfold aIs
  rw [if_pos h]
section WM
variable {P : Option Value → mv_S → Prop} {Sp : mv_S} {w par : Nat → Int32} {fa : Nat → Nat} {sd v c : Int32} {rm gr Bt L left pc t k : Nat} {s : aMs} {rets : List Nat} {K K1 : List aI} {Ks : List (List aI)} {Rr : List (List aI) × (Nat → Int32) × (Nat → tT) × List Int32 × Nat × Nat} {Re : (Nat → Int32) × (Nat → tT) × List Int32 × Nat × Nat} {D : aDt}
theorem wG_st (h : wG P Sp w par fa sd rm gr Bt left s) (hi : aIs w s = false) (h1 : (aSt w par fa sd rm s).1 = 1) : wG P Sp w par fa sd rm gr Bt left (aSt w par fa sd rm s).2 := by
  intro f c left' s' S' B hg
  refine h (f + 1) c left' s' S' B ?_
  rw [aGo, hi, if_neg (fun z => by cases z.1), if_pos h1]
  exact hg
theorem wG_ct (h : wG P Sp w par fa sd rm gr Bt (left + 1) s) (hi : aIs w s = true) (h1 : (aSt w par fa sd rm s).1 = 1) : wG P Sp w par fa sd rm gr Bt left (aSt w par fa sd rm s).2 := by
  intro f c left' s' S' B hg
  refine h (f + 1) c left' s' S' B ?_
  rw [aGo, hi, if_neg (fun z => by cases z.2), if_pos h1]
  exact hg
/-- it ends here -/
theorem wG_en {S : mv_S} {B : Nat} (h : wG P Sp w par fa sd rm gr Bt left s) (hi : aIs w s = false) (h1 : (aSt w par fa sd rm s).1 = c) (hc : ¬ c = 1) (h99 : ¬ c = 99) (hB : B ≤ Bt) (hs : xWs Sp S sd rm B (aSt w par fa sd rm s).2.2.2 (gr - left) c) : P (some (.int c)) S := by
  refine h 1 c left (aSt w par fa sd rm s).2 S B ?_ hB hs h99
  rw [aGo, hi, if_neg (fun z => by cases z.1), if_neg (by rw [h1]; exact hc), h1]
  rfl
/-- no step is left -/
theorem wG_no {S : mv_S} {B : Nat} (h : wG P Sp w par fa sd rm gr Bt 0 s) (hi : aIs w s = true) (hB : B ≤ Bt) (hs : xWs Sp S sd rm B s.2.2 gr 1) : P (some (.int 1)) S := by
  refine h 1 1 0 s S B ?_ hB hs (by decide)
  rw [aGo, hi, if_pos ⟨rfl, rfl⟩]
theorem wM_k (h : wM P Sp w par fa sd rm gr Bt L left s) : ∃ k, k ≤ 30 ∧ w s.1 = nI k := aInv_k h.1
theorem wM_st (hfn : ∀ f, f < 8 → ¬ par f = -1 → tyA w par L false (fa f) []) (hrm : rm ≤ 400) (h : wM P Sp w par fa sd rm gr Bt L left s) (hw : w s.1 = nI k) (hk : k < 29) {s' : aMs} (e : aSw w par fa sd rm s.1 s.2.1 s.2.2 k = (1, s')) : wM P Sp w par fa sd rm gr Bt L left s' := by
  have e1 : aSt w par fa sd rm s = (1, s') := (aSt_k hw (by omega)).trans e
  have q := aSt_inv hfn hrm h.1 (by rw [e1])
  have q2 := wG_st h.2 (aIs_no hw hk) (by rw [e1])
  rw [e1] at q q2
  exact ⟨q, q2⟩
theorem wM_12 (hfn : ∀ f, f < 8 → ¬ par f = -1 → tyA w par L false (fa f) []) (hrm : rm ≤ 400) (h : wM P Sp w par fa sd rm gr Bt L left (pc, rets, D)) (hw : w pc = 12) (ht : w (pc + 1) = nI t) (t31 : t < 2 ^ 31) : wM P Sp w par fa sd rm gr Bt L left (t, rets, D) := by
  refine wM_st (k := 12) hfn hrm h hw (by decide) ?_
  show (1, (w (pc + 1)).toNatClampNeg, rets, D) = _
  rw [ht, nI_clamp t31]
theorem wM_13 (hfn : ∀ f, f < 8 → ¬ par f = -1 → tyA w par L false (fa f) []) (hrm : rm ≤ 400) (h : wM P Sp w par fa sd rm gr Bt L left (pc, rets, .inl v :: K, Rr)) (hw : w pc = 13) (ht : w (pc + 1) = nI t) (t31 : t < 2 ^ 31) : wM P Sp w par fa sd rm gr Bt L left (if v = 0 then t else pc + 2, rets, K, Rr) := by
  refine wM_st (k := 13) hfn hrm h hw (by decide) ?_
  show (1, (if v = 0 then (w (pc + 1)).toNatClampNeg else pc + 2), rets, (K, Rr)) = _
  rw [ht, nI_clamp t31]
theorem wM_14 (hfn : ∀ f, f < 8 → ¬ par f = -1 → tyA w par L false (fa f) []) (hrm : rm ≤ 400) (h : wM P Sp w par fa sd rm gr Bt L left (pc, rets, .inl v :: K, Rr)) (hw : w pc = 14) (ht : w (pc + 1) = nI t) (t31 : t < 2 ^ 31) : wM P Sp w par fa sd rm gr Bt L left (if v = 0 then pc + 2 else t, rets, K, Rr) := by
  refine wM_st (k := 14) hfn hrm h hw (by decide) ?_
  show (1, (if v = 0 then pc + 2 else (w (pc + 1)).toNatClampNeg), rets, (K, Rr)) = _
  rw [ht, nI_clamp t31]
theorem wM_1 (hfn : ∀ f, f < 8 → ¬ par f = -1 → tyA w par L false (fa f) []) (hrm : rm ≤ 400) (h : wM P Sp w par fa sd rm gr Bt L left (pc, rets, K, Rr)) (hw : w pc = 1) : wM P Sp w par fa sd rm gr Bt L left (pc + 2, rets, .inl (w (pc + 1)) :: K, Rr) := wM_st (k := 1) hfn hrm h hw (by decide) rfl
theorem wM_11 (hfn : ∀ f, f < 8 → ¬ par f = -1 → tyA w par L false (fa f) []) (hrm : rm ≤ 400) (h : wM P Sp w par fa sd rm gr Bt L left (pc, rets, .inl v :: K, Rr)) (hw : w pc = 11) : wM P Sp w par fa sd rm gr Bt L left (pc + 1, rets, .inl (if v = 0 then 1 else 0) :: K, Rr) := wM_st (k := 11) hfn hrm h hw (by decide) rfl
theorem wM_18 (hfn : ∀ f, f < 8 → ¬ par f = -1 → tyA w par L false (fa f) []) (hrm : rm ≤ 400) (h : wM P Sp w par fa sd rm gr Bt L left (pc, rets, .inl v :: K, Rr)) (hw : w pc = 18) : wM P Sp w par fa sd rm gr Bt L left (pc + 1, rets, K, Rr) := wM_st (k := 18) hfn hrm h hw (by decide) rfl
theorem wM_17 {r : Nat} (hfn : ∀ f, f < 8 → ¬ par f = -1 → tyA w par L false (fa f) []) (hrm : rm ≤ 400) (h : wM P Sp w par fa sd rm gr Bt L left (pc, r :: rets, .inl v :: K, K1 :: Ks, Re)) (hw : w pc = 17) : wM P Sp w par fa sd rm gr Bt L left (r, rets, .inl v :: K1, Ks, Re) := wM_st (k := 17) hfn hrm h hw (by decide) rfl
theorem wM_30 (hfn : ∀ f, f < 8 → ¬ par f = -1 → tyA w par L false (fa f) []) (hrm : rm ≤ 400) (h : wM P Sp w par fa sd rm gr Bt L (left + 1) (pc, rets, D)) (hw : w pc = 30) : wM P Sp w par fa sd rm gr Bt L left (pc + 1, rets, D) := by
  have e1 : aSt w par fa sd rm (pc, rets, D) = (1, pc + 1, rets, D) := aSt_k (k := 30) (s := (pc, rets, D)) hw (by decide)
  have q := aSt_inv hfn hrm h.1 (by rw [e1])
  have q2 := wG_ct h.2 (aIs_30 hw) (by rw [e1])
  rw [e1] at q q2
  exact ⟨q, q2⟩
theorem wM_29e {T : tT} {q : Option Int32} (hfn : ∀ f, f < 8 → ¬ par f = -1 → tyA w par L false (fa f) []) (hrm : rm ≤ 400) (h : wM P Sp w par fa sd rm gr Bt L left (pc, rets, .inr (T, q) :: K, Rr)) (hw : w pc = 29) (ht : w (pc + 3) = nI t) (t31 : t < 2 ^ 31) (e : tNx q T = .leaf) : wM P Sp w par fa sd rm gr Bt L left (t, rets, K, Rr) := by
  have e1 : aSt w par fa sd rm (pc, rets, .inr (T, q) :: K, Rr) = (1, t, rets, K, Rr) := by
    refine (aSt_k (k := 29) (s := (pc, rets, .inr (T, q) :: K, Rr)) hw (by decide)).trans ?_
    show tSel (tNx q T) ((1 : Int32), (((w (pc + 3)).toNatClampNeg, rets, K, Rr) : aMs)) _ = _
    rw [tSel_l e, ht, nI_clamp t31]
  have i0 : aIs w (pc, rets, .inr (T, q) :: K, Rr) = false := by
    unfold aIs
    rw [if_neg (by show ¬ w pc = 30; rw [hw]; decide), if_pos hw]
    exact tSel_l e
  have p1 := aSt_inv hfn hrm h.1 (by rw [e1])
  have p2 := wG_st h.2 i0 (by rw [e1])
  rw [e1] at p1 p2
  exact ⟨p1, p2⟩
theorem aIs_29 {T : tT} {q : Option Int32} (hw : w pc = 29) (e : ¬ tNx q T = .leaf) : aIs w (pc, rets, .inr (T, q) :: K, Rr) = true := by
  unfold aIs
  rw [if_neg (by show ¬ w pc = 30; rw [hw]; decide), if_pos hw]
  exact tSel_n e
theorem wM_29 {T : tT} {q : Option Int32} (hfn : ∀ f, f < 8 → ¬ par f = -1 → tyA w par L false (fa f) []) (hrm : rm ≤ 400) (h : wM P Sp w par fa sd rm gr Bt L (left + 1) (pc, rets, .inr (T, q) :: K, Rr)) (hw : w pc = 29) (e : ¬ tNx q T = .leaf) : wM P Sp w par fa sd rm gr Bt L left (pc + 4, rets, aCo (w (pc + 1)).toNatClampNeg (w (pc + 2)).toNatClampNeg (.inr (T, q) :: K, Rr)) := by
  have e1 : aSt w par fa sd rm (pc, rets, .inr (T, q) :: K, Rr) = (1, pc + 4, rets, aCo (w (pc + 1)).toNatClampNeg (w (pc + 2)).toNatClampNeg (.inr (T, q) :: K, Rr)) := by
    refine (aSt_k (k := 29) (s := (pc, rets, .inr (T, q) :: K, Rr)) hw (by decide)).trans ?_
    show tSel (tNx q T) _ ((1 : Int32), ((pc + 4, rets, aCo (w (pc + 1)).toNatClampNeg (w (pc + 2)).toNatClampNeg (.inr (T, q) :: K, Rr)) : aMs)) = _
    rw [tSel_n e]
  have p1 := aSt_inv hfn hrm h.1 (by rw [e1])
  have p2 := wG_ct h.2 (aIs_29 hw e) (by rw [e1])
  rw [e1] at p1 p2
  exact ⟨p1, p2⟩
end WM
/-! what a plain token's word makes of its parts -/
theorem aSh_nil : ∀ {K : List aI}, aSh K = [] → K = []
  | [], _ => rfl
  | .inl _ :: _, h => by cases h
  | .inr _ :: _, h => by cases h
section AF
variable {sd x : Int32} {rm : Nat} {its K : List aI} {Rr : List (List aI) × (Nat → Int32) × (Nat → tT) × List Int32 × Nat × Nat} {D' : aDt}
/-- the result: what is left of the stack, the calls below -/
def aFm (K : List aI) (Ks : List (List aI)) (m : shT) (D' : aDt) : Prop := ∃ res Rr', D' = (res ++ K, Rr') ∧ Rr'.1 = Ks ∧ aSh res = m
theorem aF_1 (hs : aSh its = []) (e : aAp sd rm 1 x (its ++ K, Rr) = (1, D')) : aFm K Rr.1 [false] D' := by
  obtain ⟨Ks, vs, mp, told, most, st⟩ := Rr
  have ee := e
  clear e
  have e0 := hs
  clear hs
  obtain rfl := aSh_nil e0
  obtain rfl := (Prod.mk.inj ee).2
  exact ⟨[.inl _], _, rfl, rfl, rfl⟩
theorem aF_2 (hs : aSh its = []) (e : aAp sd rm 2 x (its ++ K, Rr) = (1, D')) : aFm K Rr.1 [false] D' := by
  obtain ⟨Ks, vs, mp, told, most, st⟩ := Rr
  have ee := e
  clear e
  have e0 := hs
  clear hs
  obtain rfl := aSh_nil e0
  obtain rfl := (Prod.mk.inj ee).2
  exact ⟨[.inl _], _, rfl, rfl, rfl⟩
theorem aF_3 (hs : aSh its = [false]) (e : aAp sd rm 3 x (its ++ K, Rr) = (1, D')) : aFm K Rr.1 [] D' := by
  obtain ⟨Ks, vs, mp, told, most, st⟩ := Rr
  have ee := e
  clear e
  have e0 := hs
  clear hs
  obtain ⟨a0, its, rfl, e1⟩ := aSh_f (K := its) e0
  obtain rfl := aSh_nil e1
  obtain rfl := (Prod.mk.inj ee).2
  exact ⟨[], _, rfl, rfl, rfl⟩
theorem aF_4 (hs : aSh its = [false, false]) (e : aAp sd rm 4 x (its ++ K, Rr) = (1, D')) : aFm K Rr.1 [false] D' := by
  obtain ⟨Ks, vs, mp, told, most, st⟩ := Rr
  have ee := e
  clear e
  have e0 := hs
  clear hs
  obtain ⟨a0, its, rfl, e1⟩ := aSh_f (K := its) e0
  obtain ⟨a1, its, rfl, e2⟩ := aSh_f (K := its) e1
  obtain rfl := aSh_nil e2
  have ee := aOp_4.symm.trans ee
  obtain rfl := (Prod.mk.inj ee).2
  exact ⟨[.inl _], _, rfl, rfl, rfl⟩
theorem aF_5 (hs : aSh its = [false, false]) (e : aAp sd rm 5 x (its ++ K, Rr) = (1, D')) : aFm K Rr.1 [false] D' := by
  obtain ⟨Ks, vs, mp, told, most, st⟩ := Rr
  have ee := e
  clear e
  have e0 := hs
  clear hs
  obtain ⟨a0, its, rfl, e1⟩ := aSh_f (K := its) e0
  obtain ⟨a1, its, rfl, e2⟩ := aSh_f (K := its) e1
  obtain rfl := aSh_nil e2
  have ee := aOp_5.symm.trans ee
  obtain rfl := (Prod.mk.inj ee).2
  exact ⟨[.inl _], _, rfl, rfl, rfl⟩
theorem aF_6 (hs : aSh its = [false, false]) (e : aAp sd rm 6 x (its ++ K, Rr) = (1, D')) : aFm K Rr.1 [false] D' := by
  obtain ⟨Ks, vs, mp, told, most, st⟩ := Rr
  have ee := e
  clear e
  have e0 := hs
  clear hs
  obtain ⟨a0, its, rfl, e1⟩ := aSh_f (K := its) e0
  obtain ⟨a1, its, rfl, e2⟩ := aSh_f (K := its) e1
  obtain rfl := aSh_nil e2
  have ee := aOp_6.symm.trans ee
  obtain rfl := (Prod.mk.inj ee).2
  exact ⟨[.inl _], _, rfl, rfl, rfl⟩
theorem aF_7 (hs : aSh its = [false, false]) (e : aAp sd rm 7 x (its ++ K, Rr) = (1, D')) : aFm K Rr.1 [false] D' := by
  obtain ⟨Ks, vs, mp, told, most, st⟩ := Rr
  have ee := e
  clear e
  have e0 := hs
  clear hs
  obtain ⟨a0, its, rfl, e1⟩ := aSh_f (K := its) e0
  obtain ⟨a1, its, rfl, e2⟩ := aSh_f (K := its) e1
  obtain rfl := aSh_nil e2
  have ee := aOp_7.symm.trans ee
  by_cases c : a0 = 0
  · rw [if_pos c] at ee; exact absurd (Prod.mk.inj ee).1 (by decide)
  · rw [if_neg c] at ee
    obtain rfl := (Prod.mk.inj ee).2
    exact ⟨[.inl _], _, rfl, rfl, rfl⟩
theorem aF_8 (hs : aSh its = [false, false]) (e : aAp sd rm 8 x (its ++ K, Rr) = (1, D')) : aFm K Rr.1 [false] D' := by
  obtain ⟨Ks, vs, mp, told, most, st⟩ := Rr
  have ee := e
  clear e
  have e0 := hs
  clear hs
  obtain ⟨a0, its, rfl, e1⟩ := aSh_f (K := its) e0
  obtain ⟨a1, its, rfl, e2⟩ := aSh_f (K := its) e1
  obtain rfl := aSh_nil e2
  have ee := aOp_8.symm.trans ee
  by_cases c : a0 = 0
  · rw [if_pos c] at ee; exact absurd (Prod.mk.inj ee).1 (by decide)
  · rw [if_neg c] at ee
    obtain rfl := (Prod.mk.inj ee).2
    exact ⟨[.inl _], _, rfl, rfl, rfl⟩
theorem aF_9 (hs : aSh its = [false, false]) (e : aAp sd rm 9 x (its ++ K, Rr) = (1, D')) : aFm K Rr.1 [false] D' := by
  obtain ⟨Ks, vs, mp, told, most, st⟩ := Rr
  have ee := e
  clear e
  have e0 := hs
  clear hs
  obtain ⟨a0, its, rfl, e1⟩ := aSh_f (K := its) e0
  obtain ⟨a1, its, rfl, e2⟩ := aSh_f (K := its) e1
  obtain rfl := aSh_nil e2
  have ee := aOp_9.symm.trans ee
  obtain rfl := (Prod.mk.inj ee).2
  exact ⟨[.inl _], _, rfl, rfl, rfl⟩
theorem aF_10 (hs : aSh its = [false, false]) (e : aAp sd rm 10 x (its ++ K, Rr) = (1, D')) : aFm K Rr.1 [false] D' := by
  obtain ⟨Ks, vs, mp, told, most, st⟩ := Rr
  have ee := e
  clear e
  have e0 := hs
  clear hs
  obtain ⟨a0, its, rfl, e1⟩ := aSh_f (K := its) e0
  obtain ⟨a1, its, rfl, e2⟩ := aSh_f (K := its) e1
  obtain rfl := aSh_nil e2
  have ee := aOp_10.symm.trans ee
  obtain rfl := (Prod.mk.inj ee).2
  exact ⟨[.inl _], _, rfl, rfl, rfl⟩
theorem aF_11 (hs : aSh its = [false]) (e : aAp sd rm 11 x (its ++ K, Rr) = (1, D')) : aFm K Rr.1 [false] D' := by
  obtain ⟨Ks, vs, mp, told, most, st⟩ := Rr
  have ee := e
  clear e
  have e0 := hs
  clear hs
  obtain ⟨a0, its, rfl, e1⟩ := aSh_f (K := its) e0
  obtain rfl := aSh_nil e1
  obtain rfl := (Prod.mk.inj ee).2
  exact ⟨[.inl _], _, rfl, rfl, rfl⟩
theorem aF_15 (hs : aSh its = [false]) (e : aAp sd rm 15 x (its ++ K, Rr) = (1, D')) : aFm K Rr.1 [] D' := by
  obtain ⟨Ks, vs, mp, told, most, st⟩ := Rr
  have ee := e
  clear e
  have e0 := hs
  clear hs
  obtain ⟨a0, its, rfl, e1⟩ := aSh_f (K := its) e0
  obtain rfl := aSh_nil e1
  have ee := aTo_15.symm.trans ee
  by_cases c : told.length = 300
  · rw [if_pos c] at ee; exact absurd (Prod.mk.inj ee).1 (by decide)
  · rw [if_neg c] at ee
    obtain rfl := (Prod.mk.inj ee).2
    exact ⟨[], _, rfl, rfl, rfl⟩
theorem aF_18 (hs : aSh its = [false]) (e : aAp sd rm 18 x (its ++ K, Rr) = (1, D')) : aFm K Rr.1 [] D' := by
  obtain ⟨Ks, vs, mp, told, most, st⟩ := Rr
  have ee := e
  clear e
  have e0 := hs
  clear hs
  obtain ⟨a0, its, rfl, e1⟩ := aSh_f (K := its) e0
  obtain rfl := aSh_nil e1
  obtain rfl := (Prod.mk.inj ee).2
  exact ⟨[], _, rfl, rfl, rfl⟩
theorem aF_19 (hs : aSh its = []) (e : aAp sd rm 19 x (its ++ K, Rr) = (1, D')) : aFm K Rr.1 [true] D' := by
  obtain ⟨Ks, vs, mp, told, most, st⟩ := Rr
  have ee := e
  clear e
  have e0 := hs
  clear hs
  obtain rfl := aSh_nil e0
  obtain rfl := (Prod.mk.inj ee).2
  exact ⟨[.inr (_, none)], _, rfl, rfl, rfl⟩
theorem aF_20 (hs : aSh its = [true]) (e : aAp sd rm 20 x (its ++ K, Rr) = (1, D')) : aFm K Rr.1 [] D' := by
  obtain ⟨Ks, vs, mp, told, most, st⟩ := Rr
  have ee := e
  clear e
  have e0 := hs
  clear hs
  obtain ⟨T0, q0, its, rfl, e1⟩ := aSh_t (K := its) e0
  obtain rfl := aSh_nil e1
  obtain rfl := (Prod.mk.inj ee).2
  exact ⟨[], _, rfl, rfl, rfl⟩
theorem aF_21 (hs : aSh its = []) (e : aAp sd rm 21 x (its ++ K, Rr) = (1, D')) : aFm K Rr.1 [true] D' := by
  obtain ⟨Ks, vs, mp, told, most, st⟩ := Rr
  have ee := e
  clear e
  have e0 := hs
  clear hs
  obtain rfl := aSh_nil e0
  obtain rfl := (Prod.mk.inj ee).2
  exact ⟨[.inr (_, none)], _, rfl, rfl, rfl⟩
theorem aF_22 (hs : aSh its = [false, false, true]) (e : aAp sd rm 22 x (its ++ K, Rr) = (1, D')) : aFm K Rr.1 [true] D' := by
  obtain ⟨Ks, vs, mp, told, most, st⟩ := Rr
  have ee := e
  clear e
  have e0 := hs
  clear hs
  obtain ⟨a0, its, rfl, e1⟩ := aSh_f (K := its) e0
  obtain ⟨a1, its, rfl, e2⟩ := aSh_f (K := its) e1
  obtain ⟨T2, q2, its, rfl, e3⟩ := aSh_t (K := its) e2
  obtain rfl := aSh_nil e3
  obtain ⟨_, _, rfl⟩ := aMk_1 ee
  exact ⟨[.inr (_, none)], _, rfl, rfl, rfl⟩
theorem aF_23 (hs : aSh its = [false, true]) (e : aAp sd rm 23 x (its ++ K, Rr) = (1, D')) : aFm K Rr.1 [true] D' := by
  obtain ⟨Ks, vs, mp, told, most, st⟩ := Rr
  have ee := e
  clear e
  have e0 := hs
  clear hs
  obtain ⟨a0, its, rfl, e1⟩ := aSh_f (K := its) e0
  obtain ⟨T1, q1, its, rfl, e2⟩ := aSh_t (K := its) e1
  obtain rfl := aSh_nil e2
  obtain ⟨_, _, rfl⟩ := aMk_1 ee
  exact ⟨[.inr (_, none)], _, rfl, rfl, rfl⟩
theorem aF_24 (hs : aSh its = [true, true]) (e : aAp sd rm 24 x (its ++ K, Rr) = (1, D')) : aFm K Rr.1 [true] D' := by
  obtain ⟨Ks, vs, mp, told, most, st⟩ := Rr
  have ee := e
  clear e
  have e0 := hs
  clear hs
  obtain ⟨T0, q0, its, rfl, e1⟩ := aSh_t (K := its) e0
  obtain ⟨T1, q1, its, rfl, e2⟩ := aSh_t (K := its) e1
  obtain rfl := aSh_nil e2
  obtain ⟨_, _, rfl⟩ := aMk_1 ee
  exact ⟨[.inr (_, none)], _, rfl, rfl, rfl⟩
theorem aF_25 (hs : aSh its = [false, true]) (e : aAp sd rm 25 x (its ++ K, Rr) = (1, D')) : aFm K Rr.1 [false] D' := by
  obtain ⟨Ks, vs, mp, told, most, st⟩ := Rr
  have ee := e
  clear e
  have e0 := hs
  clear hs
  obtain ⟨a0, its, rfl, e1⟩ := aSh_f (K := its) e0
  obtain ⟨T1, q1, its, rfl, e2⟩ := aSh_t (K := its) e1
  obtain rfl := aSh_nil e2
  obtain rfl := (Prod.mk.inj ee).2
  exact ⟨[.inl _], _, rfl, rfl, rfl⟩
theorem aF_26 (hs : aSh its = [false, true]) (e : aAp sd rm 26 x (its ++ K, Rr) = (1, D')) : aFm K Rr.1 [false] D' := by
  obtain ⟨Ks, vs, mp, told, most, st⟩ := Rr
  have ee := e
  clear e
  have e0 := hs
  clear hs
  obtain ⟨a0, its, rfl, e1⟩ := aSh_f (K := its) e0
  obtain ⟨T1, q1, its, rfl, e2⟩ := aSh_t (K := its) e1
  obtain rfl := aSh_nil e2
  obtain rfl := (Prod.mk.inj ee).2
  exact ⟨[.inl _], _, rfl, rfl, rfl⟩
theorem aF_27 (hs : aSh its = [true]) (e : aAp sd rm 27 x (its ++ K, Rr) = (1, D')) : aFm K Rr.1 [false] D' := by
  obtain ⟨Ks, vs, mp, told, most, st⟩ := Rr
  have ee := e
  clear e
  have e0 := hs
  clear hs
  obtain ⟨T0, q0, its, rfl, e1⟩ := aSh_t (K := its) e0
  obtain rfl := aSh_nil e1
  obtain rfl := (Prod.mk.inj ee).2
  exact ⟨[.inl _], _, rfl, rfl, rfl⟩
theorem aF_28 (hs : aSh its = [false, false, true]) (e : aAp sd rm 28 x (its ++ K, Rr) = (1, D')) : aFm K Rr.1 [false] D' := by
  obtain ⟨Ks, vs, mp, told, most, st⟩ := Rr
  have ee := e
  clear e
  have e0 := hs
  clear hs
  obtain ⟨a0, its, rfl, e1⟩ := aSh_f (K := its) e0
  obtain ⟨a1, its, rfl, e2⟩ := aSh_f (K := its) e1
  obtain ⟨T2, q2, its, rfl, e3⟩ := aSh_t (K := its) e2
  obtain rfl := aSh_nil e3
  obtain rfl := (Prod.mk.inj ee).2
  exact ⟨[.inl _], _, rfl, rfl, rfl⟩
/-- of a plain token: its word, how many parts, what it leaves -/
theorem aPl : ∀ {t : Int32}, tkPl t → ∃ k N M, tkWord t = nI k ∧ aDw k ∧ tkNums t = nI N ∧ tkMaps t = nI M ∧ N + M ≤ 3 ∧ (aWl k = 2 ↔ tkArg t = 1) ∧ (aWl k = 1 ↔ tkArg t = 0) ∧ ∀ {sd x : Int32} {rm : Nat} {its K : List aI} {Rr : List (List aI) × (Nat → Int32) × (Nat → tT) × List Int32 × Nat × Nat} {D' : aDt}, aSh its = List.replicate N false ++ List.replicate M true → aAp sd rm k x (its ++ K, Rr) = (1, D') → aFm K Rr.1 (if 40 ≤ t then [true] else if 20 ≤ t then [false] else []) D' := by
  intro t h
  obtain ⟨tt, rfl, h45, hh⟩ := tkPl_n h
  match tt, h45, hh with
  | 0, _, hh => omega
  | 1, _, _ => exact ⟨3, 1, 0, by decide, by unfold aDw; omega, by decide, by decide, by decide, by decide, by decide, fun hs e => aF_3 hs e⟩
  | 2, _, _ => exact ⟨20, 0, 1, by decide, by unfold aDw; omega, by decide, by decide, by decide, by decide, by decide, fun hs e => aF_20 hs e⟩
  | 3, _, hh => omega
  | 4, _, hh => omega
  | 5, _, hh => omega
  | 6, _, hh => omega
  | 7, _, _ => exact ⟨15, 1, 0, by decide, by unfold aDw; omega, by decide, by decide, by decide, by decide, by decide, fun hs e => aF_15 hs e⟩
  | 8, _, hh => omega
  | 9, _, hh => omega
  | 10, _, hh => omega
  | 11, _, hh => omega
  | 12, _, hh => omega
  | 13, _, hh => omega
  | 14, _, hh => omega
  | 15, _, hh => omega
  | 16, _, hh => omega
  | 17, _, hh => omega
  | 18, _, hh => omega
  | 19, _, hh => omega
  | 20, _, _ => exact ⟨1, 0, 0, by decide, by unfold aDw; omega, by decide, by decide, by decide, by decide, by decide, fun hs e => aF_1 hs e⟩
  | 21, _, _ => exact ⟨2, 0, 0, by decide, by unfold aDw; omega, by decide, by decide, by decide, by decide, by decide, fun hs e => aF_2 hs e⟩
  | 22, _, _ => exact ⟨4, 2, 0, by decide, by unfold aDw; omega, by decide, by decide, by decide, by decide, by decide, fun hs e => aF_4 hs e⟩
  | 23, _, _ => exact ⟨5, 2, 0, by decide, by unfold aDw; omega, by decide, by decide, by decide, by decide, by decide, fun hs e => aF_5 hs e⟩
  | 24, _, _ => exact ⟨6, 2, 0, by decide, by unfold aDw; omega, by decide, by decide, by decide, by decide, by decide, fun hs e => aF_6 hs e⟩
  | 25, _, _ => exact ⟨7, 2, 0, by decide, by unfold aDw; omega, by decide, by decide, by decide, by decide, by decide, fun hs e => aF_7 hs e⟩
  | 26, _, _ => exact ⟨8, 2, 0, by decide, by unfold aDw; omega, by decide, by decide, by decide, by decide, by decide, fun hs e => aF_8 hs e⟩
  | 27, _, _ => exact ⟨9, 2, 0, by decide, by unfold aDw; omega, by decide, by decide, by decide, by decide, by decide, fun hs e => aF_9 hs e⟩
  | 28, _, _ => exact ⟨10, 2, 0, by decide, by unfold aDw; omega, by decide, by decide, by decide, by decide, by decide, fun hs e => aF_10 hs e⟩
  | 29, _, _ => exact ⟨11, 1, 0, by decide, by unfold aDw; omega, by decide, by decide, by decide, by decide, by decide, fun hs e => aF_11 hs e⟩
  | 30, _, hh => omega
  | 31, _, hh => omega
  | 32, _, _ => exact ⟨25, 1, 1, by decide, by unfold aDw; omega, by decide, by decide, by decide, by decide, by decide, fun hs e => aF_25 hs e⟩
  | 33, _, _ => exact ⟨26, 1, 1, by decide, by unfold aDw; omega, by decide, by decide, by decide, by decide, by decide, fun hs e => aF_26 hs e⟩
  | 34, _, _ => exact ⟨27, 0, 1, by decide, by unfold aDw; omega, by decide, by decide, by decide, by decide, by decide, fun hs e => aF_27 hs e⟩
  | 35, _, _ => exact ⟨28, 2, 1, by decide, by unfold aDw; omega, by decide, by decide, by decide, by decide, by decide, fun hs e => aF_28 hs e⟩
  | 36, _, hh => omega
  | 37, _, hh => omega
  | 38, _, hh => omega
  | 39, _, hh => omega
  | 40, _, _ => exact ⟨19, 0, 0, by decide, by unfold aDw; omega, by decide, by decide, by decide, by decide, by decide, fun hs e => aF_19 hs e⟩
  | 41, _, _ => exact ⟨21, 0, 0, by decide, by unfold aDw; omega, by decide, by decide, by decide, by decide, by decide, fun hs e => aF_21 hs e⟩
  | 42, _, _ => exact ⟨22, 2, 1, by decide, by unfold aDw; omega, by decide, by decide, by decide, by decide, by decide, fun hs e => aF_22 hs e⟩
  | 43, _, _ => exact ⟨23, 1, 1, by decide, by unfold aDw; omega, by decide, by decide, by decide, by decide, by decide, fun hs e => aF_23 hs e⟩
  | 44, _, _ => exact ⟨24, 0, 2, by decide, by unfold aDw; omega, by decide, by decide, by decide, by decide, by decide, fun hs e => aF_24 hs e⟩
  | tt + 45, h45, _ => omega
end AF

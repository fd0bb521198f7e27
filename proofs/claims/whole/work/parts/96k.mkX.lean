/-! THE CLASS MAKES CELLS: its store. S0: the store when the making began, fb cells free; m made; sd the seed, rm the room -/
def xFmX (S0 S : mv_S) (fb : Nat) : Prop := (∀ o f, ¬ (o = 3 ∧ (f = 8 ∨ f = 14 ∨ f = 15)) → ¬ (o = 5 ∧ (f = 4 ∨ f = 5)) → S.1 o f = S0.1 o f) ∧ (∀ o i, ¬ (15 ≤ o ∧ o ≤ 19) → ¬ (32 ≤ o ∧ o ≤ 34) → S.2.1 o i = S0.2.1 o i) ∧ S.2.2 = S0.2.2 ∧ (∀ o i, 15 ≤ o → o ≤ 19 → i ≤ 800 → ¬ xIn (S0.2.1 20) fb i → S.2.1 o i = S0.2.1 o i)
def xBg (S0 : mv_S) (sd : Int32) (rm fb : Nat) : Prop := S0.1 3 12 = sd ∧ S0.1 3 13 = nI rm ∧ rm ≤ 400 ∧ 400 ≤ fb ∧ fb ≤ 800 ∧ (∀ p, p < fb → ∃ i, 1 ≤ i ∧ i ≤ 800 ∧ S0.2.1 20 p = nI i) ∧ (∀ p q, p < fb → q < fb → S0.2.1 20 p = S0.2.1 20 q → p = q)
def xMs (S0 S : mv_S) (rm fb m : Nat) : Prop := xFmX S0 S fb ∧ S.1 3 8 = nI (fb - m) ∧ S.1 3 14 = nI m ∧ S.1 3 15 = 0 ∧ m ≤ rm
/-- no more is to be had -/
def xOv (S0 S : mv_S) (rm fb : Nat) : Prop := xFmX S0 S fb ∧ S.1 3 14 = nI rm ∧ S.1 3 15 = 1
/-- what may be hung at in any case -/
def xHl (S0 : mv_S) (fb : Nat) (h : Int32) : Prop := h = 0 ∨ ∃ b i, h = xHv b i ∧ 1 ≤ i ∧ i ≤ 802 ∧ (xIn (S0.2.1 20) fb i ∨ 801 ≤ i)
/-- the holes are in cells that are made, or in 801, 802 -/
def xHok (S0 : mv_S) (fb m : Nat) (H : Bool → Nat → Prop) : Prop := ∀ b i, H b i → 1 ≤ i ∧ i ≤ 802 ∧ ¬ xIn (S0.2.1 20) (fb - m) i ∧ (xIn (S0.2.1 20) fb i ∨ 801 ≤ i)
theorem xHl_0 {S0 : mv_S} {fb : Nat} : xHl S0 fb 0 := Or.inl rfl
theorem xHl_n0 {S0 : mv_S} {fb : Nat} : xHl S0 fb (-0) := Or.inl (by decide)
theorem xHok_hl {S0 : mv_S} {fb m : Nat} {H : Bool → Nat → Prop} {b : Bool} {i : Nat} (h : xHok S0 fb m H) (hb : H b i) : xHl S0 fb (xHv b i) := by
  obtain ⟨h1, h2, _, h4⟩ := h b i hb
  exact Or.inr ⟨b, i, rfl, h1, h2, h4⟩
section XW
variable {d : Nat} {P : Option Value → mv_S → Prop} {S0 S : mv_S} {sd : Int32} {rm fb m : Nat}
theorem xFmX_pf {k : Nat} {o : Nat} {x : Int32} (h : xFmX S0 S fb) (ho : (o = 3 ∧ (k = 8 ∨ k = 14 ∨ k = 15)) ∨ (o = 5 ∧ (k = 4 ∨ k = 5))) : xFmX S0 (mv_pf S o k x) fb := ⟨fun o' f a b => by rw [pf_get, if_neg (fun z => by rcases z with ⟨rfl, rfl⟩; exact ho.elim a b)]; exact h.1 o' f a b, h.2.1, h.2.2.1, h.2.2.2⟩
theorem xFmX_pr {o i : Nat} {x : Int32} (h : xFmX S0 S fb) (ho : (15 ≤ o ∧ o ≤ 19 ∧ (xIn (S0.2.1 20) fb i ∨ 801 ≤ i)) ∨ (32 ≤ o ∧ o ≤ 34)) : xFmX S0 (mv_pr S o i x) fb := by
  refine ⟨h.1, fun o' i' a b => ?_, h.2.2.1, fun o' i' a b c e => ?_⟩
  · rw [pr_get, if_neg (fun z => by omega)]; exact h.2.1 o' i' a b
  · rw [pr_get, if_neg (fun z => by
      rcases z with ⟨rfl, rfl⟩
      rcases ho with ⟨_, _, y | y⟩ | y
      · exact e y
      · omega
      · omega)]
    exact h.2.2.2 o' i' a b c e
theorem xHang_v {b : Bool} {i : Nat} {t : Int32} (h1 : 1 ≤ i) (h2 : i ≤ 802) : xHang S (xHv b i) t = mv_pr S (xRw b) i t := by
  have p : (0 : Int32) < nI i := by rw [← nI_0]; exact nI_lt (by omega) (by omega)
  have q : nI i < 803 := nI_lt (b := 803) (by omega) (by decide)
  cases b
  · show xHang S (nI i) t = _
    unfold xHang
    rw [if_pos ⟨p, q⟩, nI_clamp (by omega)]; rfl
  · show xHang S (-nI i) t = _
    obtain ⟨n1, n2⟩ := nI_neg_lt (i := i) (by omega) (by omega)
    have ne : ¬ (-nI i = 0) := fun z => by rw [z] at n2; exact absurd n2.symm (nI_ne0 (by omega) (by omega))
    have lt : -nI i < 0 := (Int32.lt_or_eq_of_le n1).elim id (fun z => absurd z ne)
    have gt : -803 < -nI i := by
      have e1 : (-nI i).toInt = -(i : Int) := by
        rw [Int32.toInt_neg, nI_toInt (by omega)]
        apply Int.bmod_eq_of_le <;> omega
      rw [Int32.lt_iff_toInt_lt, e1, show (-803 : Int32).toInt = -803 by decide]
      omega
    unfold xHang
    rw [if_neg (fun z => absurd z.1 (Int32.not_lt.mpr n1)), if_pos ⟨lt, gt⟩, n2, nI_clamp (by omega)]; rfl
theorem x_hng {b : Bool} {i : Nat} {t : Int32} (h1 : 1 ≤ i) (h2 : i ≤ 802) (h : P none (mv_pr S (xRw b) i t)) : mv_big layX sysX (d + 1) 11 [.ref 3, .int (xHv b i), .int t] S P := by
  refine x_hang ?_
  rw [xHang_v h1 h2]; exact h
theorem xOv_pr {b : Bool} {i : Nat} {t : Int32} (h : xOv S0 S rm fb) (hi : xIn (S0.2.1 20) fb i ∨ 801 ≤ i) : xOv S0 (mv_pr S (xRw b) i t) rm fb := ⟨xFmX_pr h.1 (Or.inl ⟨by have := xRw_b b; omega, by have := xRw_b b; omega, hi⟩), h.2⟩
theorem xMs_pr {b : Bool} {i : Nat} {t : Int32} (h : xMs S0 S rm fb m) (hi : xIn (S0.2.1 20) fb i ∨ 801 ≤ i) : xMs S0 (mv_pr S (xRw b) i t) rm fb m := ⟨xFmX_pr h.1 (Or.inl ⟨by have := xRw_b b; omega, by have := xRw_b b; omega, hi⟩), h.2⟩
theorem xOv_pf {k : Nat} {x : Int32} (h : xOv S0 S rm fb) (hk : k = 4 ∨ k = 5) : xOv S0 (mv_pf S 5 k x) rm fb := ⟨xFmX_pf h.1 (Or.inr ⟨rfl, hk⟩), by rw [pf_get, if_neg (by omega)]; exact h.2.1, by rw [pf_get, if_neg (by omega)]; exact h.2.2⟩
theorem xMs_pf {k : Nat} {x : Int32} (h : xMs S0 S rm fb m) (hk : k = 4 ∨ k = 5) : xMs S0 (mv_pf S 5 k x) rm fb m := ⟨xFmX_pf h.1 (Or.inr ⟨rfl, hk⟩), by rw [pf_get, if_neg (by omega)]; exact h.2.1, by rw [pf_get, if_neg (by omega)]; exact h.2.2.1, by rw [pf_get, if_neg (by omega)]; exact h.2.2.2.1, h.2.2.2.2⟩
theorem x_hngF {q t : Int32} (h : xOv S0 S rm fb) (hq : xHl S0 fb q) (ho : ∀ S', xOv S0 S' rm fb → (∀ o f, S'.1 o f = S.1 o f) → P none S') : mv_big layX sysX (d + 1) 11 [.ref 3, .int q, .int t] S P := by
  rcases hq with rfl | ⟨b, i, rfl, h1, h2, h3⟩
  · refine x_hang ?_
    unfold xHang
    rw [if_neg (fun z => absurd z.1 (by decide)), if_neg (fun z => absurd z.1 (by decide))]
    exact ho S h (fun _ _ => rfl)
  · exact x_hng h1 h2 (ho _ (xOv_pr h h3) (fun _ _ => rfl))
theorem x_cpyF {c : Int32} (hB : xBg S0 sd rm fb) (h : xOv S0 S rm fb) (ho : P (some (.int 0)) S) : mv_big layX sysX (d + 1) 9 [.ref 3, .int c] S P := by
  have e13 : S.1 3 13 = nI rm := by rw [h.1.1 3 13 (by omega) (by omega)]; exact hB.2.1
  have no : ¬ xCpOk S c := by
    intro z
    have : xFr S = 0 := by
      unfold xFr
      rw [if_neg (fun y => by rw [h.2.1, e13] at y; exact absurd y.1 (Int32.lt_irrefl))]
    have z1 := z.1.1
    rw [this] at z1
    exact absurd z1 (by decide)
  refine x_copy (fun _ => ?_) (fun z => absurd z no)
  rw [pf_self h.2.2]; exact ho
set_option maxHeartbeats 1000000 in
theorem x_cpy {c : Nat} (hB : xBg S0 sd rm fb) (h : xMs S0 S rm fb m) (hc : c ≤ 802)
    (hf : m = rm → ∀ S', xOv S0 S' rm fb → (∀ o f, ¬ (o = 3 ∧ f = 15) → S'.1 o f = S.1 o f) → P (some (.int 0)) S')
    (ho : m < rm → ∀ j fc S', fb - m = fc + 1 → fb - (m + 1) = fc → 1 ≤ j → j ≤ 800 → xIn (S0.2.1 20) fb j → S0.2.1 20 fc = nI j → ¬ xIn (S0.2.1 20) fc j → xMs S0 S' rm fb (m + 1) → (∀ o i, S'.2.1 o i = if i = j ∧ 15 ≤ o ∧ o ≤ 19 then S.2.1 o c else S.2.1 o i) → (∀ o f, ¬ (o = 3 ∧ (f = 8 ∨ f = 14)) → S'.1 o f = S.1 o f) → P (some (.int (nI j))) S') : mv_big layX sysX (d + 1) 9 [.ref 3, .int (nI c)] S P := by
  obtain ⟨b1, b2, b3, b4, b5, b6, b7⟩ := hB
  obtain ⟨h1, h2, h3, h4, h5⟩ := h
  have e13 : S.1 3 13 = nI rm := by rw [h1.1 3 13 (by omega) (by omega)]; exact b2
  have e20 : ∀ p, S.2.1 20 p = S0.2.1 20 p := fun p => h1.2.1 20 p (by omega) (by omega)
  by_cases cm : m = rm
  · have no : ¬ xCpOk S (nI c) := by
      intro z
      have : xFr S = 0 := by
        unfold xFr
        rw [if_neg (fun y => by rw [h3, e13, cm] at y; exact absurd y.1 (Int32.lt_irrefl))]
      have z1 := z.1.1
      rw [this] at z1
      exact absurd z1 (by decide)
    refine x_copy (fun _ => ?_) (fun z => absurd z no)
    refine hf cm _ ⟨xFmX_pf h1 (by omega), ?_, ?_⟩ (fun o f a => by rw [pf_get, if_neg a])
    · rw [pf_get, if_neg (by omega), h3, cm]
    · rw [pf_get, if_pos ⟨rfl, rfl⟩]
  · have lt : m < rm := by omega
    obtain ⟨fc, hfc⟩ : ∃ fc, fb - m = fc + 1 := ⟨fb - m - 1, by omega⟩
    obtain ⟨j, j1, j2, j3⟩ := b6 fc (by omega)
    have efr : xFr S = nI j := by
      unfold xFr
      rw [h3, e13, h2, hfc, if_pos ⟨nI_lt lt (by omega), by rw [← nI_0]; exact nI_lt (by omega) (by omega), nI_le (b := 803) (by omega) (by decide)⟩, nI_pred, nI_clamp (by omega), e20, j3]
    have yes : xCpOk S (nI c) := by
      unfold xCpOk
      rw [efr]
      exact ⟨⟨nI_le (a := 1) j1 (by omega), nI_lt (b := 803) (by omega) (by decide)⟩, nI_pos' (by omega), nI_lt (b := 803) (by omega) (by decide)⟩
    have ec : (nI c).toNatClampNeg = c := nI_clamp (by omega)
    have ej : (nI j).toNatClampNeg = j := nI_clamp (by omega)
    have hd : ¬ xIn (S0.2.1 20) fc j := fun ⟨p, p1, p2⟩ => by
      have := b7 p fc (by omega) (by omega) (by rw [p2, j3])
      omega
    have hin : xIn (S0.2.1 20) fb j := ⟨fc, by omega, j3⟩
    refine x_copy (fun z => absurd yes z) (fun _ => ?_)
    rw [efr, ec, ej]
    have rr : ∀ o i, (xCp S j c).2.1 o i = if i = j ∧ 15 ≤ o ∧ o ≤ 19 then S.2.1 o c else S.2.1 o i := by
      intro o i
      unfold xCp
      rw [pr_get, pr_get, pr_get, pr_get, pr_get]
      by_cases ei : i = j
      · by_cases e19 : o = 19
        · rw [if_pos ⟨e19, ei⟩, if_pos (by omega), e19]
        · by_cases e18 : o = 18
          · rw [if_neg (by omega), if_pos ⟨e18, ei⟩, if_pos (by omega), e18]
          · by_cases e17 : o = 17
            · rw [if_neg (by omega), if_neg (by omega), if_pos ⟨e17, ei⟩, if_pos (by omega), e17]
            · by_cases e16 : o = 16
              · rw [if_neg (by omega), if_neg (by omega), if_neg (by omega), if_pos ⟨e16, ei⟩, if_pos (by omega), e16]
              · by_cases e15 : o = 15
                · rw [if_neg (by omega), if_neg (by omega), if_neg (by omega), if_neg (by omega), if_pos ⟨e15, ei⟩, if_pos (by omega), e15]
                · rw [if_neg (by omega), if_neg (by omega), if_neg (by omega), if_neg (by omega), if_neg (by omega), if_neg (by omega)]; rfl
      · rw [if_neg (by omega), if_neg (by omega), if_neg (by omega), if_neg (by omega), if_neg (by omega), if_neg (by omega)]; rfl
    have ff : ∀ o f, (xCp S j c).1 o f = if o = 3 ∧ f = 14 then nI (m + 1) else if o = 3 ∧ f = 8 then nI fc else S.1 o f := by
      intro o f
      show (mv_pf (mv_pf S 3 8 (S.1 3 8 - 1)) 3 14 (S.1 3 14 + 1)).1 o f = _
      rw [pf_get, pf_get, h2, h3, hfc, nI_pred, nI_1]
    refine ho lt j fc _ hfc (by omega) j1 j2 hin j3 hd ⟨⟨fun o f a b => ?_, fun o i a b => ?_, ?_, fun o i a b e g => ?_⟩, ?_, ?_, ?_, by omega⟩ rr (fun o f a => ?_)
    · rw [ff, if_neg (by omega), if_neg (by omega)]; exact h1.1 o f a b
    · rw [rr, if_neg (by omega)]; exact h1.2.1 o i a b
    · exact h1.2.2.1
    · rw [rr, if_neg (fun z => g (by rw [z.1]; exact hin))]; exact h1.2.2.2 o i a b e g
    · rw [ff, if_neg (by omega), if_pos ⟨rfl, rfl⟩]; congr 1; omega
    · rw [ff, if_pos ⟨rfl, rfl⟩]
    · rw [ff, if_neg (by omega), if_neg (by omega)]; exact h4
    · rw [ff, if_neg (by omega), if_neg (by omega)]
set_option maxHeartbeats 1000000 in
/-- a copy of cell c hung at the hole (hb, hi), the hole now in it -/
theorem xStep {M : Nat} {σ : Nat → Nat} {H : Bool → Nat → Prop} {hb b' : Bool} {hi j fc c t st : Nat} {k v : Int32} {l r : tT} {S1 : mv_S} (hM : 801 ≤ M) (hM2 : M ≤ 802) (hs : ∀ i, xIn (S0.2.1 20) fb i → σ i = st) (hK : xHok S0 fb m H) (hH : H hb hi) (hiM : hi ≤ M) (hT : xCl (S0.2.1 20) (fb - m) H S σ sd (.inner t k v l r) (nI c)) (hc : c ≤ 802) (hfc : fb - m = fc + 1) (hfc2 : fb - (m + 1) = fc) (j1 : 1 ≤ j) (j8 : j ≤ 800) (hin : xIn (S0.2.1 20) fb j) (hfr : S0.2.1 20 fc = nI j) (hd : ¬ xIn (S0.2.1 20) fc j) (h1 : xMs S0 S1 rm fb (m + 1)) (rr : ∀ o i, S1.2.1 o i = if i = j ∧ 15 ≤ o ∧ o ≤ 19 then S.2.1 o c else S.2.1 o i) :
    xMs S0 (mv_pr S1 (xRw hb) hi (nI j)) rm fb (m + 1) ∧ xTo M (S0.2.1 20) (fb - m) H S (fb - (m + 1)) (xMv H hb hi b' j) (mv_pr S1 (xRw hb) hi (nI j)) ∧ xHok S0 fb (m + 1) (xMv H hb hi b' j) ∧ (∀ f b0 i0, xHo M (S0.2.1 20) (fb - m) H S σ sd hb hi f b0 i0 → xHo M (S0.2.1 20) (fb - (m + 1)) (xMv H hb hi b' j) (mv_pr S1 (xRw hb) hi (nI j)) σ sd b' j (fun T => f (tSd b' st k v T (match b' with | false => r | true => l))) b0 i0) := by
  obtain ⟨i, i1, i2, i3, i4, i5, i6, i7, i8, i9, i10, i11⟩ := hT
  obtain rfl : c = i := (nI_eq (by omega) (by omega)).mp i3
  rw [hfc2, hfc]
  rw [hfc] at i4 i10 i11
  have hv : ¬ xIn (S0.2.1 20) (fc + 1) hi := by rw [← hfc]; exact (hK hb hi hH).2.2.1
  have hj : xIn (S0.2.1 20) (fc + 1) j := ⟨fc, by omega, hfr⟩
  have hne : hi ≠ j := fun e => hv (by rw [e]; exact hj)
  have r2 : ∀ o i, (mv_pr S1 (xRw hb) hi (nI j)).2.1 o i = if o = xRw hb ∧ i = hi then nI j else if i = j ∧ 15 ≤ o ∧ o ≤ 19 then S.2.1 o c else S.2.1 o i := fun o i => by rw [pr_get, rr]
  have hS : ∀ i o, i ≤ M → i ≠ j → 15 ≤ o → o ≤ 19 → ¬ (o = xRw hb ∧ i = hi) → (mv_pr S1 (xRw hb) hi (nI j)).2.1 o i = S.2.1 o i := fun i o _ a _ _ b => by rw [r2, if_neg b, if_neg (fun z => a z.1)]
  have hj2 : ∀ o, 15 ≤ o → o ≤ 19 → (mv_pr S1 (xRw hb) hi (nI j)).2.1 o j = S.2.1 o c := fun o a b => by rw [r2, if_neg (fun z => hne z.2.symm), if_pos ⟨rfl, a, b⟩]
  have hHv : ∀ b i, H b i → ¬ xIn (S0.2.1 20) (fc + 1) i := fun b i z => by rw [← hfc]; exact (hK b i z).2.2.1
  refine ⟨xMs_pr h1 (hK hb hi hH).2.2.2, xGrow hfr hd hv hH hS, ?_, fun f b0 i0 ho => ?_⟩
  · intro b i z
    rw [hfc2]
    rcases z with z | ⟨_, z⟩
    · obtain ⟨a1, a2, a3, a4⟩ := hK b i z.1
      exact ⟨a1, a2, fun y => a3 (by rw [hfc]; exact xIn_le (by omega) y), a4⟩
    · subst z
      exact ⟨j1, by omega, hd, Or.inl hin⟩
  · refine xGrow_ho (by omega) j1 j8 hfr hd hv hiM hH hHv hS (by rw [r2, if_pos ⟨rfl, rfl⟩]) (hs j hin) (by rw [hj2 15 (by decide) (by decide)]; exact i7) (by rw [hj2 16 (by decide) (by decide)]; exact i8) (by rw [hj2 17 (by decide) (by decide)]; exact i9) ?_ ho
    cases b'
    · show xCl _ _ _ _ _ _ r ((mv_pr S1 (xRw hb) hi (nI j)).2.1 19 j)
      rw [hj2 19 (by decide) (by decide)]; exact i11
    · show xCl _ _ _ _ _ _ l ((mv_pr S1 (xRw hb) hi (nI j)).2.1 18 j)
      rw [hj2 18 (by decide) (by decide)]; exact i10
end XW

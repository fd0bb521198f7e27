/-! THE CODE OF EACH FUNCTION, with marks -/
section FN
variable {n : Nat} {tk : Nat → Int32} {mk : Bool}
set_option maxHeartbeats 400000 in
theorem cFuns_fn (ht : ∀ p, n ≤ p → tk p = -1) : ∀ k par1 p b p2 l s par2 fs, p ≤ n → cFuns n tk mk k par1 p b = .ok (p2, l, s, par2, fs) → (∀ f, f < 8 → par1 f ≠ -1 → 0 ≤ par1 f ∧ par1 f ≤ 3) → ∀ f a t, (f, a, t) ∈ fs → tk t = 10 ∧ t < n ∧ ∃ par' p' lf sf l1 l2 s1 s2, cLoop tk (cStm n tk par' mk false 16) 700 (t + 3) a = .ok (p', lf, sf) ∧ tk p' = 0 ∧ l = l1 ++ (lf ++ [1, 0, 17]) ++ l2 ∧ a = b + l1.length ∧ s = s1 ++ sf ++ s2 ∧ (∀ g, g < 8 → ¬ par' g = -1 → par2 g = par' g ∧ 0 ≤ par2 g ∧ par2 g ≤ 3) := by
  intro k
  induction k with
  | zero =>
    intro par1 p b p2 l s par2 fs hp h hr f a t hm
    rw [cFuns] at h
    simp only [Except.ok.injEq, Prod.mk.injEq] at h
    obtain ⟨rfl, rfl, rfl, rfl, rfl⟩ := h
    simp at hm
  | succ k ih =>
    intro par1 p b p2 l s par2 fs hp h hr f a t hm
    have hr2 := (cFuns_facts ht (k + 1) par1 p b p2 l s par2 fs hp h hr).2.1
    rw [cFuns] at h
    by_cases t10 : tk p = 10
    · rw [if_pos t10] at h
      have hpn : p < n := tk_in ht (by rw [t10]; decide)
      split at h
      · cases h
      · match h1 : cBare n tk 8 (p + 1), h with
        | .error e, h => cases h
        | .ok _, h =>
          simp only at h
          match h2 : cBare n tk 4 (p + 2), h with
          | .error e, h => cases h
          | .ok _, h =>
            simp only at h
            unfold cBlk at h
            have b1 := cBare_ok h1
            have b2 := cBare_ok h2
            match h3 : cLoop tk (cStm n tk (upd par1 (tk (p + 1)).toNatClampNeg (tk (p + 2))) mk false 16) 700 (p + 3) b, h with
            | .error e, h => cases h
            | .ok (p1, lf, sf), h =>
              simp only at h
              split at h
              · rename_i t0
                match h4 : cFuns n tk mk k (upd par1 (tk (p + 1)).toNatClampNeg (tk (p + 2))) (p1 + 1) (b + lf.length + 3), h with
                | .error e, h => cases h
                | .ok (p3, l3, s3, par3, fs3), h =>
                  simp only [Except.ok.injEq, Prod.mk.injEq] at h
                  obtain ⟨rfl, rfl, rfl, rfl, rfl⟩ := h
                  have hp1 : p1 < n := tk_in ht (by rw [t0]; decide)
                  have hx : 0 ≤ tk (p + 2) ∧ tk (p + 2) ≤ 3 := ⟨b2.2.2.1, (lePred (k := 4) (by decide) (by decide)).mpr b2.2.2.2⟩
                  have hr' : ∀ f, f < 8 → upd par1 (tk (p + 1)).toNatClampNeg (tk (p + 2)) f ≠ -1 → 0 ≤ upd par1 (tk (p + 1)).toNatClampNeg (tk (p + 2)) f ∧ upd par1 (tk (p + 1)).toNatClampNeg (tk (p + 2)) f ≤ 3 := by
                    intro f hf z
                    by_cases c : f = (tk (p + 1)).toNatClampNeg
                    · subst c; rw [pk_us]; exact hx
                    · rw [pk_un c] at z ⊢; exact hr f hf z
                  have ff := cFuns_facts ht k _ (p1 + 1) _ p3 l3 s3 par3 fs3 (by omega) h4 hr'
                  rcases List.mem_cons.mp hm with hm1 | hm1
                  · simp only [Prod.mk.injEq] at hm1
                    obtain ⟨rfl, rfl, rfl⟩ := hm1
                    refine ⟨t10, hpn, _, p1, lf, sf, [], l3, [], s3, h3, t0, by simp, rfl, by simp, fun g hg z => ?_⟩
                    have e1 := ff.1 g z
                    exact ⟨e1, hr2 g hg (by rw [e1]; exact z)⟩
                  · obtain ⟨q1, q2, par', p', lf', sf', l1, l2, s1, s2, u1, u2, u3, u4, u5, u6⟩ := ih _ (p1 + 1) (b + lf.length + 3) p3 l3 s3 par3 fs3 (by omega) h4 hr' f a t hm1
                    refine ⟨q1, q2, par', p', lf', sf', lf ++ [1, 0, 17] ++ l1, l2, sf ++ s1, s2, u1, u2, ?_, ?_, ?_, u6⟩
                    · rw [u3]; simp
                    · rw [u4]; simp; omega
                    · rw [u5]; simp
              · cases h
    · rw [if_neg t10] at h
      simp only [Except.ok.injEq, Prod.mk.injEq] at h
      obtain ⟨rfl, rfl, rfl, rfl, rfl⟩ := h
      simp at hm
end FN
section RI
variable {S T : mv_S} {n : Nat} {tk par : Nat → Int32} {rm gr Bt mw mm mt : Nat} {l l' : List Int32} {s : List (Bool × Nat × Nat)} {fs fs' : List (Nat × Nat × Nat)}
theorem Seg_mid {w : Nat → Int32} {b : Nat} {l1 l2 l3 : List Int32} (h : Seg w b (l1 ++ l2 ++ l3)) : Seg w (b + l1.length) l2 := (Seg_app (Seg_app h).1).2
set_option maxHeartbeats 1000000 in
/-- what the code gives to a walk; S1, T1: once it has begun -/
theorem rCd_go {S1 T1 : mv_S} (h : rCd S T n tk par mw mm mt l l' s fs fs') (ht : rTk S T n tk) (hrm : rm ≤ 400) (hgr : gr ≤ 5000) (hBt : Bt + 10 < 2 ^ 31) (fx : ∀ g, S1.1 1 g = S.1 1 g) (rx : ∀ o i, o < 15 → S1.2.1 o i = S.2.1 o i) (ry : ∀ o i, o < 19 → T1.2.1 o i = T.2.1 o i) (h55 : T1.1 0 55 = 1) : ∃ (fa ft : Nat → Nat) (pe : Nat) (l1 : List Int32) (s1 : List (Bool × Nat × Nat)), wHy S1 (yW T1) par fa ft rm gr Bt l'.length n tk ∧ yPg T1 par fa l'.length ∧ S1.1 1 8 = nI mt ∧ tk mt = 11 ∧ mt < 700 ∧ cLoop tk (cStm n tk par true true 16) 700 (mt + 1) mm = .ok (pe, l1, s1) ∧ tk pe = 0 ∧ Seg (yW T1) mm (l1 ++ [0]) ∧ mm + l1.length + 1 ≤ l'.length ∧ wN S1 s1 ∧ wSub par par ∧ tyA (yW T1) par l'.length true mm [] := by
  obtain ⟨c1, c2, ⟨x1, x2, x3, x4, x5, x6, x7, x8, x9, x10⟩, ⟨y1, y2, y3, y4, y5, y6, y7, y8, y9, y10, y11, y12⟩⟩ := h
  have n700 := ht.1
  have htk := ht.2.2.2.2.2
  have n55 : ¬ T1.1 0 55 = 0 := by rw [h55]; decide
  have ew : yW T1 = T.2.1 3 := by
    funext q
    unfold yW
    rw [if_neg n55]; exact ry 3 q (by decide)
  have seg : Seg (T.2.1 3) 0 l' := fun i x hx => by rw [Nat.zero_add]; exact y7 i x hx
  obtain ⟨t1, t2, t3, t4, t5, t6, t7⟩ := tyAll (w := T.2.1 3) htk c2 seg rfl (by omega)
  obtain ⟨s', par2, mt2, fe⟩ := cAll_2 c1 c2
  obtain ⟨p, l0, s0, pe, l1, s1, k1, k2, k3, k4, k5, rfl, rfl, rfl, rfl⟩ := cAll_ok c2
  have sub : wSub par par := fun f hf z => ⟨rfl, t3 f hf z⟩
  have notes : ∀ a b c : List (Bool × Nat × Nat), s0 ++ s1 = a ++ b ++ c → wN S1 b := by
    intro a b c e g q u z
    have hm : (g, q, u) ∈ s0 ++ s1 := by
      rw [e]
      exact List.mem_append.mpr (Or.inl (List.mem_append.mpr (Or.inr z)))
    refine ⟨(x6 g q u hm).1, ?_⟩
    rw [rx _ q (by split <;> decide)]
    exact (x6 g q u hm).2
  have fn : ∀ f, f < 8 → ¬ par f = -1 → ∃ a t, (f, a, t) ∈ fs' := fun f hf z => t4 f hf z
  have fa : ∀ f, f < 8 → ¬ par f = -1 → ∃ a t, (f, a, t) ∈ fs' ∧ T1.2.1 7 f = nI a ∧ (T1.2.1 7 f).toNatClampNeg = a ∧ S1.2.1 14 f = nI t ∧ (S1.2.1 14 f).toNatClampNeg = t ∧ tyA (T.2.1 3) par (l0 ++ (l1 ++ [0])).length false a [] := by
    intro f hf z
    obtain ⟨a, t, hm⟩ := fn f hf z
    have ty := t2 f a t hm
    have i := tyA_i ty
    obtain ⟨k, hk, hw⟩ := nI_of2 (M := 30) (n := 30) rfl (Int32.not_lt.mpr i.1.2.2.1) i.1.2.2.2
    have := okI_len i hw hk
    have := aWl_pos k
    have q := cFuns_fn htk 9 (fun _ => -1) 0 0 mt l0 s0 par fs' (Nat.zero_le _) k1 (fun f _ z => absurd rfl z) f a t hm
    have e7 : T1.2.1 7 f = nI a := (ry 7 f (by decide)).trans (y10 f a t hm).2.2
    have hm2 : (f, t) ∈ fs'.map (fun q => (q.1, q.2.2)) := List.mem_map.mpr ⟨(f, a, t), hm, rfl⟩
    rw [← fe] at hm2
    obtain ⟨⟨f', a', t'⟩, m1, m2⟩ := List.mem_map.mp hm2
    simp only [Prod.mk.injEq] at m2
    obtain ⟨rfl, rfl⟩ := m2
    have e14 : S1.2.1 14 f' = nI t' := (rx 14 f' (by decide)).trans (x8 f' a' t' m1).2.2.2
    exact ⟨a, t', hm, e7, by rw [e7, nI_clamp (by omega)], e14, by rw [e14, nI_clamp (by omega)], ty⟩
  obtain ⟨sg0, sg1⟩ := Seg_app seg
  rw [Nat.zero_add] at sg1
  have len : (l0 ++ (l1 ++ [0])).length = l0.length + l1.length + 1 := by simp; omega
  have mt7 : mt < n := t5
  refine ⟨fun f => (T1.2.1 7 f).toNatClampNeg, fun f => (S1.2.1 14 f).toNatClampNeg, pe, l1, s1, ⟨⟨(fx 9).trans ht.2.1, n700, fun i hi => (rx 8 i (by decide)).trans (ht.2.2.2.1 i hi), htk, fun f hf => (rx 12 f (by decide)).trans (x7 f hf)⟩, hrm, hgr, hBt, by omega, fun f hf z => ?_, fun f hf z => ?_⟩, ⟨fun f hf z => (ry 5 f (by decide)).trans (y8 f hf z).1, fun f hf z => ?_, fun q hq => ⟨fun z => absurd z n55, fun _ => by omega⟩, fun f hf z => ?_⟩, (fx 8).trans x10, t6, by omega, k3, k4, by rw [ew]; exact sg1, by omega, notes s0 s1 [] (by simp), sub, by rw [ew]; exact t1⟩
  · obtain ⟨a, t, hm, a1, a2, a3, a4, a5⟩ := fa f hf z
    show tyA (yW T1) par _ false (T1.2.1 7 f).toNatClampNeg []
    rw [a2, ew]; exact a5
  · obtain ⟨a, t, hm, a1, a2, a3, a4, a5⟩ := fa f hf z
    obtain ⟨q1, q2, par', p', lf, sf, b1, b2, s1', s2', u1, u2, u3, u4, u5, u6⟩ := cFuns_fn htk 9 (fun _ => -1) 0 0 mt l0 s0 par fs' (Nat.zero_le _) k1 (fun f _ z => absurd rfl z) f a t hm
    rw [Nat.zero_add] at u4
    show S1.2.1 14 f = nI (S1.2.1 14 f).toNatClampNeg ∧ tk (S1.2.1 14 f).toNatClampNeg = 10 ∧ (S1.2.1 14 f).toNatClampNeg < 700 ∧ ∃ par1 p1 l s, cLoop tk (cStm n tk par1 true false 16) 700 ((S1.2.1 14 f).toNatClampNeg + 3) (T1.2.1 7 f).toNatClampNeg = .ok (p1, l, s) ∧ tk p1 = 0 ∧ Seg (yW T1) (T1.2.1 7 f).toNatClampNeg (l ++ [1, 0, 17]) ∧ (T1.2.1 7 f).toNatClampNeg + l.length + 3 ≤ (l0 ++ (l1 ++ [0])).length ∧ wN S1 s ∧ wSub par par1
    rw [a4, a2, ew]
    refine ⟨a3, q1, by omega, par', p', lf, sf, u1, u2, ?_, ?_, notes s1' sf (s2' ++ s1) (by rw [u5]; simp), fun g hg z => u6 g hg z⟩
    · rw [u3] at sg0
      have := Seg_mid sg0
      rw [Nat.zero_add, ← u4] at this
      exact this
    · rw [len, u4]
      have : l0.length = b1.length + (lf.length + 3) + b2.length := by rw [u3]; simp; omega
      omega
  · obtain ⟨a, t, hm, a1, a2, a3, a4, a5⟩ := fa f hf z
    show (if T1.1 0 55 = 0 then T1.2.1 6 f else T1.2.1 7 f) = nI (T1.2.1 7 f).toNatClampNeg
    rw [if_neg n55, a2]; exact a1
  · obtain ⟨a, t, hm, a1, a2, a3, a4, a5⟩ := fa f hf z
    show tyA (yW T1) par _ false (T1.2.1 7 f).toNatClampNeg []
    rw [a2, ew]; exact a5
end RI

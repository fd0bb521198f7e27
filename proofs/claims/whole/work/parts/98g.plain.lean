/-! THE CLASS WALKS BESIDE THE MACHINE OF BOTH: turns that begin, plain tokens -/
section WE
variable {d : Nat} {P : Option Value → mv_S → Prop} {Sp S : mv_S} {w par par1 : Nat → Int32} {fa ft : Nat → Nat} {sd : Int32} {rm gr Bt L n N : Nat} {tk : Nat → Int32} {k left b q g g' nx r p : Nat} {R O : List (Nat × Nat)} {oc rets : List Nat} {D : aDt} {m mn : Bool}
theorem wTn_pl (hy : wHy Sp w par fa ft rm gr Bt L n tk) (hp : p < 700) (ht : tkPl (tk p)) (hN : tkMaps (tk p) + tkNums (tk p) = nI r) (hr : r ≤ 3) (hg : g < r) : wTn d P Sp sd rm gr tk false oc p g (g + 1) O := by
  intro D nx k B S st hO hx _ hk hs h hS hP
  exact x_lpP hy.1 h hk hp ht (x_plaB hy.1 h hN hr hp hg hO (by omega) hy.2.2.1 hs (fun z S' q => ⟨rfl, hS z S' q⟩) (fun z S' q => ⟨rfl, hP z S' q⟩))
theorem wTn_c8 (hy : wHy Sp w par fa ft rm gr Bt L n tk) (hp : p < 700) (ht : tk p = 8) (hN : cNums tk par p = nI r) (hr : r ≤ 3) (hg : g < r) : wTn d P Sp sd rm gr tk false oc p g (g + 1) O := by
  intro D nx k B S st hO hx _ hk hs h hS hP
  exact x_lp8 hy.1 h hk hp ht (mv_deep (d := d + 6) (by omega) (x_call0 hy.1 h hN hr hp hg hO (by omega) hy.2.2.1 hs (fun z S' q => ⟨rfl, hS z S' q⟩) (fun z S' q => ⟨rfl, hP z S' q⟩)))
theorem wTn_c36 (hy : wHy Sp w par fa ft rm gr Bt L n tk) (hp : p < 700) (ht : tk p = 36) (hN : cNums tk par p = nI r) (hr : r ≤ 3) (hg : g < r) : wTn d P Sp sd rm gr tk false oc p g (g + 1) O := by
  intro D nx k B S st hO hx _ hk hs h hS hP
  exact x_lp36 hy.1 h hk hp ht (mv_deep (d := d + 6) (by omega) (x_call0 hy.1 h hN hr hp hg hO (by omega) hy.2.2.1 hs (fun z S' q => ⟨rfl, hS z S' q⟩) (fun z S' q => ⟨rfl, hP z S' q⟩)))
theorem wTn_s30 (hy : wHy Sp w par fa ft rm gr Bt L n tk) (hp : p < 700) (ht : tk p = 30) : wTn d P Sp sd rm gr tk false oc p 0 1 O := by
  intro D nx k B S st hO hx _ hk hs h hS hP
  exact x_lp30 hy.1 h hk hp ht (mv_deep (d := d + 6) (by omega) (x_sho0 hy.1 h  hO (by omega) hy.2.2.1 hs (fun z S' q => ⟨rfl, hS z S' q⟩) (fun z S' q => ⟨rfl, hP z S' q⟩)))
theorem wTn_s31 (hy : wHy Sp w par fa ft rm gr Bt L n tk) (hp : p < 700) (ht : tk p = 31) : wTn d P Sp sd rm gr tk false oc p 0 1 O := by
  intro D nx k B S st hO hx _ hk hs h hS hP
  exact x_lp31 hy.1 h hk hp ht (mv_deep (d := d + 6) (by omega) (x_sho0 hy.1 h  hO (by omega) hy.2.2.1 hs (fun z S' q => ⟨rfl, hS z S' q⟩) (fun z S' q => ⟨rfl, hP z S' q⟩)))
theorem wTn_i0 (hy : wHy Sp w par fa ft rm gr Bt L n tk) (hp : p < 700) (ht : tk p = 3) : wTn d P Sp sd rm gr tk false oc p 0 1 O := by
  intro D nx k B S st hO hx _ hk hs h hS hP
  exact x_lp3 hy.1 h hk hp ht (mv_deep (d := d + 6) (by omega) (x_choice0 hy.1 h  hO (by omega) hy.2.2.1 hs (fun z S' q => ⟨rfl, hS z S' q⟩) (fun z S' q => ⟨rfl, hP z S' q⟩)))
theorem wTn_w0 (hy : wHy Sp w par fa ft rm gr Bt L n tk) (hp : p < 700) (ht : tk p = 5) : wTn d P Sp sd rm gr tk false oc p 0 1 O := by
  intro D nx k B S st hO hx _ hk hs h hS hP
  exact x_lp5 hy.1 h hk hp ht (mv_deep (d := d + 6) (by omega) (x_rep0 hy.1 h  hO (by omega) hy.2.2.1 hs (fun z S' q => ⟨rfl, hS z S' q⟩) (fun z S' q => ⟨rfl, hP z S' q⟩)))
theorem wTn_a0 (hy : wHy Sp w par fa ft rm gr Bt L n tk) (hp : p < 700) (ht : tk p = 9) : wTn d P Sp sd rm gr tk false oc p 0 1 O := by
  intro D nx k B S st hO hx _ hk hs h hS hP
  exact x_lp9 hy.1 h hk hp ht (mv_deep (d := d + 6) (by omega) (x_ans0 hy.1 h  hO (by omega) hy.2.2.1 hs (fun z S' q => ⟨rfl, hS z S' q⟩) (fun z S' q => ⟨rfl, hP z S' q⟩)))
theorem cIsS_0 {t : Int32} (h : cIsS t) : ¬ t = 0 := by
  intro z
  rw [z] at h
  exact absurd h.1 (by decide)
theorem wTn_b10 (hy : wHy Sp w par fa ft rm gr Bt L n tk) (hp : p < 700) (ht : tk p = 10) : wTn d P Sp sd rm gr tk true oc p 0 0 O := by
  intro D nx k B S st hO hx hsb hk hs h hS hP
  exact x_lp10 hy.1 h hk hp ht (mv_deep (d := d + 6) (by omega) (x_bodyB hy.1 h (cIsS_0 (hsb rfl)) hO (by omega) hy.2.2.1 hs (fun z S' q => ⟨rfl, hS z S' q⟩) (fun z S' q => ⟨rfl, hP z S' q⟩)))
theorem wTn_b11 (hy : wHy Sp w par fa ft rm gr Bt L n tk) (hp : p < 700) (ht : tk p = 11) : wTn d P Sp sd rm gr tk true oc p 0 0 O := by
  intro D nx k B S st hO hx hsb hk hs h hS hP
  exact x_lp11 hy.1 h hk hp ht (mv_deep (d := d + 6) (by omega) (x_bodyB hy.1 h (cIsS_0 (hsb rfl)) hO (by omega) hy.2.2.1 hs (fun z S' q => ⟨rfl, hS z S' q⟩) (fun z S' q => ⟨rfl, hP z S' q⟩)))
theorem wTn_i2 (hy : wHy Sp w par fa ft rm gr Bt L n tk) (hp : p < 700) (ht : tk p = 3) : wTn d P Sp sd rm gr tk true oc p 2 2 O := by
  intro D nx k B S st hO hx hsb hk hs h hS hP
  exact x_lp3 hy.1 h hk hp ht (mv_deep (d := d + 6) (by omega) (x_choice2S hy.1 h (hsb rfl) hO (by omega) hy.2.2.1 hs (fun z S' q => ⟨rfl, hS z S' q⟩) (fun z S' q => ⟨rfl, hP z S' q⟩)))
theorem wTn_w2 (hy : wHy Sp w par fa ft rm gr Bt L n tk) (hp : p < 700) (ht : tk p = 5) : wTn d P Sp sd rm gr tk true oc p 2 2 O := by
  intro D nx k B S st hO hx hsb hk hs h hS hP
  exact x_lp5 hy.1 h hk hp ht (mv_deep (d := d + 6) (by omega) (x_rep2S hy.1 h (cIsS_0 (hsb rfl)) hO (by omega) hy.2.2.1 hs (fun z S' q => ⟨rfl, hS z S' q⟩) (fun z S' q => ⟨rfl, hP z S' q⟩)))
theorem wTn_e2 (hy : wHy Sp w par fa ft rm gr Bt L n tk) (hp : p < 700) (ht : tk p = 6) : wTn d P Sp sd rm gr tk true oc p 2 2 O := by
  intro D nx k B S st hO hx hsb hk hs h hS hP
  exact x_lp6 hy.1 h hk hp ht (mv_deep (d := d + 6) (by omega) (x_each2S hy.1 h (cIsS_0 (hsb rfl)) hO (by omega) hy.2.2.1 hs (fun z S' q => ⟨rfl, hS z S' q⟩) (fun z S' q => ⟨rfl, hP z S' q⟩)))
theorem tkPl_8 {t : Int32} (h : tkPl t) : ¬ (t = 8 ∨ t = 36) := by
  obtain ⟨k, rfl, h1, h2⟩ := tkPl_n h
  rintro (z | z)
  · have := (nI_eq (b := 8) (by omega) (by decide)).mp z; omega
  · have := (nI_eq (b := 36) (by omega) (by decide)).mp z; omega
set_option maxHeartbeats 1000000 in
/-- a plain token -/
theorem wPl (hy : wHy Sp w par fa ft rm gr Bt L n tk) (ih : wEMs d P Sp w par fa sd rm gr Bt L n tk N) (ht : tkPl (tk p)) {b1 p1 : Nat} {l s} (h : cPlain n tk par1 (cEM n tk par1 true r) p b1 = .ok (p1, l, s)) (hr : r ≤ 15) (hs : Seg w b1 l) (hn : wN Sp s) (hsub : wSub par par1) (hl : b1 + l.length ≤ L) (hp : p < n) (c : Nat) (K : List aI) (Rr : List (List aI) × (Nat → Int32) × (Nat → tT) × List Int32 × Nat × Nat) (hN : left ≤ N) (hk : 10 * left + c + 9 ≤ k) (hO : O.length + (r + 1) ≤ 17 * (Rr.1.length + 1)) (hX : wX Sp sd rm gr Bt k left ((p, 0) :: O) (p + 1 + (tkArg (tk p)).toNatClampNeg) oc (K, Rr) S) (hM : wM P Sp w par fa sd rm gr Bt L left (b1, rets, K, Rr)) (hK : ∀ k' left' res Rr' S', left' ≤ left → 10 * left' + c + 5 ≤ k' → Rr'.1 = Rr.1 → aSh res = (if 40 ≤ tk p then [true] else if 20 ≤ tk p then [false] else []) → wX Sp sd rm gr Bt k' left' O p1 oc (res ++ K, Rr') S' → wM P Sp w par fa sd rm gr Bt L left' (b1 + l.length, rets, res ++ K, Rr') → xLp P d k' S') : xLp P d k S := by
  have hn7 := hy.1.2.1
  obtain ⟨p0, la, ha, hpa, rfl⟩ := cPlain_ok h
  obtain ⟨kk, NN, MM, e1, e2, e3, e4, e5, e6, e7, e8⟩ := aPl ht
  have h6 : ¬ tk p = 6 := by
    intro z
    rw [z] at ht
    revert ht
    unfold tkPl
    decide
  have e0 : p0 = p + 1 + (tkArg (tk p)).toNatClampNeg := by
    rcases cArg_ok hy.1.2.2.2.1 ha with ⟨a1, a2⟩ | ⟨a1, a2, _⟩
    · rcases a1 with a1 | a1
      · rw [a1, a2]; rfl
      · exact absurd a1 h6
    · rw [a1, a2]; rfl
  rw [cNums_t (tkPl_8 ht), e3, e4, nI_clamp (by omega), nI_clamp (by omega)] at hpa
  unfold cParts at hpa
  obtain ⟨pa, l1, s1, l2, s2, h1, h2, rfl, rfl⟩ := cThen_ok hpa
  obtain ⟨n1, n2⟩ := wN_app hn
  obtain ⟨g1, g2⟩ := Seg_app hs
  obtain ⟨g3, g4⟩ := Seg_app g1
  obtain ⟨g5, g6⟩ := Seg_cons g2
  have hN3 : tkMaps (tk p) + tkNums (tk p) = nI (MM + NN) := by rw [e3, e4, nI_add]
  have len : (l1 ++ l2 ++ tkWord (tk p) :: (if 0 < tkArg (tk p) then [tk (p + 1)] else [])).length = (l1 ++ l2).length + aWl kk ∧ (aWl kk = 2 → tk (p + 1) = w (b1 + (l1 ++ l2).length + 1)) := by
    rw [List.length_append (as := l1 ++ l2), List.length_cons]
    rcases Nat.lt_or_ge (aWl kk) 2 with z | z
    · have z1 : aWl kk = 1 := by have := aWl_pos kk; omega
      have a0 := e7.mp z1
      rw [a0, if_neg (by decide), z1]
      exact ⟨rfl, fun y => by omega⟩
    · have z2 : aWl kk = 2 := by
        unfold aDw at e2
        unfold aWl at z ⊢
        split at z <;> first | rfl | omega
      have a1 := e6.mp z2
      rw [a1, if_pos (by decide)] at g6 ⊢
      rw [z2]
      refine ⟨rfl, fun _ => ?_⟩
      exact ((Seg_cons g6).1).symm
  rw [len.1] at hl hK
  rw [← e0] at hX
  rw [List.length_append] at g5 hl
  refine wMany (X := c + 9) hy ih hr hsub (by omega) MM 0 p0 b1 pa l1 s1 h1 g3 n1 (by omega) (fun g0 a1 a2 => wTn_pl hy (by omega) ht hN3 (by omega) (by omega)) k left K Rr S hN (by omega) hO hX hM (fun k2 left2 its1 Rr2 S2 q1 q2 q3 q4 hX2 hM2 => ?_)
  refine wMany (X := c + 9) hy ih hr hsub (by omega) NN (0 + MM) pa (b1 + l1.length) p1 l2 s2 h2 g4 n2 (by omega) (fun g0 a1 a2 => wTn_pl hy (by omega) ht hN3 (by omega) (by omega)) k2 left2 (its1 ++ K) Rr2 S2 (by omega) (by omega) (by rw [q3]; exact hO) hX2 hM2 (fun k3 left3 its2 Rr3 S3 u1 u2 u3 u4 hX3 hM3 => ?_)
  obtain ⟨k3, rfl⟩ : ∃ k0, k3 = k0 + 1 := ⟨k3 - 1, by omega⟩
  have ea : its2 ++ (its1 ++ K) = (its2 ++ its1) ++ K := by simp
  have eg : 0 + MM + NN = MM + NN := by omega
  have hsh : aSh (its2 ++ its1) = List.replicate NN false ++ List.replicate MM true := by rw [aSh_app, u4, q4]
  rw [ea, eg] at hX3
  rw [ea, Nat.add_assoc, ← List.length_append] at hM3
  obtain ⟨B, b1', b2, b3, b4⟩ := hX3
  have hwk : w (b1 + (l1 ++ l2).length) = nI kk := by rw [List.length_append, g5, e1]
  have i := tyA_i hM3.1.1
  have hQ : ∀ p s, tyA w par L Rr3.1.isEmpty p s → shM s ≤ 17 := fun p s z => (tyA_i z).1.2.1
  have y4 := hy.2.2.2.1
  have k28 : kk < 29 := by unfold aDw at e2; omega
  have est : ∀ D, aAp sd rm kk (w (b1 + (l1 ++ l2).length + 1)) ((its2 ++ its1) ++ K, Rr3) = D → aSw w par fa sd rm (b1 + (l1 ++ l2).length) rets ((its2 ++ its1) ++ K, Rr3) kk = (D.1, b1 + (l1 ++ l2).length + aWl kk, rets, D.2) := fun D eD => by rw [aSw_d e2, eD]
  refine x_lpP hy.1 b4 (by omega) (by omega) ht (x_plaA hy.1 b4 hN3 (by omega) (by omega) e2 hQ i hwk e1 len.2 hM3.1.2.2.2 (by omega) (fun S4 D4 ep h4 => ⟨rfl, ?_⟩) (fun cc S4 ep c1 c99 h4 => ⟨rfl, ?_⟩))
  · obtain ⟨res, Rr4, rfl, r1, r2⟩ := e8 hsh ep
    refine hK k3 left3 res Rr4 S4 (by omega) (by omega) (r1.trans (u3.trans q3)) r2 ⟨B + 1, by omega, b2, by omega, h4⟩ ?_
    have := wM_st hy.2.2.2.2.2.1 hy.2.1 hM3 hwk k28 (est _ ep)
    rw [Nat.add_assoc] at this
    exact this
  · refine x_lpS h4 (by omega) ?_
    have e9 := (aSt_k (s := (b1 + (l1 ++ l2).length, rets, (its2 ++ its1) ++ K, Rr3)) (fa := fa) (par := par) (sd := sd) (rm := rm) hwk (by omega)).trans (est _ ep)
    exact wG_en (B := B + 1) hM3.2 (aIs_no hwk k28) (by rw [e9]) c1 c99 (by omega) (by rw [e9]; exact h4)
end WE

/-! THE REFERENCE READS: its reading methods by lists -/
section YA
variable {d : Nat} {P : Option Value → mv_S → Prop} {S0 S : mv_S} {w fp : Int32} {n p : Nat} {tk par : Nat → Int32} {mn : Bool} {ws ms : List Int32} {td : List (Int32 × Int32 × Int32)} {hs : List (Option (Nat × Nat))}
def yEiT (t k : Int32) (x : Nat) (td : List (Int32 × Int32 × Int32)) : List (Int32 × Int32 × Int32) := (2, 0, k) :: (4, (if t = 30 then 13 else 14), 0) :: (5, nI x, 0) :: (2, 0, k) :: (4, 11, 0) :: (4, 11, 0) :: (4, 12, 0) :: (5, nI (x + 1), 0) :: (6, nI x, 0) :: (4, 1, 0) :: (4, (if t = 30 then 0 else 1), 0) :: (6, nI (x + 1), 0) :: td
theorem y_readEither {t k : Int32} (h : yAt S0 S w fp p ws ms td hs) (hb : td.length + 12 ≤ 4000) (kk : ∀ S', yAt S0 S' w fp p ws ms (yEiT t k hs.length td) (hs ++ [none] ++ [none]) → P none S') : mv_big layY sysY (d + 2) 22 [.ref 0, .int t, .int k] S P := by
  refine ⟨160, ?_⟩
  refine y_newHoleA h (fun S1 h1 => ?_)
  refine y_newHoleA h1 (fun S2 h2 => ?_)
  have el : (hs ++ [none]).length = hs.length + 1 := by simp
  rw [el]
  refine y_laterA (a := 6) (b := nI (hs.length + 1)) (c := 0) h2 (by omega) (fun S3 h3 => ?_)
  by_cases c : t = 30
  · refine ⟨fun z => absurd c z, fun _ => ?_⟩
    refine y_laterA (a := 4) (b := 0) (c := 0) h3 (by simp; omega) (fun S4 h4 => ?_)
    refine y_laterA (a := 4) (b := 1) (c := 0) h4 (by simp; omega) (fun S5 h5 => ?_)
    refine y_laterA (a := 6) (b := nI hs.length) (c := 0) h5 (by simp; omega) (fun S6 h6 => ?_)
    refine y_laterA (a := 5) (b := nI (hs.length + 1)) (c := 0) h6 (by simp; omega) (fun S7 h7 => ?_)
    refine y_laterA (a := 4) (b := 12) (c := 0) h7 (by simp; omega) (fun S8 h8 => ?_)
    refine y_laterA (a := 4) (b := 11) (c := 0) h8 (by simp; omega) (fun S9 h9 => ?_)
    refine y_laterA (a := 4) (b := 11) (c := 0) h9 (by simp; omega) (fun S10 h10 => ?_)
    refine y_laterA (a := 2) (b := 0) (c := k) h10 (by simp; omega) (fun S11 h11 => ?_)
    refine y_laterA (a := 5) (b := nI hs.length) (c := 0) h11 (by simp; omega) (fun S12 h12 => ?_)
    refine ⟨fun z => absurd c z, fun _ => ?_⟩
    refine y_laterA (a := 4) (b := 13) (c := 0) h12 (by simp; omega) (fun S13 h13 => ?_)
    refine y_laterA (a := 2) (b := 0) (c := k) h13 (by simp; omega) (fun S14 h14 => kk S14 ?_)
    unfold yEiT
    rw [if_pos c, if_pos c]
    exact h14
  · refine ⟨fun _ => ?_, fun z => absurd z c⟩
    refine y_laterA (a := 4) (b := 1) (c := 0) h3 (by simp; omega) (fun S4 h4 => ?_)
    refine y_laterA (a := 4) (b := 1) (c := 0) h4 (by simp; omega) (fun S5 h5 => ?_)
    refine y_laterA (a := 6) (b := nI hs.length) (c := 0) h5 (by simp; omega) (fun S6 h6 => ?_)
    refine y_laterA (a := 5) (b := nI (hs.length + 1)) (c := 0) h6 (by simp; omega) (fun S7 h7 => ?_)
    refine y_laterA (a := 4) (b := 12) (c := 0) h7 (by simp; omega) (fun S8 h8 => ?_)
    refine y_laterA (a := 4) (b := 11) (c := 0) h8 (by simp; omega) (fun S9 h9 => ?_)
    refine y_laterA (a := 4) (b := 11) (c := 0) h9 (by simp; omega) (fun S10 h10 => ?_)
    refine y_laterA (a := 2) (b := 0) (c := k) h10 (by simp; omega) (fun S11 h11 => ?_)
    refine y_laterA (a := 5) (b := nI hs.length) (c := 0) h11 (by simp; omega) (fun S12 h12 => ?_)
    refine ⟨fun _ => ?_, fun z => absurd z c⟩
    refine y_laterA (a := 4) (b := 14) (c := 0) h12 (by simp; omega) (fun S13 h13 => ?_)
    refine y_laterA (a := 2) (b := 0) (c := k) h13 (by simp; omega) (fun S14 h14 => kk S14 ?_)
    unfold yEiT
    rw [if_neg c, if_neg c]
    exact h14
theorem y_readCall {k : Int32} (hT : yTk S0 n tk par mn) (h : yAt S0 S 0 fp p ws ms td hs) (hp : p ≤ n) (hb : td.length + 5 ≤ 4000)
    (he : ∀ v q S', cKnown n tk par p = .error (v, q) → v ≠ 0 → yAt S0 S' v (nI q) p ws ms td hs → P none S')
    (ho : ∀ S', cKnown n tk par p = .ok (p + 1) → yAt S0 S' 0 fp (p + 1) ws ms (List.replicate (cPar par (tk p)).toNatClampNeg (2, 0, k) ++ (4, 16, 0) :: (4, tk p, 0) :: td) hs → P none S') : mv_big layY sysY (d + 4) 20 [.ref 0, .int k] S P := by
  have hn := hT.2.1
  by_cases hk : cKnown n tk par p = .ok (p + 1)
  · have hk2 := cKnown_ok hT.2.2.2.1 hk
    obtain ⟨f, hf, e⟩ := nI_of (Int32.not_lt.mpr hk2.2.2.1)
    have hf8 : f < 8 := by
      have := hk2.2.2.2.1
      rw [e] at this
      exact (nI_ltI (b := 8) hf (by decide)).mp this
    have ef : (tk p).toNatClampNeg = f := by rw [e, nI_clamp hf]
    have hpf : par f ≠ -1 := by
      have := hk2.2.2.2.2
      rw [ef] at this; exact this
    obtain ⟨q1, q2, q3, q4⟩ := (hT.2.2.2.2.1 f hf8).2 hpf
    obtain ⟨K, hK, eK⟩ := nI_of (Int32.not_lt.mpr q3)
    have hK3 : K ≤ 3 := by
      rw [eK] at q4
      exact (nI_leI (b := 3) hK (by decide)).mp q4
    have ec : cPar par (tk p) = nI K := by
      unfold cPar
      rw [if_pos hk2.2.2, ef, eK]
    rw [ec, nI_clamp hK] at ho
    have loop := mv_loop (T := tT11) (nL := 4) (z := none) (il := mX11_readCall.2.2.2.2.2.2.2) (lay := layY) (sys := sysY) (d := d + 3) (P := P) (pc := 30) 40 (fun k' lv st S' => ∃ i, i + k' = K ∧ lv = [(3, .int (nI i)), (2, .int (tk p)), (0, .ref 0), (1, .int k)] ∧ st = [] ∧ yAt S0 S' 0 fp (p + 1) ws ms (List.replicate i (2, 0, k) ++ (4, 16, 0) :: (4, tk p, 0) :: td) hs) (by
        rintro m lv st S' ⟨i, hk0, rfl, rfl, g⟩
        obtain rfl : i = K := hk0
        have e5 : S'.2.1 5 (tk p).toNatClampNeg = nI i := by rw [ef, g.2.2.2.2.2.2.2.2.1 5 f (by decide) (by decide) (by decide), q2, eK]
        refine ⟨by rw [e]; exact vp_in_nI hf8 (by decide), fun _ => ho S' hk g, fun z => ?_⟩
        exact absurd (show S'.2.1 5 (tk p).toNatClampNeg ≤ nI i by rw [e5]; exact Int32.le_refl _) z) (by
        rintro k' m lv st S' ⟨i, hk0, rfl, rfl, g⟩ ih
        have e5 : S'.2.1 5 (tk p).toNatClampNeg = nI K := by rw [ef, g.2.2.2.2.2.2.2.2.1 5 f (by decide) (by decide) (by decide), q2, eK]
        refine ⟨by rw [e]; exact vp_in_nI hf8 (by decide), fun z => ?_, fun _ => ?_⟩
        · have z : S'.2.1 5 (tk p).toNatClampNeg ≤ nI i := z
          rw [e5] at z
          exact absurd ((nI_leI (by omega) (by omega)).mp z) (by omega)
        · refine y_laterA (a := 2) (b := 0) (c := k) g (by simp; omega) (fun S1 g1 => ?_)
          exact ws_iinc (y := nI (i + 1)) rfl rfl rfl (nI_succ i).symm rfl rfl (ws_goto (t := 30) rfl (by decide) (ih _ [(3, .int (nI (i + 1))), (2, .int (tk p)), (0, .ref 0), (1, .int k)] [] S1 (by omega) ⟨i + 1, by omega, rfl, rfl, g1⟩)))
    refine ⟨40 * (K + 1) + 40, ?_⟩
    refine y_knownA hT h hp (fun v q S' x e1 _ _ _ => ?_) (fun S1 _ h1 => ?_)
    · rw [hk] at e1; cases e1
    · refine ⟨fun _ => ?_, fun z => absurd h1.1 z⟩
      refine y_laterA (a := 4) (b := tk p) (c := 0) h1 (by omega) (fun S2 h2 => ?_)
      refine y_laterA (a := 4) (b := 16) (c := 0) h2 (by simp; omega) (fun S3 h3 => ?_)
      exact ws_iconst (x := nI 0) rfl rfl rfl (ws_istore_n rfl rfl rfl rfl (loop K _ [(3, .int (nI 0)), (2, .int (tk p)), (0, .ref 0), (1, .int k)] [] S3 (by omega) ⟨0, by omega, rfl, rfl, h3⟩))
  · refine ⟨40, ?_⟩
    refine y_knownA hT h hp (fun v q S1 x e1 e2 e3 h1 => ?_) (fun S1 e1 _ => absurd e1 hk)
    refine ⟨fun z => ?_, fun _ => he v q S1 e1 e2 h1⟩
    have z : S1.1 0 3 = 0 := z
    rw [h1.1] at z
    exact absurd z e2
end YA

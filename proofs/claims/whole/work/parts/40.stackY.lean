/-! THE REFERENCE'S MACHINE: its small parts -/
def yPush (S : mv_S) (h : Nat) (x : Int32) : mv_S := mv_pf (mv_pr (mv_pr S 25 h 0) 26 h x) 0 48 (nI (h + 1))
def yPushM (S : mv_S) (h : Nat) (x : Int32) : mv_S := mv_pf (mv_pr (mv_pr (mv_pr S 25 h 1) 27 h 0) 26 h x) 0 48 (nI (h + 1))
/-- the word k behind the next one -/
def yWd (S : mv_S) (p k : Nat) : Int32 := if S.1 0 55 = 0 then S.2.1 2 (p + k) else S.2.1 3 (p + k)
section LY
variable {d : Nat} {S : mv_S} {P : Option Value → mv_S → Prop}
theorem y_word {p k : Nat} (hp : S.1 0 51 = nI p) (h0 : S.1 0 55 = 0 → p + k < 6000) (h1 : ¬ S.1 0 55 = 0 → p + k < 8000) (h : P (some (.int (yWd S p k))) S) : mv_big layY sysY (d + 1) 49 [.ref 0, .int (nI k)] S P := by
  have e : S.1 0 51 + nI k = nI (p + k) := by rw [hp, nI_add]
  refine ⟨40, ?_⟩
  unfold yWd at h
  refine ⟨fun c => ⟨?_, ?_⟩, fun c => ⟨?_, ?_⟩⟩
  · have c : S.1 0 55 = 0 := c
    show vp_in (S.1 0 51 + nI k) 6000
    rw [e]; exact vp_in_nI (h0 c) (by decide)
  · have c : S.1 0 55 = 0 := c
    rw [if_pos c] at h
    have := h0 c
    have h3 : P (some (.int (S.2.1 2 (S.1 0 51 + nI k).toNatClampNeg))) S := by rw [e, nI_clamp (by omega)]; exact h
    exact h3
  · have c : ¬ S.1 0 55 = 0 := c
    show vp_in (S.1 0 51 + nI k) 8000
    rw [e]; exact vp_in_nI (h1 c) (by decide)
  · have c : ¬ S.1 0 55 = 0 := c
    rw [if_neg c] at h
    have := h1 c
    have h3 : P (some (.int (S.2.1 3 (S.1 0 51 + nI k).toNatClampNeg))) S := by rw [e, nI_clamp (by omega)]; exact h
    exact h3
theorem y_push {x : Int32} {q : Nat} (hq : S.1 0 48 = nI q) (hq2 : q < 4000) (h : P none (yPush S q x)) : mv_big layY sysY (d + 1) 53 [.ref 0, .int x] S P := by
  have e3 : (S.1 0 48).toNatClampNeg = q := by rw [hq]; exact nI_clamp (by omega)
  have e4 : S.1 0 48 + 1 = nI (q + 1) := by rw [hq]; exact nI_1 q
  have hv : vp_in (S.1 0 48) 4000 := by rw [hq]; exact vp_in_nI hq2 (by omega)
  refine ⟨40, Or.inl rfl, hv, hv, ?_⟩
  have h3 : P none (mv_pf (mv_pr (mv_pr S 25 (S.1 0 48).toNatClampNeg 0) 26 (S.1 0 48).toNatClampNeg x) 0 48 (S.1 0 48 + 1)) := by rw [e3, e4]; exact h
  exact h3
theorem y_pushMap {x : Int32} {q : Nat} (hq : S.1 0 48 = nI q) (hq2 : q < 4000) (h : P none (yPushM S q x)) : mv_big layY sysY (d + 1) 54 [.ref 0, .int x] S P := by
  have e3 : (S.1 0 48).toNatClampNeg = q := by rw [hq]; exact nI_clamp (by omega)
  have e4 : S.1 0 48 + 1 = nI (q + 1) := by rw [hq]; exact nI_1 q
  have hv : vp_in (S.1 0 48) 4000 := by rw [hq]; exact vp_in_nI hq2 (by omega)
  refine ⟨40, Or.inr rfl, hv, Or.inl rfl, hv, hv, ?_⟩
  have h3 : P none (mv_pf (mv_pr (mv_pr (mv_pr S 25 (S.1 0 48).toNatClampNeg 1) 27 (S.1 0 48).toNatClampNeg 0) 26 (S.1 0 48).toNatClampNeg x) 0 48 (S.1 0 48 + 1)) := by rw [e3, e4]; exact h
  exact h3
theorem y_pop {q : Nat} (hq : S.1 0 48 = nI (q + 1)) (hq2 : q < 4000) (h : P (some (.int (S.2.1 26 q))) (mv_pf S 0 48 (nI q))) : mv_big layY sysY (d + 1) 55 [.ref 0] S P := by
  have e4 : S.1 0 48 - 1 = nI q := by rw [hq]; exact nI_pred q
  refine ⟨40, ?_, ?_⟩
  · show vp_in (S.1 0 48 - 1) 4000
    rw [e4]; exact vp_in_nI hq2 (by omega)
  · have h3 : P (some (.int (S.2.1 26 (S.1 0 48 - 1).toNatClampNeg))) (mv_pf S 0 48 (S.1 0 48 - 1)) := by rw [e4, nI_clamp (by omega)]; exact h
    exact h3
theorem y_variable0 {v : Nat} (hv : v < 8) (h : P (some (.int (S.2.1 19 v))) S) : mv_big layY sysY (d + 1) 56 [.ref 0, .int (nI v), .int 0] S P := by
  refine ⟨40, fun _ => ⟨vp_in_nI hv (by decide), ?_⟩, fun z => absurd rfl z⟩
  have h3 : P (some (.int (S.2.1 19 (nI v).toNatClampNeg))) S := by rw [nI_clamp (by omega)]; exact h
  exact h3
theorem own_ix {c v : Nat} (hv : 8 ≤ v) : (6 : Int32) * nI c + nI v - 8 = nI (6 * c + (v - 8)) := by
  rw [show (6 : Int32) * nI c = nI (6 * c) from pk_mul 6 c, nI_add, show (8 : Int32) = nI 8 from rfl, pk_sub (by omega)]
  congr 1
  omega
theorem y_variable1 {v c : Nat} (hc : S.1 0 43 = nI c) (hc2 : c < 25) (hv : 8 ≤ v) (hv2 : v < 14) (h : P (some (.int (S.2.1 21 (6 * c + (v - 8))))) S) : mv_big layY sysY (d + 1) 56 [.ref 0, .int (nI v), .int 1] S P := by
  have e : (6 : Int32) * S.1 0 43 + nI v - 8 = nI (6 * c + (v - 8)) := by rw [hc]; exact own_ix hv
  refine ⟨40, fun z => absurd (show (1 : Int32) = 0 from z) (by decide), fun _ => ⟨?_, ?_⟩⟩
  · show vp_in ((6 : Int32) * S.1 0 43 + nI v - 8) 150
    rw [e]; exact vp_in_nI (by omega) (by decide)
  · have h3 : P (some (.int (S.2.1 21 ((6 : Int32) * S.1 0 43 + nI v - 8).toNatClampNeg))) S := by rw [e, nI_clamp (by omega)]; exact h
    exact h3
theorem y_setVariable {v c : Nat} {x : Int32} (hc : S.1 0 43 = nI c) (hc2 : c < 25) (hv2 : v < 14) (h : P none (if v < 8 then mv_pr S 19 v x else mv_pr S 21 (6 * c + (v - 8)) x)) : mv_big layY sysY (d + 1) 57 [.ref 0, .int (nI v), .int x] S P := by
  refine ⟨40, ?_⟩
  refine ⟨fun z => ?_, fun z => ?_⟩
  · have z : nI 8 ≤ nI v := z
    have hv : 8 ≤ v := (nI_leI (by omega) (by omega)).mp z
    have e : (6 : Int32) * S.1 0 43 + nI v - 8 = nI (6 * c + (v - 8)) := by rw [hc]; exact own_ix hv
    rw [if_neg (by omega)] at h
    refine ⟨?_, ?_⟩
    · show vp_in ((6 : Int32) * S.1 0 43 + nI v - 8) 150
      rw [e]; exact vp_in_nI (by omega) (by decide)
    · have h3 : P none (mv_pr S 21 ((6 : Int32) * S.1 0 43 + nI v - 8).toNatClampNeg x) := by rw [e, nI_clamp (by omega)]; exact h
      exact h3
  · have z : ¬ nI 8 ≤ nI v := z
    have hv : v < 8 := by
      rcases Nat.lt_or_ge v 8 with q | q
      · exact q
      · exact absurd ((nI_leI (by omega) (by omega)).mpr q) z
    rw [if_pos hv] at h
    refine ⟨vp_in_nI hv (by decide), ?_⟩
    have h3 : P none (mv_pr S 19 (nI v).toNatClampNeg x) := by rw [nI_clamp (by omega)]; exact h
    exact h3
theorem y_end {w : Int32} {p : Nat} (hp : S.1 0 51 = nI p) (h0 : S.1 0 55 = 0 → p < 6000) (h1 : ¬ S.1 0 55 = 0 → p < 8000) (h : P none (mv_pf (mv_pf S 0 53 w) 0 51 (nI (if yWd S p 0 = 16 then p + 2 else p + 1)))) : mv_big layY sysY (d + 2) 59 [.ref 0, .int w] S P := by
  refine ⟨40, ?_⟩
  refine y_word (p := p) (k := 0) hp h0 h1 ?_
  have ew : yWd (mv_pf S 0 53 w) p 0 = yWd S p 0 := rfl
  rw [ew]
  refine ⟨fun z => ?_, fun z => ?_⟩
  · have z : ¬ yWd S p 0 = 16 := z
    rw [if_neg z] at h
    have e : S.1 0 51 + 1 = nI (p + 1) := by rw [hp]; exact nI_1 p
    have h3 : P none (mv_pf (mv_pf S 0 53 w) 0 51 (S.1 0 51 + 1)) := by rw [e]; exact h
    exact h3
  · have z : yWd S p 0 = 16 := z
    rw [if_pos z] at h
    have e : S.1 0 51 + 2 = nI (p + 2) := by rw [hp]; exact nI_add p 2
    have h3 : P none (mv_pf (mv_pf S 0 53 w) 0 51 (S.1 0 51 + 2)) := by rw [e]; exact h
    exact h3
end LY

/-! THE REFERENCE'S COMPILER: its small parts -/
def yLay (S : mv_S) (w m : Nat) (x : Int32) : mv_S := mv_pf (mv_pr (mv_pf (mv_pr S 2 w x) 0 7 (nI (w + 1))) 3 m x) 0 9 (nI (m + 1))
def yMark (S : mv_S) (m : Nat) : mv_S := mv_pf (mv_pr S 3 m 30) 0 9 (nI (m + 1))
def yLater (S : mv_S) (k : Nat) (a b c : Int32) : mv_S := mv_pf (mv_pr (mv_pr (mv_pr S 8 k a) 9 k b) 10 k c) 0 20 (nI (k + 1))
def yRem (S : mv_S) (h w m : Nat) : mv_S := mv_pr (mv_pr S 11 h (nI w)) 12 h (nI m)
def yFill (S : mv_S) (hw hm w m : Nat) : mv_S := mv_pr (mv_pr S 2 hw (nI w)) 3 hm (nI m)
section LY
variable {d : Nat} {S : mv_S} {P : Option Value → mv_S → Prop}
theorem y_lay {x : Int32} {w m : Nat} (hw : S.1 0 7 = nI w) (hw2 : w < 6000) (hm : S.1 0 9 = nI m) (hm2 : m < 8000) (h : P none (yLay S w m x)) : mv_big layY sysY (d + 1) 8 [.ref 0, .int x] S P := by
  have e1 : (S.1 0 7).toNatClampNeg = w := by rw [hw]; exact nI_clamp (by omega)
  have e2 : S.1 0 7 + 1 = nI (w + 1) := by rw [hw]; exact nI_1 w
  have e3 : (S.1 0 9).toNatClampNeg = m := by rw [hm]; exact nI_clamp (by omega)
  have e4 : S.1 0 9 + 1 = nI (m + 1) := by rw [hm]; exact nI_1 m
  refine ⟨40, ?_, ?_, ?_⟩
  · show vp_in (S.1 0 7) 6000
    rw [hw]; exact vp_in_nI hw2 (by omega)
  · show vp_in (S.1 0 9) 8000
    rw [hm]; exact vp_in_nI hm2 (by omega)
  · have h3 : P none (mv_pf (mv_pr (mv_pf (mv_pr S 2 (S.1 0 7).toNatClampNeg x) 0 7 (S.1 0 7 + 1)) 3 (S.1 0 9).toNatClampNeg x) 0 9 (S.1 0 9 + 1)) := by rw [e1, e2, e3, e4]; exact h
    exact h3
theorem y_mark {m : Nat} (hm : S.1 0 9 = nI m) (hm2 : m < 8000) (h : P none (yMark S m)) : mv_big layY sysY (d + 1) 9 [.ref 0] S P := by
  have e3 : (S.1 0 9).toNatClampNeg = m := by rw [hm]; exact nI_clamp (by omega)
  have e4 : S.1 0 9 + 1 = nI (m + 1) := by rw [hm]; exact nI_1 m
  refine ⟨40, ?_, ?_⟩
  · show vp_in (S.1 0 9) 8000
    rw [hm]; exact vp_in_nI hm2 (by omega)
  · have h3 : P none (mv_pf (mv_pr S 3 (S.1 0 9).toNatClampNeg 30) 0 9 (S.1 0 9 + 1)) := by rw [e3, e4]; exact h
    exact h3
theorem y_later {a b c : Int32} {k : Nat} (hk : S.1 0 20 = nI k) (hk2 : k < 4000) (h : P none (yLater S k a b c)) : mv_big layY sysY (d + 1) 7 [.ref 0, .int a, .int b, .int c] S P := by
  have e3 : (S.1 0 20).toNatClampNeg = k := by rw [hk]; exact nI_clamp (by omega)
  have e4 : S.1 0 20 + 1 = nI (k + 1) := by rw [hk]; exact nI_1 k
  have hv : vp_in (S.1 0 20) 4000 := by rw [hk]; exact vp_in_nI hk2 (by omega)
  refine ⟨40, hv, hv, hv, ?_⟩
  have h3 : P none (mv_pf (mv_pr (mv_pr (mv_pr S 8 (S.1 0 20).toNatClampNeg a) 9 (S.1 0 20).toNatClampNeg b) 10 (S.1 0 20).toNatClampNeg c) 0 20 (S.1 0 20 + 1)) := by rw [e3, e4]; exact h
  exact h3
theorem y_newHole {k : Nat} (hk : S.1 0 23 = nI k) (h : P (some (.int (nI k))) (mv_pf S 0 23 (nI (k + 1)))) : mv_big layY sysY (d + 1) 10 [.ref 0] S P := by
  have e4 : S.1 0 23 + 1 = nI (k + 1) := by rw [hk]; exact nI_1 k
  have e5 : nI (k + 1) - 1 = nI k := nI_pred k
  refine ⟨40, ?_⟩
  have h3 : P (some (.int (S.1 0 23 + 1 - 1))) (mv_pf S 0 23 (S.1 0 23 + 1)) := by rw [e4, e5]; exact h
  exact h3
theorem y_remember {q w m : Nat} (hw : S.1 0 7 = nI w) (hm : S.1 0 9 = nI m) (hq : q < 2000) (h : P none (yRem S q w m)) : mv_big layY sysY (d + 1) 14 [.ref 0, .int (nI q)] S P := by
  have e3 : (nI q).toNatClampNeg = q := nI_clamp (by omega)
  have hv : vp_in (nI q) 2000 := vp_in_nI hq (by omega)
  refine ⟨40, hv, hv, ?_⟩
  have h3 : P none (mv_pr (mv_pr S 11 (nI q).toNatClampNeg (S.1 0 7)) 12 (nI q).toNatClampNeg (S.1 0 9)) := by rw [e3, hw, hm]; exact h
  exact h3
theorem y_layHole {q w m : Nat} (hw : S.1 0 7 = nI w) (hw2 : w < 6000) (hm : S.1 0 9 = nI m) (hm2 : m < 8000) (hq : q < 2000) (h : P none (yLay (yRem S q w m) w m 0)) : mv_big layY sysY (d + 2) 11 [.ref 0, .int (nI q)] S P := by
  have e3 : (nI q).toNatClampNeg = q := nI_clamp (by omega)
  have hv : vp_in (nI q) 2000 := vp_in_nI hq (by omega)
  refine ⟨40, hv, hv, ?_⟩
  refine y_lay (w := w) (m := m) hw hw2 hm hm2 ?_
  have h3 : P none (yLay (mv_pr (mv_pr S 11 (nI q).toNatClampNeg (S.1 0 7)) 12 (nI q).toNatClampNeg (S.1 0 9)) w m 0) := by rw [e3, hw, hm]; exact h
  exact h3
theorem y_fill {q a b w m : Nat} (hw : S.1 0 7 = nI w) (hm : S.1 0 9 = nI m) (hq : q < 2000) (ha : S.2.1 11 q = nI a) (ha2 : a < 6000) (hb : S.2.1 12 q = nI b) (hb2 : b < 8000) (h : P none (yFill S a b w m)) : mv_big layY sysY (d + 1) 12 [.ref 0, .int (nI q)] S P := by
  have e3 : (nI q).toNatClampNeg = q := nI_clamp (by omega)
  have hv : vp_in (nI q) 2000 := vp_in_nI hq (by omega)
  have f1 : S.2.1 11 (nI q).toNatClampNeg = nI a := by rw [e3]; exact ha
  have f2 : S.2.1 12 (nI q).toNatClampNeg = nI b := by rw [e3]; exact hb
  refine ⟨40, hv, ?_, hv, ?_, ?_⟩
  · show vp_in (S.2.1 11 (nI q).toNatClampNeg) 6000
    rw [f1]; exact vp_in_nI ha2 (by omega)
  · show vp_in (S.2.1 12 (nI q).toNatClampNeg) 8000
    rw [f2]; exact vp_in_nI hb2 (by omega)
  · have h3 : P none (mv_pr (mv_pr S 2 (S.2.1 11 (nI q).toNatClampNeg).toNatClampNeg (S.1 0 7)) 3 (S.2.1 12 (nI q).toNatClampNeg).toNatClampNeg (S.1 0 9)) := by rw [f1, f2, nI_clamp (by omega), nI_clamp (by omega), hw, hm]; exact h
    exact h3
theorem y_rank {k s : Int32} (h : P (some (.int (xRank s k))) S) : mv_big layY sysY (d + 1) 28 [.int k, .int s] S P := ⟨40, h⟩
end LY

/-! THE REFERENCE does what a word says -/
theorem yZr_mem {T : mv_S} {U : tT} : ∀ {Z : List aI}, (∃ c, yZr T Z U c) ↔ ∃ q, (U, q) ∈ aMap Z
  | [] => ⟨fun ⟨_, h⟩ => h.elim, fun ⟨q, h⟩ => by cases h⟩
  | .inl x :: R => yZr_mem (Z := R)
  | .inr (U', q') :: R => by
    constructor
    · rintro ⟨c, ⟨h, _⟩ | h⟩
      · exact ⟨q', by rw [h]; exact List.mem_cons_self⟩
      · obtain ⟨q, z⟩ := yZr_mem.mp ⟨c, h⟩
        exact ⟨q, List.mem_cons_of_mem _ z⟩
    · rintro ⟨q, h⟩
      rcases List.mem_cons.mp h with z | z
      · exact ⟨T.2.1 26 R.length, Or.inl ⟨(Prod.mk.inj z).1, rfl⟩⟩
      · obtain ⟨c, y⟩ := yZr_mem (T := T).mpr ⟨q, z⟩
        exact ⟨c, Or.inr y⟩
/-- the reference stands at s; c: how it ended -/
def yM (T0 T : mv_S) (sd : Int32) (rm : Nat) (c : Int32) (s : aMs) : Prop := ∃ σ, yA T0 T σ sd rm s.1 c s.2.1 s.2.2.1 s.2.2.2.1 s.2.2.2.2.1 s.2.2.2.2.2.1 s.2.2.2.2.2.2.1 s.2.2.2.2.2.2.2.1
section YM
variable {d : Nat} {P : Option Value → mv_S → Prop} {T0 T T' : mv_S} {σ : Nat → Nat} {sd x : Int32} {rm : Nat} {rets : List Nat} {K : List aI} {Ks : List (List aI)} {vs : Nat → Int32} {mp : Nat → tT} {told : List Int32} {most st : Nat} {D : aDt} {par : Nat → Int32} {fa : Nat → Nat} {L : Nat} {mn : Bool} {Q : Nat → shT → Prop} {pc k : Nat} {s : aMs}
theorem yRt_hd : (fun U => ∃ c, yRt T (K ++ Ks.flatten) Ks.length mp U c) = aHd (K, Ks, vs, mp, told, most, st) := by
  funext U
  refine propext ⟨fun ⟨c, h⟩ => ?_, fun h => ?_⟩
  · rcases h with ⟨i, i1, i2, _⟩ | ⟨i, i1, i2, _⟩ | h
    · exact Or.inl ⟨i, by show i < 6 + 2 * Ks.length; omega, i2⟩
    · exact Or.inl ⟨4 + i, by show 4 + i < 6 + 2 * Ks.length; omega, i2⟩
    · exact Or.inr (yZr_mem.mp ⟨c, h⟩)
  · rcases h with ⟨i, i1, i2⟩ | h
    · have i1 : i < 6 + 2 * Ks.length := i1
      have i2 : U = mp i := i2
      by_cases c : i < 4
      · exact ⟨T.2.1 20 i, Or.inl ⟨i, c, i2, rfl⟩⟩
      · exact ⟨T.2.1 22 (i - 4), Or.inr (Or.inl ⟨i - 4, by omega, by rw [i2, show 4 + (i - 4) = i by omega], rfl⟩)⟩
    · obtain ⟨c, z⟩ := yZr_mem (T := T).mpr h
      exact ⟨c, Or.inr (Or.inr z)⟩
theorem aN_le {U : tT} (h : aHd D U) (ho : tOrd U) : tN U ≤ aLv (aHd D) := by
  obtain ⟨L, hL⟩ := aNs_ex D
  rw [aLv_eq hL, ← tNd_len]
  exact nd_sub (tNd_nodup ho) (fun i hi => (hL.2 i).mpr ⟨U, h, hi⟩)
set_option maxHeartbeats 400000 in
theorem yS_1 (i : okI (yW T0) par L mn Q pc (aSh D.1)) (hw : yW T0 pc = 1) (hi : yIn T0 pc) (ok : aOk sd rm D) (hrm : rm ≤ 400) (hq : (D.1 ++ D.2.1.flatten).length ≤ 1250) (h : yM T0 T sd rm 1 (pc, rets, D)) (hc : ¬ (aSw (yW T0) par fa sd rm pc rets D 1).1 = 99) (hP : ∀ T', yM T0 T' sd rm (aSw (yW T0) par fa sd rm pc rets D 1).1 (aSw (yW T0) par fa sd rm pc rets D 1).2 → P none T') : mv_big layY sysY (d + 7) 58 [.ref 0] T P := by
  obtain ⟨K, Ks, vs, mp, told, most, st⟩ := D
  obtain ⟨σ, hA⟩ := h
  have hA : yA T0 T σ sd rm pc 1 rets K Ks vs mp told most := hA
  obtain ⟨hl, q⟩ := okI_1 i hw
  have hq : (K ++ Ks.flatten).length + 0 ≤ 1250 := hq
  exact mv_deep (d := d + 6) (by omega) (y_pf1 hA hi hw (by omega) (fun T' g => hP T' ⟨σ, g⟩))
set_option maxHeartbeats 400000 in
theorem yS_2 (i : okI (yW T0) par L mn Q pc (aSh D.1)) (hw : yW T0 pc = 2) (hi : yIn T0 pc) (ok : aOk sd rm D) (hrm : rm ≤ 400) (hq : (D.1 ++ D.2.1.flatten).length ≤ 1250) (h : yM T0 T sd rm 1 (pc, rets, D)) (hc : ¬ (aSw (yW T0) par fa sd rm pc rets D 2).1 = 99) (hP : ∀ T', yM T0 T' sd rm (aSw (yW T0) par fa sd rm pc rets D 2).1 (aSw (yW T0) par fa sd rm pc rets D 2).2 → P none T') : mv_big layY sysY (d + 7) 58 [.ref 0] T P := by
  obtain ⟨K, Ks, vs, mp, told, most, st⟩ := D
  obtain ⟨σ, hA⟩ := h
  have hA : yA T0 T σ sd rm pc 1 rets K Ks vs mp told most := hA
  obtain ⟨⟨hl, h6, h7⟩, q⟩ := okI_2 i hw
  obtain ⟨v1, v2⟩ := aN_of (n := 14) rfl (by decide) h6 h7
  have hq : (K ++ Ks.flatten).length + 0 ≤ 1250 := hq
  exact mv_deep (d := d + 6) (by omega) (y_pf2 hA hi hw v1 v2 (by omega) (fun T' g => hP T' ⟨σ, g⟩))
set_option maxHeartbeats 400000 in
theorem yS_3 (i : okI (yW T0) par L mn Q pc (aSh D.1)) (hw : yW T0 pc = 3) (hi : yIn T0 pc) (ok : aOk sd rm D) (hrm : rm ≤ 400) (hq : (D.1 ++ D.2.1.flatten).length ≤ 1250) (h : yM T0 T sd rm 1 (pc, rets, D)) (hc : ¬ (aSw (yW T0) par fa sd rm pc rets D 3).1 = 99) (hP : ∀ T', yM T0 T' sd rm (aSw (yW T0) par fa sd rm pc rets D 3).1 (aSw (yW T0) par fa sd rm pc rets D 3).2 → P none T') : mv_big layY sysY (d + 7) 58 [.ref 0] T P := by
  obtain ⟨K, Ks, vs, mp, told, most, st⟩ := D
  obtain ⟨σ, hA⟩ := h
  have hA : yA T0 T σ sd rm pc 1 rets K Ks vs mp told most := hA
  obtain ⟨⟨hl, h6, h7, e⟩, q⟩ := okI_3 i hw
  obtain ⟨v1, v2⟩ := aN_of (n := 14) rfl (by decide) h6 h7
  obtain ⟨a0, K, rfl, e⟩ := aSh_f (K := K) e
  have hq : (K ++ Ks.flatten).length + 1 ≤ 1250 := hq
  exact mv_deep (d := d + 6) (by omega) (y_pf3 hA hi hw v1 v2 (by omega) (fun T' g => hP T' ⟨σ, g⟩))
set_option maxHeartbeats 400000 in
theorem yS_4 (i : okI (yW T0) par L mn Q pc (aSh D.1)) (hw : yW T0 pc = 4) (hi : yIn T0 pc) (ok : aOk sd rm D) (hrm : rm ≤ 400) (hq : (D.1 ++ D.2.1.flatten).length ≤ 1250) (h : yM T0 T sd rm 1 (pc, rets, D)) (hc : ¬ (aSw (yW T0) par fa sd rm pc rets D 4).1 = 99) (hP : ∀ T', yM T0 T' sd rm (aSw (yW T0) par fa sd rm pc rets D 4).1 (aSw (yW T0) par fa sd rm pc rets D 4).2 → P none T') : mv_big layY sysY (d + 7) 58 [.ref 0] T P := by
  obtain ⟨K, Ks, vs, mp, told, most, st⟩ := D
  obtain ⟨σ, hA⟩ := h
  have hA : yA T0 T σ sd rm pc 1 rets K Ks vs mp told most := hA
  obtain ⟨⟨hl, e⟩, q⟩ := okI_4 i ⟨by rw [hw]; decide, by rw [hw]; decide⟩
  obtain ⟨a0, K, rfl, e⟩ := aSh_f (K := K) e
  obtain ⟨a1, K, rfl, e⟩ := aSh_f (K := K) e
  have hq : (K ++ Ks.flatten).length + 2 ≤ 1250 := hq
  have er := aOp_4 (sd := sd) (rm := rm) (x := yW T0 (pc + 1)) (K := K) (R := (Ks, vs, mp, told, most, st)) (a := a1) (b := a0)
  have hP : ∀ T', yM T0 T' sd rm (aAp sd rm 4 (yW T0 (pc + 1)) (.inl a0 :: .inl a1 :: K, Ks, vs, mp, told, most, st)).1 (pc + 1, rets, (aAp sd rm 4 (yW T0 (pc + 1)) (.inl a0 :: .inl a1 :: K, Ks, vs, mp, told, most, st)).2) → P none T' := hP
  rw [er] at hP
  exact mv_deep (d := d + 6) (by omega) (y_pf4 hA hi hw (by omega) (fun T' g => hP T' ⟨σ, g⟩))
set_option maxHeartbeats 400000 in
theorem yS_5 (i : okI (yW T0) par L mn Q pc (aSh D.1)) (hw : yW T0 pc = 5) (hi : yIn T0 pc) (ok : aOk sd rm D) (hrm : rm ≤ 400) (hq : (D.1 ++ D.2.1.flatten).length ≤ 1250) (h : yM T0 T sd rm 1 (pc, rets, D)) (hc : ¬ (aSw (yW T0) par fa sd rm pc rets D 5).1 = 99) (hP : ∀ T', yM T0 T' sd rm (aSw (yW T0) par fa sd rm pc rets D 5).1 (aSw (yW T0) par fa sd rm pc rets D 5).2 → P none T') : mv_big layY sysY (d + 7) 58 [.ref 0] T P := by
  obtain ⟨K, Ks, vs, mp, told, most, st⟩ := D
  obtain ⟨σ, hA⟩ := h
  have hA : yA T0 T σ sd rm pc 1 rets K Ks vs mp told most := hA
  obtain ⟨⟨hl, e⟩, q⟩ := okI_4 i ⟨by rw [hw]; decide, by rw [hw]; decide⟩
  obtain ⟨a0, K, rfl, e⟩ := aSh_f (K := K) e
  obtain ⟨a1, K, rfl, e⟩ := aSh_f (K := K) e
  have hq : (K ++ Ks.flatten).length + 2 ≤ 1250 := hq
  have er := aOp_5 (sd := sd) (rm := rm) (x := yW T0 (pc + 1)) (K := K) (R := (Ks, vs, mp, told, most, st)) (a := a1) (b := a0)
  have hP : ∀ T', yM T0 T' sd rm (aAp sd rm 5 (yW T0 (pc + 1)) (.inl a0 :: .inl a1 :: K, Ks, vs, mp, told, most, st)).1 (pc + 1, rets, (aAp sd rm 5 (yW T0 (pc + 1)) (.inl a0 :: .inl a1 :: K, Ks, vs, mp, told, most, st)).2) → P none T' := hP
  rw [er] at hP
  exact mv_deep (d := d + 6) (by omega) (y_pf5 hA hi hw (by omega) (fun T' g => hP T' ⟨σ, g⟩))
set_option maxHeartbeats 400000 in
theorem yS_6 (i : okI (yW T0) par L mn Q pc (aSh D.1)) (hw : yW T0 pc = 6) (hi : yIn T0 pc) (ok : aOk sd rm D) (hrm : rm ≤ 400) (hq : (D.1 ++ D.2.1.flatten).length ≤ 1250) (h : yM T0 T sd rm 1 (pc, rets, D)) (hc : ¬ (aSw (yW T0) par fa sd rm pc rets D 6).1 = 99) (hP : ∀ T', yM T0 T' sd rm (aSw (yW T0) par fa sd rm pc rets D 6).1 (aSw (yW T0) par fa sd rm pc rets D 6).2 → P none T') : mv_big layY sysY (d + 7) 58 [.ref 0] T P := by
  obtain ⟨K, Ks, vs, mp, told, most, st⟩ := D
  obtain ⟨σ, hA⟩ := h
  have hA : yA T0 T σ sd rm pc 1 rets K Ks vs mp told most := hA
  obtain ⟨⟨hl, e⟩, q⟩ := okI_4 i ⟨by rw [hw]; decide, by rw [hw]; decide⟩
  obtain ⟨a0, K, rfl, e⟩ := aSh_f (K := K) e
  obtain ⟨a1, K, rfl, e⟩ := aSh_f (K := K) e
  have hq : (K ++ Ks.flatten).length + 2 ≤ 1250 := hq
  have er := aOp_6 (sd := sd) (rm := rm) (x := yW T0 (pc + 1)) (K := K) (R := (Ks, vs, mp, told, most, st)) (a := a1) (b := a0)
  have hP : ∀ T', yM T0 T' sd rm (aAp sd rm 6 (yW T0 (pc + 1)) (.inl a0 :: .inl a1 :: K, Ks, vs, mp, told, most, st)).1 (pc + 1, rets, (aAp sd rm 6 (yW T0 (pc + 1)) (.inl a0 :: .inl a1 :: K, Ks, vs, mp, told, most, st)).2) → P none T' := hP
  rw [er] at hP
  exact mv_deep (d := d + 6) (by omega) (y_pf6 hA hi hw (by omega) (fun T' g => hP T' ⟨σ, g⟩))
set_option maxHeartbeats 400000 in
theorem yS_7 (i : okI (yW T0) par L mn Q pc (aSh D.1)) (hw : yW T0 pc = 7) (hi : yIn T0 pc) (ok : aOk sd rm D) (hrm : rm ≤ 400) (hq : (D.1 ++ D.2.1.flatten).length ≤ 1250) (h : yM T0 T sd rm 1 (pc, rets, D)) (hc : ¬ (aSw (yW T0) par fa sd rm pc rets D 7).1 = 99) (hP : ∀ T', yM T0 T' sd rm (aSw (yW T0) par fa sd rm pc rets D 7).1 (aSw (yW T0) par fa sd rm pc rets D 7).2 → P none T') : mv_big layY sysY (d + 7) 58 [.ref 0] T P := by
  obtain ⟨K, Ks, vs, mp, told, most, st⟩ := D
  obtain ⟨σ, hA⟩ := h
  have hA : yA T0 T σ sd rm pc 1 rets K Ks vs mp told most := hA
  obtain ⟨⟨hl, e⟩, q⟩ := okI_4 i ⟨by rw [hw]; decide, by rw [hw]; decide⟩
  obtain ⟨a0, K, rfl, e⟩ := aSh_f (K := K) e
  obtain ⟨a1, K, rfl, e⟩ := aSh_f (K := K) e
  have hq : (K ++ Ks.flatten).length + 2 ≤ 1250 := hq
  have er := aOp_7 (sd := sd) (rm := rm) (x := yW T0 (pc + 1)) (K := K) (R := (Ks, vs, mp, told, most, st)) (a := a1) (b := a0)
  have hP : ∀ T', yM T0 T' sd rm (aAp sd rm 7 (yW T0 (pc + 1)) (.inl a0 :: .inl a1 :: K, Ks, vs, mp, told, most, st)).1 (pc + 1, rets, (aAp sd rm 7 (yW T0 (pc + 1)) (.inl a0 :: .inl a1 :: K, Ks, vs, mp, told, most, st)).2) → P none T' := hP
  rw [er] at hP
  refine mv_deep (d := d + 6) (by omega) (y_pf7 hA hi hw (by omega) (fun z T' g => hP T' ?_) (fun z T' g => hP T' ?_))
  · rw [if_pos z]; exact ⟨σ, g⟩
  · rw [if_neg z]; exact ⟨σ, g⟩
set_option maxHeartbeats 400000 in
theorem yS_8 (i : okI (yW T0) par L mn Q pc (aSh D.1)) (hw : yW T0 pc = 8) (hi : yIn T0 pc) (ok : aOk sd rm D) (hrm : rm ≤ 400) (hq : (D.1 ++ D.2.1.flatten).length ≤ 1250) (h : yM T0 T sd rm 1 (pc, rets, D)) (hc : ¬ (aSw (yW T0) par fa sd rm pc rets D 8).1 = 99) (hP : ∀ T', yM T0 T' sd rm (aSw (yW T0) par fa sd rm pc rets D 8).1 (aSw (yW T0) par fa sd rm pc rets D 8).2 → P none T') : mv_big layY sysY (d + 7) 58 [.ref 0] T P := by
  obtain ⟨K, Ks, vs, mp, told, most, st⟩ := D
  obtain ⟨σ, hA⟩ := h
  have hA : yA T0 T σ sd rm pc 1 rets K Ks vs mp told most := hA
  obtain ⟨⟨hl, e⟩, q⟩ := okI_4 i ⟨by rw [hw]; decide, by rw [hw]; decide⟩
  obtain ⟨a0, K, rfl, e⟩ := aSh_f (K := K) e
  obtain ⟨a1, K, rfl, e⟩ := aSh_f (K := K) e
  have hq : (K ++ Ks.flatten).length + 2 ≤ 1250 := hq
  have er := aOp_8 (sd := sd) (rm := rm) (x := yW T0 (pc + 1)) (K := K) (R := (Ks, vs, mp, told, most, st)) (a := a1) (b := a0)
  have hP : ∀ T', yM T0 T' sd rm (aAp sd rm 8 (yW T0 (pc + 1)) (.inl a0 :: .inl a1 :: K, Ks, vs, mp, told, most, st)).1 (pc + 1, rets, (aAp sd rm 8 (yW T0 (pc + 1)) (.inl a0 :: .inl a1 :: K, Ks, vs, mp, told, most, st)).2) → P none T' := hP
  rw [er] at hP
  refine mv_deep (d := d + 6) (by omega) (y_pf8 hA hi hw (by omega) (fun z T' g => hP T' ?_) (fun z T' g => hP T' ?_))
  · rw [if_pos z]; exact ⟨σ, g⟩
  · rw [if_neg z]; exact ⟨σ, g⟩
set_option maxHeartbeats 400000 in
theorem yS_9 (i : okI (yW T0) par L mn Q pc (aSh D.1)) (hw : yW T0 pc = 9) (hi : yIn T0 pc) (ok : aOk sd rm D) (hrm : rm ≤ 400) (hq : (D.1 ++ D.2.1.flatten).length ≤ 1250) (h : yM T0 T sd rm 1 (pc, rets, D)) (hc : ¬ (aSw (yW T0) par fa sd rm pc rets D 9).1 = 99) (hP : ∀ T', yM T0 T' sd rm (aSw (yW T0) par fa sd rm pc rets D 9).1 (aSw (yW T0) par fa sd rm pc rets D 9).2 → P none T') : mv_big layY sysY (d + 7) 58 [.ref 0] T P := by
  obtain ⟨K, Ks, vs, mp, told, most, st⟩ := D
  obtain ⟨σ, hA⟩ := h
  have hA : yA T0 T σ sd rm pc 1 rets K Ks vs mp told most := hA
  obtain ⟨⟨hl, e⟩, q⟩ := okI_4 i ⟨by rw [hw]; decide, by rw [hw]; decide⟩
  obtain ⟨a0, K, rfl, e⟩ := aSh_f (K := K) e
  obtain ⟨a1, K, rfl, e⟩ := aSh_f (K := K) e
  have hq : (K ++ Ks.flatten).length + 2 ≤ 1250 := hq
  have er := aOp_9 (sd := sd) (rm := rm) (x := yW T0 (pc + 1)) (K := K) (R := (Ks, vs, mp, told, most, st)) (a := a1) (b := a0)
  have hP : ∀ T', yM T0 T' sd rm (aAp sd rm 9 (yW T0 (pc + 1)) (.inl a0 :: .inl a1 :: K, Ks, vs, mp, told, most, st)).1 (pc + 1, rets, (aAp sd rm 9 (yW T0 (pc + 1)) (.inl a0 :: .inl a1 :: K, Ks, vs, mp, told, most, st)).2) → P none T' := hP
  rw [er] at hP
  exact mv_deep (d := d + 6) (by omega) (y_pf9 hA hi hw (by omega) (fun T' g => hP T' ⟨σ, g⟩))
set_option maxHeartbeats 400000 in
theorem yS_10 (i : okI (yW T0) par L mn Q pc (aSh D.1)) (hw : yW T0 pc = 10) (hi : yIn T0 pc) (ok : aOk sd rm D) (hrm : rm ≤ 400) (hq : (D.1 ++ D.2.1.flatten).length ≤ 1250) (h : yM T0 T sd rm 1 (pc, rets, D)) (hc : ¬ (aSw (yW T0) par fa sd rm pc rets D 10).1 = 99) (hP : ∀ T', yM T0 T' sd rm (aSw (yW T0) par fa sd rm pc rets D 10).1 (aSw (yW T0) par fa sd rm pc rets D 10).2 → P none T') : mv_big layY sysY (d + 7) 58 [.ref 0] T P := by
  obtain ⟨K, Ks, vs, mp, told, most, st⟩ := D
  obtain ⟨σ, hA⟩ := h
  have hA : yA T0 T σ sd rm pc 1 rets K Ks vs mp told most := hA
  obtain ⟨⟨hl, e⟩, q⟩ := okI_4 i ⟨by rw [hw]; decide, by rw [hw]; decide⟩
  obtain ⟨a0, K, rfl, e⟩ := aSh_f (K := K) e
  obtain ⟨a1, K, rfl, e⟩ := aSh_f (K := K) e
  have hq : (K ++ Ks.flatten).length + 2 ≤ 1250 := hq
  have er := aOp_10 (sd := sd) (rm := rm) (x := yW T0 (pc + 1)) (K := K) (R := (Ks, vs, mp, told, most, st)) (a := a1) (b := a0)
  have hP : ∀ T', yM T0 T' sd rm (aAp sd rm 10 (yW T0 (pc + 1)) (.inl a0 :: .inl a1 :: K, Ks, vs, mp, told, most, st)).1 (pc + 1, rets, (aAp sd rm 10 (yW T0 (pc + 1)) (.inl a0 :: .inl a1 :: K, Ks, vs, mp, told, most, st)).2) → P none T' := hP
  rw [er] at hP
  exact mv_deep (d := d + 6) (by omega) (y_pf10 hA hi hw (by omega) (fun T' g => hP T' ⟨σ, g⟩))
set_option maxHeartbeats 400000 in
theorem yS_11 (i : okI (yW T0) par L mn Q pc (aSh D.1)) (hw : yW T0 pc = 11) (hi : yIn T0 pc) (ok : aOk sd rm D) (hrm : rm ≤ 400) (hq : (D.1 ++ D.2.1.flatten).length ≤ 1250) (h : yM T0 T sd rm 1 (pc, rets, D)) (hc : ¬ (aSw (yW T0) par fa sd rm pc rets D 11).1 = 99) (hP : ∀ T', yM T0 T' sd rm (aSw (yW T0) par fa sd rm pc rets D 11).1 (aSw (yW T0) par fa sd rm pc rets D 11).2 → P none T') : mv_big layY sysY (d + 7) 58 [.ref 0] T P := by
  obtain ⟨K, Ks, vs, mp, told, most, st⟩ := D
  obtain ⟨σ, hA⟩ := h
  have hA : yA T0 T σ sd rm pc 1 rets K Ks vs mp told most := hA
  obtain ⟨⟨hl, e⟩, q⟩ := okI_11 i hw
  obtain ⟨a0, K, rfl, e⟩ := aSh_f (K := K) e
  have hq : (K ++ Ks.flatten).length + 1 ≤ 1250 := hq
  exact mv_deep (d := d + 6) (by omega) (y_pf11 hA hi hw (by omega) (fun T' g => hP T' ⟨σ, g⟩))
set_option maxHeartbeats 400000 in
theorem yS_15 (i : okI (yW T0) par L mn Q pc (aSh D.1)) (hw : yW T0 pc = 15) (hi : yIn T0 pc) (ok : aOk sd rm D) (hrm : rm ≤ 400) (hq : (D.1 ++ D.2.1.flatten).length ≤ 1250) (h : yM T0 T sd rm 1 (pc, rets, D)) (hc : ¬ (aSw (yW T0) par fa sd rm pc rets D 15).1 = 99) (hP : ∀ T', yM T0 T' sd rm (aSw (yW T0) par fa sd rm pc rets D 15).1 (aSw (yW T0) par fa sd rm pc rets D 15).2 → P none T') : mv_big layY sysY (d + 7) 58 [.ref 0] T P := by
  obtain ⟨K, Ks, vs, mp, told, most, st⟩ := D
  obtain ⟨σ, hA⟩ := h
  have hA : yA T0 T σ sd rm pc 1 rets K Ks vs mp told most := hA
  obtain ⟨⟨hl, e⟩, q⟩ := okI_15 i hw
  obtain ⟨a0, K, rfl, e⟩ := aSh_f (K := K) e
  have hq : (K ++ Ks.flatten).length + 1 ≤ 1250 := hq
  have hP : ∀ T', yM T0 T' sd rm (if told.length = 300 then ((4 : Int32), ((.inl a0 :: K, Ks, vs, mp, told, most, st) : aDt)) else (1, (K, Ks, vs, mp, told ++ [a0], most, st))).1 (pc + 1, rets, (if told.length = 300 then ((4 : Int32), ((.inl a0 :: K, Ks, vs, mp, told, most, st) : aDt)) else (1, (K, Ks, vs, mp, told ++ [a0], most, st))).2) → P none T' := hP
  refine mv_deep (d := d + 6) (by omega) (y_pf15 hA hi hw (by omega) (fun z T' g => hP T' ?_) (fun z T' g => hP T' ?_))
  · rw [if_pos z]; exact ⟨σ, g⟩
  · rw [if_neg (by omega)]; exact ⟨σ, g⟩
set_option maxHeartbeats 400000 in
theorem yS_18 (i : okI (yW T0) par L mn Q pc (aSh D.1)) (hw : yW T0 pc = 18) (hi : yIn T0 pc) (ok : aOk sd rm D) (hrm : rm ≤ 400) (hq : (D.1 ++ D.2.1.flatten).length ≤ 1250) (h : yM T0 T sd rm 1 (pc, rets, D)) (hc : ¬ (aSw (yW T0) par fa sd rm pc rets D 18).1 = 99) (hP : ∀ T', yM T0 T' sd rm (aSw (yW T0) par fa sd rm pc rets D 18).1 (aSw (yW T0) par fa sd rm pc rets D 18).2 → P none T') : mv_big layY sysY (d + 7) 58 [.ref 0] T P := by
  obtain ⟨K, Ks, vs, mp, told, most, st⟩ := D
  obtain ⟨σ, hA⟩ := h
  have hA : yA T0 T σ sd rm pc 1 rets K Ks vs mp told most := hA
  obtain ⟨⟨hl, e⟩, q⟩ := okI_18 i hw
  obtain ⟨a0, K, rfl, e⟩ := aSh_f (K := K) e
  have hq : (K ++ Ks.flatten).length + 1 ≤ 1250 := hq
  exact mv_deep (d := d + 6) (by omega) (y_pf18 hA hi hw (fun T' g => hP T' ⟨σ, g⟩))
set_option maxHeartbeats 400000 in
theorem yS_19 (i : okI (yW T0) par L mn Q pc (aSh D.1)) (hw : yW T0 pc = 19) (hi : yIn T0 pc) (ok : aOk sd rm D) (hrm : rm ≤ 400) (hq : (D.1 ++ D.2.1.flatten).length ≤ 1250) (h : yM T0 T sd rm 1 (pc, rets, D)) (hc : ¬ (aSw (yW T0) par fa sd rm pc rets D 19).1 = 99) (hP : ∀ T', yM T0 T' sd rm (aSw (yW T0) par fa sd rm pc rets D 19).1 (aSw (yW T0) par fa sd rm pc rets D 19).2 → P none T') : mv_big layY sysY (d + 7) 58 [.ref 0] T P := by
  obtain ⟨K, Ks, vs, mp, told, most, st⟩ := D
  obtain ⟨σ, hA⟩ := h
  have hA : yA T0 T σ sd rm pc 1 rets K Ks vs mp told most := hA
  obtain ⟨⟨hl, h6, h7⟩, q⟩ := okI_19 i hw
  obtain ⟨v1, v2⟩ := aN_of (n := 6) rfl (by decide) h6 h7
  have hq : (K ++ Ks.flatten).length + 0 ≤ 1250 := hq
  exact mv_deep (d := d + 6) (by omega) (y_pf19 hA hi hw v1 v2 (by omega) (fun T' g => hP T' ⟨σ, g⟩))
set_option maxHeartbeats 400000 in
theorem yS_20 (i : okI (yW T0) par L mn Q pc (aSh D.1)) (hw : yW T0 pc = 20) (hi : yIn T0 pc) (ok : aOk sd rm D) (hrm : rm ≤ 400) (hq : (D.1 ++ D.2.1.flatten).length ≤ 1250) (h : yM T0 T sd rm 1 (pc, rets, D)) (hc : ¬ (aSw (yW T0) par fa sd rm pc rets D 20).1 = 99) (hP : ∀ T', yM T0 T' sd rm (aSw (yW T0) par fa sd rm pc rets D 20).1 (aSw (yW T0) par fa sd rm pc rets D 20).2 → P none T') : mv_big layY sysY (d + 7) 58 [.ref 0] T P := by
  obtain ⟨K, Ks, vs, mp, told, most, st⟩ := D
  obtain ⟨σ, hA⟩ := h
  have hA : yA T0 T σ sd rm pc 1 rets K Ks vs mp told most := hA
  obtain ⟨⟨hl, h6, h7, e⟩, q⟩ := okI_20 i hw
  obtain ⟨v1, v2⟩ := aN_of (n := 6) rfl (by decide) h6 h7
  obtain ⟨U0, q0, K, rfl, e⟩ := aSh_t (K := K) e
  have hq : (K ++ Ks.flatten).length + 1 ≤ 1250 := hq
  exact mv_deep (d := d + 6) (by omega) (y_pf20 hA hi hw v1 v2 (by omega) (fun T' g => hP T' ⟨σ, g⟩))
set_option maxHeartbeats 400000 in
theorem yS_21 (i : okI (yW T0) par L mn Q pc (aSh D.1)) (hw : yW T0 pc = 21) (hi : yIn T0 pc) (ok : aOk sd rm D) (hrm : rm ≤ 400) (hq : (D.1 ++ D.2.1.flatten).length ≤ 1250) (h : yM T0 T sd rm 1 (pc, rets, D)) (hc : ¬ (aSw (yW T0) par fa sd rm pc rets D 21).1 = 99) (hP : ∀ T', yM T0 T' sd rm (aSw (yW T0) par fa sd rm pc rets D 21).1 (aSw (yW T0) par fa sd rm pc rets D 21).2 → P none T') : mv_big layY sysY (d + 7) 58 [.ref 0] T P := by
  obtain ⟨K, Ks, vs, mp, told, most, st⟩ := D
  obtain ⟨σ, hA⟩ := h
  have hA : yA T0 T σ sd rm pc 1 rets K Ks vs mp told most := hA
  obtain ⟨hl, q⟩ := okI_21 i hw
  have hq : (K ++ Ks.flatten).length + 0 ≤ 1250 := hq
  exact mv_deep (d := d + 6) (by omega) (y_pf21 hA hi hw (by omega) (fun T' g => hP T' ⟨σ, g⟩))
set_option maxHeartbeats 400000 in
theorem yS_22 (i : okI (yW T0) par L mn Q pc (aSh D.1)) (hw : yW T0 pc = 22) (hi : yIn T0 pc) (ok : aOk sd rm D) (hrm : rm ≤ 400) (hq : (D.1 ++ D.2.1.flatten).length ≤ 1250) (h : yM T0 T sd rm 1 (pc, rets, D)) (hc : ¬ (aSw (yW T0) par fa sd rm pc rets D 22).1 = 99) (hP : ∀ T', yM T0 T' sd rm (aSw (yW T0) par fa sd rm pc rets D 22).1 (aSw (yW T0) par fa sd rm pc rets D 22).2 → P none T') : mv_big layY sysY (d + 7) 58 [.ref 0] T P := by
  obtain ⟨K, Ks, vs, mp, told, most, st⟩ := D
  obtain ⟨σ, hA⟩ := h
  have hA : yA T0 T σ sd rm pc 1 rets K Ks vs mp told most := hA
  obtain ⟨⟨hl, e⟩, q⟩ := okI_22 i hw
  obtain ⟨a0, K, rfl, e⟩ := aSh_f (K := K) e
  obtain ⟨a1, K, rfl, e⟩ := aSh_f (K := K) e
  obtain ⟨T2, q2, K, rfl, e⟩ := aSh_t (K := K) e
  have hq : (K ++ Ks.flatten).length + 3 ≤ 1250 := hq
  have lvr : aLv (aHd (.inl a0 :: .inl a1 :: .inr (T2, q2) :: K, Ks, vs, mp, told, most, st)) ≤ rm := ok.2.2
  obtain ⟨Ln, hLn⟩ := aNs_ex (.inl a0 :: .inl a1 :: .inr (T2, q2) :: K, Ks, vs, mp, told, most, st)
  have lv := aLv_eq hLn
  have hst : ∀ U' c, yRt T ((.inl a0 :: .inl a1 :: .inr (T2, q2) :: K) ++ Ks.flatten) Ks.length mp U' c → tSt (fun s => s < st) U' := fun U' c z => (ok.1 U' (by rw [← yRt_hd (T := T)]; exact ⟨c, z⟩)).2.2
  rw [← yRt_hd (T := T)] at hLn
  have hc : ¬ (aMk rm (tPutN (xRank sd) a1 T2) (tPut (xRank sd) st a1 a0 T2) K (.inl a0 :: .inl a1 :: .inr (T2, q2) :: K, Ks, vs, mp, told, most, st)).1 = 99 := hc
  have hP : ∀ T', yM T0 T' sd rm (aMk rm (tPutN (xRank sd) a1 T2) (tPut (xRank sd) st a1 a0 T2) K (.inl a0 :: .inl a1 :: .inr (T2, q2) :: K, Ks, vs, mp, told, most, st)).1 (pc + 1, rets, (aMk rm (tPutN (xRank sd) a1 T2) (tPut (xRank sd) st a1 a0 T2) K (.inl a0 :: .inl a1 :: .inr (T2, q2) :: K, Ks, vs, mp, told, most, st)).2) → P none T' := hP
  rw [aMk_eq] at hc hP
  have d1 : aHd (.inl a0 :: .inl a1 :: .inr (T2, q2) :: K, Ks, vs, mp, told, most, st) T2 := aHd_in (m := (T2, q2)) List.mem_cons_self
  have n1 := aN_le d1 (ok.1 T2 d1).1
  refine y_pf22 (st := st) hA hi hw (ok.1 T2 d1).1 (by omega) hrm hst hLn (by omega) ok.2.1 (by omega) (fun z T' g => hP T' ?_) (fun z T' σ' g => hP T' ?_)
  · rw [if_neg (by omega)]; exact ⟨σ, g⟩
  · rw [if_pos (by omega)] at hc ⊢
    by_cases c : aLv (aHd (.inr (tPut (xRank sd) st a1 a0 T2, none) :: K, Ks, vs, mp, told, max most (tPutN (xRank sd) a1 T2), st + 1)) ≤ rm
    · rw [if_pos c]; exact ⟨σ', g⟩
    · rw [if_neg c] at hc; exact absurd rfl hc
set_option maxHeartbeats 400000 in
theorem yS_23 (i : okI (yW T0) par L mn Q pc (aSh D.1)) (hw : yW T0 pc = 23) (hi : yIn T0 pc) (ok : aOk sd rm D) (hrm : rm ≤ 400) (hq : (D.1 ++ D.2.1.flatten).length ≤ 1250) (h : yM T0 T sd rm 1 (pc, rets, D)) (hc : ¬ (aSw (yW T0) par fa sd rm pc rets D 23).1 = 99) (hP : ∀ T', yM T0 T' sd rm (aSw (yW T0) par fa sd rm pc rets D 23).1 (aSw (yW T0) par fa sd rm pc rets D 23).2 → P none T') : mv_big layY sysY (d + 7) 58 [.ref 0] T P := by
  obtain ⟨K, Ks, vs, mp, told, most, st⟩ := D
  obtain ⟨σ, hA⟩ := h
  have hA : yA T0 T σ sd rm pc 1 rets K Ks vs mp told most := hA
  obtain ⟨⟨hl, e⟩, q⟩ := okI_23 i hw
  obtain ⟨a0, K, rfl, e⟩ := aSh_f (K := K) e
  obtain ⟨T1, q1, K, rfl, e⟩ := aSh_t (K := K) e
  have hq : (K ++ Ks.flatten).length + 2 ≤ 1250 := hq
  have lvr : aLv (aHd (.inl a0 :: .inr (T1, q1) :: K, Ks, vs, mp, told, most, st)) ≤ rm := ok.2.2
  obtain ⟨Ln, hLn⟩ := aNs_ex (.inl a0 :: .inr (T1, q1) :: K, Ks, vs, mp, told, most, st)
  have lv := aLv_eq hLn
  have hst : ∀ U' c, yRt T ((.inl a0 :: .inr (T1, q1) :: K) ++ Ks.flatten) Ks.length mp U' c → tSt (fun s => s < st) U' := fun U' c z => (ok.1 U' (by rw [← yRt_hd (T := T)]; exact ⟨c, z⟩)).2.2
  rw [← yRt_hd (T := T)] at hLn
  have hc : ¬ (aMk rm (tWtN (xRank sd) a0 T1) (tWt (xRank sd) st a0 T1) K (.inl a0 :: .inr (T1, q1) :: K, Ks, vs, mp, told, most, st)).1 = 99 := hc
  have hP : ∀ T', yM T0 T' sd rm (aMk rm (tWtN (xRank sd) a0 T1) (tWt (xRank sd) st a0 T1) K (.inl a0 :: .inr (T1, q1) :: K, Ks, vs, mp, told, most, st)).1 (pc + 1, rets, (aMk rm (tWtN (xRank sd) a0 T1) (tWt (xRank sd) st a0 T1) K (.inl a0 :: .inr (T1, q1) :: K, Ks, vs, mp, told, most, st)).2) → P none T' := hP
  rw [aMk_eq] at hc hP
  have d1 : aHd (.inl a0 :: .inr (T1, q1) :: K, Ks, vs, mp, told, most, st) T1 := aHd_in (m := (T1, q1)) List.mem_cons_self
  have n1 := aN_le d1 (ok.1 T1 d1).1
  refine y_pf23 (st := st) hA hi hw (ok.1 T1 d1).1 (by omega) hrm hst hLn (by omega) ok.2.1 (by omega) (fun z T' g => hP T' ?_) (fun z T' σ' g => hP T' ?_)
  · rw [if_neg (by omega)]; exact ⟨σ, g⟩
  · rw [if_pos (by omega)] at hc ⊢
    by_cases c : aLv (aHd (.inr (tWt (xRank sd) st a0 T1, none) :: K, Ks, vs, mp, told, max most (tWtN (xRank sd) a0 T1), st + 1)) ≤ rm
    · rw [if_pos c]; exact ⟨σ', g⟩
    · rw [if_neg c] at hc; exact absurd rfl hc
set_option maxHeartbeats 400000 in
theorem yS_24 (i : okI (yW T0) par L mn Q pc (aSh D.1)) (hw : yW T0 pc = 24) (hi : yIn T0 pc) (ok : aOk sd rm D) (hrm : rm ≤ 400) (hq : (D.1 ++ D.2.1.flatten).length ≤ 1250) (h : yM T0 T sd rm 1 (pc, rets, D)) (hc : ¬ (aSw (yW T0) par fa sd rm pc rets D 24).1 = 99) (hP : ∀ T', yM T0 T' sd rm (aSw (yW T0) par fa sd rm pc rets D 24).1 (aSw (yW T0) par fa sd rm pc rets D 24).2 → P none T') : mv_big layY sysY (d + 7) 58 [.ref 0] T P := by
  obtain ⟨K, Ks, vs, mp, told, most, st⟩ := D
  obtain ⟨σ, hA⟩ := h
  have hA : yA T0 T σ sd rm pc 1 rets K Ks vs mp told most := hA
  obtain ⟨⟨hl, e⟩, q⟩ := okI_24 i hw
  obtain ⟨U0, q0, K, rfl, e⟩ := aSh_t (K := K) e
  obtain ⟨T1, q1, K, rfl, e⟩ := aSh_t (K := K) e
  have hq : (K ++ Ks.flatten).length + 2 ≤ 1250 := hq
  have lvr : aLv (aHd (.inr (U0, q0) :: .inr (T1, q1) :: K, Ks, vs, mp, told, most, st)) ≤ rm := ok.2.2
  obtain ⟨Ln, hLn⟩ := aNs_ex (.inr (U0, q0) :: .inr (T1, q1) :: K, Ks, vs, mp, told, most, st)
  have lv := aLv_eq hLn
  have hst : ∀ U' c, yRt T ((.inr (U0, q0) :: .inr (T1, q1) :: K) ++ Ks.flatten) Ks.length mp U' c → tSt (fun s => s < st) U' := fun U' c z => (ok.1 U' (by rw [← yRt_hd (T := T)]; exact ⟨c, z⟩)).2.2
  rw [← yRt_hd (T := T)] at hLn
  have hc : ¬ (aMk rm (tUnN (xRank sd) st 801 T1 U0) (tUn (xRank sd) st 801 T1 U0) K (.inr (U0, q0) :: .inr (T1, q1) :: K, Ks, vs, mp, told, most, st)).1 = 99 := hc
  have hP : ∀ T', yM T0 T' sd rm (aMk rm (tUnN (xRank sd) st 801 T1 U0) (tUn (xRank sd) st 801 T1 U0) K (.inr (U0, q0) :: .inr (T1, q1) :: K, Ks, vs, mp, told, most, st)).1 (pc + 1, rets, (aMk rm (tUnN (xRank sd) st 801 T1 U0) (tUn (xRank sd) st 801 T1 U0) K (.inr (U0, q0) :: .inr (T1, q1) :: K, Ks, vs, mp, told, most, st)).2) → P none T' := hP
  rw [aMk_eq] at hc hP
  have d0 : aHd (.inr (U0, q0) :: .inr (T1, q1) :: K, Ks, vs, mp, told, most, st) U0 := aHd_in (m := (U0, q0)) List.mem_cons_self
  have d1 : aHd (.inr (U0, q0) :: .inr (T1, q1) :: K, Ks, vs, mp, told, most, st) T1 := aHd_in (m := (T1, q1)) (List.mem_cons_of_mem _ List.mem_cons_self)
  have n0 := aN_le d0 (ok.1 U0 d0).1
  have n1 := aN_le d1 (ok.1 T1 d1).1
  refine y_pf24 (st := st) hA hi hw (ok.1 T1 d1).1 (ok.1 U0 d0).1 (by omega) (ok.1 U0 d0).2.1 hrm hst hLn (by omega) ok.2.1 (by omega) (fun z T' g => hP T' ?_) (fun z T' σ' g => hP T' ?_)
  · rw [if_neg (by omega)]; exact ⟨σ, g⟩
  · rw [if_pos (by omega)] at hc ⊢
    by_cases c : aLv (aHd (.inr (tUn (xRank sd) st 801 T1 U0, none) :: K, Ks, vs, mp, told, max most (tUnN (xRank sd) st 801 T1 U0), st + 1)) ≤ rm
    · rw [if_pos c]; exact ⟨σ', g⟩
    · rw [if_neg c] at hc; exact absurd rfl hc
set_option maxHeartbeats 400000 in
theorem yS_25 (i : okI (yW T0) par L mn Q pc (aSh D.1)) (hw : yW T0 pc = 25) (hi : yIn T0 pc) (ok : aOk sd rm D) (hrm : rm ≤ 400) (hq : (D.1 ++ D.2.1.flatten).length ≤ 1250) (h : yM T0 T sd rm 1 (pc, rets, D)) (hc : ¬ (aSw (yW T0) par fa sd rm pc rets D 25).1 = 99) (hP : ∀ T', yM T0 T' sd rm (aSw (yW T0) par fa sd rm pc rets D 25).1 (aSw (yW T0) par fa sd rm pc rets D 25).2 → P none T') : mv_big layY sysY (d + 7) 58 [.ref 0] T P := by
  obtain ⟨K, Ks, vs, mp, told, most, st⟩ := D
  obtain ⟨σ, hA⟩ := h
  have hA : yA T0 T σ sd rm pc 1 rets K Ks vs mp told most := hA
  obtain ⟨⟨hl, e⟩, q⟩ := okI_25 i (Or.inl hw)
  obtain ⟨a0, K, rfl, e⟩ := aSh_f (K := K) e
  obtain ⟨T1, q1, K, rfl, e⟩ := aSh_t (K := K) e
  have hq : (K ++ Ks.flatten).length + 2 ≤ 1250 := hq
  exact mv_deep (d := d + 6) (by omega) (y_pf25 hA hi hw (by omega) (fun T' g => hP T' ⟨σ, g⟩))
set_option maxHeartbeats 400000 in
theorem yS_26 (i : okI (yW T0) par L mn Q pc (aSh D.1)) (hw : yW T0 pc = 26) (hi : yIn T0 pc) (ok : aOk sd rm D) (hrm : rm ≤ 400) (hq : (D.1 ++ D.2.1.flatten).length ≤ 1250) (h : yM T0 T sd rm 1 (pc, rets, D)) (hc : ¬ (aSw (yW T0) par fa sd rm pc rets D 26).1 = 99) (hP : ∀ T', yM T0 T' sd rm (aSw (yW T0) par fa sd rm pc rets D 26).1 (aSw (yW T0) par fa sd rm pc rets D 26).2 → P none T') : mv_big layY sysY (d + 7) 58 [.ref 0] T P := by
  obtain ⟨K, Ks, vs, mp, told, most, st⟩ := D
  obtain ⟨σ, hA⟩ := h
  have hA : yA T0 T σ sd rm pc 1 rets K Ks vs mp told most := hA
  obtain ⟨⟨hl, e⟩, q⟩ := okI_25 i (Or.inr hw)
  obtain ⟨a0, K, rfl, e⟩ := aSh_f (K := K) e
  obtain ⟨T1, q1, K, rfl, e⟩ := aSh_t (K := K) e
  have hq : (K ++ Ks.flatten).length + 2 ≤ 1250 := hq
  exact mv_deep (d := d + 6) (by omega) (y_pf26 hA hi hw (by omega) (fun T' g => hP T' ⟨σ, g⟩))
set_option maxHeartbeats 400000 in
theorem yS_27 (i : okI (yW T0) par L mn Q pc (aSh D.1)) (hw : yW T0 pc = 27) (hi : yIn T0 pc) (ok : aOk sd rm D) (hrm : rm ≤ 400) (hq : (D.1 ++ D.2.1.flatten).length ≤ 1250) (h : yM T0 T sd rm 1 (pc, rets, D)) (hc : ¬ (aSw (yW T0) par fa sd rm pc rets D 27).1 = 99) (hP : ∀ T', yM T0 T' sd rm (aSw (yW T0) par fa sd rm pc rets D 27).1 (aSw (yW T0) par fa sd rm pc rets D 27).2 → P none T') : mv_big layY sysY (d + 7) 58 [.ref 0] T P := by
  obtain ⟨K, Ks, vs, mp, told, most, st⟩ := D
  obtain ⟨σ, hA⟩ := h
  have hA : yA T0 T σ sd rm pc 1 rets K Ks vs mp told most := hA
  obtain ⟨⟨hl, e⟩, q⟩ := okI_27 i hw
  obtain ⟨U0, q0, K, rfl, e⟩ := aSh_t (K := K) e
  have hq : (K ++ Ks.flatten).length + 1 ≤ 1250 := hq
  have hd : aHd (.inr (U0, q0) :: K, Ks, vs, mp, told, most, st) U0 := aHd_in (m := (U0, q0)) List.mem_cons_self
  have hn := aN_le hd (ok.1 U0 hd).1
  have lv := ok.2.2
  exact mv_deep (d := d + 6) (by omega) (y_pf27 hA hi hw (by omega) (by omega) (fun T' g => hP T' ⟨σ, g⟩))
set_option maxHeartbeats 400000 in
theorem yS_28 (i : okI (yW T0) par L mn Q pc (aSh D.1)) (hw : yW T0 pc = 28) (hi : yIn T0 pc) (ok : aOk sd rm D) (hrm : rm ≤ 400) (hq : (D.1 ++ D.2.1.flatten).length ≤ 1250) (h : yM T0 T sd rm 1 (pc, rets, D)) (hc : ¬ (aSw (yW T0) par fa sd rm pc rets D 28).1 = 99) (hP : ∀ T', yM T0 T' sd rm (aSw (yW T0) par fa sd rm pc rets D 28).1 (aSw (yW T0) par fa sd rm pc rets D 28).2 → P none T') : mv_big layY sysY (d + 7) 58 [.ref 0] T P := by
  obtain ⟨K, Ks, vs, mp, told, most, st⟩ := D
  obtain ⟨σ, hA⟩ := h
  have hA : yA T0 T σ sd rm pc 1 rets K Ks vs mp told most := hA
  obtain ⟨⟨hl, e⟩, q⟩ := okI_28 i hw
  obtain ⟨a0, K, rfl, e⟩ := aSh_f (K := K) e
  obtain ⟨a1, K, rfl, e⟩ := aSh_f (K := K) e
  obtain ⟨T2, q2, K, rfl, e⟩ := aSh_t (K := K) e
  have hq : (K ++ Ks.flatten).length + 3 ≤ 1250 := hq
  exact mv_deep (d := d + 6) (by omega) (y_pf28 hA hi hw (by omega) (fun T' g => hP T' ⟨σ, g⟩))
set_option maxHeartbeats 400000 in
theorem yS_0 (i : okI (yW T0) par L mn Q pc (aSh D.1)) (hw : yW T0 pc = 0) (hi : yIn T0 pc) (ok : aOk sd rm D) (hrm : rm ≤ 400) (hq : (D.1 ++ D.2.1.flatten).length ≤ 1250) (h : yM T0 T sd rm 1 (pc, rets, D)) (hc : ¬ (aSw (yW T0) par fa sd rm pc rets D 0).1 = 99) (hP : ∀ T', yM T0 T' sd rm (aSw (yW T0) par fa sd rm pc rets D 0).1 (aSw (yW T0) par fa sd rm pc rets D 0).2 → P none T') : mv_big layY sysY (d + 7) 58 [.ref 0] T P := by
  obtain ⟨K, Ks, vs, mp, told, most, st⟩ := D
  obtain ⟨σ, hA⟩ := h
  have hA : yA T0 T σ sd rm pc 1 rets K Ks vs mp told most := hA
  exact mv_deep (d := d + 6) (by omega) (y_pf0 hA hi hw (fun T' g => hP T' ⟨σ, g⟩))
set_option maxHeartbeats 400000 in
theorem yS_30 (i : okI (yW T0) par L mn Q pc (aSh D.1)) (hw : yW T0 pc = 30) (hi : yIn T0 pc) (ok : aOk sd rm D) (hrm : rm ≤ 400) (hq : (D.1 ++ D.2.1.flatten).length ≤ 1250) (h : yM T0 T sd rm 1 (pc, rets, D)) (hc : ¬ (aSw (yW T0) par fa sd rm pc rets D 30).1 = 99) (hP : ∀ T', yM T0 T' sd rm (aSw (yW T0) par fa sd rm pc rets D 30).1 (aSw (yW T0) par fa sd rm pc rets D 30).2 → P none T') : mv_big layY sysY (d + 7) 58 [.ref 0] T P := by
  obtain ⟨K, Ks, vs, mp, told, most, st⟩ := D
  obtain ⟨σ, hA⟩ := h
  have hA : yA T0 T σ sd rm pc 1 rets K Ks vs mp told most := hA
  exact mv_deep (d := d + 6) (by omega) (y_pf30 hA hi hw (fun T' g => hP T' ⟨σ, g⟩))
set_option maxHeartbeats 400000 in
theorem yS_12 (i : okI (yW T0) par L mn Q pc (aSh D.1)) (hw : yW T0 pc = 12) (hi : yIn T0 pc) (ok : aOk sd rm D) (hrm : rm ≤ 400) (hq : (D.1 ++ D.2.1.flatten).length ≤ 1250) (h : yM T0 T sd rm 1 (pc, rets, D)) (hc : ¬ (aSw (yW T0) par fa sd rm pc rets D 12).1 = 99) (hP : ∀ T', yM T0 T' sd rm (aSw (yW T0) par fa sd rm pc rets D 12).1 (aSw (yW T0) par fa sd rm pc rets D 12).2 → P none T') : mv_big layY sysY (d + 7) 58 [.ref 0] T P := by
  obtain ⟨K, Ks, vs, mp, told, most, st⟩ := D
  obtain ⟨σ, hA⟩ := h
  have hA : yA T0 T σ sd rm pc 1 rets K Ks vs mp told most := hA
  obtain ⟨⟨_, h0⟩, _⟩ := okI_12 i hw
  exact mv_deep (d := d + 6) (by omega) (y_pf12 hA hi hw (aN_of0 h0) (fun T' g => hP T' ⟨σ, g⟩))
set_option maxHeartbeats 400000 in
theorem yS_13 (i : okI (yW T0) par L mn Q pc (aSh D.1)) (hw : yW T0 pc = 13) (hi : yIn T0 pc) (ok : aOk sd rm D) (hrm : rm ≤ 400) (hq : (D.1 ++ D.2.1.flatten).length ≤ 1250) (h : yM T0 T sd rm 1 (pc, rets, D)) (hc : ¬ (aSw (yW T0) par fa sd rm pc rets D 13).1 = 99) (hP : ∀ T', yM T0 T' sd rm (aSw (yW T0) par fa sd rm pc rets D 13).1 (aSw (yW T0) par fa sd rm pc rets D 13).2 → P none T') : mv_big layY sysY (d + 7) 58 [.ref 0] T P := by
  obtain ⟨K, Ks, vs, mp, told, most, st⟩ := D
  obtain ⟨σ, hA⟩ := h
  have hA : yA T0 T σ sd rm pc 1 rets K Ks vs mp told most := hA
  obtain ⟨⟨_, h0, e⟩, _⟩ := okI_13 i (Or.inl hw)
  obtain ⟨a0, K, rfl, e⟩ := aSh_f (K := K) e
  have hq : (K ++ Ks.flatten).length + 1 ≤ 1250 := hq
  exact mv_deep (d := d + 6) (by omega) (y_pf13 hA hi hw (aN_of0 h0) (by omega) (fun T' g => hP T' ⟨σ, g⟩))
set_option maxHeartbeats 400000 in
theorem yS_14 (i : okI (yW T0) par L mn Q pc (aSh D.1)) (hw : yW T0 pc = 14) (hi : yIn T0 pc) (ok : aOk sd rm D) (hrm : rm ≤ 400) (hq : (D.1 ++ D.2.1.flatten).length ≤ 1250) (h : yM T0 T sd rm 1 (pc, rets, D)) (hc : ¬ (aSw (yW T0) par fa sd rm pc rets D 14).1 = 99) (hP : ∀ T', yM T0 T' sd rm (aSw (yW T0) par fa sd rm pc rets D 14).1 (aSw (yW T0) par fa sd rm pc rets D 14).2 → P none T') : mv_big layY sysY (d + 7) 58 [.ref 0] T P := by
  obtain ⟨K, Ks, vs, mp, told, most, st⟩ := D
  obtain ⟨σ, hA⟩ := h
  have hA : yA T0 T σ sd rm pc 1 rets K Ks vs mp told most := hA
  obtain ⟨⟨_, h0, e⟩, _⟩ := okI_13 i (Or.inr hw)
  obtain ⟨a0, K, rfl, e⟩ := aSh_f (K := K) e
  have hq : (K ++ Ks.flatten).length + 1 ≤ 1250 := hq
  exact mv_deep (d := d + 6) (by omega) (y_pf14 hA hi hw (aN_of0 h0) (by omega) (fun T' g => hP T' ⟨σ, g⟩))
set_option maxHeartbeats 400000 in
theorem yS_29 (i : okI (yW T0) par L mn Q pc (aSh D.1)) (hw : yW T0 pc = 29) (hi : yIn T0 pc) (ok : aOk sd rm D) (hrm : rm ≤ 400) (hq : (D.1 ++ D.2.1.flatten).length ≤ 1250) (h : yM T0 T sd rm 1 (pc, rets, D)) (hc : ¬ (aSw (yW T0) par fa sd rm pc rets D 29).1 = 99) (hP : ∀ T', yM T0 T' sd rm (aSw (yW T0) par fa sd rm pc rets D 29).1 (aSw (yW T0) par fa sd rm pc rets D 29).2 → P none T') : mv_big layY sysY (d + 7) 58 [.ref 0] T P := by
  obtain ⟨K, Ks, vs, mp, told, most, st⟩ := D
  obtain ⟨σ, hA⟩ := h
  have hA : yA T0 T σ sd rm pc 1 rets K Ks vs mp told most := hA
  obtain ⟨⟨_, h1, h2, h3, h4, h5, e⟩, _⟩ := okI_29 i hw
  obtain ⟨U, q, K, rfl, e⟩ := aSh_t (K := K) e
  have hq : (K ++ Ks.flatten).length + 1 ≤ 1250 := hq
  obtain ⟨v1, v2⟩ := aN_of (n := 14) rfl (by decide) h1 h2
  obtain ⟨v3, v4⟩ := aN_of (n := 14) rfl (by decide) h3 h4
  have hP : ∀ T', yM T0 T' sd rm (tSel (tNx q U) ((1 : Int32), (((yW T0 (pc + 3)).toNatClampNeg, rets, K, Ks, vs, mp, told, most, st) : aMs)) (1, pc + 4, rets, aCo (yW T0 (pc + 1)).toNatClampNeg (yW T0 (pc + 2)).toNatClampNeg (.inr (U, q) :: K, Ks, vs, mp, told, most, st))).1 (tSel (tNx q U) ((1 : Int32), (((yW T0 (pc + 3)).toNatClampNeg, rets, K, Ks, vs, mp, told, most, st) : aMs)) (1, pc + 4, rets, aCo (yW T0 (pc + 1)).toNatClampNeg (yW T0 (pc + 2)).toNatClampNeg (.inr (U, q) :: K, Ks, vs, mp, told, most, st))).2 → P none T' := hP
  refine mv_deep (d := d + 6) (by omega) (y_pf29 hA hi hw v1 v2 v3 v4 (aN_of0 h5) (by omega) (fun z T' g => hP T' ?_) (fun z T' g => hP T' ?_))
  · rw [tSel_l z]; exact ⟨σ, g⟩
  · rw [tSel_n z]; exact ⟨σ, g⟩
set_option maxHeartbeats 400000 in
theorem yS_17 {w : Nat} (i : okI (yW T0) par L Ks.isEmpty Q pc (aSh K)) (hw : yW T0 pc = 17) (hi : yIn T0 pc) (fr : aFr (yW T0) par w rets Ks) (hq : (K ++ Ks.flatten).length ≤ 1250) (h : yM T0 T sd rm 1 (pc, rets, K, Ks, vs, mp, told, most, st)) (hP : ∀ T', yM T0 T' sd rm (aSw (yW T0) par fa sd rm pc rets (K, Ks, vs, mp, told, most, st) 17).1 (aSw (yW T0) par fa sd rm pc rets (K, Ks, vs, mp, told, most, st) 17).2 → P none T') : mv_big layY sysY (d + 7) 58 [.ref 0] T P := by
  obtain ⟨σ, hA⟩ := h
  have hA : yA T0 T σ sd rm pc 1 rets K Ks vs mp told most := hA
  obtain ⟨_, hm, e⟩ := okI_17 i hw
  obtain ⟨a0, K, rfl, e⟩ := aSh_f (K := K) e
  have hq : (K ++ Ks.flatten).length + 1 ≤ 1250 := hq
  match Ks, rets, fr, hm, hA, hq, hP with
  | K1 :: Ks, r :: rets, _, _, hA, hq, hP => exact mv_deep (d := d + 6) (by omega) (y_pf17 hA hi hw (by omega) (fun T' g => hP T' ⟨σ, g⟩))
  | [], _, _, hm, _, _, _ => exact absurd (show true = false from hm) (by decide)
  | _ :: _, [], fr, _, _, _, _ => exact fr.elim
theorem aTk {ps : List Int32} : (aNum ((ps.reverse.map Sum.inl ++ K).take ps.length)).reverse = ps ∧ (ps.reverse.map Sum.inl ++ K).drop ps.length = K := by
  have e : (ps.reverse.map (Sum.inl : Int32 → aI)).length = ps.length := by simp
  constructor
  · rw [← e, List.take_left]
    have := (aNum_inl ps.reverse []).1
    rw [List.append_nil] at this
    rw [this]
    simp [aNum]
  · rw [← e, List.drop_left]
set_option maxHeartbeats 400000 in
theorem yS_16 (i : okI (yW T0) par L mn Q pc (aSh K)) (hw : yW T0 pc = 16) (hi : yIn T0 pc) (hpar : ∀ f, f < 8 → ¬ par f = -1 → T0.2.1 5 f = par f) (hfa : ∀ f, f < 8 → ¬ par f = -1 → (if T0.1 0 55 = 0 then T0.2.1 6 f else T0.2.1 7 f) = nI (fa f)) (hq : (K ++ Ks.flatten).length ≤ 1250) (h : yM T0 T sd rm 1 (pc, rets, K, Ks, vs, mp, told, most, st)) (hP : ∀ T', yM T0 T' sd rm (aSw (yW T0) par fa sd rm pc rets (K, Ks, vs, mp, told, most, st) 16).1 (aSw (yW T0) par fa sd rm pc rets (K, Ks, vs, mp, told, most, st) 16).2 → P none T') : mv_big layY sysY (d + 7) 58 [.ref 0] T P := by
  obtain ⟨σ, hA⟩ := h
  have hA : yA T0 T σ sd rm pc 1 rets K Ks vs mp told most := hA
  obtain ⟨⟨_, hf, p0, p3, e⟩, _⟩ := okI_16 i hw
  obtain ⟨v1, v2⟩ := aN_of (n := 8) rfl (by decide) hf.1 hf.2.1
  obtain ⟨m1, m2⟩ := aN_of (x := par (yW T0 (pc + 1)).toNatClampNeg) (c := 4) (n := 4) rfl (by decide) p0 (Int32.lt_of_le_of_lt p3 (by decide))
  obtain ⟨ps0, R, e1, rfl, e3⟩ := aSh_n _ e
  obtain ⟨ps, rfl⟩ : ∃ ps : List Int32, ps0 = ps.reverse := ⟨ps0.reverse, by simp⟩
  rw [List.length_reverse] at e1
  obtain ⟨t1, t2⟩ := aTk (K := R) (ps := ps)
  have hP : ∀ T', yM T0 T' sd rm (if Ks.length = 24 then ((3 : Int32), ((pc + 2, rets, ps.reverse.map Sum.inl ++ R, Ks, vs, mp, told, most, st) : aMs)) else (1, fa (yW T0 (pc + 1)).toNatClampNeg, (pc + 2) :: rets, aEnt (par (yW T0 (pc + 1)).toNatClampNeg).toNatClampNeg (ps.reverse.map Sum.inl ++ R, Ks, vs, mp, told, most, st))).1 (if Ks.length = 24 then ((3 : Int32), ((pc + 2, rets, ps.reverse.map Sum.inl ++ R, Ks, vs, mp, told, most, st) : aMs)) else (1, fa (yW T0 (pc + 1)).toNatClampNeg, (pc + 2) :: rets, aEnt (par (yW T0 (pc + 1)).toNatClampNeg).toNatClampNeg (ps.reverse.map Sum.inl ++ R, Ks, vs, mp, told, most, st))).2 → P none T' := hP
  rw [List.length_append, List.length_append] at hq
  refine mv_deep (d := d + 6) (by omega) (y_pf16 hA hi hw v1 v2 (by rw [hpar _ v2 hf.2.2, m1, e1]) (by omega) (hfa _ v2 hf.2.2) (by rw [List.length_append]; omega) (fun z T' g => hP T' ?_) (fun z T' g => hP T' ?_))
  · rw [if_pos z]; exact ⟨σ, g⟩
  · rw [if_neg (by omega), ← e1]
    refine ⟨σ, ?_⟩
    show yA T0 T' σ sd rm (fa (yW T0 (pc + 1)).toNatClampNeg) 1 ((pc + 2) :: rets) [] ((ps.reverse.map Sum.inl ++ R).drop ps.length :: Ks) (aEn Ks.length vs (aOw (aNum ((ps.reverse.map Sum.inl ++ R).take ps.length)).reverse)) (aEm Ks.length mp) told most
    rw [t1, t2]; exact g
/-- a step of the reference -/
theorem y_perf (hpar : ∀ f, f < 8 → ¬ par f = -1 → T0.2.1 5 f = par f) (hfa : ∀ f, f < 8 → ¬ par f = -1 → (if T0.1 0 55 = 0 then T0.2.1 6 f else T0.2.1 7 f) = nI (fa f)) (hin : ∀ p, p < L → yIn T0 p) (hrm : rm ≤ 400) (hv : aInv (yW T0) par L sd rm s) (h : yM T0 T sd rm 1 s) (hc : ¬ (aSt (yW T0) par fa sd rm s).1 = 99) (hP : ∀ T', yM T0 T' sd rm (aSt (yW T0) par fa sd rm s).1 (aSt (yW T0) par fa sd rm s).2 → P none T') : mv_big layY sysY (d + 7) 58 [.ref 0] T P := by
  obtain ⟨k, hk, hw⟩ := aInv_k hv
  have hq := (aInv_b hv).2.2
  rw [aSt_k hw hk] at hc hP
  obtain ⟨pc, rets, K, Ks, vs, mp, told, most, st⟩ := s
  have i := tyA_i hv.1
  have ok := hv.2.2.2
  have hi : yIn T0 pc := by
    refine hin pc ?_
    have := okI_len i hw hk
    have := aWl_pos k
    omega
  match k, hk, hw, hc, hP with
  | 0, _, hw, hc, hP => exact yS_0 i hw hi ok hrm hq h hc hP
  | 1, _, hw, hc, hP => exact yS_1 i hw hi ok hrm hq h hc hP
  | 2, _, hw, hc, hP => exact yS_2 i hw hi ok hrm hq h hc hP
  | 3, _, hw, hc, hP => exact yS_3 i hw hi ok hrm hq h hc hP
  | 4, _, hw, hc, hP => exact yS_4 i hw hi ok hrm hq h hc hP
  | 5, _, hw, hc, hP => exact yS_5 i hw hi ok hrm hq h hc hP
  | 6, _, hw, hc, hP => exact yS_6 i hw hi ok hrm hq h hc hP
  | 7, _, hw, hc, hP => exact yS_7 i hw hi ok hrm hq h hc hP
  | 8, _, hw, hc, hP => exact yS_8 i hw hi ok hrm hq h hc hP
  | 9, _, hw, hc, hP => exact yS_9 i hw hi ok hrm hq h hc hP
  | 10, _, hw, hc, hP => exact yS_10 i hw hi ok hrm hq h hc hP
  | 11, _, hw, hc, hP => exact yS_11 i hw hi ok hrm hq h hc hP
  | 12, _, hw, hc, hP => exact yS_12 i hw hi ok hrm hq h hc hP
  | 13, _, hw, hc, hP => exact yS_13 i hw hi ok hrm hq h hc hP
  | 14, _, hw, hc, hP => exact yS_14 i hw hi ok hrm hq h hc hP
  | 15, _, hw, hc, hP => exact yS_15 i hw hi ok hrm hq h hc hP
  | 16, _, hw, hc, hP => exact yS_16 i hw hi hpar hfa hq h hP
  | 17, _, hw, hc, hP => exact yS_17 i hw hi hv.2.1 hq h hP
  | 18, _, hw, hc, hP => exact yS_18 i hw hi ok hrm hq h hc hP
  | 19, _, hw, hc, hP => exact yS_19 i hw hi ok hrm hq h hc hP
  | 20, _, hw, hc, hP => exact yS_20 i hw hi ok hrm hq h hc hP
  | 21, _, hw, hc, hP => exact yS_21 i hw hi ok hrm hq h hc hP
  | 22, _, hw, hc, hP => exact yS_22 i hw hi ok hrm hq h hc hP
  | 23, _, hw, hc, hP => exact yS_23 i hw hi ok hrm hq h hc hP
  | 24, _, hw, hc, hP => exact yS_24 i hw hi ok hrm hq h hc hP
  | 25, _, hw, hc, hP => exact yS_25 i hw hi ok hrm hq h hc hP
  | 26, _, hw, hc, hP => exact yS_26 i hw hi ok hrm hq h hc hP
  | 27, _, hw, hc, hP => exact yS_27 i hw hi ok hrm hq h hc hP
  | 28, _, hw, hc, hP => exact yS_28 i hw hi ok hrm hq h hc hP
  | 29, _, hw, hc, hP => exact yS_29 i hw hi ok hrm hq h hc hP
  | 30, _, hw, hc, hP => exact yS_30 i hw hi ok hrm hq h hc hP
  | k + 31, hk, _, _, _ => omega
end YM

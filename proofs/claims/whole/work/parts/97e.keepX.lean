/-! THE CLASS KEEPS WHAT IT MADE: the store put together anew -/
theorem nd_sub {α : Type} [DecidableEq α] : ∀ {V W : List α}, V.Nodup → (∀ i, i ∈ V → i ∈ W) → V.length ≤ W.length
  | [], _, _, _ => Nat.zero_le _
  | x :: t, W, nd, h => by
    obtain ⟨h1, h2⟩ := List.nodup_cons.mp nd
    have hx := h x (List.mem_cons_self ..)
    have e := List.length_erase_of_mem hx
    have q := nd_sub (W := W.erase x) h2 (fun i hi => (List.mem_erase_of_ne (fun e => h1 (by rw [← e]; exact hi))).mpr (h i (List.mem_cons_of_mem _ hi)))
    have : 0 < W.length := List.length_pos_of_mem hx
    rw [List.length_cons]
    omega
section XA
variable {S0 S S' : mv_S} {σ σ' : Nat → Nat} {sd : Int32} {rm fb fb' B B' : Nat} {rets : List Nat} {K : List aI} {Ks : List (List aI)} {vs : Nat → Int32} {mp : Nat → tT} {told : List Int32} {most most' : Nat}
/-- another row of free cells, other steps, other cells beside -/
theorem xCl_re {fr fr2 : Nat → Int32} {fc fc2 : Nat} {H : Bool → Nat → Prop} : ∀ {T : tT} {c : Int32}, xCl fr fc H S σ sd T c → (∀ i, i ∈ hCs (S.2.1 18) (S.2.1 19) T c → ¬ xIn fr2 fc2 i ∧ σ' i = σ i ∧ ∀ o, 15 ≤ o → o ≤ 19 → S'.2.1 o i = S.2.1 o i) → xCl fr2 fc2 xNo S' σ' sd T c
  | .leaf, _, h, _ => h
  | .inner s k v l r, c, h, g => by
    obtain ⟨i, i1, i2, rfl, i4, i5, i6, i7, i8, i9, i10, i11⟩ := h
    have ei : (nI i).toNatClampNeg = i := nI_clamp (by omega)
    simp only [hCs, ei] at g
    obtain ⟨g1, g2, g3⟩ := g i (List.mem_cons_self ..)
    refine ⟨i, i1, i2, rfl, g1, fun b z => z, g2.trans i6, (g3 15 (by decide) (by decide)).trans i7, (g3 16 (by decide) (by decide)).trans i8, (g3 17 (by decide) (by decide)).trans i9, ?_, ?_⟩
    · rw [g3 18 (by decide) (by decide)]; exact xCl_re i10 (fun j hj => g j (List.mem_cons_of_mem _ (List.mem_append.mpr (Or.inl hj))))
    · rw [g3 19 (by decide) (by decide)]; exact xCl_re i11 (fun j hj => g j (List.mem_cons_of_mem _ (List.mem_append.mpr (Or.inr hj))))
theorem xCl_cs {fr : Nat → Int32} {fc : Nat} {H : Bool → Nat → Prop} : ∀ {T : tT} {c : Int32}, xCl fr fc H S σ sd T c → ∀ i, i ∈ hCs (S.2.1 18) (S.2.1 19) T c → 1 ≤ i ∧ i ≤ 800 ∧ ¬ xIn fr fc i
  | .leaf, _, _, i, hi => by cases hi
  | .inner s k v l r, c, h, j, hj => by
    obtain ⟨i, i1, i2, rfl, i4, i5, i6, i7, i8, i9, i10, i11⟩ := h
    have ei : (nI i).toNatClampNeg = i := nI_clamp (by omega)
    simp only [hCs, ei] at hj
    rcases List.mem_cons.mp hj with rfl | hj
    · exact ⟨i1, i2, i4⟩
    · rcases List.mem_append.mp hj with hj | hj
      · exact xCl_cs i10 j hj
      · exact xCl_cs i11 j hj
/-- cells of a tree whose cells stay as they are -/
theorem xCs_re {fr : Nat → Int32} {fc : Nat} {H : Bool → Nat → Prop} : ∀ {T : tT} {c : Int32}, xCl fr fc H S σ sd T c → (∀ i, i ∈ hCs (S.2.1 18) (S.2.1 19) T c → S'.2.1 18 i = S.2.1 18 i ∧ S'.2.1 19 i = S.2.1 19 i) → hCs (S'.2.1 18) (S'.2.1 19) T c = hCs (S.2.1 18) (S.2.1 19) T c
  | .leaf, _, _, _ => rfl
  | .inner s k v l r, c, h, g => by
    obtain ⟨i, i1, i2, rfl, i4, i5, i6, i7, i8, i9, i10, i11⟩ := h
    have ei : (nI i).toNatClampNeg = i := nI_clamp (by omega)
    simp only [hCs, ei] at g ⊢
    obtain ⟨g1, g2⟩ := g i (List.mem_cons_self ..)
    rw [g1, g2, xCs_re i10 (fun j hj => g j (List.mem_cons_of_mem _ (List.mem_append.mpr (Or.inl hj)))), xCs_re i11 (fun j hj => g j (List.mem_cons_of_mem _ (List.mem_append.mpr (Or.inr hj))))]
theorem xZs_cl : ∀ {Z : List (tT × Option Int32)} {T : tT} {c : Int32}, xZs S σ sd fb Z → xZr S Z T c → xCl (S.2.1 20) fb xNo S σ sd T c
  | (T, o) :: R, _, _, h, z => z.elim (fun y => by rw [y.1, y.2]; exact h.1.1) (fun y => xZs_cl h.2 y)
theorem xA_cl {T : tT} {c : Int32} (h : xA S0 S σ sd rm fb B rets K Ks vs mp told most) (z : xRt S (aMap (K ++ Ks.flatten)) Ks.length mp T c) : xCl (S.2.1 20) fb xNo S σ sd T c := by
  obtain ⟨a1, a2, a3, a4, a5, a6, a7, a8, a9, a10⟩ := h
  rcases z with ⟨i, i1, rfl, rfl⟩ | z
  · exact a7 i i1
  · exact xZs_cl a4.2 z
theorem xZs_re (r : ∀ p, S'.2.1 26 p = S.2.1 26 p) (l : S'.2.2 = S.2.2) : ∀ {Z : List (tT × Option Int32)}, xZs S σ sd fb Z → (∀ T c, xZr S Z T c → xCl (S'.2.1 20) fb' xNo S' σ' sd T c) → xZs S' σ' sd fb' Z
  | [], _, _ => trivial
  | (T, o) :: R, h, g => ⟨⟨by rw [r]; exact g T _ (Or.inl ⟨rfl, rfl⟩), by rw [l]; exact h.1.2⟩, xZs_re r l h.2 (fun T' c' z => g T' c' (Or.inr z))⟩
theorem xRt_re {Z : List (tT × Option Int32)} {n : Nat} (r24 : ∀ p, S'.2.1 24 p = S.2.1 24 p) (r26 : ∀ p, S'.2.1 26 p = S.2.1 26 p) {T : tT} {c : Int32} (z : xRt S' Z n mp T c) : xRt S Z n mp T c := by
  rcases z with ⟨i, i1, i2, i3⟩ | z
  · exact Or.inl ⟨i, i1, i2, by rw [i3, r24]⟩
  · exact Or.inr (xZr_go (fun p _ => r26 p) z)
theorem xA_re (h : xA S0 S σ sd rm fb B rets K Ks vs mp told most) (f : ∀ o f, o ≠ 3 → o ≠ 5 → ¬ (o = 4 ∧ f = 16) → S'.1 o f = S.1 o f) (r : ∀ o i, (o < 15 ∨ 23 ≤ o) → ¬ (32 ≤ o ∧ o ≤ 34) → S'.2.1 o i = S.2.1 o i) (l : S'.2.2 = S.2.2) (hp : xHp S' sd rm fb' B') (cl : ∀ T c, xRt S (aMap (K ++ Ks.flatten)) Ks.length mp T c → xCl (S'.2.1 20) fb' xNo S' σ' sd T c) (inj : hInj (S'.2.1 15) (S'.2.1 18) (S'.2.1 19) σ' (xRt S (aMap (K ++ Ks.flatten)) Ks.length mp)) (e16 : S'.1 4 16 = nI most') : xA S0 S' σ' sd rm fb' B' rets K Ks vs mp told most' := by
  obtain ⟨a1, a2, a3, a4, a5, a6, a7, a8, a9, a10⟩ := h
  have r24 : ∀ p, S'.2.1 24 p = S.2.1 24 p := fun p => r 24 p (by omega) (by omega)
  have r26 : ∀ p, S'.2.1 26 p = S.2.1 26 p := fun p => r 26 p (by omega) (by omega)
  refine ⟨⟨fun o g a b c => (f o g a c (by omega)).trans (a1.1 o g a b c), (f 4 15 (by omega) (by omega) (by omega)).trans a1.2.1, fun o i a => (r o i (by omega) (by omega)).trans (a1.2.2 o i a)⟩, hp, ⟨(f 4 11 (by omega) (by omega) (by omega)).trans a3.1, xNs_go (fun p _ => r 25 p (by omega) (by omega)) a3.2⟩, ⟨(f 4 12 (by omega) (by omega) (by omega)).trans a4.1, xZs_re r26 l a4.2 (fun T c z => cl T c (Or.inr z))⟩, ⟨(f 4 13 (by omega) (by omega) (by omega)).trans a5.1, a5.2.1, xBs_go (fun o i _ _ => r o i (by omega) (by omega)) a5.2.2⟩, fun i hi => (r 23 i (by omega) (by omega)).trans (a6 i hi), fun i hi => by rw [r24]; exact cl _ _ (Or.inl ⟨i, hi, rfl, rfl⟩), ⟨(f 4 14 (by omega) (by omega) (by omega)).trans a8.1, a8.2.1, fun p x hp => (r 31 p (by omega) (by omega)).trans (a8.2.2 p x hp)⟩, e16, ?_⟩
  intro T c T' c' i j h1 h2
  exact inj T c T' c' i j (xRt_re r24 r26 h1) (xRt_re r24 r26 h2)
/-- the live cells -/
def xLv (S : mv_S) (Z : List (tT × Option Int32)) (n : Nat) (mp : Nat → tT) (i : Nat) : Prop := ∃ T c, xRt S Z n mp T c ∧ i ∈ hCs (S.2.1 18) (S.2.1 19) T c
theorem xLv_list (h : xA S0 S σ sd rm fb B rets K Ks vs mp told most) : ∃ W : List Nat, W.Nodup ∧ (∀ i, i ∈ W ↔ xLv S (aMap (K ++ Ks.flatten)) Ks.length mp i) ∧ W.length + fb ≤ 800 := by
  classical
  have mem : ∀ i, i ∈ (List.range' 1 800).filter (fun i => decide (xLv S (aMap (K ++ Ks.flatten)) Ks.length mp i)) ↔ xLv S (aMap (K ++ Ks.flatten)) Ks.length mp i := fun i => by
    rw [List.mem_filter, List.mem_range'_1]
    constructor
    · exact fun z => of_decide_eq_true z.2
    · intro z
      obtain ⟨T, c, h1, h2⟩ := z
      have q := xCl_cs (xA_cl h h1) i h2
      exact ⟨by omega, decide_eq_true ⟨T, c, h1, h2⟩⟩
  have nd : ((List.range' 1 800).filter (fun i => decide (xLv S (aMap (K ++ Ks.flatten)) Ks.length mp i))).Nodup := List.Pairwise.filter _ List.nodup_range'
  refine ⟨_, nd, mem, ?_⟩
  obtain ⟨h1, h2, h3, h4, h5, h6, h7, h8, r, h9, h10⟩ := h.2.1
  have ndF : ((List.range fb).map (fun p => (S.2.1 20 p).toNatClampNeg)).Nodup := map_nodup List.nodup_range (fun p q hp hq e => by
    rw [List.mem_range] at hp hq
    obtain ⟨i, i1, i2, i3⟩ := h7 p hp
    obtain ⟨j, j1, j2, j3⟩ := h7 q hq
    rw [i3, j3, nI_clamp (by omega), nI_clamp (by omega)] at e
    exact h8 p q hp hq (by rw [i3, j3, e]))
  have all := nd_len 800 (V := (List.range' 1 800).filter (fun i => decide (xLv S (aMap (K ++ Ks.flatten)) Ks.length mp i)) ++ (List.range fb).map (fun p => (S.2.1 20 p).toNatClampNeg)) (List.nodup_append.mpr ⟨nd, ndF, fun a ha b hb e => ?_⟩) (fun i hi => ?_)
  · rw [List.length_append, List.length_map, List.length_range] at all; exact all
  · obtain ⟨T, c, g1, g2⟩ := (mem a).mp ha
    have q := xCl_cs (xA_cl h g1) a g2
    obtain ⟨p, p1, p2⟩ := List.mem_map.mp hb
    rw [List.mem_range] at p1
    obtain ⟨i, i1, i2, i3⟩ := h7 p p1
    rw [i3, nI_clamp (by omega)] at p2
    exact q.2.2 ⟨p, p1, by rw [i3, p2, e]⟩
  · rcases List.mem_append.mp hi with hi | hi
    · obtain ⟨T, c, g1, g2⟩ := (mem i).mp hi
      have q := xCl_cs (xA_cl h g1) i g2
      exact ⟨q.1, q.2.1⟩
    · obtain ⟨p, p1, p2⟩ := List.mem_map.mp hi
      rw [List.mem_range] at p1
      obtain ⟨j, j1, j2, j3⟩ := h7 p p1
      rw [j3, nI_clamp (by omega)] at p2
      omega
/-- the nodes that are held: not more than the room -/
theorem xA_ns (h : xA S0 S σ sd rm fb B rets K Ks vs mp told most) : ∃ L, hNs (fun T => ∃ c, xRt S (aMap (K ++ Ks.flatten)) Ks.length mp T c) L := by
  obtain ⟨W, nd, mem, _⟩ := xLv_list h
  exact ⟨_, h_ns (by decide) (fun T c z => xCl_tr (xA_cl h z)) h.2.2.2.2.2.2.2.2.2 nd mem⟩
theorem xA_lv {L : List (Nat × Int32)} (h : xA S0 S σ sd rm fb B rets K Ks vs mp told most) (hL : hNs (fun T => ∃ c, xRt S (aMap (K ++ Ks.flatten)) Ks.length mp T c) L) {W : List Nat} (nd : W.Nodup) (mem : ∀ i, i ∈ W ↔ xLv S (aMap (K ++ Ks.flatten)) Ks.length mp i) : W.length = L.length ∧ L.length + fb ≤ 800 := by
  obtain ⟨W', nd', mem', le⟩ := xLv_list h
  have e := h_cnt (by decide) (fun T c z => xCl_tr (xA_cl h z)) h.2.2.2.2.2.2.2.2.2 nd mem hL
  have e' := h_cnt (by decide) (fun T c z => xCl_tr (xA_cl h z)) h.2.2.2.2.2.2.2.2.2 nd' mem' hL
  exact ⟨e, by omega⟩
end XA

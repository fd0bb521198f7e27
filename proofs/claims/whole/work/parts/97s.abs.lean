/-! THE MACHINE OF BOTH: what a word does to what is held -/
/-- this call's stack, those of the calls below, variables, maps, what was told, the most made, the step -/
abbrev aDt : Type := List aI × List (List aI) × (Nat → Int32) × (Nat → tT) × List Int32 × Nat × Nat
def aX : List aI → Int32
  | .inl x :: _ => x
  | _ => 0
def aT : List aI → tT
  | .inr m :: _ => m.1
  | _ => .leaf
def aQ : List aI → Option Int32
  | .inr m :: _ => m.2
  | _ => none
/-- the trees that are held -/
def aHd (D : aDt) (U : tT) : Prop := (∃ i, i < 6 + 2 * D.2.1.length ∧ U = D.2.2.2.1 i) ∨ ∃ q, (U, q) ∈ aMap (D.1 ++ D.2.1.flatten)
noncomputable def aLv (H : tT → Prop) : Nat := @dite Nat (∃ L, hNs H L) (Classical.propDecidable _) (fun h => h.choose.length) (fun _ => 0)
theorem hNs_len {H : tT → Prop} {L L' : List (Nat × Int32)} (h : hNs H L) (h' : hNs H L') : L.length = L'.length := Nat.le_antisymm (nd_sub h.1 (fun i hi => (h'.2 i).mpr ((h.2 i).mp hi))) (nd_sub h'.1 (fun i hi => (h.2 i).mpr ((h'.2 i).mp hi)))
theorem aLv_eq {H : tT → Prop} {L : List (Nat × Int32)} (h : hNs H L) : aLv H = L.length := by
  have e : ∃ L, hNs H L := ⟨L, h⟩
  unfold aLv
  rw [dif_pos e]
  exact hNs_len e.choose_spec h
theorem nd_ex {α : Type} [DecidableEq α] : ∀ W : List α, ∃ V : List α, V.Nodup ∧ ∀ i, i ∈ V ↔ i ∈ W
  | [] => ⟨[], List.nodup_nil, fun _ => Iff.rfl⟩
  | a :: W => by
    obtain ⟨V, h1, h2⟩ := nd_ex W
    by_cases c : a ∈ V
    · refine ⟨V, h1, fun i => ?_⟩
      rw [List.mem_cons, h2 i]
      refine ⟨Or.inr, fun z => z.elim (fun e => ?_) id⟩
      rw [e]; exact (h2 a).mp c
    · refine ⟨a :: V, List.nodup_cons.mpr ⟨c, h1⟩, fun i => ?_⟩
      rw [List.mem_cons, List.mem_cons, h2 i]
theorem aNs_ex (D : aDt) : ∃ L, hNs (aHd D) L := by
  obtain ⟨V, h1, h2⟩ := nd_ex (((List.range (6 + 2 * D.2.1.length)).map D.2.2.2.1 ++ (aMap (D.1 ++ D.2.1.flatten)).map Prod.fst).flatMap tNd)
  refine ⟨V, h1, fun x => ?_⟩
  rw [h2 x, List.mem_flatMap]
  refine exists_congr (fun U => and_congr_left (fun _ => ?_))
  rw [List.mem_append, List.mem_map, List.mem_map]
  unfold aHd
  refine or_congr ⟨fun ⟨i, h, e⟩ => ⟨i, List.mem_range.mp h, e.symm⟩, fun ⟨i, h, e⟩ => ⟨i, List.mem_range.mpr h, e.symm⟩⟩ ⟨fun ⟨m, h, e⟩ => ⟨m.2, by rw [← e]; exact h⟩, fun ⟨q, h⟩ => ⟨(U, q), h, rfl⟩⟩
theorem aLv_sub {D D' : aDt} (h : ∀ U, aHd D' U → U = .leaf ∨ aHd D U) : aLv (aHd D') ≤ aLv (aHd D) := by
  obtain ⟨L, hL⟩ := aNs_ex D
  obtain ⟨L', hL'⟩ := aNs_ex D'
  rw [aLv_eq hL, aLv_eq hL']
  refine nd_sub hL'.1 (fun i hi => ?_)
  obtain ⟨U, u1, u2⟩ := (hL'.2 i).mp hi
  rcases h U u1 with e | e
  · rw [e] at u2; exact absurd u2 (by simp [tNd])
  · exact (hL.2 i).mpr ⟨U, e, u2⟩
/-- what is held is in order, ranks fall, all is of earlier steps, there is room -/
def aOk (sd : Int32) (rm : Nat) (D : aDt) : Prop := (∀ U, aHd D U → tOrd U ∧ tHp (xRank sd) U ∧ tSt (fun s => s < D.2.2.2.2.2.2) U) ∧ D.2.2.2.2.2.1 ≤ 400 ∧ aLv (aHd D) ≤ rm
theorem aOk_sub {sd : Int32} {rm : Nat} {D D' : aDt} (h : aOk sd rm D) (s : ∀ U, aHd D' U → U = .leaf ∨ aHd D U) (e1 : D'.2.2.2.2.2.1 = D.2.2.2.2.2.1) (e2 : D'.2.2.2.2.2.2 = D.2.2.2.2.2.2) : aOk sd rm D' := by
  refine ⟨fun U hU => ?_, by rw [e1]; exact h.2.1, Nat.le_trans (aLv_sub s) h.2.2⟩
  rw [e2]
  rcases s U hU with e | e
  · rw [e]; exact ⟨trivial, trivial, trivial⟩
  · exact h.1 U e
/-- a made map is kept, if there is room (99: what can't be) -/
noncomputable def aMk (rm m : Nat) (R : tT) (K' : List aI) : aDt → Int32 × aDt
  | (K, Ks, vs, mp, told, most, st) =>
    if aLv (aHd (K, Ks, vs, mp, told, most, st)) + m ≤ rm then (if aLv (aHd (.inr (R, none) :: K', Ks, vs, mp, told, max most m, st + 1)) ≤ rm then (1, (.inr (R, none) :: K', Ks, vs, mp, told, max most m, st + 1)) else (99, (K, Ks, vs, mp, told, most, st))) else (5, (K, Ks, vs, mp, told, most, st))
theorem aMk_eq {rm m : Nat} {R : tT} {K' K : List aI} {Ks : List (List aI)} {vs : Nat → Int32} {mp : Nat → tT} {told : List Int32} {most st : Nat} : aMk rm m R K' (K, Ks, vs, mp, told, most, st) = if aLv (aHd (K, Ks, vs, mp, told, most, st)) + m ≤ rm then (if aLv (aHd (.inr (R, none) :: K', Ks, vs, mp, told, max most m, st + 1)) ≤ rm then (1, (.inr (R, none) :: K', Ks, vs, mp, told, max most m, st + 1)) else (99, (K, Ks, vs, mp, told, most, st))) else (5, (K, Ks, vs, mp, told, most, st)) := rfl
/-- a word that works on what is held, x behind it: how it ends (1: it goes on), what is held then -/
noncomputable def aAp (sd : Int32) (rm : Nat) : Nat → Int32 → aDt → Int32 × aDt
  | 1, x, (K, R) => (1, (.inl x :: K, R))
  | 2, x, (K, Ks, vs, R) => (1, (.inl (vs (aVP Ks.length x.toNatClampNeg)) :: K, Ks, vs, R))
  | 3, x, (K, Ks, vs, R) => (1, (K.tail, Ks, aUp vs (aVP Ks.length x.toNatClampNeg) (aX K), R))
  | 11, _, (K, R) => (1, (.inl (if aX K = 0 then 1 else 0) :: K.tail, R))
  | 15, _, (K, Ks, vs, mp, told, R) => if told.length = 300 then (4, (K, Ks, vs, mp, told, R)) else (1, (K.tail, Ks, vs, mp, told ++ [aX K], R))
  | 18, _, (K, R) => (1, (K.tail, R))
  | 19, x, (K, Ks, vs, mp, R) => (1, (.inr (mp (aMP Ks.length x.toNatClampNeg), none) :: K, Ks, vs, mp, R))
  | 20, x, (K, Ks, vs, mp, R) => (1, (K.tail, Ks, vs, aUp mp (aMP Ks.length x.toNatClampNeg) (aT K), R))
  | 21, _, (K, R) => (1, (.inr (.leaf, none) :: K, R))
  | 22, _, (K, Ks, vs, mp, told, most, st) => aMk rm (tPutN (xRank sd) (aX K.tail) (aT K.tail.tail)) (tPut (xRank sd) st (aX K.tail) (aX K) (aT K.tail.tail)) K.tail.tail.tail (K, Ks, vs, mp, told, most, st)
  | 23, _, (K, Ks, vs, mp, told, most, st) => aMk rm (tWtN (xRank sd) (aX K) (aT K.tail)) (tWt (xRank sd) st (aX K) (aT K.tail)) K.tail.tail (K, Ks, vs, mp, told, most, st)
  | 24, _, (K, Ks, vs, mp, told, most, st) => aMk rm (tUnN (xRank sd) st 801 (aT K.tail) (aT K)) (tUn (xRank sd) st 801 (aT K.tail) (aT K)) K.tail.tail (K, Ks, vs, mp, told, most, st)
  | 25, _, (K, R) => (1, (.inl (tV (tFnd (aX K) (aT K.tail))) :: K.tail.tail, R))
  | 26, _, (K, R) => (1, (.inl (tIf (tFnd (aX K) (aT K.tail)) 0 1) :: K.tail.tail, R))
  | 27, _, (K, R) => (1, (.inl (nI (tN (aT K))) :: K.tail, R))
  | 28, _, (K, R) => (1, (.inl (tIf (tFlo (aX K.tail) .leaf (aT K.tail.tail)) (aX K) (tKy (tFlo (aX K.tail) .leaf (aT K.tail.tail)))) :: K.tail.tail.tail, R))
  | w, _, (K, R) => if (w = 7 ∨ w = 8) ∧ aX K = 0 then (2, (K, R)) else (1, (.inl (aOp (nI w) (aX K.tail) (aX K)) :: K.tail.tail, R))
/-- how many words an instruction has -/
def aWl : Nat → Nat
  | 1 => 2
  | 2 => 2
  | 3 => 2
  | 12 => 2
  | 13 => 2
  | 14 => 2
  | 16 => 2
  | 19 => 2
  | 20 => 2
  | 29 => 4
  | _ => 1
/-- the place, where calls go back to, what is held -/
abbrev aMs : Type := Nat × List Nat × aDt
/-- a call's beginning with n parameters, its end -/
def aEnt (n : Nat) : aDt → aDt
  | (K, Ks, vs, mp, R) => ([], K.drop n :: Ks, aEn Ks.length vs (aOw (aNum (K.take n)).reverse), aEm Ks.length mp, R)
def aRe : aDt → aDt
  | (K, Ks, R) => (.inl (aX K) :: Ks.headD [], Ks.tail, R)
/-- the next key of the map on top -/
def aCo (v w : Nat) : aDt → aDt
  | (K, Ks, vs, R) => (.inr (aT K, some (tKy (tNx (aQ K) (aT K)))) :: K.tail, Ks, aUp (aUp vs (aVP Ks.length v) (tKy (tNx (aQ K) (aT K)))) (aVP Ks.length w) (tV (tNx (aQ K) (aT K))), R)
noncomputable def aSw (w par : Nat → Int32) (fa : Nat → Nat) (sd : Int32) (rm pc : Nat) (rets : List Nat) (D : aDt) : Nat → Int32 × aMs
  | 0 => (0, pc + 1, rets, D)
  | 12 => (1, (w (pc + 1)).toNatClampNeg, rets, D)
  | 13 => (1, if aX D.1 = 0 then (w (pc + 1)).toNatClampNeg else pc + 2, rets, (D.1.tail, D.2))
  | 14 => (1, if aX D.1 = 0 then pc + 2 else (w (pc + 1)).toNatClampNeg, rets, (D.1.tail, D.2))
  | 16 => if D.2.1.length = 24 then (3, pc + 2, rets, D) else (1, fa (w (pc + 1)).toNatClampNeg, (pc + 2) :: rets, aEnt (par (w (pc + 1)).toNatClampNeg).toNatClampNeg D)
  | 17 => (1, rets.headD 0, rets.tail, aRe D)
  | 29 => tSel (tNx (aQ D.1) (aT D.1)) (1, (w (pc + 3)).toNatClampNeg, rets, (D.1.tail, D.2)) (1, pc + 4, rets, aCo (w (pc + 1)).toNatClampNeg (w (pc + 2)).toNatClampNeg D)
  | 30 => (1, pc + 1, rets, D)
  | k => ((aAp sd rm k (w (pc + 1)) D).1, pc + aWl k, rets, (aAp sd rm k (w (pc + 1)) D).2)
/-- a step of the machine: how it ends (1: it goes on), what is then -/
noncomputable def aSt (w par : Nat → Int32) (fa : Nat → Nat) (sd : Int32) (rm : Nat) (s : aMs) : Int32 × aMs := aSw w par fa sd rm s.1 s.2.1 s.2.2 (w s.1).toNatClampNeg
/-- the calls below are typed -/
def aFr (w par : Nat → Int32) (L : Nat) : List Nat → List (List aI) → Prop
  | [], [] => True
  | r :: rs, K :: Ks => tyA w par L Ks.isEmpty r (false :: aSh K) ∧ aFr w par L rs Ks
  | _, _ => False
def aInv (w par : Nat → Int32) (L : Nat) (sd : Int32) (rm : Nat) (s : aMs) : Prop := tyA w par L s.2.2.2.1.isEmpty s.1 (aSh s.2.2.1) ∧ aFr w par L s.2.1 s.2.2.2.1 ∧ s.2.2.2.1.length ≤ 24 ∧ aOk sd rm s.2.2

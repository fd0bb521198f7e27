/-! TREES IN A STORE: K keys, V values, A lesser, B greater, σ the making step of each cell, M the last cell -/
def hTr (K V A B : Nat → Int32) (σ : Nat → Nat) (M : Nat) : tT → Int32 → Prop
  | .leaf, c => c = 0
  | .inner s k v l r, c => ∃ i, 1 ≤ i ∧ i ≤ M ∧ c = nI i ∧ σ i = s ∧ K i = k ∧ V i = v ∧ hTr K V A B σ M l (A i) ∧ hTr K V A B σ M r (B i)
/-- its cells -/
def hCs (A B : Nat → Int32) : tT → Int32 → List Nat
  | .leaf, _ => []
  | .inner _ _ _ l r, c => c.toNatClampNeg :: (hCs A B l (A c.toNatClampNeg) ++ hCs A B r (B c.toNatClampNeg))
set_option maxHeartbeats 400000 in
theorem hTr_congr {K V A B K' V' A' B' : Nat → Int32} {σ σ' : Nat → Nat} {M : Nat} (hM : M < 2 ^ 31) : ∀ {T : tT} {c : Int32}, (∀ i, i ∈ hCs A B T c → K' i = K i ∧ V' i = V i ∧ A' i = A i ∧ B' i = B i ∧ σ' i = σ i) → hTr K V A B σ M T c → hTr K' V' A' B' σ' M T c ∧ hCs A' B' T c = hCs A B T c
  | .leaf, _, _, h => ⟨h, rfl⟩
  | .inner s k v l r, c, hc, h => by
    obtain ⟨i, i1, i2, rfl, h1, h2, h3, h4, h5⟩ := h
    have ei : (nI i).toNatClampNeg = i := nI_clamp (by omega)
    simp only [hCs, ei] at hc
    obtain ⟨a1, a2, a3, a4, a5⟩ := hc i (by simp)
    have b1 := hTr_congr hM (fun j hj => hc j (by simp [hj])) h4
    have b2 := hTr_congr hM (fun j hj => hc j (by simp [hj])) h5
    refine ⟨⟨i, i1, i2, rfl, a5.trans h1, a1.trans h2, a2.trans h3, by rw [a3]; exact b1.1, by rw [a4]; exact b2.1⟩, ?_⟩
    simp only [hCs, ei]
    rw [a3, a4, b1.2, b2.2]
set_option maxHeartbeats 400000 in
theorem hTr_leaf {K V A B : Nat → Int32} {σ : Nat → Nat} {M : Nat} (hM : M < 2 ^ 31) : ∀ {T : tT} {c : Int32}, hTr K V A B σ M T c → (c = 0 ↔ T = .leaf)
  | .leaf, _, h => ⟨fun _ => rfl, fun _ => h⟩
  | .inner s k v l r, c, h => by
    obtain ⟨i, i1, i2, rfl, _⟩ := h
    exact ⟨fun z => absurd z (nI_ne0 (by omega) (by omega)), fun z => by cases z⟩
abbrev xTr (S : mv_S) (σ : Nat → Nat) : tT → Int32 → Prop := hTr (S.2.1 15) (S.2.1 16) (S.2.1 18) (S.2.1 19) σ 800
abbrev yTr (S : mv_S) (σ : Nat → Nat) : tT → Int32 → Prop := hTr (S.2.1 13) (S.2.1 14) (S.2.1 15) (S.2.1 16) σ 899
/-- the part that holds the floor of k, b if there is none -/
def tFlo (k : Int32) : tT → tT → tT
  | b, .leaf => b
  | b, .inner s k' v l r => if k' ≤ k then tFlo k (.inner s k' v l r) r else tFlo k b l
/-- the part that holds the least key with p, b if there is none -/
def tAbv (p : Int32 → Prop) (D : ∀ k, Decidable (p k)) : tT → tT → tT
  | b, .leaf => b
  | b, .inner s k' v l r => match D k' with
    | .isTrue _ => tAbv p D (.inner s k' v l r) l
    | .isFalse _ => tAbv p D b r
section HT
variable {S : mv_S} {σ : Nat → Nat}
set_option maxHeartbeats 400000 in
theorem xC_in {i q : Nat} (h1 : 1 ≤ i) (h2 : i ≤ 800) : xC S q (nI i) = S.2.1 q i := by
  unfold xC
  rw [if_pos ⟨by rw [← nI_0]; exact nI_lt (by omega) (by omega), nI_lt (b := 803) (by omega) (by decide)⟩, nI_clamp (by omega)]
set_option maxHeartbeats 400000 in
theorem x_fnd {k : Int32} : ∀ {T : tT} {c : Int32} {n : Nat}, tN T < n → xTr S σ T c → xTr S σ (tFnd k T) (xFindN n S c k)
  | .leaf, c, n + 1, _, h => by
    have h : c = 0 := h
    subst h
    show xTr S σ .leaf _
    unfold xFindN
    rw [if_pos (Or.inl rfl)]
    rfl
  | .inner s k' v l r, c, n + 1, hn, h => by
    have h0 := h
    obtain ⟨i, i1, i2, rfl, h1, h2, h3, h4, h5⟩ := h
    simp only [tN] at hn
    unfold xFindN tFnd
    rw [xC_in i1 i2, xC_in i1 i2, xC_in i1 i2, h2]
    by_cases e : k' = k
    · rw [if_pos (Or.inr e), if_pos e]; exact h0
    · have ne : ¬ (nI i = 0 ∨ k' = k) := fun z => z.elim (nI_ne0 (by omega) (by omega)) e
      rw [if_neg e, if_neg ne]
      by_cases l0 : k < k'
      · rw [if_pos l0, if_pos l0]; exact x_fnd (by omega) h4
      · rw [if_neg l0, if_neg l0]; exact x_fnd (by omega) h5
set_option maxHeartbeats 400000 in
theorem y_fnd {k : Int32} : ∀ {T : tT} {c : Int32} {n : Nat}, tN T < n → yTr S σ T c → ∃ c', yFindN n S c k = some c' ∧ yTr S σ (tFnd k T) c'
  | .leaf, c, n + 1, _, h => by
    have h : c = 0 := h
    subst h
    exact ⟨0, by unfold yFindN; rw [if_pos (by decide)], rfl⟩
  | .inner s k' v l r, c, n + 1, hn, h => by
    have h0 := h
    obtain ⟨i, i1, i2, rfl, h1, h2, h3, h4, h5⟩ := h
    simp only [tN] at hn
    have ei : (nI i).toNatClampNeg = i := nI_clamp (by omega)
    have e9 : ¬ (900 : Int32) ≤ nI i := nI_ge (b := 900) (by omega) (by decide)
    unfold yFindN tFnd
    rw [if_neg (nI_nle (by omega) (by omega)), if_neg e9, ei, h2]
    by_cases e : k' = k
    · rw [if_pos e, if_pos e]; exact ⟨_, rfl, h0⟩
    · rw [if_neg e, if_neg e]
      by_cases l0 : k < k'
      · rw [if_pos l0, if_pos l0]; exact y_fnd (by omega) h4
      · rw [if_neg l0, if_neg l0]; exact y_fnd (by omega) h5
set_option maxHeartbeats 400000 in
theorem x_flo {k : Int32} : ∀ {T b : tT} {c d : Int32} {n : Nat}, tN T < n → xTr S σ T c → xTr S σ b d → xTr S σ (tFlo k b T) (xFloorN n S d c k)
  | .leaf, b, c, d, n + 1, _, h, hb => by
    have h : c = 0 := h
    subst h
    unfold xFloorN tFlo
    rw [if_pos rfl]
    exact hb
  | .inner s k' v l r, b, c, d, n + 1, hn, h, hb => by
    have h0 := h
    obtain ⟨i, i1, i2, rfl, h1, h2, h3, h4, h5⟩ := h
    simp only [tN] at hn
    unfold xFloorN tFlo
    rw [if_neg (nI_ne0 (by omega) (by omega)), xC_in i1 i2, xC_in i1 i2, xC_in i1 i2, h2]
    by_cases l0 : k' ≤ k
    · rw [if_pos l0, if_pos l0]; exact x_flo (by omega) h5 h0
    · rw [if_neg l0, if_neg l0]; exact x_flo (by omega) h4 hb
set_option maxHeartbeats 400000 in
theorem y_flo {k : Int32} : ∀ {T b : tT} {c d : Int32} {n : Nat}, tN T < n → yTr S σ T c → yTr S σ b d → ∃ c', yFloorN n S d c k = some c' ∧ yTr S σ (tFlo k b T) c'
  | .leaf, b, c, d, n + 1, _, h, hb => by
    have h : c = 0 := h
    subst h
    exact ⟨d, by unfold yFloorN; rw [if_pos (by decide)], hb⟩
  | .inner s k' v l r, b, c, d, n + 1, hn, h, hb => by
    have h0 := h
    obtain ⟨i, i1, i2, rfl, h1, h2, h3, h4, h5⟩ := h
    simp only [tN] at hn
    have ei : (nI i).toNatClampNeg = i := nI_clamp (by omega)
    have e9 : ¬ (900 : Int32) ≤ nI i := nI_ge (b := 900) (by omega) (by decide)
    unfold yFloorN tFlo
    rw [if_neg (nI_nle (by omega) (by omega)), if_neg e9, ei, h2]
    by_cases l0 : k' ≤ k
    · rw [if_pos l0, if_pos l0]; exact y_flo (by omega) h5 h0
    · rw [if_neg l0, if_neg l0]; exact y_flo (by omega) h4 hb
set_option maxHeartbeats 400000 in
theorem x_abv {p : Int32 → Prop} {D : ∀ k, Decidable (p k)} {q : Int64} (hp : ∀ k, p k ↔ ¬ lg_cmp k.toInt64 q < 0) : ∀ {T b : tT} {c d : Int32} {n : Nat}, tN T < n → xTr S σ T c → xTr S σ b d → xTr S σ (tAbv p D b T) (xLeastN n S d c q)
  | .leaf, b, c, d, n + 1, _, h, hb => by
    have h : c = 0 := h
    subst h
    unfold xLeastN tAbv
    rw [if_pos rfl]
    exact hb
  | .inner s k' v l r, b, c, d, n + 1, hn, h, hb => by
    have h0 := h
    obtain ⟨i, i1, i2, rfl, h1, h2, h3, h4, h5⟩ := h
    simp only [tN] at hn
    unfold xLeastN tAbv
    rw [if_neg (nI_ne0 (by omega) (by omega)), xC_in i1 i2, xC_in i1 i2, xC_in i1 i2, h2]
    match D k' with
    | .isTrue z => rw [if_neg ((hp k').mp z)]; exact x_abv hp (by omega) h4 h0
    | .isFalse z => rw [if_pos (Classical.not_not.mp (fun y => z ((hp k').mpr y)))]; exact x_abv hp (by omega) h5 hb
set_option maxHeartbeats 400000 in
theorem y_abv {p : Int32 → Prop} {D : ∀ k, Decidable (p k)} {k al : Int32} (hp : ∀ k', p k' ↔ (¬ al = 0 ∨ k < k')) : ∀ {T b : tT} {c d : Int32} {n : Nat}, tN T < n → yTr S σ T c → yTr S σ b d → ∃ c', yAboveN n S d c k al = some c' ∧ yTr S σ (tAbv p D b T) c'
  | .leaf, b, c, d, n + 1, _, h, hb => by
    have h : c = 0 := h
    subst h
    exact ⟨d, by unfold yAboveN; rw [if_pos (by decide)], hb⟩
  | .inner s k' v l r, b, c, d, n + 1, hn, h, hb => by
    have h0 := h
    obtain ⟨i, i1, i2, rfl, h1, h2, h3, h4, h5⟩ := h
    simp only [tN] at hn
    have ei : (nI i).toNatClampNeg = i := nI_clamp (by omega)
    have e9 : ¬ (900 : Int32) ≤ nI i := nI_ge (b := 900) (by omega) (by decide)
    unfold yAboveN tAbv
    rw [if_neg (nI_nle (by omega) (by omega)), if_neg e9, ei, h2]
    match D k' with
    | .isTrue z => rw [if_pos ((hp k').mp z)]; exact y_abv hp (by omega) h4 h0
    | .isFalse z => rw [if_neg (fun y => z ((hp k').mpr y))]; exact y_abv hp (by omega) h5 hb
end HT

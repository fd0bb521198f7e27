/-! THE CLASS'S STORE does what a word says -/
theorem xZr_mem {S : mv_S} {T : tT} : ∀ {Z : List (tT × Option Int32)}, (∃ c, xZr S Z T c) ↔ ∃ q, (T, q) ∈ Z
  | [] => ⟨fun ⟨_, h⟩ => h.elim, fun ⟨q, h⟩ => by cases h⟩
  | (T', q') :: R => by
    constructor
    · rintro ⟨c, ⟨h, _⟩ | h⟩
      · exact ⟨q', by rw [h]; exact List.mem_cons_self⟩
      · obtain ⟨q, z⟩ := xZr_mem.mp ⟨c, h⟩
        exact ⟨q, List.mem_cons_of_mem _ z⟩
    · rintro ⟨q, h⟩
      rcases List.mem_cons.mp h with z | z
      · exact ⟨S.2.1 26 R.length, Or.inl ⟨(Prod.mk.inj z).1, rfl⟩⟩
      · obtain ⟨c, y⟩ := xZr_mem (S := S).mpr ⟨q, z⟩
        exact ⟨c, Or.inr y⟩
/-- the class's store holds D -/
def xD (S0 S : mv_S) (sd : Int32) (rm B : Nat) (rets : List Nat) (D : aDt) : Prop := ∃ σ fb, xA S0 S σ sd rm fb B rets D.1 D.2.1 D.2.2.1 D.2.2.2.1 D.2.2.2.2.1 D.2.2.2.2.2.1
section XD
variable {d : Nat} {P : Option Value → mv_S → Prop} {S0 S S' : mv_S} {σ : Nat → Nat} {sd x : Int32} {rm fb B B' : Nat} {rets : List Nat} {K : List aI} {Ks : List (List aI)} {vs : Nat → Int32} {mp : Nat → tT} {told : List Int32} {most st : Nat} {D : aDt} {w par : Nat → Int32} {L : Nat} {mn : Bool} {Q : Nat → shT → Prop} {pc k : Nat}
theorem xRt_hd : (fun T => ∃ c, xRt S (aMap (K ++ Ks.flatten)) Ks.length mp T c) = aHd (K, Ks, vs, mp, told, most, st) := by
  funext T
  refine propext ⟨fun ⟨c, h⟩ => ?_, fun h => ?_⟩
  · rcases h with ⟨i, i1, i2, _⟩ | h
    · exact Or.inl ⟨i, i1, i2⟩
    · exact Or.inr (xZr_mem.mp ⟨c, h⟩)
  · rcases h with ⟨i, i1, i2⟩ | h
    · exact ⟨S.2.1 24 i, Or.inl ⟨i, i1, i2, rfl⟩⟩
    · obtain ⟨c, z⟩ := xZr_mem (S := S).mpr h
      exact ⟨c, Or.inr z⟩
theorem xA_live (h : xA S0 S σ sd rm fb B rets K Ks vs mp told most) : aLv (aHd (K, Ks, vs, mp, told, most, st)) ≤ rm := by
  obtain ⟨L, hL⟩ := aNs_ex (K, Ks, vs, mp, told, most, st)
  rw [aLv_eq hL]
  rw [← xRt_hd (S := S)] at hL
  obtain ⟨W, nd, mem, _⟩ := xLv_list h
  have q := xA_lv h hL nd mem
  have h5 := h.2.1.2.2.2.2.1
  omega
theorem xA_B (h : xA S0 S σ sd rm fb B rets K Ks vs mp told most) (hB : B ≤ B') : xA S0 S σ sd rm fb B' rets K Ks vs mp told most := by
  obtain ⟨a1, ⟨h1, h2, h3, h4, h5, h6, h7, h8, r, h9, h10⟩, a3⟩ := h
  exact ⟨a1, ⟨h1, h2, h3, h4, h5, h6, h7, h8, r, Nat.le_trans h9 hB, h10⟩, a3⟩
theorem xA_self (h : xA S0 S σ sd rm fb B rets K Ks vs mp told most) : xA S S σ sd rm fb B rets K Ks vs mp told most := ⟨xO_refl, h.2⟩
theorem xD_B (h : xD S0 S sd rm B rets D) (hB : B ≤ B') : xD S0 S sd rm B' rets D := by
  obtain ⟨σ, fb, h⟩ := h
  exact ⟨σ, fb, xA_B h hB⟩
theorem xD_self (h : xD S0 S sd rm B rets D) : xD S S sd rm B rets D := by
  obtain ⟨σ, fb, h⟩ := h
  exact ⟨σ, fb, xA_self h⟩
theorem xD_o (h : xD S0 S sd rm B rets D) : xO S0 S := by
  obtain ⟨σ, fb, h⟩ := h
  exact h.1
theorem aOp_4 {R} {a b : Int32} : aAp sd rm 4 x (.inl b :: .inl a :: K, R) = (1, (.inl (aOp 4 a b) :: K, R)) := by
  have e : aAp sd rm 4 x (.inl b :: .inl a :: K, R) = if (4 = 7 ∨ 4 = 8) ∧ aX (.inl b :: .inl a :: K) = 0 then (2, (.inl b :: .inl a :: K, R)) else (1, (.inl (aOp (nI 4) a b) :: K, R)) := rfl
  have ex : aX (.inl b :: .inl a :: K) = b := rfl
  rw [e, ex]
  rw [if_neg (by omega)]; rfl
theorem aOp_5 {R} {a b : Int32} : aAp sd rm 5 x (.inl b :: .inl a :: K, R) = (1, (.inl (aOp 5 a b) :: K, R)) := by
  have e : aAp sd rm 5 x (.inl b :: .inl a :: K, R) = if (5 = 7 ∨ 5 = 8) ∧ aX (.inl b :: .inl a :: K) = 0 then (2, (.inl b :: .inl a :: K, R)) else (1, (.inl (aOp (nI 5) a b) :: K, R)) := rfl
  have ex : aX (.inl b :: .inl a :: K) = b := rfl
  rw [e, ex]
  rw [if_neg (by omega)]; rfl
theorem aOp_6 {R} {a b : Int32} : aAp sd rm 6 x (.inl b :: .inl a :: K, R) = (1, (.inl (aOp 6 a b) :: K, R)) := by
  have e : aAp sd rm 6 x (.inl b :: .inl a :: K, R) = if (6 = 7 ∨ 6 = 8) ∧ aX (.inl b :: .inl a :: K) = 0 then (2, (.inl b :: .inl a :: K, R)) else (1, (.inl (aOp (nI 6) a b) :: K, R)) := rfl
  have ex : aX (.inl b :: .inl a :: K) = b := rfl
  rw [e, ex]
  rw [if_neg (by omega)]; rfl
theorem aOp_7 {R} {a b : Int32} : aAp sd rm 7 x (.inl b :: .inl a :: K, R) = if b = 0 then (2, (.inl b :: .inl a :: K, R)) else (1, (.inl (aOp 7 a b) :: K, R)) := by
  have e : aAp sd rm 7 x (.inl b :: .inl a :: K, R) = if (7 = 7 ∨ 7 = 8) ∧ aX (.inl b :: .inl a :: K) = 0 then (2, (.inl b :: .inl a :: K, R)) else (1, (.inl (aOp (nI 7) a b) :: K, R)) := rfl
  have ex : aX (.inl b :: .inl a :: K) = b := rfl
  rw [e, ex]
  by_cases c : b = 0
  · rw [if_pos ⟨by omega, c⟩, if_pos c]
  · rw [if_neg (fun z => c z.2), if_neg c]; rfl
theorem aOp_8 {R} {a b : Int32} : aAp sd rm 8 x (.inl b :: .inl a :: K, R) = if b = 0 then (2, (.inl b :: .inl a :: K, R)) else (1, (.inl (aOp 8 a b) :: K, R)) := by
  have e : aAp sd rm 8 x (.inl b :: .inl a :: K, R) = if (8 = 7 ∨ 8 = 8) ∧ aX (.inl b :: .inl a :: K) = 0 then (2, (.inl b :: .inl a :: K, R)) else (1, (.inl (aOp (nI 8) a b) :: K, R)) := rfl
  have ex : aX (.inl b :: .inl a :: K) = b := rfl
  rw [e, ex]
  by_cases c : b = 0
  · rw [if_pos ⟨by omega, c⟩, if_pos c]
  · rw [if_neg (fun z => c z.2), if_neg c]; rfl
theorem aOp_9 {R} {a b : Int32} : aAp sd rm 9 x (.inl b :: .inl a :: K, R) = (1, (.inl (aOp 9 a b) :: K, R)) := by
  have e : aAp sd rm 9 x (.inl b :: .inl a :: K, R) = if (9 = 7 ∨ 9 = 8) ∧ aX (.inl b :: .inl a :: K) = 0 then (2, (.inl b :: .inl a :: K, R)) else (1, (.inl (aOp (nI 9) a b) :: K, R)) := rfl
  have ex : aX (.inl b :: .inl a :: K) = b := rfl
  rw [e, ex]
  rw [if_neg (by omega)]; rfl
theorem aOp_10 {R} {a b : Int32} : aAp sd rm 10 x (.inl b :: .inl a :: K, R) = (1, (.inl (aOp 10 a b) :: K, R)) := by
  have e : aAp sd rm 10 x (.inl b :: .inl a :: K, R) = if (10 = 7 ∨ 10 = 8) ∧ aX (.inl b :: .inl a :: K) = 0 then (2, (.inl b :: .inl a :: K, R)) else (1, (.inl (aOp (nI 10) a b) :: K, R)) := rfl
  have ex : aX (.inl b :: .inl a :: K) = b := rfl
  rw [e, ex]
  rw [if_neg (by omega)]; rfl
theorem aTo_15 {R} {a : Int32} : aAp sd rm 15 x (.inl a :: K, Ks, vs, mp, told, R) = if told.length = 300 then (4, (.inl a :: K, Ks, vs, mp, told, R)) else (1, (K, Ks, vs, mp, told ++ [a], R)) := rfl
set_option maxHeartbeats 400000 in
theorem xS_1 (hQ : ∀ p s, Q p s → shM s ≤ 17) (h : okI w par L mn Q pc (aSh D.1)) (hw : w pc = 1) (ok : aOk sd rm D) (hD : xD S0 S sd rm B rets D) (hB : B + 5 < 2 ^ 31) (hP : ∀ S' D', aAp sd rm 1 x D = (1, D') → xD S0 S' sd rm (B + 1) rets D' → P (some (.int 1)) S') (hF : ∀ c S' K', aAp sd rm 1 x D = (c, D) → ¬ c = 1 → ¬ c = 99 → aMap K' = aMap D.1 → xD S0 S' sd rm (B + 1) rets (K', D.2) → P (some (.int c)) S') : mv_big layX sysX (d + 6) 114 [.ref 4, .int 1, .int x] S P := by
  obtain ⟨K, Ks, vs, mp, told, most, st⟩ := D
  obtain ⟨σ, fb, hA⟩ := hD
  have b1 : (aNum K).length ≤ 33 := by rw [aNum_sh]; exact h.1.1
  have b2 : (aMap K).length ≤ 17 := by rw [aMap_sh]; exact h.1.2.1
  obtain ⟨hl, q⟩ := okI_1 h hw
  exact mv_deep (d := d + 5) (by omega) (x_ap1 hA (show (aNum K).length ≤ 40 by omega) (fun S' g => hP S' _ rfl ⟨σ, fb, xA_B g (Nat.le_succ B)⟩))
set_option maxHeartbeats 400000 in
theorem xS_2 (hQ : ∀ p s, Q p s → shM s ≤ 17) (h : okI w par L mn Q pc (aSh D.1)) (hw : w pc = 2) (ok : aOk sd rm D) (hD : xD S0 S sd rm B rets D) (hB : B + 5 < 2 ^ 31) (hx : x = w (pc + 1)) (hP : ∀ S' D', aAp sd rm 2 x D = (1, D') → xD S0 S' sd rm (B + 1) rets D' → P (some (.int 1)) S') (hF : ∀ c S' K', aAp sd rm 2 x D = (c, D) → ¬ c = 1 → ¬ c = 99 → aMap K' = aMap D.1 → xD S0 S' sd rm (B + 1) rets (K', D.2) → P (some (.int c)) S') : mv_big layX sysX (d + 6) 114 [.ref 4, .int 2, .int x] S P := by
  obtain ⟨K, Ks, vs, mp, told, most, st⟩ := D
  obtain ⟨σ, fb, hA⟩ := hD
  have b1 : (aNum K).length ≤ 33 := by rw [aNum_sh]; exact h.1.1
  have b2 : (aMap K).length ≤ 17 := by rw [aMap_sh]; exact h.1.2.1
  obtain ⟨⟨hl, h6, h7⟩, q⟩ := okI_2 h hw
  obtain ⟨v1, v2⟩ := aN_of (n := 14) rfl (by decide) h6 h7
  rw [← hx] at v1 v2
  rw [v1]
  refine mv_deep (d := d + 5) (by omega) (x_ap2 hA v2 (show (aNum K).length ≤ 40 by omega) (fun S' g => hP S' _ rfl ⟨σ, fb, xA_B g (Nat.le_succ B)⟩))
set_option maxHeartbeats 400000 in
theorem xS_3 (hQ : ∀ p s, Q p s → shM s ≤ 17) (h : okI w par L mn Q pc (aSh D.1)) (hw : w pc = 3) (ok : aOk sd rm D) (hD : xD S0 S sd rm B rets D) (hB : B + 5 < 2 ^ 31) (hx : x = w (pc + 1)) (hP : ∀ S' D', aAp sd rm 3 x D = (1, D') → xD S0 S' sd rm (B + 1) rets D' → P (some (.int 1)) S') (hF : ∀ c S' K', aAp sd rm 3 x D = (c, D) → ¬ c = 1 → ¬ c = 99 → aMap K' = aMap D.1 → xD S0 S' sd rm (B + 1) rets (K', D.2) → P (some (.int c)) S') : mv_big layX sysX (d + 6) 114 [.ref 4, .int 3, .int x] S P := by
  obtain ⟨K, Ks, vs, mp, told, most, st⟩ := D
  obtain ⟨σ, fb, hA⟩ := hD
  have b1 : (aNum K).length ≤ 33 := by rw [aNum_sh]; exact h.1.1
  have b2 : (aMap K).length ≤ 17 := by rw [aMap_sh]; exact h.1.2.1
  obtain ⟨⟨hl, h6, h7, e⟩, q⟩ := okI_3 h hw
  obtain ⟨v1, v2⟩ := aN_of (n := 14) rfl (by decide) h6 h7
  rw [← hx] at v1 v2
  obtain ⟨a0, K, rfl, e⟩ := aSh_f (K := K) e
  have b1 : (aNum K).length + 1 ≤ 33 := b1
  have b2 : (aMap K).length + 0 ≤ 17 := b2
  rw [v1]
  refine mv_deep (d := d + 5) (by omega) (x_ap3 hA v2 (by omega) (fun S' g => hP S' _ rfl ⟨σ, fb, xA_B g (Nat.le_succ B)⟩))
set_option maxHeartbeats 400000 in
theorem xS_4 (hQ : ∀ p s, Q p s → shM s ≤ 17) (h : okI w par L mn Q pc (aSh D.1)) (hw : w pc = 4) (ok : aOk sd rm D) (hD : xD S0 S sd rm B rets D) (hB : B + 5 < 2 ^ 31) (hP : ∀ S' D', aAp sd rm 4 x D = (1, D') → xD S0 S' sd rm (B + 1) rets D' → P (some (.int 1)) S') (hF : ∀ c S' K', aAp sd rm 4 x D = (c, D) → ¬ c = 1 → ¬ c = 99 → aMap K' = aMap D.1 → xD S0 S' sd rm (B + 1) rets (K', D.2) → P (some (.int c)) S') : mv_big layX sysX (d + 6) 114 [.ref 4, .int 4, .int x] S P := by
  obtain ⟨K, Ks, vs, mp, told, most, st⟩ := D
  obtain ⟨σ, fb, hA⟩ := hD
  have b1 : (aNum K).length ≤ 33 := by rw [aNum_sh]; exact h.1.1
  have b2 : (aMap K).length ≤ 17 := by rw [aMap_sh]; exact h.1.2.1
  obtain ⟨⟨hl, e⟩, q⟩ := okI_4 h ⟨by rw [hw]; decide, by rw [hw]; decide⟩
  obtain ⟨a0, K, rfl, e⟩ := aSh_f (K := K) e
  obtain ⟨a1, K, rfl, e⟩ := aSh_f (K := K) e
  have b1 : (aNum K).length + 2 ≤ 33 := b1
  have b2 : (aMap K).length + 0 ≤ 17 := b2
  exact mv_deep (d := d + 5) (by omega) (x_ap4 hA (by omega) (fun S' g => hP S' _ aOp_4 ⟨σ, fb, xA_B g (Nat.le_succ B)⟩))
set_option maxHeartbeats 400000 in
theorem xS_5 (hQ : ∀ p s, Q p s → shM s ≤ 17) (h : okI w par L mn Q pc (aSh D.1)) (hw : w pc = 5) (ok : aOk sd rm D) (hD : xD S0 S sd rm B rets D) (hB : B + 5 < 2 ^ 31) (hP : ∀ S' D', aAp sd rm 5 x D = (1, D') → xD S0 S' sd rm (B + 1) rets D' → P (some (.int 1)) S') (hF : ∀ c S' K', aAp sd rm 5 x D = (c, D) → ¬ c = 1 → ¬ c = 99 → aMap K' = aMap D.1 → xD S0 S' sd rm (B + 1) rets (K', D.2) → P (some (.int c)) S') : mv_big layX sysX (d + 6) 114 [.ref 4, .int 5, .int x] S P := by
  obtain ⟨K, Ks, vs, mp, told, most, st⟩ := D
  obtain ⟨σ, fb, hA⟩ := hD
  have b1 : (aNum K).length ≤ 33 := by rw [aNum_sh]; exact h.1.1
  have b2 : (aMap K).length ≤ 17 := by rw [aMap_sh]; exact h.1.2.1
  obtain ⟨⟨hl, e⟩, q⟩ := okI_4 h ⟨by rw [hw]; decide, by rw [hw]; decide⟩
  obtain ⟨a0, K, rfl, e⟩ := aSh_f (K := K) e
  obtain ⟨a1, K, rfl, e⟩ := aSh_f (K := K) e
  have b1 : (aNum K).length + 2 ≤ 33 := b1
  have b2 : (aMap K).length + 0 ≤ 17 := b2
  exact mv_deep (d := d + 5) (by omega) (x_ap5 hA (by omega) (fun S' g => hP S' _ aOp_5 ⟨σ, fb, xA_B g (Nat.le_succ B)⟩))
set_option maxHeartbeats 400000 in
theorem xS_6 (hQ : ∀ p s, Q p s → shM s ≤ 17) (h : okI w par L mn Q pc (aSh D.1)) (hw : w pc = 6) (ok : aOk sd rm D) (hD : xD S0 S sd rm B rets D) (hB : B + 5 < 2 ^ 31) (hP : ∀ S' D', aAp sd rm 6 x D = (1, D') → xD S0 S' sd rm (B + 1) rets D' → P (some (.int 1)) S') (hF : ∀ c S' K', aAp sd rm 6 x D = (c, D) → ¬ c = 1 → ¬ c = 99 → aMap K' = aMap D.1 → xD S0 S' sd rm (B + 1) rets (K', D.2) → P (some (.int c)) S') : mv_big layX sysX (d + 6) 114 [.ref 4, .int 6, .int x] S P := by
  obtain ⟨K, Ks, vs, mp, told, most, st⟩ := D
  obtain ⟨σ, fb, hA⟩ := hD
  have b1 : (aNum K).length ≤ 33 := by rw [aNum_sh]; exact h.1.1
  have b2 : (aMap K).length ≤ 17 := by rw [aMap_sh]; exact h.1.2.1
  obtain ⟨⟨hl, e⟩, q⟩ := okI_4 h ⟨by rw [hw]; decide, by rw [hw]; decide⟩
  obtain ⟨a0, K, rfl, e⟩ := aSh_f (K := K) e
  obtain ⟨a1, K, rfl, e⟩ := aSh_f (K := K) e
  have b1 : (aNum K).length + 2 ≤ 33 := b1
  have b2 : (aMap K).length + 0 ≤ 17 := b2
  exact mv_deep (d := d + 5) (by omega) (x_ap6 hA (by omega) (fun S' g => hP S' _ aOp_6 ⟨σ, fb, xA_B g (Nat.le_succ B)⟩))
set_option maxHeartbeats 400000 in
theorem xS_7 (hQ : ∀ p s, Q p s → shM s ≤ 17) (h : okI w par L mn Q pc (aSh D.1)) (hw : w pc = 7) (ok : aOk sd rm D) (hD : xD S0 S sd rm B rets D) (hB : B + 5 < 2 ^ 31) (hP : ∀ S' D', aAp sd rm 7 x D = (1, D') → xD S0 S' sd rm (B + 1) rets D' → P (some (.int 1)) S') (hF : ∀ c S' K', aAp sd rm 7 x D = (c, D) → ¬ c = 1 → ¬ c = 99 → aMap K' = aMap D.1 → xD S0 S' sd rm (B + 1) rets (K', D.2) → P (some (.int c)) S') : mv_big layX sysX (d + 6) 114 [.ref 4, .int 7, .int x] S P := by
  obtain ⟨K, Ks, vs, mp, told, most, st⟩ := D
  obtain ⟨σ, fb, hA⟩ := hD
  have b1 : (aNum K).length ≤ 33 := by rw [aNum_sh]; exact h.1.1
  have b2 : (aMap K).length ≤ 17 := by rw [aMap_sh]; exact h.1.2.1
  obtain ⟨⟨hl, e⟩, q⟩ := okI_4 h ⟨by rw [hw]; decide, by rw [hw]; decide⟩
  obtain ⟨a0, K, rfl, e⟩ := aSh_f (K := K) e
  obtain ⟨a1, K, rfl, e⟩ := aSh_f (K := K) e
  have b1 : (aNum K).length + 2 ≤ 33 := b1
  have b2 : (aMap K).length + 0 ≤ 17 := b2
  refine mv_deep (d := d + 5) (by omega) (x_ap7 hA (by omega) (fun z S' g => ?_) (fun z S' g => ?_))
  · exact hF 2 S' K (by rw [aOp_7, if_pos z]) (by decide) (by decide) rfl ⟨σ, fb, xA_B g (Nat.le_succ B)⟩
  · exact hP S' (.inl (aOp 7 a1 a0) :: K, Ks, vs, mp, told, most, st) (by rw [aOp_7, if_neg z]) ⟨σ, fb, xA_B g (Nat.le_succ B)⟩
set_option maxHeartbeats 400000 in
theorem xS_8 (hQ : ∀ p s, Q p s → shM s ≤ 17) (h : okI w par L mn Q pc (aSh D.1)) (hw : w pc = 8) (ok : aOk sd rm D) (hD : xD S0 S sd rm B rets D) (hB : B + 5 < 2 ^ 31) (hP : ∀ S' D', aAp sd rm 8 x D = (1, D') → xD S0 S' sd rm (B + 1) rets D' → P (some (.int 1)) S') (hF : ∀ c S' K', aAp sd rm 8 x D = (c, D) → ¬ c = 1 → ¬ c = 99 → aMap K' = aMap D.1 → xD S0 S' sd rm (B + 1) rets (K', D.2) → P (some (.int c)) S') : mv_big layX sysX (d + 6) 114 [.ref 4, .int 8, .int x] S P := by
  obtain ⟨K, Ks, vs, mp, told, most, st⟩ := D
  obtain ⟨σ, fb, hA⟩ := hD
  have b1 : (aNum K).length ≤ 33 := by rw [aNum_sh]; exact h.1.1
  have b2 : (aMap K).length ≤ 17 := by rw [aMap_sh]; exact h.1.2.1
  obtain ⟨⟨hl, e⟩, q⟩ := okI_4 h ⟨by rw [hw]; decide, by rw [hw]; decide⟩
  obtain ⟨a0, K, rfl, e⟩ := aSh_f (K := K) e
  obtain ⟨a1, K, rfl, e⟩ := aSh_f (K := K) e
  have b1 : (aNum K).length + 2 ≤ 33 := b1
  have b2 : (aMap K).length + 0 ≤ 17 := b2
  refine mv_deep (d := d + 5) (by omega) (x_ap8 hA (by omega) (fun z S' g => ?_) (fun z S' g => ?_))
  · exact hF 2 S' K (by rw [aOp_8, if_pos z]) (by decide) (by decide) rfl ⟨σ, fb, xA_B g (Nat.le_succ B)⟩
  · exact hP S' (.inl (aOp 8 a1 a0) :: K, Ks, vs, mp, told, most, st) (by rw [aOp_8, if_neg z]) ⟨σ, fb, xA_B g (Nat.le_succ B)⟩
set_option maxHeartbeats 400000 in
theorem xS_9 (hQ : ∀ p s, Q p s → shM s ≤ 17) (h : okI w par L mn Q pc (aSh D.1)) (hw : w pc = 9) (ok : aOk sd rm D) (hD : xD S0 S sd rm B rets D) (hB : B + 5 < 2 ^ 31) (hP : ∀ S' D', aAp sd rm 9 x D = (1, D') → xD S0 S' sd rm (B + 1) rets D' → P (some (.int 1)) S') (hF : ∀ c S' K', aAp sd rm 9 x D = (c, D) → ¬ c = 1 → ¬ c = 99 → aMap K' = aMap D.1 → xD S0 S' sd rm (B + 1) rets (K', D.2) → P (some (.int c)) S') : mv_big layX sysX (d + 6) 114 [.ref 4, .int 9, .int x] S P := by
  obtain ⟨K, Ks, vs, mp, told, most, st⟩ := D
  obtain ⟨σ, fb, hA⟩ := hD
  have b1 : (aNum K).length ≤ 33 := by rw [aNum_sh]; exact h.1.1
  have b2 : (aMap K).length ≤ 17 := by rw [aMap_sh]; exact h.1.2.1
  obtain ⟨⟨hl, e⟩, q⟩ := okI_4 h ⟨by rw [hw]; decide, by rw [hw]; decide⟩
  obtain ⟨a0, K, rfl, e⟩ := aSh_f (K := K) e
  obtain ⟨a1, K, rfl, e⟩ := aSh_f (K := K) e
  have b1 : (aNum K).length + 2 ≤ 33 := b1
  have b2 : (aMap K).length + 0 ≤ 17 := b2
  exact mv_deep (d := d + 5) (by omega) (x_ap9 hA (by omega) (fun S' g => hP S' _ aOp_9 ⟨σ, fb, xA_B g (Nat.le_succ B)⟩))
set_option maxHeartbeats 400000 in
theorem xS_10 (hQ : ∀ p s, Q p s → shM s ≤ 17) (h : okI w par L mn Q pc (aSh D.1)) (hw : w pc = 10) (ok : aOk sd rm D) (hD : xD S0 S sd rm B rets D) (hB : B + 5 < 2 ^ 31) (hP : ∀ S' D', aAp sd rm 10 x D = (1, D') → xD S0 S' sd rm (B + 1) rets D' → P (some (.int 1)) S') (hF : ∀ c S' K', aAp sd rm 10 x D = (c, D) → ¬ c = 1 → ¬ c = 99 → aMap K' = aMap D.1 → xD S0 S' sd rm (B + 1) rets (K', D.2) → P (some (.int c)) S') : mv_big layX sysX (d + 6) 114 [.ref 4, .int 10, .int x] S P := by
  obtain ⟨K, Ks, vs, mp, told, most, st⟩ := D
  obtain ⟨σ, fb, hA⟩ := hD
  have b1 : (aNum K).length ≤ 33 := by rw [aNum_sh]; exact h.1.1
  have b2 : (aMap K).length ≤ 17 := by rw [aMap_sh]; exact h.1.2.1
  obtain ⟨⟨hl, e⟩, q⟩ := okI_4 h ⟨by rw [hw]; decide, by rw [hw]; decide⟩
  obtain ⟨a0, K, rfl, e⟩ := aSh_f (K := K) e
  obtain ⟨a1, K, rfl, e⟩ := aSh_f (K := K) e
  have b1 : (aNum K).length + 2 ≤ 33 := b1
  have b2 : (aMap K).length + 0 ≤ 17 := b2
  exact mv_deep (d := d + 5) (by omega) (x_ap10 hA (by omega) (fun S' g => hP S' _ aOp_10 ⟨σ, fb, xA_B g (Nat.le_succ B)⟩))
set_option maxHeartbeats 400000 in
theorem xS_11 (hQ : ∀ p s, Q p s → shM s ≤ 17) (h : okI w par L mn Q pc (aSh D.1)) (hw : w pc = 11) (ok : aOk sd rm D) (hD : xD S0 S sd rm B rets D) (hB : B + 5 < 2 ^ 31) (hP : ∀ S' D', aAp sd rm 11 x D = (1, D') → xD S0 S' sd rm (B + 1) rets D' → P (some (.int 1)) S') (hF : ∀ c S' K', aAp sd rm 11 x D = (c, D) → ¬ c = 1 → ¬ c = 99 → aMap K' = aMap D.1 → xD S0 S' sd rm (B + 1) rets (K', D.2) → P (some (.int c)) S') : mv_big layX sysX (d + 6) 114 [.ref 4, .int 11, .int x] S P := by
  obtain ⟨K, Ks, vs, mp, told, most, st⟩ := D
  obtain ⟨σ, fb, hA⟩ := hD
  have b1 : (aNum K).length ≤ 33 := by rw [aNum_sh]; exact h.1.1
  have b2 : (aMap K).length ≤ 17 := by rw [aMap_sh]; exact h.1.2.1
  obtain ⟨⟨hl, e⟩, q⟩ := okI_11 h hw
  obtain ⟨a0, K, rfl, e⟩ := aSh_f (K := K) e
  have b1 : (aNum K).length + 1 ≤ 33 := b1
  have b2 : (aMap K).length + 0 ≤ 17 := b2
  exact mv_deep (d := d + 5) (by omega) (x_ap11 hA (by omega) (fun S' g => hP S' _ rfl ⟨σ, fb, xA_B g (Nat.le_succ B)⟩))
set_option maxHeartbeats 400000 in
theorem xS_15 (hQ : ∀ p s, Q p s → shM s ≤ 17) (h : okI w par L mn Q pc (aSh D.1)) (hw : w pc = 15) (ok : aOk sd rm D) (hD : xD S0 S sd rm B rets D) (hB : B + 5 < 2 ^ 31) (hP : ∀ S' D', aAp sd rm 15 x D = (1, D') → xD S0 S' sd rm (B + 1) rets D' → P (some (.int 1)) S') (hF : ∀ c S' K', aAp sd rm 15 x D = (c, D) → ¬ c = 1 → ¬ c = 99 → aMap K' = aMap D.1 → xD S0 S' sd rm (B + 1) rets (K', D.2) → P (some (.int c)) S') : mv_big layX sysX (d + 6) 114 [.ref 4, .int 15, .int x] S P := by
  obtain ⟨K, Ks, vs, mp, told, most, st⟩ := D
  obtain ⟨σ, fb, hA⟩ := hD
  have b1 : (aNum K).length ≤ 33 := by rw [aNum_sh]; exact h.1.1
  have b2 : (aMap K).length ≤ 17 := by rw [aMap_sh]; exact h.1.2.1
  obtain ⟨⟨hl, e⟩, q⟩ := okI_15 h hw
  obtain ⟨a0, K, rfl, e⟩ := aSh_f (K := K) e
  have b1 : (aNum K).length + 1 ≤ 33 := b1
  have b2 : (aMap K).length + 0 ≤ 17 := b2
  refine mv_deep (d := d + 5) (by omega) (x_ap15 hA (by omega) (fun z S' g => ?_) (fun z S' g => ?_))
  · exact hF 4 S' K (by rw [aTo_15, if_pos z]) (by decide) (by decide) rfl ⟨σ, fb, xA_B g (Nat.le_succ B)⟩
  · exact hP S' (K, Ks, vs, mp, told ++ [a0], most, st) (by rw [aTo_15, if_neg (by have z : told.length < 300 := z; omega)]) ⟨σ, fb, xA_B g (Nat.le_succ B)⟩
set_option maxHeartbeats 400000 in
theorem xS_18 (hQ : ∀ p s, Q p s → shM s ≤ 17) (h : okI w par L mn Q pc (aSh D.1)) (hw : w pc = 18) (ok : aOk sd rm D) (hD : xD S0 S sd rm B rets D) (hB : B + 5 < 2 ^ 31) (hP : ∀ S' D', aAp sd rm 18 x D = (1, D') → xD S0 S' sd rm (B + 1) rets D' → P (some (.int 1)) S') (hF : ∀ c S' K', aAp sd rm 18 x D = (c, D) → ¬ c = 1 → ¬ c = 99 → aMap K' = aMap D.1 → xD S0 S' sd rm (B + 1) rets (K', D.2) → P (some (.int c)) S') : mv_big layX sysX (d + 6) 114 [.ref 4, .int 18, .int x] S P := by
  obtain ⟨K, Ks, vs, mp, told, most, st⟩ := D
  obtain ⟨σ, fb, hA⟩ := hD
  have b1 : (aNum K).length ≤ 33 := by rw [aNum_sh]; exact h.1.1
  have b2 : (aMap K).length ≤ 17 := by rw [aMap_sh]; exact h.1.2.1
  obtain ⟨⟨hl, e⟩, q⟩ := okI_18 h hw
  obtain ⟨a0, K, rfl, e⟩ := aSh_f (K := K) e
  have b1 : (aNum K).length + 1 ≤ 33 := b1
  have b2 : (aMap K).length + 0 ≤ 17 := b2
  exact mv_deep (d := d + 5) (by omega) (x_ap18 hA (by omega) (fun S' g => hP S' _ rfl ⟨σ, fb, xA_B g (Nat.le_succ B)⟩))
set_option maxHeartbeats 400000 in
theorem xS_19 (hQ : ∀ p s, Q p s → shM s ≤ 17) (h : okI w par L mn Q pc (aSh D.1)) (hw : w pc = 19) (ok : aOk sd rm D) (hD : xD S0 S sd rm B rets D) (hB : B + 5 < 2 ^ 31) (hx : x = w (pc + 1)) (hP : ∀ S' D', aAp sd rm 19 x D = (1, D') → xD S0 S' sd rm (B + 1) rets D' → P (some (.int 1)) S') (hF : ∀ c S' K', aAp sd rm 19 x D = (c, D) → ¬ c = 1 → ¬ c = 99 → aMap K' = aMap D.1 → xD S0 S' sd rm (B + 1) rets (K', D.2) → P (some (.int c)) S') : mv_big layX sysX (d + 6) 114 [.ref 4, .int 19, .int x] S P := by
  obtain ⟨K, Ks, vs, mp, told, most, st⟩ := D
  obtain ⟨σ, fb, hA⟩ := hD
  have b1 : (aNum K).length ≤ 33 := by rw [aNum_sh]; exact h.1.1
  have b2 : (aMap K).length ≤ 17 := by rw [aMap_sh]; exact h.1.2.1
  obtain ⟨⟨hl, h6, h7⟩, q⟩ := okI_19 h hw
  obtain ⟨v1, v2⟩ := aN_of (n := 6) rfl (by decide) h6 h7
  rw [← hx] at v1 v2
  have b3 := hQ _ _ q
  have b3 : shM (true :: aSh K) ≤ 17 := b3
  rw [shM_t, ← aMap_sh] at b3
  rw [v1]
  exact mv_deep (d := d + 5) (by omega) (x_ap19 hA v2 (show (aMap K).length ≤ 16 by omega) (fun S' g => hP S' _ rfl ⟨σ, fb, xA_B g (Nat.le_succ B)⟩))
set_option maxHeartbeats 400000 in
theorem xS_20 (hQ : ∀ p s, Q p s → shM s ≤ 17) (h : okI w par L mn Q pc (aSh D.1)) (hw : w pc = 20) (ok : aOk sd rm D) (hD : xD S0 S sd rm B rets D) (hB : B + 5 < 2 ^ 31) (hx : x = w (pc + 1)) (hP : ∀ S' D', aAp sd rm 20 x D = (1, D') → xD S0 S' sd rm (B + 1) rets D' → P (some (.int 1)) S') (hF : ∀ c S' K', aAp sd rm 20 x D = (c, D) → ¬ c = 1 → ¬ c = 99 → aMap K' = aMap D.1 → xD S0 S' sd rm (B + 1) rets (K', D.2) → P (some (.int c)) S') : mv_big layX sysX (d + 6) 114 [.ref 4, .int 20, .int x] S P := by
  obtain ⟨K, Ks, vs, mp, told, most, st⟩ := D
  obtain ⟨σ, fb, hA⟩ := hD
  have b1 : (aNum K).length ≤ 33 := by rw [aNum_sh]; exact h.1.1
  have b2 : (aMap K).length ≤ 17 := by rw [aMap_sh]; exact h.1.2.1
  obtain ⟨⟨hl, h6, h7, e⟩, q⟩ := okI_20 h hw
  obtain ⟨v1, v2⟩ := aN_of (n := 6) rfl (by decide) h6 h7
  rw [← hx] at v1 v2
  obtain ⟨T0, q0, K, rfl, e⟩ := aSh_t (K := K) e
  have b1 : (aNum K).length + 0 ≤ 33 := b1
  have b2 : (aMap K).length + 1 ≤ 17 := b2
  rw [v1]
  exact mv_deep (d := d + 5) (by omega) (x_ap20 hA v2 (show (aMap K).length ≤ 16 by omega) (fun S' g => hP S' _ rfl ⟨σ, fb, xA_B g (Nat.le_succ B)⟩))
set_option maxHeartbeats 400000 in
theorem xS_21 (hQ : ∀ p s, Q p s → shM s ≤ 17) (h : okI w par L mn Q pc (aSh D.1)) (hw : w pc = 21) (ok : aOk sd rm D) (hD : xD S0 S sd rm B rets D) (hB : B + 5 < 2 ^ 31) (hP : ∀ S' D', aAp sd rm 21 x D = (1, D') → xD S0 S' sd rm (B + 1) rets D' → P (some (.int 1)) S') (hF : ∀ c S' K', aAp sd rm 21 x D = (c, D) → ¬ c = 1 → ¬ c = 99 → aMap K' = aMap D.1 → xD S0 S' sd rm (B + 1) rets (K', D.2) → P (some (.int c)) S') : mv_big layX sysX (d + 6) 114 [.ref 4, .int 21, .int x] S P := by
  obtain ⟨K, Ks, vs, mp, told, most, st⟩ := D
  obtain ⟨σ, fb, hA⟩ := hD
  have b1 : (aNum K).length ≤ 33 := by rw [aNum_sh]; exact h.1.1
  have b2 : (aMap K).length ≤ 17 := by rw [aMap_sh]; exact h.1.2.1
  obtain ⟨hl, q⟩ := okI_21 h hw
  have b3 := hQ _ _ q
  have b3 : shM (true :: aSh K) ≤ 17 := b3
  rw [shM_t, ← aMap_sh] at b3
  exact mv_deep (d := d + 5) (by omega) (x_ap21 hA (show (aMap K).length ≤ 16 by omega) (fun S' g => hP S' _ rfl ⟨σ, fb, xA_B g (Nat.le_succ B)⟩))
set_option maxHeartbeats 400000 in
theorem xS_22 (hQ : ∀ p s, Q p s → shM s ≤ 17) (h : okI w par L mn Q pc (aSh D.1)) (hw : w pc = 22) (ok : aOk sd rm D) (hD : xD S0 S sd rm B rets D) (hB : B + 5 < 2 ^ 31) (hP : ∀ S' D', aAp sd rm 22 x D = (1, D') → xD S0 S' sd rm (B + 1) rets D' → P (some (.int 1)) S') (hF : ∀ c S' K', aAp sd rm 22 x D = (c, D) → ¬ c = 1 → ¬ c = 99 → aMap K' = aMap D.1 → xD S0 S' sd rm (B + 1) rets (K', D.2) → P (some (.int c)) S') : mv_big layX sysX (d + 6) 114 [.ref 4, .int 22, .int x] S P := by
  obtain ⟨K, Ks, vs, mp, told, most, st⟩ := D
  obtain ⟨σ, fb, hA⟩ := hD
  have b1 : (aNum K).length ≤ 33 := by rw [aNum_sh]; exact h.1.1
  have b2 : (aMap K).length ≤ 17 := by rw [aMap_sh]; exact h.1.2.1
  obtain ⟨⟨hl, e⟩, q⟩ := okI_22 h hw
  obtain ⟨a0, K, rfl, e⟩ := aSh_f (K := K) e
  obtain ⟨a1, K, rfl, e⟩ := aSh_f (K := K) e
  obtain ⟨T2, q2, K, rfl, e⟩ := aSh_t (K := K) e
  have b1 : (aNum K).length + 2 ≤ 33 := b1
  have b2 : (aMap K).length + 1 ≤ 17 := b2
  obtain ⟨Ln, hLn⟩ := aNs_ex (.inl a0 :: .inl a1 :: .inr (T2, q2) :: K, Ks, vs, mp, told, most, st)
  have lv := aLv_eq hLn
  have hst : ∀ T' c, xRt S (aMap ((.inl a0 :: .inl a1 :: .inr (T2, q2) :: K) ++ Ks.flatten)) Ks.length mp T' c → tSt (fun s => s < st) T' := fun T' c z => (ok.1 T' (by rw [← xRt_hd (S := S)]; exact ⟨c, z⟩)).2.2
  rw [← xRt_hd (S := S)] at hLn
  refine x_ap22 (st := st) hA (ok.1 T2 (aHd_in (m := (T2, q2)) List.mem_cons_self)).1 hst hLn hB ok.2.1 (by omega) (by omega) (fun z S' g => ?_) (fun z S' σ' fb' g => ?_)
  · refine hF 5 S' (.inl a0 :: .inl a1 :: .inr (T2, q2) :: K) ?_ (by decide) (by decide) rfl ⟨σ, fb, g⟩
    show aMk rm (tPutN (xRank sd) a1 T2) (tPut (xRank sd) st a1 a0 T2) K (.inl a0 :: .inl a1 :: .inr (T2, q2) :: K, Ks, vs, mp, told, most, st) = _
    rw [aMk_eq]
    rw [if_neg (by rw [lv]; omega)]
  · refine hP S' (.inr (tPut (xRank sd) st a1 a0 T2, none) :: K, Ks, vs, mp, told, max most (tPutN (xRank sd) a1 T2), st + 1) ?_ ⟨σ', fb', g⟩
    show aMk rm (tPutN (xRank sd) a1 T2) (tPut (xRank sd) st a1 a0 T2) K (.inl a0 :: .inl a1 :: .inr (T2, q2) :: K, Ks, vs, mp, told, most, st) = _
    rw [aMk_eq]
    rw [if_pos (by rw [lv]; omega), if_pos (xA_live g)]
set_option maxHeartbeats 400000 in
theorem xS_23 (hQ : ∀ p s, Q p s → shM s ≤ 17) (h : okI w par L mn Q pc (aSh D.1)) (hw : w pc = 23) (ok : aOk sd rm D) (hD : xD S0 S sd rm B rets D) (hB : B + 5 < 2 ^ 31) (hP : ∀ S' D', aAp sd rm 23 x D = (1, D') → xD S0 S' sd rm (B + 1) rets D' → P (some (.int 1)) S') (hF : ∀ c S' K', aAp sd rm 23 x D = (c, D) → ¬ c = 1 → ¬ c = 99 → aMap K' = aMap D.1 → xD S0 S' sd rm (B + 1) rets (K', D.2) → P (some (.int c)) S') : mv_big layX sysX (d + 6) 114 [.ref 4, .int 23, .int x] S P := by
  obtain ⟨K, Ks, vs, mp, told, most, st⟩ := D
  obtain ⟨σ, fb, hA⟩ := hD
  have b1 : (aNum K).length ≤ 33 := by rw [aNum_sh]; exact h.1.1
  have b2 : (aMap K).length ≤ 17 := by rw [aMap_sh]; exact h.1.2.1
  obtain ⟨⟨hl, e⟩, q⟩ := okI_23 h hw
  obtain ⟨a0, K, rfl, e⟩ := aSh_f (K := K) e
  obtain ⟨T1, q1, K, rfl, e⟩ := aSh_t (K := K) e
  have b1 : (aNum K).length + 1 ≤ 33 := b1
  have b2 : (aMap K).length + 1 ≤ 17 := b2
  obtain ⟨Ln, hLn⟩ := aNs_ex (.inl a0 :: .inr (T1, q1) :: K, Ks, vs, mp, told, most, st)
  have lv := aLv_eq hLn
  have hst : ∀ T' c, xRt S (aMap ((.inl a0 :: .inr (T1, q1) :: K) ++ Ks.flatten)) Ks.length mp T' c → tSt (fun s => s < st) T' := fun T' c z => (ok.1 T' (by rw [← xRt_hd (S := S)]; exact ⟨c, z⟩)).2.2
  rw [← xRt_hd (S := S)] at hLn
  refine x_ap23 (st := st) hA (ok.1 T1 (aHd_in (m := (T1, q1)) List.mem_cons_self)).1 hst hLn hB ok.2.1 (by omega) (by omega) (fun z S' g => ?_) (fun z S' σ' fb' g => ?_)
  · refine hF 5 S' (.inl a0 :: .inr (T1, q1) :: K) ?_ (by decide) (by decide) rfl ⟨σ, fb, g⟩
    show aMk rm (tWtN (xRank sd) a0 T1) (tWt (xRank sd) st a0 T1) K (.inl a0 :: .inr (T1, q1) :: K, Ks, vs, mp, told, most, st) = _
    rw [aMk_eq]
    rw [if_neg (by rw [lv]; omega)]
  · refine hP S' (.inr (tWt (xRank sd) st a0 T1, none) :: K, Ks, vs, mp, told, max most (tWtN (xRank sd) a0 T1), st + 1) ?_ ⟨σ', fb', g⟩
    show aMk rm (tWtN (xRank sd) a0 T1) (tWt (xRank sd) st a0 T1) K (.inl a0 :: .inr (T1, q1) :: K, Ks, vs, mp, told, most, st) = _
    rw [aMk_eq]
    rw [if_pos (by rw [lv]; omega), if_pos (xA_live g)]
set_option maxHeartbeats 400000 in
theorem xS_24 (hQ : ∀ p s, Q p s → shM s ≤ 17) (h : okI w par L mn Q pc (aSh D.1)) (hw : w pc = 24) (ok : aOk sd rm D) (hD : xD S0 S sd rm B rets D) (hB : B + 5 < 2 ^ 31) (hP : ∀ S' D', aAp sd rm 24 x D = (1, D') → xD S0 S' sd rm (B + 1) rets D' → P (some (.int 1)) S') (hF : ∀ c S' K', aAp sd rm 24 x D = (c, D) → ¬ c = 1 → ¬ c = 99 → aMap K' = aMap D.1 → xD S0 S' sd rm (B + 1) rets (K', D.2) → P (some (.int c)) S') : mv_big layX sysX (d + 6) 114 [.ref 4, .int 24, .int x] S P := by
  obtain ⟨K, Ks, vs, mp, told, most, st⟩ := D
  obtain ⟨σ, fb, hA⟩ := hD
  have b1 : (aNum K).length ≤ 33 := by rw [aNum_sh]; exact h.1.1
  have b2 : (aMap K).length ≤ 17 := by rw [aMap_sh]; exact h.1.2.1
  obtain ⟨⟨hl, e⟩, q⟩ := okI_24 h hw
  obtain ⟨T0, q0, K, rfl, e⟩ := aSh_t (K := K) e
  obtain ⟨T1, q1, K, rfl, e⟩ := aSh_t (K := K) e
  have b1 : (aNum K).length + 0 ≤ 33 := b1
  have b2 : (aMap K).length + 2 ≤ 17 := b2
  obtain ⟨Ln, hLn⟩ := aNs_ex (.inr (T0, q0) :: .inr (T1, q1) :: K, Ks, vs, mp, told, most, st)
  have lv := aLv_eq hLn
  have hst : ∀ T' c, xRt S (aMap ((.inr (T0, q0) :: .inr (T1, q1) :: K) ++ Ks.flatten)) Ks.length mp T' c → tSt (fun s => s < st) T' := fun T' c z => (ok.1 T' (by rw [← xRt_hd (S := S)]; exact ⟨c, z⟩)).2.2
  rw [← xRt_hd (S := S)] at hLn
  refine x_ap24 (st := st) hA (ok.1 T1 (aHd_in (m := (T1, q1)) (List.mem_cons_of_mem _ List.mem_cons_self))).1 (ok.1 T0 (aHd_in (m := (T0, q0)) List.mem_cons_self)).1 hst hLn hB ok.2.1 (by omega) (by omega) (fun z S' g => ?_) (fun z S' σ' fb' g => ?_)
  · refine hF 5 S' (.inr (T0, q0) :: .inr (T1, q1) :: K) ?_ (by decide) (by decide) rfl ⟨σ, fb, g⟩
    show aMk rm (tUnN (xRank sd) st 801 T1 T0) (tUn (xRank sd) st 801 T1 T0) K (.inr (T0, q0) :: .inr (T1, q1) :: K, Ks, vs, mp, told, most, st) = _
    rw [aMk_eq]
    rw [if_neg (by rw [lv]; omega)]
  · refine hP S' (.inr (tUn (xRank sd) st 801 T1 T0, none) :: K, Ks, vs, mp, told, max most (tUnN (xRank sd) st 801 T1 T0), st + 1) ?_ ⟨σ', fb', g⟩
    show aMk rm (tUnN (xRank sd) st 801 T1 T0) (tUn (xRank sd) st 801 T1 T0) K (.inr (T0, q0) :: .inr (T1, q1) :: K, Ks, vs, mp, told, most, st) = _
    rw [aMk_eq]
    rw [if_pos (by rw [lv]; omega), if_pos (xA_live g)]
set_option maxHeartbeats 400000 in
theorem xS_25 (hQ : ∀ p s, Q p s → shM s ≤ 17) (h : okI w par L mn Q pc (aSh D.1)) (hw : w pc = 25) (ok : aOk sd rm D) (hD : xD S0 S sd rm B rets D) (hB : B + 5 < 2 ^ 31) (hP : ∀ S' D', aAp sd rm 25 x D = (1, D') → xD S0 S' sd rm (B + 1) rets D' → P (some (.int 1)) S') (hF : ∀ c S' K', aAp sd rm 25 x D = (c, D) → ¬ c = 1 → ¬ c = 99 → aMap K' = aMap D.1 → xD S0 S' sd rm (B + 1) rets (K', D.2) → P (some (.int c)) S') : mv_big layX sysX (d + 6) 114 [.ref 4, .int 25, .int x] S P := by
  obtain ⟨K, Ks, vs, mp, told, most, st⟩ := D
  obtain ⟨σ, fb, hA⟩ := hD
  have b1 : (aNum K).length ≤ 33 := by rw [aNum_sh]; exact h.1.1
  have b2 : (aMap K).length ≤ 17 := by rw [aMap_sh]; exact h.1.2.1
  obtain ⟨⟨hl, e⟩, q⟩ := okI_25 h (Or.inl hw)
  obtain ⟨a0, K, rfl, e⟩ := aSh_f (K := K) e
  obtain ⟨T1, q1, K, rfl, e⟩ := aSh_t (K := K) e
  have b1 : (aNum K).length + 1 ≤ 33 := b1
  have b2 : (aMap K).length + 1 ≤ 17 := b2
  exact x_ap25 hA (ok.1 T1 (aHd_in (m := (T1, q1)) List.mem_cons_self)).1 (by omega) (by omega) (fun S' g => hP S' _ rfl ⟨σ, fb, xA_B g (Nat.le_succ B)⟩)
set_option maxHeartbeats 400000 in
theorem xS_26 (hQ : ∀ p s, Q p s → shM s ≤ 17) (h : okI w par L mn Q pc (aSh D.1)) (hw : w pc = 26) (ok : aOk sd rm D) (hD : xD S0 S sd rm B rets D) (hB : B + 5 < 2 ^ 31) (hP : ∀ S' D', aAp sd rm 26 x D = (1, D') → xD S0 S' sd rm (B + 1) rets D' → P (some (.int 1)) S') (hF : ∀ c S' K', aAp sd rm 26 x D = (c, D) → ¬ c = 1 → ¬ c = 99 → aMap K' = aMap D.1 → xD S0 S' sd rm (B + 1) rets (K', D.2) → P (some (.int c)) S') : mv_big layX sysX (d + 6) 114 [.ref 4, .int 26, .int x] S P := by
  obtain ⟨K, Ks, vs, mp, told, most, st⟩ := D
  obtain ⟨σ, fb, hA⟩ := hD
  have b1 : (aNum K).length ≤ 33 := by rw [aNum_sh]; exact h.1.1
  have b2 : (aMap K).length ≤ 17 := by rw [aMap_sh]; exact h.1.2.1
  obtain ⟨⟨hl, e⟩, q⟩ := okI_25 h (Or.inr hw)
  obtain ⟨a0, K, rfl, e⟩ := aSh_f (K := K) e
  obtain ⟨T1, q1, K, rfl, e⟩ := aSh_t (K := K) e
  have b1 : (aNum K).length + 1 ≤ 33 := b1
  have b2 : (aMap K).length + 1 ≤ 17 := b2
  exact x_ap26 hA (ok.1 T1 (aHd_in (m := (T1, q1)) List.mem_cons_self)).1 (by omega) (by omega) (fun S' g => hP S' _ rfl ⟨σ, fb, xA_B g (Nat.le_succ B)⟩)
set_option maxHeartbeats 400000 in
theorem xS_27 (hQ : ∀ p s, Q p s → shM s ≤ 17) (h : okI w par L mn Q pc (aSh D.1)) (hw : w pc = 27) (ok : aOk sd rm D) (hD : xD S0 S sd rm B rets D) (hB : B + 5 < 2 ^ 31) (hP : ∀ S' D', aAp sd rm 27 x D = (1, D') → xD S0 S' sd rm (B + 1) rets D' → P (some (.int 1)) S') (hF : ∀ c S' K', aAp sd rm 27 x D = (c, D) → ¬ c = 1 → ¬ c = 99 → aMap K' = aMap D.1 → xD S0 S' sd rm (B + 1) rets (K', D.2) → P (some (.int c)) S') : mv_big layX sysX (d + 6) 114 [.ref 4, .int 27, .int x] S P := by
  obtain ⟨K, Ks, vs, mp, told, most, st⟩ := D
  obtain ⟨σ, fb, hA⟩ := hD
  have b1 : (aNum K).length ≤ 33 := by rw [aNum_sh]; exact h.1.1
  have b2 : (aMap K).length ≤ 17 := by rw [aMap_sh]; exact h.1.2.1
  obtain ⟨⟨hl, e⟩, q⟩ := okI_27 h hw
  obtain ⟨T0, q0, K, rfl, e⟩ := aSh_t (K := K) e
  have b1 : (aNum K).length + 0 ≤ 33 := b1
  have b2 : (aMap K).length + 1 ≤ 17 := b2
  exact x_ap27 hA (ok.1 T0 (aHd_in (m := (T0, q0)) List.mem_cons_self)).1 (by omega) (by omega) (by omega) (fun S' g => hP S' _ rfl ⟨σ, fb, g⟩)
set_option maxHeartbeats 400000 in
theorem xS_28 (hQ : ∀ p s, Q p s → shM s ≤ 17) (h : okI w par L mn Q pc (aSh D.1)) (hw : w pc = 28) (ok : aOk sd rm D) (hD : xD S0 S sd rm B rets D) (hB : B + 5 < 2 ^ 31) (hP : ∀ S' D', aAp sd rm 28 x D = (1, D') → xD S0 S' sd rm (B + 1) rets D' → P (some (.int 1)) S') (hF : ∀ c S' K', aAp sd rm 28 x D = (c, D) → ¬ c = 1 → ¬ c = 99 → aMap K' = aMap D.1 → xD S0 S' sd rm (B + 1) rets (K', D.2) → P (some (.int c)) S') : mv_big layX sysX (d + 6) 114 [.ref 4, .int 28, .int x] S P := by
  obtain ⟨K, Ks, vs, mp, told, most, st⟩ := D
  obtain ⟨σ, fb, hA⟩ := hD
  have b1 : (aNum K).length ≤ 33 := by rw [aNum_sh]; exact h.1.1
  have b2 : (aMap K).length ≤ 17 := by rw [aMap_sh]; exact h.1.2.1
  obtain ⟨⟨hl, e⟩, q⟩ := okI_28 h hw
  obtain ⟨a0, K, rfl, e⟩ := aSh_f (K := K) e
  obtain ⟨a1, K, rfl, e⟩ := aSh_f (K := K) e
  obtain ⟨T2, q2, K, rfl, e⟩ := aSh_t (K := K) e
  have b1 : (aNum K).length + 2 ≤ 33 := b1
  have b2 : (aMap K).length + 1 ≤ 17 := b2
  exact x_ap28 hA (ok.1 T2 (aHd_in (m := (T2, q2)) List.mem_cons_self)).1 (by omega) (by omega) (fun S' g => hP S' _ rfl ⟨σ, fb, xA_B g (Nat.le_succ B)⟩)
theorem aPx_4 : aAp sd rm 4 x (K, Ks, vs, mp, told, most, st) = if (4 = 7 ∨ 4 = 8) ∧ aX K = 0 then (2, (K, Ks, vs, mp, told, most, st)) else (1, (.inl (aOp (nI 4) (aX K.tail) (aX K)) :: K.tail.tail, Ks, vs, mp, told, most, st)) := rfl
theorem aPx_5 : aAp sd rm 5 x (K, Ks, vs, mp, told, most, st) = if (5 = 7 ∨ 5 = 8) ∧ aX K = 0 then (2, (K, Ks, vs, mp, told, most, st)) else (1, (.inl (aOp (nI 5) (aX K.tail) (aX K)) :: K.tail.tail, Ks, vs, mp, told, most, st)) := rfl
theorem aPx_6 : aAp sd rm 6 x (K, Ks, vs, mp, told, most, st) = if (6 = 7 ∨ 6 = 8) ∧ aX K = 0 then (2, (K, Ks, vs, mp, told, most, st)) else (1, (.inl (aOp (nI 6) (aX K.tail) (aX K)) :: K.tail.tail, Ks, vs, mp, told, most, st)) := rfl
theorem aPx_7 : aAp sd rm 7 x (K, Ks, vs, mp, told, most, st) = if (7 = 7 ∨ 7 = 8) ∧ aX K = 0 then (2, (K, Ks, vs, mp, told, most, st)) else (1, (.inl (aOp (nI 7) (aX K.tail) (aX K)) :: K.tail.tail, Ks, vs, mp, told, most, st)) := rfl
theorem aPx_8 : aAp sd rm 8 x (K, Ks, vs, mp, told, most, st) = if (8 = 7 ∨ 8 = 8) ∧ aX K = 0 then (2, (K, Ks, vs, mp, told, most, st)) else (1, (.inl (aOp (nI 8) (aX K.tail) (aX K)) :: K.tail.tail, Ks, vs, mp, told, most, st)) := rfl
theorem aPx_9 : aAp sd rm 9 x (K, Ks, vs, mp, told, most, st) = if (9 = 7 ∨ 9 = 8) ∧ aX K = 0 then (2, (K, Ks, vs, mp, told, most, st)) else (1, (.inl (aOp (nI 9) (aX K.tail) (aX K)) :: K.tail.tail, Ks, vs, mp, told, most, st)) := rfl
theorem aPx_10 : aAp sd rm 10 x (K, Ks, vs, mp, told, most, st) = if (10 = 7 ∨ 10 = 8) ∧ aX K = 0 then (2, (K, Ks, vs, mp, told, most, st)) else (1, (.inl (aOp (nI 10) (aX K.tail) (aX K)) :: K.tail.tail, Ks, vs, mp, told, most, st)) := rfl
theorem aPx_11 : aAp sd rm 11 x (K, Ks, vs, mp, told, most, st) = (1, (.inl (if aX K = 0 then 1 else 0) :: K.tail, Ks, vs, mp, told, most, st)) := rfl
theorem aPx_15 : aAp sd rm 15 x (K, Ks, vs, mp, told, most, st) = if told.length = 300 then (4, (K, Ks, vs, mp, told, most, st)) else (1, (K.tail, Ks, vs, mp, told ++ [aX K], most, st)) := rfl
theorem aPx_18 : aAp sd rm 18 x (K, Ks, vs, mp, told, most, st) = (1, (K.tail, Ks, vs, mp, told, most, st)) := rfl
theorem aPx_21 : aAp sd rm 21 x (K, Ks, vs, mp, told, most, st) = (1, (.inr (.leaf, none) :: K, Ks, vs, mp, told, most, st)) := rfl
theorem aPx_22 : aAp sd rm 22 x (K, Ks, vs, mp, told, most, st) = aMk rm (tPutN (xRank sd) (aX K.tail) (aT K.tail.tail)) (tPut (xRank sd) st (aX K.tail) (aX K) (aT K.tail.tail)) K.tail.tail.tail (K, Ks, vs, mp, told, most, st) := rfl
theorem aPx_23 : aAp sd rm 23 x (K, Ks, vs, mp, told, most, st) = aMk rm (tWtN (xRank sd) (aX K) (aT K.tail)) (tWt (xRank sd) st (aX K) (aT K.tail)) K.tail.tail (K, Ks, vs, mp, told, most, st) := rfl
theorem aPx_24 : aAp sd rm 24 x (K, Ks, vs, mp, told, most, st) = aMk rm (tUnN (xRank sd) st 801 (aT K.tail) (aT K)) (tUn (xRank sd) st 801 (aT K.tail) (aT K)) K.tail.tail (K, Ks, vs, mp, told, most, st) := rfl
theorem aPx_25 : aAp sd rm 25 x (K, Ks, vs, mp, told, most, st) = (1, (.inl (tV (tFnd (aX K) (aT K.tail))) :: K.tail.tail, Ks, vs, mp, told, most, st)) := rfl
theorem aPx_26 : aAp sd rm 26 x (K, Ks, vs, mp, told, most, st) = (1, (.inl (tIf (tFnd (aX K) (aT K.tail)) 0 1) :: K.tail.tail, Ks, vs, mp, told, most, st)) := rfl
theorem aPx_27 : aAp sd rm 27 x (K, Ks, vs, mp, told, most, st) = (1, (.inl (nI (tN (aT K))) :: K.tail, Ks, vs, mp, told, most, st)) := rfl
theorem aPx_28 : aAp sd rm 28 x (K, Ks, vs, mp, told, most, st) = (1, (.inl (tIf (tFlo (aX K.tail) .leaf (aT K.tail.tail)) (aX K) (tKy (tFlo (aX K.tail) .leaf (aT K.tail.tail)))) :: K.tail.tail.tail, Ks, vs, mp, told, most, st)) := rfl
theorem aAp_x {z : Int32} (hk : aDw k) (hy : aWl k = 2 → x = z) : aAp sd rm k x D = aAp sd rm k z D := by
  obtain ⟨K, Ks, vs, mp, told, most, st⟩ := D
  unfold aDw at hk
  match k, hk, hy with
  | 0, hk, _ => omega
  | 1, _, hy => rw [hy rfl]
  | 2, _, hy => rw [hy rfl]
  | 3, _, hy => rw [hy rfl]
  | 4, _, _ => rw [aPx_4, aPx_4]
  | 5, _, _ => rw [aPx_5, aPx_5]
  | 6, _, _ => rw [aPx_6, aPx_6]
  | 7, _, _ => rw [aPx_7, aPx_7]
  | 8, _, _ => rw [aPx_8, aPx_8]
  | 9, _, _ => rw [aPx_9, aPx_9]
  | 10, _, _ => rw [aPx_10, aPx_10]
  | 11, _, _ => rw [aPx_11, aPx_11]
  | 12, hk, _ => omega
  | 13, hk, _ => omega
  | 14, hk, _ => omega
  | 15, _, _ => rw [aPx_15, aPx_15]
  | 16, hk, _ => omega
  | 17, hk, _ => omega
  | 18, _, _ => rw [aPx_18, aPx_18]
  | 19, _, hy => rw [hy rfl]
  | 20, _, hy => rw [hy rfl]
  | 21, _, _ => rw [aPx_21, aPx_21]
  | 22, _, _ => rw [aPx_22, aPx_22]
  | 23, _, _ => rw [aPx_23, aPx_23]
  | 24, _, _ => rw [aPx_24, aPx_24]
  | 25, _, _ => rw [aPx_25, aPx_25]
  | 26, _, _ => rw [aPx_26, aPx_26]
  | 27, _, _ => rw [aPx_27, aPx_27]
  | 28, _, _ => rw [aPx_28, aPx_28]
  | k + 29, hk, _ => omega
theorem x_apA (hk : aDw k) (hQ : ∀ p s, Q p s → shM s ≤ 17) (h : okI w par L mn Q pc (aSh D.1)) (hw : w pc = nI k) (ok : aOk sd rm D) (hD : xD S0 S sd rm B rets D) (hB : B + 5 < 2 ^ 31) (hy : aWl k = 2 → x = w (pc + 1)) (hP : ∀ S' D', aAp sd rm k (w (pc + 1)) D = (1, D') → xD S0 S' sd rm (B + 1) rets D' → P (some (.int 1)) S') (hF : ∀ c S' K', aAp sd rm k (w (pc + 1)) D = (c, D) → ¬ c = 1 → ¬ c = 99 → aMap K' = aMap D.1 → xD S0 S' sd rm (B + 1) rets (K', D.2) → P (some (.int c)) S') : mv_big layX sysX (d + 6) 114 [.ref 4, .int (nI k), .int x] S P := by
  have ex : aAp sd rm k x D = aAp sd rm k (w (pc + 1)) D := aAp_x hk hy
  rw [← ex] at hP hF
  unfold aDw at hk
  match k, hk, hw, hy, hP, hF with
  | 0, hk, _, _, _, _ => omega
  | 1, _, hw, hy, hP, hF => exact xS_1 hQ h hw ok hD hB hP hF
  | 2, _, hw, hy, hP, hF => exact xS_2 hQ h hw ok hD hB (hy rfl) hP hF
  | 3, _, hw, hy, hP, hF => exact xS_3 hQ h hw ok hD hB (hy rfl) hP hF
  | 4, _, hw, hy, hP, hF => exact xS_4 hQ h hw ok hD hB hP hF
  | 5, _, hw, hy, hP, hF => exact xS_5 hQ h hw ok hD hB hP hF
  | 6, _, hw, hy, hP, hF => exact xS_6 hQ h hw ok hD hB hP hF
  | 7, _, hw, hy, hP, hF => exact xS_7 hQ h hw ok hD hB hP hF
  | 8, _, hw, hy, hP, hF => exact xS_8 hQ h hw ok hD hB hP hF
  | 9, _, hw, hy, hP, hF => exact xS_9 hQ h hw ok hD hB hP hF
  | 10, _, hw, hy, hP, hF => exact xS_10 hQ h hw ok hD hB hP hF
  | 11, _, hw, hy, hP, hF => exact xS_11 hQ h hw ok hD hB hP hF
  | 12, hk, _, _, _, _ => omega
  | 13, hk, _, _, _, _ => omega
  | 14, hk, _, _, _, _ => omega
  | 15, _, hw, hy, hP, hF => exact xS_15 hQ h hw ok hD hB hP hF
  | 16, hk, _, _, _, _ => omega
  | 17, hk, _, _, _, _ => omega
  | 18, _, hw, hy, hP, hF => exact xS_18 hQ h hw ok hD hB hP hF
  | 19, _, hw, hy, hP, hF => exact xS_19 hQ h hw ok hD hB (hy rfl) hP hF
  | 20, _, hw, hy, hP, hF => exact xS_20 hQ h hw ok hD hB (hy rfl) hP hF
  | 21, _, hw, hy, hP, hF => exact xS_21 hQ h hw ok hD hB hP hF
  | 22, _, hw, hy, hP, hF => exact xS_22 hQ h hw ok hD hB hP hF
  | 23, _, hw, hy, hP, hF => exact xS_23 hQ h hw ok hD hB hP hF
  | 24, _, hw, hy, hP, hF => exact xS_24 hQ h hw ok hD hB hP hF
  | 25, _, hw, hy, hP, hF => exact xS_25 hQ h hw ok hD hB hP hF
  | 26, _, hw, hy, hP, hF => exact xS_26 hQ h hw ok hD hB hP hF
  | 27, _, hw, hy, hP, hF => exact xS_27 hQ h hw ok hD hB hP hF
  | 28, _, hw, hy, hP, hF => exact xS_28 hQ h hw ok hD hB hP hF
  | k + 29, hk, _, _, _, _ => omega
end XD

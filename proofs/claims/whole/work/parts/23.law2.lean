theorem mv_cin (ci : Nat) {C : String} {T : u_T} {N : Nat} (hc : vwCl[ci]? = some (C, T, N)) : ∀ w ∈ u_ws C T N, w ∈ mv_Ts := by
  have hlt : ci < 9 := mv_lt hc
  obtain ⟨C', T', N', ty, hc', hin, -, -⟩ := okC ci hlt
  have he : (C', T', N') = (C, T, N) := Option.some.inj (hc'.symm.trans hc)
  cases he
  exact hin
theorem mv_arr {s : State} {args : Array Value} {ty : FieldType} (h : (Cond.arrayClass ty).before args s = true) (hob : ∀ C, ty ≠ .object C) : ∃ cA : ClassId, ArrOfT s cA ty ∧ va_RA s cA ty := by
  sorry
/-! THE LAW, from its entry -/
theorem lw_Alen {ad : Nat → Nat} {n a : Nat} (h : lw_A ad n a) {P : Nat → Prop} (hp : ∀ q, q < n → P (ad q)) : P a := by
  obtain ⟨q, h1, rfl⟩ := h
  exact hp q h1
set_option maxHeartbeats 4000000 in
theorem law_start {p : Program} {e : Env} {s : State} {m : MethodId} {below : List Frame} {meth : Method} {c : Code} (l : Launch) {b L : Nat} {xs : Nat → Int32} (hL : L ≤ 2048) (C0 : lw_At p s m meth c b L xs)
    (Rel : Nat → mv_S → mv_S → Prop) (h00 : Rel 0 sX0 sY0) (hskip : ∀ n S T, Rel n S T → Rel (n + 1) S T) (hstep : ∀ n, 4 * n + 4 ≤ L → ∀ S T, Rel n S T → ∀ (k : Nat) (q : Nat × Nat × Nat), lw_T[k]? = some q → ∀ as : List Int32, as.length = q.2.2 → lw_Sim (Rel (n + 1)) q.1 q.2.1 as S T) : W p l e room_1 s m #[Value.ref b] below meth c s.heap [] 0 0 (lw_Z below #[Value.ref b] s) (entryFrame m ([Value.ref b] : List Value).toArray 4) := by
  obtain ⟨hx, hb, hr, hml, hown, hts0, hX, hbl, hlocks, hgv⟩ := id C0
  have hts : ∀ w ∈ mv_Ts, w.before #[Value.ref b] s = true := fun w hw => hts0 w (List.mem_filter.mp hw).1
  have hA : ∀ q : Nat, s.heap.size ≤ q → (fun q : Nat => s.heap.size ≤ q) q := fun _ h => h
  obtain ⟨k0, iS0, hKn0⟩ := u_known (C := RX0) (T := TX0) (N := 16) (n := 16) hts (mv_cin 0 rfl) (hts (.instantiable RX0 16) (mv_mem_of (h := 204) (by decide +kernel)))
  obtain ⟨k1, iS1, hKn1⟩ := u_known (C := RX1) (T := TX1) (N := 4) (n := 4) hts (mv_cin 1 rfl) (hts (.instantiable RX1 4) (mv_mem_of (h := 185) (by decide +kernel)))
  obtain ⟨k2, iS2, hKn2⟩ := u_known (C := RX2) (T := TX2) (N := 13) (n := 13) hts (mv_cin 2 rfl) (hts (.instantiable RX2 13) (mv_mem_of (h := 138) (by decide +kernel)))
  obtain ⟨k3, iS3, hKn3⟩ := u_known (C := RX4) (T := TX4) (N := 5) (n := 5) hts (mv_cin 3 rfl) (hts (.instantiable RX4 5) (mv_mem_of (h := 343) (by decide +kernel)))
  obtain ⟨k4, iS4, hKn4⟩ := u_known (C := RX5) (T := TX5) (N := 17) (n := 17) hts (mv_cin 4 rfl) (hts (.instantiable RX5 17) (mv_mem_of (h := 259) (by decide +kernel)))
  obtain ⟨k5, iS5, hKn5⟩ := u_known (C := RX7) (T := TX7) (N := 6) (n := 6) hts (mv_cin 5 rfl) (hts (.instantiable RX7 6) (mv_mem_of (h := 265) (by decide +kernel)))
  obtain ⟨k6, iS6, hKn6⟩ := u_known (C := RX8) (T := TX8) (N := 9) (n := 9) hts (mv_cin 6 rfl) (hts (.instantiable RX8 9) (mv_mem_of (h := 365) (by decide +kernel)))
  obtain ⟨k7, iS7, hKn7⟩ := u_known (C := RX10) (T := TX10) (N := 6) (n := 6) hts (mv_cin 7 rfl) (hts (.instantiable RX10 6) (mv_mem_of (h := 130) (by decide +kernel)))
  obtain ⟨k8, iS8, hKn8⟩ := u_known (C := RX11) (T := TX11) (N := 66) (n := 66) hts (mv_cin 8 rfl) (hts (.instantiable RX11 66) (mv_mem_of (h := 1156) (by decide +kernel)))
  obtain ⟨dC, dI, hKc⟩ : ∃ (dC : Nat → ClassId) (dI : Nat → Nat → Nat), ∀ (k : Nat) (q : vw_C), vwCl[k]? = some q → u_Kn s q.1 q.2.1 q.2.2 (dC k) (dI k) := by
    refine ⟨fun k => if k = 0 then k0 else if k = 1 then k1 else if k = 2 then k2 else if k = 3 then k3 else if k = 4 then k4 else if k = 5 then k5 else if k = 6 then k6 else if k = 7 then k7 else k8, fun k => if k = 0 then iS0 else if k = 1 then iS1 else if k = 2 then iS2 else if k = 3 then iS3 else if k = 4 then iS4 else if k = 5 then iS5 else if k = 6 then iS6 else if k = 7 then iS7 else iS8, ?_⟩
    intro k q hq
    match k, hq with
    | 0, hq => cases hq; exact hKn0
    | 1, hq => cases hq; exact hKn1
    | 2, hq => cases hq; exact hKn2
    | 3, hq => cases hq; exact hKn3
    | 4, hq => cases hq; exact hKn4
    | 5, hq => cases hq; exact hKn5
    | 6, hq => cases hq; exact hKn6
    | 7, hq => cases hq; exact hKn7
    | 8, hq => cases hq; exact hKn8
    | k + 9, hq => simp [vwCl] at hq
  obtain ⟨cI, hI1, hI2⟩ := mv_arr (ty := .int) (hts _ (okAr .int (Or.inl rfl))) (by intro C h; cases h)
  obtain ⟨cZ, hZ1, hZ2⟩ := mv_arr (ty := .boolean) (hts _ (okAr .boolean (Or.inr (Or.inl rfl)))) (by intro C h; cases h)
  obtain ⟨cJ, hJ1, hJ2⟩ := mv_arr (ty := .long) (hts _ (okAr .long (Or.inr (Or.inr rfl)))) (by intro C h; cases h)
  obtain ⟨cy, hcy0, hcy1, hcy2⟩ : ∃ cy : Nat → ClassId, cy 0 = cI ∧ cy 1 = cZ ∧ cy 2 = cJ := ⟨fun k => if k = 0 then cI else if k = 1 then cZ else cJ, rfl, rfl, rfl⟩
  have hK : va_K (dC, dI) vwCl (mv_tys cy) s := ⟨hKc, fun k q h => by
    match k, h with
    | 0, h => cases h; rw [hcy0]; exact ⟨hI1, hI2⟩
    | 1, h => cases h; rw [hcy1]; exact ⟨hZ1, hZ2⟩
    | 2, h => cases h; rw [hcy2]; exact ⟨hJ1, hJ2⟩
    | k + 3, h => simp [mv_tys] at h⟩
  have hS : va_S (fun q : Nat => s.heap.size ≤ q) s.heap s.heap [] := va_S.rf
  have hP : va_P (dC, dI) vwCl [] s.heap := fun k q h => by simp at h
  have hD : va_D (fun q : Nat => s.heap.size ≤ q) [] := ⟨fun i j p q h => by simp at h, fun k q h => by simp at h⟩
  have hN : mc_N s := ⟨va_Nw.of rfl (hts0 _ (List.mem_of_getElem? (i := 139) (by decide +kernel))), va_Nw.of rfl (hts0 _ (List.mem_of_getElem? (i := 205) (by decide +kernel)))⟩
  sorry

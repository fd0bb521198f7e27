theorem mv_cin (ci : Nat) {C : String} {T : u_T} {N : Nat} (hc : vwCl[ci]? = some (C, T, N)) : ∀ w ∈ u_ws C T N, w ∈ mv_Ts := by
  have hlt : ci < 9 := mv_lt hc
  obtain ⟨C', T', N', ty, hc', hin, -, -⟩ := okC ci hlt
  have he : (C', T', N') = (C, T, N) := Option.some.inj (hc'.symm.trans hc)
  cases he
  exact hin
theorem mv_arr {s : State} {args : Array Value} {ty : FieldType} (h : (Cond.arrayClass ty).before args s = true) (hob : ∀ C, ty ≠ .object C) : ∃ cA : ClassId, ArrOfT s cA ty ∧ va_RA s cA ty := by
  obtain ⟨cA, kA, comp, h1, h2, h3⟩ := Cond.arrayClass_spec h
  refine ⟨cA, fun n z => ⟨fun k h => (by cases h), kA, h2, comp, h3⟩, ?_⟩
  cases ty with
  | object C => exact absurd rfl (hob C)
  | _ => exact h1
theorem mv_fm {α β : Type} {f : α → Option β} : ∀ {l : List α} {w : List β}, l.map f = w.map some → l.filterMap f = w
  | [], [], _ => rfl
  | [], _ :: _, h => by simp at h
  | _ :: _, [], h => by simp at h
  | a :: l, b :: w, h => by
    simp only [List.map_cons, List.cons.injEq] at h
    rw [List.filterMap_cons, h.1, mv_fm h.2]
theorem mv_Dall {cy : Nat → ClassId} {ad : Nat → Nat} {S S' : mv_S} {lay : List mv_D} {A : Nat → Prop} (h : va_D A (mv_w cy ad S 0 lay)) : va_D (lw_A ad lay.length) (mv_w cy ad S' 0 lay) := by
  refine ⟨?_, fun k q hk => lw_inA hk⟩
  intro i j x y hi hj hxy
  rw [mv_w_at] at hi hj
  obtain ⟨d1, h1, rfl⟩ := Option.map_eq_some_iff.mp hi
  obtain ⟨d2, h2, rfl⟩ := Option.map_eq_some_iff.mp hj
  exact h.1 i j _ _ (mv_w_get h1) (mv_w_get h2) (by simpa using hxy)
def mv_dok (ci : Nat) (fs : List Value) : Bool := match vwCl[ci]? with
  | some (_, T, N) => (List.range N).all (fun j => match parseFieldDescriptor (T j).2.2.1 with
    | some t => decide (defaultValue t = vp_V fs j)
    | none => false)
  | none => false
theorem dfX_ok : mv_dok 7 dfX = true := by decide +kernel
theorem dfY_ok : mv_dok 8 dfY = true := by decide +kernel
theorem mv_dfl {ci : Nat} {C : String} {T : u_T} {N : Nat} {ty : Nat → FieldType} {fs : List Value} {j : Nat} (h : mv_dok ci fs = true) (hty : ∀ k, k < N → parseFieldDescriptor (T k).2.2.1 = some (ty k)) (hj : j < N) (hc : vwCl[ci]? = some (C, T, N) := by rfl) : defaultValue (ty j) = vp_V fs j := by
  unfold mv_dok at h
  rw [hc] at h
  have h1 := List.all_eq_true.mp h j (List.mem_range.mpr hj)
  rw [hty j hj] at h1
  exact of_decide_eq_true h1
section LWC
variable {p : Program} {l : Launch} {e : Env} {s : State} {m : MethodId} {args : Array Value} {below : List Frame} {meth : Method} {c : Code} {Q : State → Prop} {cells slots : Nat} {D : va_G} {cy : Nat → ClassId}
theorem lw_ctor (hx : p.tables.exec = Jvm.exec) (hb : c.code = code) (hml : c.maxLocals = 4) (hown : s.vm.findClass R_law = some m.cls) (hts : ∀ w ∈ mv_Ts, w.before args s = true) (hK : va_K D vwCl (mv_tys cy) s) (hN : mc_N s)
    {j i pc ci q0 k2 n2 : Nat} {df : List Value} {C : mc_C} {ls : Array Slot} {rest : List Value} {M' : mc_M} {H : Heap} {locs : List Loc} (hC : kCs[j]? = some C) (hnm : C.1.name = "<init>") (hlink : Cond.methodLink R_law i C.1 ∈ mv_Ts) (hinst : Cond.instanceMethod C.1 ∈ mv_Ts) (hnp : C.2.2.2.1 = 0) (hd : decode code pc = .ok (.invokespecial i, 3))
    (hmk : mc_big mc_df kCs 4 j [.ref 0] [.inl (ci, df)] = some (M', k2, n2)) (hdf : df.map (mv_k (fun _ => q0)) = df) (hP : va_P D vwCl [(q0, .inr (ci, df))] H) (hS : va_S (fun q => s.heap.size ≤ q) s.heap H locs) (hq : s.heap.size ≤ q0) (hsz : ls.size = 4) (hcat : (rest.map fun v => v.category).sum ≤ 8) (hce : cells + k2 ≤ 600000) (hsl : slots + n2 ≤ 7302250)
    (kk : ∀ (ad : Nat → Nat) (H' : Heap) (locs' : List Loc), ad 0 = q0 → va_P D vwCl (mc_w cy ad 0 M') H' → va_D (fun q => q = q0 ∨ H.size ≤ q) (mc_w cy ad 0 M') → H.size ≤ H'.size → (∀ q, q < H.size → q ≠ q0 → H'[q]? = H[q]?) → va_S (fun q => s.heap.size ≤ q) s.heap H' locs' → W p l e room_1 s m args below meth c H' locs' (cells + k2) (slots + n2) Q (F0 m (pc + 3) ls rest)) :
    W p l e room_1 s m args below meth c H locs cells slots Q (F0 m pc ls (.ref q0 :: rest)) := by
  have hMet := mc_met (l := l) (D := D) (cy := cy) okK okAr 4 j [.ref 0] [.inl (ci, df)] M' k2 n2 C (fun _ => q0) H.size hC hmk
  obtain ⟨g1, g2, -, -, -, -, g6, g7, g8⟩ := okK j C hC
  have hw : mc_w cy (fun _ => q0) 0 [.inl (ci, df)] = [(q0, .inr (ci, df))] := by simp only [mc_w, mc_e, hdf]
  have hAe : ∀ q, mc_A cy (fun _ => q0) [.inl (ci, df)] H.size q ↔ (q = q0 ∨ H.size ≤ q) := by
    intro q
    unfold mc_A va_A
    rw [hw]
    constructor
    · rintro (⟨k, e, h⟩ | h)
      · match k, h with
        | 0, h => cases h; exact Or.inl rfl
        | k + 1, h => simp at h
      · exact Or.inr h
    · rintro (rfl | h)
      · exact Or.inl ⟨0, _, rfl⟩
      · exact Or.inr h
  have hD0 : va_D (fun _ => True) [(q0, (.inr (ci, df) : va_E))] := ⟨fun i j x y h1 h2 _ => by
      have z1 : i < 1 := mv_lt h1
      have z2 : j < 1 := mv_lt h2
      omega, fun _ _ _ => trivial⟩
  have cb : CallB room_1 s args R_law i C.1 C.2.1 C.2.2.1 none (Cond.code C.1 C.2.1 C.2.2.1 none :: mv_Ts) (mc_rm 4 k2 n2) k2 n2 C.2.2.2.1 :=
    callB_of C.2.2.2.1 hts (mv_goodIn g2) rfl rfl rfl (hts _ g8) (hts _ hlink) g6 ⟨by show 5 ≤ 2048; omega, by show 8 + (C.2.2.1 + 11) + 40 * 4 ≤ 84000; omega⟩
  have hr := va_runI (cells := cells) (slots := slots) (below := below) (meth := meth) (locs := locs) (e := e) (H := H) (g := F0 m pc ls (.ref q0 :: rest)) (b := q0) (As := []) (rest := rest) ⟨hx, hb, hml, hown, hts⟩ hMet ⟨cb, hnm, hts _ hinst⟩ ⟨mc_blind, fun U hU hWm => ⟨rfl, by rw [hU], by rw [hU, hw]; exact hP, va_K.moved hWm.alike hK, by rw [hw]; exact hD0, hN.moved hWm⟩⟩ rfl (by rw [hnp]; rfl) hsz rfl (lv_room hcat) hd ⟨hce, hsl⟩
  intro U hU X
  obtain ⟨v, st₀, t, T', L, e0, X', hL, e1, e2, ⟨⟨ad2, hv, hu, hP1, hK1, hD1⟩, hz, hk⟩, st⟩ := hr U hU X
  rw [e0] at hz hk
  cases hv
  have hA0 : ∀ q, mc_A cy (fun _ => q0) [.inl (ci, df)] H.size q → s.heap.size ≤ q := fun q h => by
    rcases (hAe q).mp h with rfl | h
    · exact hq
    · exact Nat.le_trans hS.1 h
  obtain ⟨t2, a1, b1⟩ := kk ad2 T'.heap (locs ++ L) (hu 0 (by simp)) (by rw [e1]; exact hP1) (hD1.weaken (fun _ q _ h => (hAe q.1).mp h)) (by rw [e1]; exact hz) (fun q h1 h2 => by rw [e1]; exact hk q h1 (fun z => by
      rcases (hAe q).mp z with h | h
      · exact h2 h
      · omega)) ⟨Nat.le_trans hS.1 (by rw [e1]; exact hz), fun q h1 h2 => by rw [e1, hk q (Nat.lt_of_lt_of_le h1 hS.1) (fun z => h2 (hA0 q z))]; exact hS.2.1 q h1 h2, fun q hq => by
      rcases List.mem_append.mp hq with h | h
      · exact hS.2.2 q h
      · exact hA0 _ (hL q h)⟩ T' rfl X'
  exact ⟨t2, st t2 a1, b1⟩
end LWC
/-! THE LAW, from its entry -/
theorem lw_Alen {ad : Nat → Nat} {n a : Nat} (h : lw_A ad n a) {P : Nat → Prop} (hp : ∀ q, q < n → P (ad q)) : P a := by
  obtain ⟨q, h1, rfl⟩ := h
  exact hp q h1
set_option maxHeartbeats 4000000 in
theorem law_start {p : Program} {e : Env} {s : State} {m : MethodId} {below : List Frame} {meth : Method} {c : Code} (l : Launch) {b L : Nat} {xs : Nat → Int32} (hL : L ≤ 2048) (C0 : lw_At p s m meth c b L xs)
    (Rel : Nat → mv_S → mv_S → Prop) (h00 : Rel 0 sX0 sY0) (hskip : ∀ n S T, Rel n S T → Rel (n + 1) S T) (hstep : ∀ n, 4 * n + 4 ≤ L → ∀ S T, Rel n S T → ∀ (k : Nat) (q : Nat × Nat × Nat), lw_T[k]? = some q → ∀ as : List Int32, as.length = q.2.2 → lw_Sim (Rel (n + 1)) q.1 q.2.1 as S T) : W p l e room_1 s m #[Value.ref b] below meth c s.heap [] 0 0 (lw_Z below #[Value.ref b] s) (entryFrame m ([Value.ref b] : List Value).toArray 4) := by
  obtain ⟨hx, hb, hr, hml, hown, hts0, hX, hbl, hlocks, hgv⟩ := id C0
  have hts : ∀ w ∈ mv_Ts, w.before #[Value.ref b] s = true := fun w hw => hts0 w (List.mem_filter.mp hw).1
  have hA : ∀ q : Nat, s.heap.size ≤ q → (fun q : Nat => s.heap.size ≤ q) q := fun _ h => h
  obtain ⟨k0, iS0, hKn0⟩ := u_known (C := RX0) (T := TX0) (N := 16) (n := 16) hts (mv_cin 0 rfl) (hts (.instantiable RX0 16) (mv_mem_of (h := 204) (by decide +kernel)))
  obtain ⟨k1, iS1, hKn1⟩ := u_known (C := RX1) (T := TX1) (N := 4) (n := 4) hts (mv_cin 1 rfl) (hts (.instantiable RX1 4) (mv_mem_of (h := 185) (by decide +kernel)))
  obtain ⟨k2, iS2, hKn2⟩ := u_known (C := RX2) (T := TX2) (N := 13) (n := 13) hts (mv_cin 2 rfl) (hts (.instantiable RX2 13) (mv_mem_of (h := 138) (by decide +kernel)))
  obtain ⟨k3, iS3, hKn3⟩ := u_known (C := RX4) (T := TX4) (N := 5) (n := 5) hts (mv_cin 3 rfl) (hts (.instantiable RX4 5) (mv_mem_of (h := 343) (by decide +kernel)))
  obtain ⟨k4, iS4, hKn4⟩ := u_known (C := RX5) (T := TX5) (N := 17) (n := 17) hts (mv_cin 4 rfl) (hts (.instantiable RX5 17) (mv_mem_of (h := 259) (by decide +kernel)))
  obtain ⟨k5, iS5, hKn5⟩ := u_known (C := RX7) (T := TX7) (N := 6) (n := 6) hts (mv_cin 5 rfl) (hts (.instantiable RX7 6) (mv_mem_of (h := 265) (by decide +kernel)))
  obtain ⟨k6, iS6, hKn6⟩ := u_known (C := RX8) (T := TX8) (N := 9) (n := 9) hts (mv_cin 6 rfl) (hts (.instantiable RX8 9) (mv_mem_of (h := 365) (by decide +kernel)))
  obtain ⟨k7, iS7, hKn7⟩ := u_known (C := RX10) (T := TX10) (N := 6) (n := 6) hts (mv_cin 7 rfl) (hts (.instantiable RX10 6) (mv_mem_of (h := 130) (by decide +kernel)))
  obtain ⟨k8, iS8, hKn8⟩ := u_known (C := RX11) (T := TX11) (N := 66) (n := 66) hts (mv_cin 8 rfl) (hts (.instantiable RX11 66) (mv_mem_of (h := 1156) (by decide +kernel)))
  obtain ⟨dC, dI, hKc⟩ : ∃ (dC : Nat → ClassId) (dI : Nat → Nat → Nat), ∀ (k : Nat) (q : vw_C), vwCl[k]? = some q → u_Kn s q.1 q.2.1 q.2.2 (dC k) (dI k) := by
    refine ⟨fun k => if k = 0 then k0 else if k = 1 then k1 else if k = 2 then k2 else if k = 3 then k3 else if k = 4 then k4 else if k = 5 then k5 else if k = 6 then k6 else if k = 7 then k7 else k8, fun k => if k = 0 then iS0 else if k = 1 then iS1 else if k = 2 then iS2 else if k = 3 then iS3 else if k = 4 then iS4 else if k = 5 then iS5 else if k = 6 then iS6 else if k = 7 then iS7 else iS8, ?_⟩
    intro k q hq
    match k, hq with
    | 0, hq => cases hq; exact hKn0
    | 1, hq => cases hq; exact hKn1
    | 2, hq => cases hq; exact hKn2
    | 3, hq => cases hq; exact hKn3
    | 4, hq => cases hq; exact hKn4
    | 5, hq => cases hq; exact hKn5
    | 6, hq => cases hq; exact hKn6
    | 7, hq => cases hq; exact hKn7
    | 8, hq => cases hq; exact hKn8
    | k + 9, hq => simp [vwCl] at hq
  obtain ⟨cI, hI1, hI2⟩ := mv_arr (ty := .int) (hts _ (okAr .int (Or.inl rfl))) (by intro C h; cases h)
  obtain ⟨cZ, hZ1, hZ2⟩ := mv_arr (ty := .boolean) (hts _ (okAr .boolean (Or.inr (Or.inl rfl)))) (by intro C h; cases h)
  obtain ⟨cJ, hJ1, hJ2⟩ := mv_arr (ty := .long) (hts _ (okAr .long (Or.inr (Or.inr rfl)))) (by intro C h; cases h)
  obtain ⟨cy, hcy0, hcy1, hcy2⟩ : ∃ cy : Nat → ClassId, cy 0 = cI ∧ cy 1 = cZ ∧ cy 2 = cJ := ⟨fun k => if k = 0 then cI else if k = 1 then cZ else cJ, rfl, rfl, rfl⟩
  have hK : va_K (dC, dI) vwCl (mv_tys cy) s := ⟨hKc, fun k q h => by
    match k, h with
    | 0, h => cases h; rw [hcy0]; exact ⟨hI1, hI2⟩
    | 1, h => cases h; rw [hcy1]; exact ⟨hZ1, hZ2⟩
    | 2, h => cases h; rw [hcy2]; exact ⟨hJ1, hJ2⟩
    | k + 3, h => simp [mv_tys] at h⟩
  have hS : va_S (fun q : Nat => s.heap.size ≤ q) s.heap s.heap [] := va_S.rf
  have hP : va_P (dC, dI) vwCl [] s.heap := fun k q h => by simp at h
  have hD : va_D (fun q : Nat => s.heap.size ≤ q) [] := ⟨fun i j p q h => by simp at h, fun k q h => by simp at h⟩
  have hN : mc_N s := ⟨va_Nw.of rfl (hts0 _ (List.mem_of_getElem? (i := 139) (by decide +kernel))), va_Nw.of rfl (hts0 _ (List.mem_of_getElem? (i := 205) (by decide +kernel)))⟩
  have hl := lv_entry ([.ref b]) (n := 4) (Nat.le_of_ble_eq_true rfl)
  rw [lg_entry_eq]
  generalize (lg_sl ([.ref b]) ++ List.replicate (4 - (lg_sl ([.ref b])).length) Slot.unset).toArray = ls at hl ⊢
  have hl : lv_has ls 4 [(0, .ref b)] := hl
  obtain ⟨Cx, Tx, Nx, tyx, hcx, hinx, htyx, -⟩ := okC7
  cases hcx
  obtain ⟨Cy, Ty, Ny, tyy, hcy, hiny, htyy, -⟩ := okC8
  cases hcy
  refine va_new (ci := 7) (fs := dfX) (D := (dC, dI)) (cl := vwCl) (tys := mv_tys cy) hx hb hts hinx tyx htyx hown (hts (.classLink R_law 7 RX10) (mv_mem_of (h := 129) (by decide +kernel))) (hts (.instantiable RX10 6) (mv_mem_of (h := 130) (by decide +kernel))) (hts (.initialized RX10) (mv_mem_of (h := 117) (by decide +kernel))) hK hP hD hS hA rfl (fun j hj => mv_dfl dfX_ok htyx hj) (by show 0 + 1 ≤ 600000; omega) (by show 0 + 6 ≤ 7302250; omega) dL_law_0 (fun q0 H hP hD hS => ?_)
  refine lv_dup hx hb dL_law_3 rfl ?_
  have hq0 : s.heap.size ≤ q0 := hD.2 0 (q0, .inr (7, dfX)) rfl
  refine lw_ctor (rest := [.ref q0]) (j := 7) (C := kC7) (cy := cy) hx hb hml hown hts hK hN rfl rfl (mv_mem_of (h := 131) (by decide +kernel)) (mv_mem_of (h := 132) (by decide +kernel)) rfl dL_law_4 mkX rfl hP hS hq0 hl.1 (Nat.le_of_ble_eq_true rfl) (by omega) (by omega) (fun ax H1 locs1 ha0 hP1 hD1 hz1 hk1 hS1 => ?_)
  obtain ⟨adX, hadX⟩ : ∃ adX : Nat → Nat, adX = fun q => ax (pmX.getD q 0) := ⟨_, rfl⟩
  have hX0 : adX 0 = q0 := by rw [hadX]; exact ha0
  have hPX : va_P (dC, dI) vwCl (mv_w cy adX sX0 0 layX) H1 := by rw [hadX]; exact hP1.sub pmX (mv_fm (toX cy ax))
  have hDX : va_D (fun q => q = q0 ∨ H.size ≤ q) (mv_w cy adX sX0 0 layX) := by rw [hadX]; exact hD1.sub pmX (by decide) (toX cy ax)
  have hDX2 : va_D (fun q : Nat => s.heap.size ≤ q) (mv_w cy adX sX0 0 layX) := hDX.weaken (fun _ q _ h => by
    rcases h with h | h
    · rw [h]; exact hq0
    · exact Nat.le_trans hS.1 h)
  refine lv_astore_n (lv' := [(1, .ref q0), (0, .ref b)]) hx hb dL_law_7 rfl hl (by decide) rfl (fun ls hl => ?_)
  refine va_new (ci := 8) (fs := dfY) (D := (dC, dI)) (cl := vwCl) (tys := mv_tys cy) hx hb hts hiny tyy htyy hown (hts (.classLink R_law 10 RX11) (mv_mem_of (h := 1155) (by decide +kernel))) (hts (.instantiable RX11 66) (mv_mem_of (h := 1156) (by decide +kernel))) (hts (.initialized RX11) (mv_mem_of (h := 125) (by decide +kernel))) hK hPX hDX2 hS1 hA rfl (fun j hj => mv_dfl dfY_ok htyy hj) (by show 0 + 1 + 36 + 1 ≤ 600000; omega) (by show 0 + 6 + 14461 + 66 ≤ 7302250; omega) dL_law_8 (fun q1 H2 hP2 hD2 hS2 => ?_)
  refine lv_dup hx hb dL_law_11 rfl ?_
  have hlen : (mv_w cy adX sX0 0 layX).length = 37 := rfl
  have hat : (mv_w cy adX sX0 0 layX ++ [(q1, (.inr (8, dfY) : va_E))])[37]? = some (q1, .inr (8, dfY)) := by rw [List.getElem?_append_right (by rw [hlen]; omega), hlen]; rfl
  have hq1 : s.heap.size ≤ q1 := hD2.2 37 _ hat
  have hPy : va_P (dC, dI) vwCl [(q1, .inr (8, dfY))] H2 := fun k x hx => by
    match k, hx with
    | 0, hx => cases hx; exact hP2 37 _ hat
    | k + 1, hx => simp at hx
  have hPX2 : va_P (dC, dI) vwCl (mv_w cy adX sX0 0 layX) H2 := fun k x hx => hP2 k x (by rw [List.getElem?_append_left (mv_lt hx)]; exact hx)
  have hne : ∀ (k : Nat) (x : Nat × va_E), (mv_w cy adX sX0 0 layX)[k]? = some x → x.1 ≠ q1 := fun k x hx z => by
    have h1 : k < 37 := mv_lt hx
    have := hD2.1 k 37 x _ (by rw [List.getElem?_append_left (mv_lt hx)]; exact hx) hat z
    omega
  refine lw_ctor (rest := [.ref q1]) (j := 8) (C := kC8) (cy := cy) hx hb hml hown hts hK hN rfl rfl (mv_mem_of (h := 1157) (by decide +kernel)) (mv_mem_of (h := 1158) (by decide +kernel)) rfl dL_law_12 mkY rfl hPy hS2 hq1 hl.1 (Nat.le_of_ble_eq_true rfl) (by omega) (by omega) (fun ay H3 locs3 hb0 hP3 hD3 hz3 hk3 hS3 => ?_)
  obtain ⟨adY, hadY⟩ : ∃ adY : Nat → Nat, adY = fun q => ay (pmY.getD q 0) := ⟨_, rfl⟩
  have hY0 : adY 0 = q1 := by rw [hadY]; exact hb0
  have hPY : va_P (dC, dI) vwCl (mv_w cy adY sY0 0 layY) H3 := by rw [hadY]; exact hP3.sub pmY (mv_fm (toY cy ay))
  have hDY : va_D (fun q => q = q1 ∨ H2.size ≤ q) (mv_w cy adY sY0 0 layY) := by rw [hadY]; exact hD3.sub pmY (by decide) (toY cy ay)
  have hPX3 : va_P (dC, dI) vwCl (mv_w cy adX sX0 0 layX) H3 := hPX2.kept (fun k x hx => hk3 x.1 ((hPX2 k x hx).lt) (hne k x hx))
  have hlx : layX.length = 37 := rfl
  have hly : layY.length = 37 := rfl
  have hofX : ∀ a, lw_A adX 37 a → ∃ (k : Nat) (x : Nat × va_E), (mv_w cy adX sX0 0 layX)[k]? = some x ∧ x.1 = a := by
    rintro a ⟨q, hq, rfl⟩
    obtain ⟨d, hd⟩ : ∃ d, layX[q]? = some d := ⟨_, List.getElem?_eq_getElem (by rw [hlx]; exact hq)⟩
    exact ⟨q, _, mv_w_get hd, rfl⟩
  have hofY : ∀ a, lw_A adY 37 a → ∃ (k : Nat) (x : Nat × va_E), (mv_w cy adY sY0 0 layY)[k]? = some x ∧ x.1 = a := by
    rintro a ⟨q, hq, rfl⟩
    obtain ⟨d, hd⟩ : ∃ d, layY[q]? = some d := ⟨_, List.getElem?_eq_getElem (by rw [hly]; exact hq)⟩
    exact ⟨q, _, mv_w_get hd, rfl⟩
  have hG : lw_G cy adX adY s := by
    refine ⟨fun S => mv_Dall hDX, fun T => mv_Dall hDY, ?_, ?_, ?_⟩
    · intro a h1 h2
      obtain ⟨k, x, hx, rfl⟩ := hofX a h1
      obtain ⟨k2, y, hy, hxy⟩ := hofY _ h2
      rcases hDY.2 k2 y hy with h | h
      · exact hne k x hx (by rw [← hxy]; exact h)
      · have := (hPX2 k x hx).lt
        omega
    · intro a h1
      obtain ⟨k, x, hx, rfl⟩ := hofX a h1
      exact hDX2.2 k x hx
    · intro a h1
      obtain ⟨k, x, hx, rfl⟩ := hofY a h1
      rcases hDY.2 k x hx with h | h
      · rw [h]; exact hq1
      · exact Nat.le_trans hS2.1 h
  refine lv_astore_n (lv' := [(2, .ref q1), (1, .ref q0), (0, .ref b)]) hx hb dL_law_15 rfl hl (by decide) rfl (fun ls hl => ?_)
  refine lv_iconst (v := 0) hx hb dL_law_16 (by decide) ?_
  refine lv_istore_n (lv' := [(3, .int 0), (2, .ref q1), (1, .ref q0), (0, .ref b)]) hx hb dL_law_17 rfl hl (by decide) rfl (fun ls hl => ?_)
  refine law_loop hL C0 hK hG Rel hskip hstep (L + 1) 0 (by omega) sX0 sY0 h00 (by omega) H3 locs3 ls ⟨hPX3, hPY, hS3⟩ ?_
  rw [hX0, hY0]
  exact lv_sub hl [3, 2, 1, 0] rfl

def lw_T : List (Nat × Nat × Nat) := [(158, 1, 2), (159, 2, 1), (160, 25, 0), (161, 26, 0), (162, 27, 1), (163, 46, 1), (164, 47, 1), (165, 48, 2), (166, 69, 0), (167, 70, 1), (168, 71, 1), (169, 72, 3), (170, 73, 1)]
/-- the two objects answer alike, and go on alike -/
def lw_Sim (Rel : mv_S → mv_S → Prop) (jX jY : Nat) (as : List Int32) (S T : mv_S) : Prop := mv_big layX sysX 2000 jX (.ref 0 :: as.map .int) S (fun r S' => ∃ x : Int32, r = some (.int x) ∧ mv_big layY sysY 2000 jY (.ref 0 :: as.map .int) T (fun r' T' => r' = some (.int x) ∧ Rel S' T'))
def lw_A (ad : Nat → Nat) (n : Nat) : Nat → Prop := fun a => ∃ q, q < n ∧ ad q = a
/-- the two worlds' addresses: apart, new since the start -/
def lw_G (cy : Nat → ClassId) (adX adY : Nat → Nat) (s : State) : Prop := (∀ S, va_D (lw_A adX 37) (mv_w cy adX S 0 layX)) ∧ (∀ T, va_D (lw_A adY 37) (mv_w cy adY T 0 layY)) ∧ (∀ a, lw_A adX 37 a → ¬ lw_A adY 37 a) ∧ (∀ a, lw_A adX 37 a → s.heap.size ≤ a) ∧ (∀ a, lw_A adY 37 a → s.heap.size ≤ a)
def lw_I (D : va_G) (cy : Nat → ClassId) (adX adY : Nat → Nat) (s : State) (S T : mv_S) (H : Heap) (locs : List Loc) : Prop := va_P D vwCl (mv_w cy adX S 0 layX) H ∧ va_P D vwCl (mv_w cy adY T 0 layY) H ∧ va_S (fun q => s.heap.size ≤ q) s.heap H locs
theorem lw_inA {cy : Nat → ClassId} {ad : Nat → Nat} {S : mv_S} {lay : List mv_D} {k : Nat} {x : Nat × va_E} (h : (mv_w cy ad S 0 lay)[k]? = some x) : lw_A ad lay.length x.1 := by
  rw [mv_w_at] at h
  obtain ⟨d, hd, rfl⟩ := Option.map_eq_some_iff.mp h
  exact ⟨k, mv_lt hd, by simp⟩
section LW
variable {p : Program} {l : Launch} {e : Env} {s : State} {m : MethodId} {args : Array Value} {below : List Frame} {meth : Method} {c : Code} {Q : State → Prop} {cells slots : Nat}
variable {D : va_G} {cy : Nat → ClassId} {ad : Nat → Nat} {A A0 : Nat → Prop} {lay : List mv_D} {sys : List mv_M}
theorem lw_call (hlay : mv_lok lay) (hsys : ∀ (j : Nat) (M : mv_M), sys[j]? = some M → mv_mok sys M) (hx : p.tables.exec = Jvm.exec) (hb : c.code = code) (hml : c.maxLocals = 4) (hown : s.vm.findClass R_law = some m.cls) (hts : ∀ w ∈ mv_Ts, w.before args s = true) (hK : va_K D vwCl (mv_tys cy) s)
    {j i pc ci : Nat} {fs : List Nat} {M : mv_M} {as : List Int32} {ls : Array Slot} {rest : List Value} {S : mv_S} {P : Option Value → mv_S → Prop} {H : Heap} {locs : List Loc} (hM : sys[j]? = some M) (hrc : M.2.2.2.2.2.1 = some ci) (h0 : lay[0]? = some (.inl (ci, fs))) (hlink : Cond.methodLink R_law i M.1 ∈ mv_Ts) (hnp : as.length = M.2.2.2.2.1) (hd : decode code pc = .ok (.invokevirtual i, 3))
    (hbig : mv_big lay sys 2000 j (.ref 0 :: as.map .int) S P) (hP : va_P D vwCl (mv_w cy ad S 0 lay) H) (hD : ∀ S', va_D A (mv_w cy ad S' 0 lay)) (hS : va_S A0 s.heap H locs) (hA : ∀ q, A q → A0 q) (hsz : ls.size = 4) (hcat : (rest.map fun v => v.category).sum ≤ 8) (hce : cells ≤ 600000) (hsl : slots ≤ 7302250)
    (kk : ∀ (r : Option Value) (S' : mv_S) (H' : Heap) (locs' : List Loc), P r S' → va_P D vwCl (mv_w cy ad S' 0 lay) H' → (∀ q, q < H.size → ¬ A q → H'[q]? = H[q]?) → va_S A0 s.heap H' locs' → W p l e room_1 s m args below meth c H' locs' cells slots Q (F0 m (pc + 3) ls ((r.map (mv_k ad)).toList ++ rest))) :
    W p l e room_1 s m args below meth c H locs cells slots Q (F0 m pc ls ((as.map Value.int).reverse ++ .ref (ad 0) :: rest)) := by
  have hMet := mv_met (l := l) (D := D) (cy := cy) (ad := ad) (A := A) hlay hsys 2000 j _ S P M hM hbig
  obtain ⟨g1, g2, g3, g4, g5, g6, g7, g8, g9, g10⟩ := hsys j M hM
  obtain ⟨⟨Tt, N, hcl⟩, gi, gs⟩ := g9 ci hrc
  have hmap : (as.map Value.int).map (mv_k ad) = as.map Value.int := by rw [List.map_map]; rfl
  have cb : CallB room_1 s args R_law i M.1 M.2.1 M.2.2.1 M.2.2.2.1 (Cond.code M.1 M.2.1 M.2.2.1 M.2.2.2.1 :: mv_Ts) (mv_rm 2000) 0 0 M.2.2.2.2.1 :=
    callB_of M.2.2.2.2.1 hts (mv_goodIn g2) rfl rfl rfl (hts _ g8) (hts _ hlink) g6 ⟨by show 2001 ≤ 2048; omega, by show 8 + (M.2.2.1 + 11) + 40 * 2000 ≤ 84000; omega⟩
  have hr := va_runV (cells := cells) (slots := slots) (below := below) (meth := meth) (locs := locs) (e := e) (g := F0 m pc ls ((as.map Value.int).reverse ++ .ref (ad 0) :: rest)) (C := M.1.cls) (b := ad 0) (As := as.map Value.int) (rest := rest) ⟨hx, hb, hml, hown, hts⟩ hMet ⟨cb, hts _ gi, hts _ gs⟩ ⟨mv_blind, va_recv hK hP hcl (mv_w_get h0), fun U hU hWm => ⟨by rw [List.map_cons, hmap]; rfl, by rw [hU]; exact hP, va_K.moved hWm.alike hK, hD S⟩⟩ rfl (by rw [List.length_map]; exact hnp) hsz rfl (lv_room hcat) hd ⟨by show cells + 0 ≤ 600000; omega, by show slots + 0 ≤ 7302250; omega⟩
  intro U hU X
  obtain ⟨v, st₀, t, T', L, e0, X', hL, e1, e2, ⟨⟨r, S', hv, hp, hP1, hK1, hD1⟩, hz, hk⟩, st⟩ := hr U hU X
  rw [e0] at hz hk
  have ev : v = r.map (mv_k ad) := by cases hv; rfl
  subst ev
  obtain ⟨t2, a1, b1⟩ := kk r S' T'.heap (locs ++ L) hp (by rw [e1]; exact hP1) (fun q h1 h2 => by rw [e1]; exact hk q h1 h2) ⟨Nat.le_trans hS.1 (by rw [e1]; exact hz), fun q h1 h2 => by rw [e1, hk q (Nat.lt_of_lt_of_le h1 hS.1) (fun z => h2 (hA q z))]; exact hS.2.1 q h1 h2, fun q hq => by
      rcases List.mem_append.mp hq with h | h
      · exact hS.2.2 q h
      · exact hA _ (hL q h)⟩ T' rfl X'
  exact ⟨t2, st t2 a1, b1⟩
end LW

set_option maxHeartbeats 4000000 in
/-- THE LAW'S LOOP, over what the two objects do alike -/
theorem law_loop {p : Program} {l : Launch} {e : Env} {s : State} {m : MethodId} {below : List Frame} {meth : Method} {c : Code} {D : va_G} {cy : Nat → ClassId} {b L : Nat} {xs : Nat → Int32} (hL : L ≤ 2048) (C0 : lw_At p s m meth c b L xs) (hK : va_K D vwCl (mv_tys cy) s) {adX adY : Nat → Nat} (hG : lw_G cy adX adY s)
    (Rel : Nat → mv_S → mv_S → Prop) (hskip : ∀ n S T, Rel n S T → Rel (n + 1) S T) (hstep : ∀ n, 4 * n + 4 ≤ L → ∀ S T, Rel n S T → ∀ (k : Nat) (q : Nat × Nat × Nat), lw_T[k]? = some q → ∀ as : List Int32, as.length = q.2.2 → lw_Sim (Rel (n + 1)) q.1 q.2.1 as S T) :
    ∀ (f n : Nat), L + 4 ≤ 4 * n + 4 * f → ∀ (S T : mv_S), Rel n S T → 4 * n ≤ L + 3 → ∀ (H : Heap) (locs : List Loc) (ls : Array Slot), lw_I D cy adX adY s S T H locs → lv_has ls 4 [(0, .ref b), (1, .ref (adX 0)), (2, .ref (adY 0)), (3, .int (nI (4 * n)))] → W p l e room_1 s m #[Value.ref b] below meth c H locs 74 73527 (lw_Z below #[Value.ref b] s) (F0 m 18 ls []) := by
  obtain ⟨hx, hb, hr, hml, hown, hts0, hX, hbl, hlocks, hgv⟩ := C0
  have hts : ∀ w ∈ mv_Ts, w.before #[Value.ref b] s = true := fun w hw => hts0 w (List.mem_filter.mp hw).1
  have hbA : ¬ (fun q : Nat => s.heap.size ≤ q) b := Nat.not_le.mpr hbl
  intro f
  induction f with
  | zero => intro n h1 S T _ h2; omega
  | succ f ih =>
    intro n hf S T hRel hn H locs ls hI hl
    obtain ⟨hPX, hPY, hS⟩ := hI
    refine lv_iload_n hx hb dL_law_18 rfl (lv_at hl 3 rfl) ?_
    refine lv_aload_n hx hb dL_law_19 rfl (lv_at hl 0 rfl) ?_
    refine va_slen hx hb hX hbl hbA hS dL_law_20 ?_
    refine lv_iconst (v := 4) hx hb dL_law_21 (by decide) ?_
    refine lv_isub hx hb dL_law_22 ?_
    have hcmp : (Int32.ofNat L - 4 < nI (4 * n)) ↔ L < 4 * n + 4 := by
      rw [Int32.lt_iff_toInt_lt, nI_toInt (by omega), show Int32.ofNat L - 4 = nI L - nI 4 from rfl, pk_sub_toInt (by omega) (by omega)]
      omega
    refine lv_icmp_gt (tgt := 415) hx hb dL_law_23 (by decide) (fun c1 => ?_) (fun c1 => ?_)
    · refine lv_iconst (v := 1) hx hb dL_law_415 (by decide) ?_
      refine va_forget (fun q hq => hS.2.2 q hq) ?_
      refine W.widen (k := 600000) (n := 7302250) (by omega) (by omega) ?_
      exact lw_ret hx hb hr hlocks dL_law_416
    · have hlt : 4 * n + 4 ≤ L := Nat.not_lt.mp (fun q => c1 (hcmp.mpr q))
      have i0 : vp_in (nI (4 * n)) L := vp_in_nI (by omega) (by omega)
      have i1 : vp_in (nI (4 * n) + 1) L := by rw [show nI (4 * n) + 1 = nI (4 * n + 1) from nI_1 _]; exact vp_in_nI (by omega) (by omega)
      have i2 : vp_in (nI (4 * n) + 2) L := by rw [show nI (4 * n) + 2 = nI (4 * n + 2) from nI_add _ 2]; exact vp_in_nI (by omega) (by omega)
      have i3 : vp_in (nI (4 * n) + 3) L := by rw [show nI (4 * n) + 3 = nI (4 * n + 3) from nI_add _ 3]; exact vp_in_nI (by omega) (by omega)
      have back : ∀ (S' T' : mv_S) (H' : Heap) (locs' : List Loc) (ls' : Array Slot), Rel (n + 1) S' T' → lw_I D cy adX adY s S' T' H' locs' → lv_has ls' 4 [(0, .ref b), (1, .ref (adX 0)), (2, .ref (adY 0)), (3, .int (nI (4 * n)))] → W p l e room_1 s m #[Value.ref b] below meth c H' locs' 74 73527 (lw_Z below #[Value.ref b] s) (F0 m 409 ls' []) := by
        intro S' T' H' locs' ls' hR' hI' hl'
        refine lv_iinc (v := nI (4 * (n + 1))) (lv' := [(3, .int (nI (4 * (n + 1)))), (0, .ref b), (1, .ref (adX 0)), (2, .ref (adY 0))]) hx hb dL_law_409 hl' (k := 3) rfl (by rw [show Int32.ofInt 4 = nI 4 from rfl, nI_add]; congr 1) (by decide) rfl (fun ls2 hl2 => ?_)
        refine lv_goto (tgt := 18) hx hb dL_law_412 (by decide) ?_
        exact ih (n + 1) (by omega) S' T' hR' (by omega) H' locs' ls2 hI' (lv_sub hl2 [1, 2, 3, 0] rfl)
      refine lv_aload_n hx hb dL_law_26 rfl (lv_at hl 0 rfl) ?_
      refine lv_iload_n hx hb dL_law_27 rfl (lv_at hl 3 rfl) ?_
      refine va_sld hx hb hX hbl hbA hS i0 dL_law_28 ?_
      refine lv_bipush (v := 15) hx hb dL_law_29 (by decide) ?_
      refine lv_iand hx hb dL_law_31 ?_
      refine mv_swt (K := fun t => W p l e room_1 s m #[Value.ref b] below meth c H locs 74 73527 (lw_Z below #[Value.ref b] s) (F0 m t ls [])) hx hb dL_law_32 (by decide) (by decide) (by decide) (fun t h => h) ?_

      refine ⟨fun _ => ?_, fun _ => ⟨fun _ => ?_, fun _ => ⟨fun _ => ?_, fun _ => ⟨fun _ => ?_, fun _ => ⟨fun _ => ?_, fun _ => ⟨fun _ => ?_, fun _ => ⟨fun _ => ?_, fun _ => ⟨fun _ => ?_, fun _ => ⟨fun _ => ?_, fun _ => ⟨fun _ => ?_, fun _ => ⟨fun _ => ?_, fun _ => ⟨fun _ => ?_, fun _ => ⟨fun _ => ?_, fun _ => ?_⟩⟩⟩⟩⟩⟩⟩⟩⟩⟩⟩⟩⟩
      · show W p l e room_1 s m #[Value.ref b] below meth c H locs 74 73527 (lw_Z below #[Value.ref b] s) (F0 m 100 ls [])
        have hsim := hstep n hlt S T hRel 0 _ rfl [xs (nI (4 * n) + 1).toNatClampNeg, xs (nI (4 * n) + 2).toNatClampNeg] rfl
        refine lv_aload_n hx hb dL_law_100 rfl (lv_at hl 1 rfl) ?_
        refine lv_aload_n hx hb dL_law_101 rfl (lv_at hl 0 rfl) ?_
        refine lv_iload_n hx hb dL_law_102 rfl (lv_at hl 3 rfl) ?_
        refine lv_iconst (v := 1) hx hb dL_law_103 (by decide) ?_
        refine lv_iadd hx hb dL_law_104 ?_
        refine va_sld hx hb hX hbl hbA hS i1 dL_law_105 ?_
        refine lv_aload_n hx hb dL_law_106 rfl (lv_at hl 0 rfl) ?_
        refine lv_iload_n hx hb dL_law_107 rfl (lv_at hl 3 rfl) ?_
        refine lv_iconst (v := 2) hx hb dL_law_108 (by decide) ?_
        refine lv_iadd hx hb dL_law_109 ?_
        refine va_sld hx hb hX hbl hbA hS i2 dL_law_110 ?_
        refine lw_call (as := [xs (nI (4 * n) + 1).toNatClampNeg, xs (nI (4 * n) + 2).toNatClampNeg]) (rest := []) (A := lw_A adX 37) okLX ok_sysX hx hb hml hown hts hK (M := _) (h0 := rfl) rfl rfl (mv_mem_of (h := 421) (by decide +kernel)) rfl dL_law_111 hsim hPX hG.1 hS hG.2.2.2.1 hl.1 (by decide) (by omega) (by omega) (fun r S1 H1 locs1 hp1 hP1 hk1 hS1 => ?_)
        obtain ⟨x, rfl, hp1⟩ := hp1
        have hPY1 : va_P D vwCl (mv_w cy adY T 0 layY) H1 := hPY.kept (fun k q hk => hk1 q.1 ((hPY k q hk).lt) (fun z => hG.2.2.1 _ z (lw_inA hk)))
        have hS := hS1
        refine lv_aload_n hx hb dL_law_114 rfl (lv_at hl 2 rfl) ?_
        refine lv_aload_n hx hb dL_law_115 rfl (lv_at hl 0 rfl) ?_
        refine lv_iload_n hx hb dL_law_116 rfl (lv_at hl 3 rfl) ?_
        refine lv_iconst (v := 1) hx hb dL_law_117 (by decide) ?_
        refine lv_iadd hx hb dL_law_118 ?_
        refine va_sld hx hb hX hbl hbA hS i1 dL_law_119 ?_
        refine lv_aload_n hx hb dL_law_120 rfl (lv_at hl 0 rfl) ?_
        refine lv_iload_n hx hb dL_law_121 rfl (lv_at hl 3 rfl) ?_
        refine lv_iconst (v := 2) hx hb dL_law_122 (by decide) ?_
        refine lv_iadd hx hb dL_law_123 ?_
        refine va_sld hx hb hX hbl hbA hS i2 dL_law_124 ?_
        refine lw_call (as := [xs (nI (4 * n) + 1).toNatClampNeg, xs (nI (4 * n) + 2).toNatClampNeg]) (rest := [.int x]) (A := lw_A adY 37) okLY ok_sysY hx hb hml hown hts hK (M := _) (h0 := rfl) rfl rfl (mv_mem_of (h := 1361) (by decide +kernel)) rfl dL_law_125 hp1 hPY1 hG.2.1 hS1 hG.2.2.2.2 hl.1 (Nat.le_of_ble_eq_true rfl) (by omega) (by omega) (fun r2 T1 H2 locs2 hp2 hP2 hk2 hS2 => ?_)
        obtain ⟨rfl, hR1⟩ := hp2
        have hPX2 : va_P D vwCl (mv_w cy adX S1 0 layX) H2 := hP1.kept (fun k q hk => hk2 q.1 ((hP1 k q hk).lt) (fun z => hG.2.2.1 _ (lw_inA hk) z))
        exact lv_icmp_eq (tgt := 409) hx hb dL_law_128 (by decide) (fun _ => back S1 T1 H2 locs2 ls hR1 ⟨hPX2, hP2, hS2⟩ hl) (fun z => absurd rfl z)
      · show W p l e room_1 s m #[Value.ref b] below meth c H locs 74 73527 (lw_Z below #[Value.ref b] s) (F0 m 133 ls [])
        have hsim := hstep n hlt S T hRel 1 _ rfl [xs (nI (4 * n) + 1).toNatClampNeg] rfl
        refine lv_aload_n hx hb dL_law_133 rfl (lv_at hl 1 rfl) ?_
        refine lv_aload_n hx hb dL_law_134 rfl (lv_at hl 0 rfl) ?_
        refine lv_iload_n hx hb dL_law_135 rfl (lv_at hl 3 rfl) ?_
        refine lv_iconst (v := 1) hx hb dL_law_136 (by decide) ?_
        refine lv_iadd hx hb dL_law_137 ?_
        refine va_sld hx hb hX hbl hbA hS i1 dL_law_138 ?_
        refine lw_call (as := [xs (nI (4 * n) + 1).toNatClampNeg]) (rest := []) (A := lw_A adX 37) okLX ok_sysX hx hb hml hown hts hK (M := _) (h0 := rfl) rfl rfl (mv_mem_of (h := 448) (by decide +kernel)) rfl dL_law_139 hsim hPX hG.1 hS hG.2.2.2.1 hl.1 (by decide) (by omega) (by omega) (fun r S1 H1 locs1 hp1 hP1 hk1 hS1 => ?_)
        obtain ⟨x, rfl, hp1⟩ := hp1
        have hPY1 : va_P D vwCl (mv_w cy adY T 0 layY) H1 := hPY.kept (fun k q hk => hk1 q.1 ((hPY k q hk).lt) (fun z => hG.2.2.1 _ z (lw_inA hk)))
        have hS := hS1
        refine lv_aload_n hx hb dL_law_142 rfl (lv_at hl 2 rfl) ?_
        refine lv_aload_n hx hb dL_law_143 rfl (lv_at hl 0 rfl) ?_
        refine lv_iload_n hx hb dL_law_144 rfl (lv_at hl 3 rfl) ?_
        refine lv_iconst (v := 1) hx hb dL_law_145 (by decide) ?_
        refine lv_iadd hx hb dL_law_146 ?_
        refine va_sld hx hb hX hbl hbA hS i1 dL_law_147 ?_
        refine lw_call (as := [xs (nI (4 * n) + 1).toNatClampNeg]) (rest := [.int x]) (A := lw_A adY 37) okLY ok_sysY hx hb hml hown hts hK (M := _) (h0 := rfl) rfl rfl (mv_mem_of (h := 1376) (by decide +kernel)) rfl dL_law_148 hp1 hPY1 hG.2.1 hS1 hG.2.2.2.2 hl.1 (Nat.le_of_ble_eq_true rfl) (by omega) (by omega) (fun r2 T1 H2 locs2 hp2 hP2 hk2 hS2 => ?_)
        obtain ⟨rfl, hR1⟩ := hp2
        have hPX2 : va_P D vwCl (mv_w cy adX S1 0 layX) H2 := hP1.kept (fun k q hk => hk2 q.1 ((hP1 k q hk).lt) (fun z => hG.2.2.1 _ (lw_inA hk) z))
        exact lv_icmp_eq (tgt := 409) hx hb dL_law_151 (by decide) (fun _ => back S1 T1 H2 locs2 ls hR1 ⟨hPX2, hP2, hS2⟩ hl) (fun z => absurd rfl z)
      · show W p l e room_1 s m #[Value.ref b] below meth c H locs 74 73527 (lw_Z below #[Value.ref b] s) (F0 m 156 ls [])
        have hsim := hstep n hlt S T hRel 2 _ rfl [] rfl
        refine lv_aload_n hx hb dL_law_156 rfl (lv_at hl 1 rfl) ?_
        refine lw_call (as := []) (rest := []) (A := lw_A adX 37) okLX ok_sysX hx hb hml hown hts hK (M := _) (h0 := rfl) rfl rfl (mv_mem_of (h := 468) (by decide +kernel)) rfl dL_law_157 hsim hPX hG.1 hS hG.2.2.2.1 hl.1 (by decide) (by omega) (by omega) (fun r S1 H1 locs1 hp1 hP1 hk1 hS1 => ?_)
        obtain ⟨x, rfl, hp1⟩ := hp1
        have hPY1 : va_P D vwCl (mv_w cy adY T 0 layY) H1 := hPY.kept (fun k q hk => hk1 q.1 ((hPY k q hk).lt) (fun z => hG.2.2.1 _ z (lw_inA hk)))
        have hS := hS1
        refine lv_aload_n hx hb dL_law_160 rfl (lv_at hl 2 rfl) ?_
        refine lw_call (as := []) (rest := [.int x]) (A := lw_A adY 37) okLY ok_sysY hx hb hml hown hts hK (M := _) (h0 := rfl) rfl rfl (mv_mem_of (h := 1380) (by decide +kernel)) rfl dL_law_161 hp1 hPY1 hG.2.1 hS1 hG.2.2.2.2 hl.1 (Nat.le_of_ble_eq_true rfl) (by omega) (by omega) (fun r2 T1 H2 locs2 hp2 hP2 hk2 hS2 => ?_)
        obtain ⟨rfl, hR1⟩ := hp2
        have hPX2 : va_P D vwCl (mv_w cy adX S1 0 layX) H2 := hP1.kept (fun k q hk => hk2 q.1 ((hP1 k q hk).lt) (fun z => hG.2.2.1 _ (lw_inA hk) z))
        exact lv_icmp_eq (tgt := 409) hx hb dL_law_164 (by decide) (fun _ => back S1 T1 H2 locs2 ls hR1 ⟨hPX2, hP2, hS2⟩ hl) (fun z => absurd rfl z)
      · show W p l e room_1 s m #[Value.ref b] below meth c H locs 74 73527 (lw_Z below #[Value.ref b] s) (F0 m 169 ls [])
        have hsim := hstep n hlt S T hRel 3 _ rfl [] rfl
        refine lv_aload_n hx hb dL_law_169 rfl (lv_at hl 1 rfl) ?_
        refine lw_call (as := []) (rest := []) (A := lw_A adX 37) okLX ok_sysX hx hb hml hown hts hK (M := _) (h0 := rfl) rfl rfl (mv_mem_of (h := 652) (by decide +kernel)) rfl dL_law_170 hsim hPX hG.1 hS hG.2.2.2.1 hl.1 (by decide) (by omega) (by omega) (fun r S1 H1 locs1 hp1 hP1 hk1 hS1 => ?_)
        obtain ⟨x, rfl, hp1⟩ := hp1
        have hPY1 : va_P D vwCl (mv_w cy adY T 0 layY) H1 := hPY.kept (fun k q hk => hk1 q.1 ((hPY k q hk).lt) (fun z => hG.2.2.1 _ z (lw_inA hk)))
        have hS := hS1
        refine lv_aload_n hx hb dL_law_173 rfl (lv_at hl 2 rfl) ?_
        refine lw_call (as := []) (rest := [.int x]) (A := lw_A adY 37) okLY ok_sysY hx hb hml hown hts hK (M := _) (h0 := rfl) rfl rfl (mv_mem_of (h := 1472) (by decide +kernel)) rfl dL_law_174 hp1 hPY1 hG.2.1 hS1 hG.2.2.2.2 hl.1 (Nat.le_of_ble_eq_true rfl) (by omega) (by omega) (fun r2 T1 H2 locs2 hp2 hP2 hk2 hS2 => ?_)
        obtain ⟨rfl, hR1⟩ := hp2
        have hPX2 : va_P D vwCl (mv_w cy adX S1 0 layX) H2 := hP1.kept (fun k q hk => hk2 q.1 ((hP1 k q hk).lt) (fun z => hG.2.2.1 _ (lw_inA hk) z))
        exact lv_icmp_eq (tgt := 409) hx hb dL_law_177 (by decide) (fun _ => back S1 T1 H2 locs2 ls hR1 ⟨hPX2, hP2, hS2⟩ hl) (fun z => absurd rfl z)
      · show W p l e room_1 s m #[Value.ref b] below meth c H locs 74 73527 (lw_Z below #[Value.ref b] s) (F0 m 182 ls [])
        have hsim := hstep n hlt S T hRel 4 _ rfl [xs (nI (4 * n) + 1).toNatClampNeg] rfl
        refine lv_aload_n hx hb dL_law_182 rfl (lv_at hl 1 rfl) ?_
        refine lv_aload_n hx hb dL_law_183 rfl (lv_at hl 0 rfl) ?_
        refine lv_iload_n hx hb dL_law_184 rfl (lv_at hl 3 rfl) ?_
        refine lv_iconst (v := 1) hx hb dL_law_185 (by decide) ?_
        refine lv_iadd hx hb dL_law_186 ?_
        refine va_sld hx hb hX hbl hbA hS i1 dL_law_187 ?_
        refine lw_call (as := [xs (nI (4 * n) + 1).toNatClampNeg]) (rest := []) (A := lw_A adX 37) okLX ok_sysX hx hb hml hown hts hK (M := _) (h0 := rfl) rfl rfl (mv_mem_of (h := 660) (by decide +kernel)) rfl dL_law_188 hsim hPX hG.1 hS hG.2.2.2.1 hl.1 (by decide) (by omega) (by omega) (fun r S1 H1 locs1 hp1 hP1 hk1 hS1 => ?_)
        obtain ⟨x, rfl, hp1⟩ := hp1
        have hPY1 : va_P D vwCl (mv_w cy adY T 0 layY) H1 := hPY.kept (fun k q hk => hk1 q.1 ((hPY k q hk).lt) (fun z => hG.2.2.1 _ z (lw_inA hk)))
        have hS := hS1
        refine lv_aload_n hx hb dL_law_191 rfl (lv_at hl 2 rfl) ?_
        refine lv_aload_n hx hb dL_law_192 rfl (lv_at hl 0 rfl) ?_
        refine lv_iload_n hx hb dL_law_193 rfl (lv_at hl 3 rfl) ?_
        refine lv_iconst (v := 1) hx hb dL_law_194 (by decide) ?_
        refine lv_iadd hx hb dL_law_195 ?_
        refine va_sld hx hb hX hbl hbA hS i1 dL_law_196 ?_
        refine lw_call (as := [xs (nI (4 * n) + 1).toNatClampNeg]) (rest := [.int x]) (A := lw_A adY 37) okLY ok_sysY hx hb hml hown hts hK (M := _) (h0 := rfl) rfl rfl (mv_mem_of (h := 1476) (by decide +kernel)) rfl dL_law_197 hp1 hPY1 hG.2.1 hS1 hG.2.2.2.2 hl.1 (Nat.le_of_ble_eq_true rfl) (by omega) (by omega) (fun r2 T1 H2 locs2 hp2 hP2 hk2 hS2 => ?_)
        obtain ⟨rfl, hR1⟩ := hp2
        have hPX2 : va_P D vwCl (mv_w cy adX S1 0 layX) H2 := hP1.kept (fun k q hk => hk2 q.1 ((hP1 k q hk).lt) (fun z => hG.2.2.1 _ (lw_inA hk) z))
        exact lv_icmp_eq (tgt := 409) hx hb dL_law_200 (by decide) (fun _ => back S1 T1 H2 locs2 ls hR1 ⟨hPX2, hP2, hS2⟩ hl) (fun z => absurd rfl z)
      · show W p l e room_1 s m #[Value.ref b] below meth c H locs 74 73527 (lw_Z below #[Value.ref b] s) (F0 m 205 ls [])
        have hsim := hstep n hlt S T hRel 5 _ rfl [xs (nI (4 * n) + 1).toNatClampNeg] rfl
        refine lv_aload_n hx hb dL_law_205 rfl (lv_at hl 1 rfl) ?_
        refine lv_aload_n hx hb dL_law_206 rfl (lv_at hl 0 rfl) ?_
        refine lv_iload_n hx hb dL_law_207 rfl (lv_at hl 3 rfl) ?_
        refine lv_iconst (v := 1) hx hb dL_law_208 (by decide) ?_
        refine lv_iadd hx hb dL_law_209 ?_
        refine va_sld hx hb hX hbl hbA hS i1 dL_law_210 ?_
        refine lw_call (as := [xs (nI (4 * n) + 1).toNatClampNeg]) (rest := []) (A := lw_A adX 37) okLX ok_sysX hx hb hml hown hts hK (M := _) (h0 := rfl) rfl rfl (mv_mem_of (h := 669) (by decide +kernel)) rfl dL_law_211 hsim hPX hG.1 hS hG.2.2.2.1 hl.1 (by decide) (by omega) (by omega) (fun r S1 H1 locs1 hp1 hP1 hk1 hS1 => ?_)
        obtain ⟨x, rfl, hp1⟩ := hp1
        have hPY1 : va_P D vwCl (mv_w cy adY T 0 layY) H1 := hPY.kept (fun k q hk => hk1 q.1 ((hPY k q hk).lt) (fun z => hG.2.2.1 _ z (lw_inA hk)))
        have hS := hS1
        refine lv_aload_n hx hb dL_law_214 rfl (lv_at hl 2 rfl) ?_
        refine lv_aload_n hx hb dL_law_215 rfl (lv_at hl 0 rfl) ?_
        refine lv_iload_n hx hb dL_law_216 rfl (lv_at hl 3 rfl) ?_
        refine lv_iconst (v := 1) hx hb dL_law_217 (by decide) ?_
        refine lv_iadd hx hb dL_law_218 ?_
        refine va_sld hx hb hX hbl hbA hS i1 dL_law_219 ?_
        refine lw_call (as := [xs (nI (4 * n) + 1).toNatClampNeg]) (rest := [.int x]) (A := lw_A adY 37) okLY ok_sysY hx hb hml hown hts hK (M := _) (h0 := rfl) rfl rfl (mv_mem_of (h := 1480) (by decide +kernel)) rfl dL_law_220 hp1 hPY1 hG.2.1 hS1 hG.2.2.2.2 hl.1 (Nat.le_of_ble_eq_true rfl) (by omega) (by omega) (fun r2 T1 H2 locs2 hp2 hP2 hk2 hS2 => ?_)
        obtain ⟨rfl, hR1⟩ := hp2
        have hPX2 : va_P D vwCl (mv_w cy adX S1 0 layX) H2 := hP1.kept (fun k q hk => hk2 q.1 ((hP1 k q hk).lt) (fun z => hG.2.2.1 _ (lw_inA hk) z))
        exact lv_icmp_eq (tgt := 409) hx hb dL_law_223 (by decide) (fun _ => back S1 T1 H2 locs2 ls hR1 ⟨hPX2, hP2, hS2⟩ hl) (fun z => absurd rfl z)
      · show W p l e room_1 s m #[Value.ref b] below meth c H locs 74 73527 (lw_Z below #[Value.ref b] s) (F0 m 228 ls [])
        have hsim := hstep n hlt S T hRel 6 _ rfl [xs (nI (4 * n) + 1).toNatClampNeg] rfl
        refine lv_aload_n hx hb dL_law_228 rfl (lv_at hl 1 rfl) ?_
        refine lv_aload_n hx hb dL_law_229 rfl (lv_at hl 0 rfl) ?_
        refine lv_iload_n hx hb dL_law_230 rfl (lv_at hl 3 rfl) ?_
        refine lv_iconst (v := 1) hx hb dL_law_231 (by decide) ?_
        refine lv_iadd hx hb dL_law_232 ?_
        refine va_sld hx hb hX hbl hbA hS i1 dL_law_233 ?_
        refine lw_call (as := [xs (nI (4 * n) + 1).toNatClampNeg]) (rest := []) (A := lw_A adX 37) okLX ok_sysX hx hb hml hown hts hK (M := _) (h0 := rfl) rfl rfl (mv_mem_of (h := 703) (by decide +kernel)) rfl dL_law_234 hsim hPX hG.1 hS hG.2.2.2.1 hl.1 (by decide) (by omega) (by omega) (fun r S1 H1 locs1 hp1 hP1 hk1 hS1 => ?_)
        obtain ⟨x, rfl, hp1⟩ := hp1
        have hPY1 : va_P D vwCl (mv_w cy adY T 0 layY) H1 := hPY.kept (fun k q hk => hk1 q.1 ((hPY k q hk).lt) (fun z => hG.2.2.1 _ z (lw_inA hk)))
        have hS := hS1
        refine lv_aload_n hx hb dL_law_237 rfl (lv_at hl 2 rfl) ?_
        refine lv_aload_n hx hb dL_law_238 rfl (lv_at hl 0 rfl) ?_
        refine lv_iload_n hx hb dL_law_239 rfl (lv_at hl 3 rfl) ?_
        refine lv_iconst (v := 1) hx hb dL_law_240 (by decide) ?_
        refine lv_iadd hx hb dL_law_241 ?_
        refine va_sld hx hb hX hbl hbA hS i1 dL_law_242 ?_
        refine lw_call (as := [xs (nI (4 * n) + 1).toNatClampNeg]) (rest := [.int x]) (A := lw_A adY 37) okLY ok_sysY hx hb hml hown hts hK (M := _) (h0 := rfl) rfl rfl (mv_mem_of (h := 1484) (by decide +kernel)) rfl dL_law_243 hp1 hPY1 hG.2.1 hS1 hG.2.2.2.2 hl.1 (Nat.le_of_ble_eq_true rfl) (by omega) (by omega) (fun r2 T1 H2 locs2 hp2 hP2 hk2 hS2 => ?_)
        obtain ⟨rfl, hR1⟩ := hp2
        have hPX2 : va_P D vwCl (mv_w cy adX S1 0 layX) H2 := hP1.kept (fun k q hk => hk2 q.1 ((hP1 k q hk).lt) (fun z => hG.2.2.1 _ (lw_inA hk) z))
        exact lv_icmp_eq (tgt := 409) hx hb dL_law_246 (by decide) (fun _ => back S1 T1 H2 locs2 ls hR1 ⟨hPX2, hP2, hS2⟩ hl) (fun z => absurd rfl z)
      · show W p l e room_1 s m #[Value.ref b] below meth c H locs 74 73527 (lw_Z below #[Value.ref b] s) (F0 m 251 ls [])
        have hsim := hstep n hlt S T hRel 7 _ rfl [xs (nI (4 * n) + 1).toNatClampNeg, xs (nI (4 * n) + 2).toNatClampNeg] rfl
        refine lv_aload_n hx hb dL_law_251 rfl (lv_at hl 1 rfl) ?_
        refine lv_aload_n hx hb dL_law_252 rfl (lv_at hl 0 rfl) ?_
        refine lv_iload_n hx hb dL_law_253 rfl (lv_at hl 3 rfl) ?_
        refine lv_iconst (v := 1) hx hb dL_law_254 (by decide) ?_
        refine lv_iadd hx hb dL_law_255 ?_
        refine va_sld hx hb hX hbl hbA hS i1 dL_law_256 ?_
        refine lv_aload_n hx hb dL_law_257 rfl (lv_at hl 0 rfl) ?_
        refine lv_iload_n hx hb dL_law_258 rfl (lv_at hl 3 rfl) ?_
        refine lv_iconst (v := 2) hx hb dL_law_259 (by decide) ?_
        refine lv_iadd hx hb dL_law_260 ?_
        refine va_sld hx hb hX hbl hbA hS i2 dL_law_261 ?_
        refine lw_call (as := [xs (nI (4 * n) + 1).toNatClampNeg, xs (nI (4 * n) + 2).toNatClampNeg]) (rest := []) (A := lw_A adX 37) okLX ok_sysX hx hb hml hown hts hK (M := _) (h0 := rfl) rfl rfl (mv_mem_of (h := 968) (by decide +kernel)) rfl dL_law_262 hsim hPX hG.1 hS hG.2.2.2.1 hl.1 (by decide) (by omega) (by omega) (fun r S1 H1 locs1 hp1 hP1 hk1 hS1 => ?_)
        obtain ⟨x, rfl, hp1⟩ := hp1
        have hPY1 : va_P D vwCl (mv_w cy adY T 0 layY) H1 := hPY.kept (fun k q hk => hk1 q.1 ((hPY k q hk).lt) (fun z => hG.2.2.1 _ z (lw_inA hk)))
        have hS := hS1
        refine lv_aload_n hx hb dL_law_265 rfl (lv_at hl 2 rfl) ?_
        refine lv_aload_n hx hb dL_law_266 rfl (lv_at hl 0 rfl) ?_
        refine lv_iload_n hx hb dL_law_267 rfl (lv_at hl 3 rfl) ?_
        refine lv_iconst (v := 1) hx hb dL_law_268 (by decide) ?_
        refine lv_iadd hx hb dL_law_269 ?_
        refine va_sld hx hb hX hbl hbA hS i1 dL_law_270 ?_
        refine lv_aload_n hx hb dL_law_271 rfl (lv_at hl 0 rfl) ?_
        refine lv_iload_n hx hb dL_law_272 rfl (lv_at hl 3 rfl) ?_
        refine lv_iconst (v := 2) hx hb dL_law_273 (by decide) ?_
        refine lv_iadd hx hb dL_law_274 ?_
        refine va_sld hx hb hX hbl hbA hS i2 dL_law_275 ?_
        refine lw_call (as := [xs (nI (4 * n) + 1).toNatClampNeg, xs (nI (4 * n) + 2).toNatClampNeg]) (rest := [.int x]) (A := lw_A adY 37) okLY ok_sysY hx hb hml hown hts hK (M := _) (h0 := rfl) rfl rfl (mv_mem_of (h := 1633) (by decide +kernel)) rfl dL_law_276 hp1 hPY1 hG.2.1 hS1 hG.2.2.2.2 hl.1 (Nat.le_of_ble_eq_true rfl) (by omega) (by omega) (fun r2 T1 H2 locs2 hp2 hP2 hk2 hS2 => ?_)
        obtain ⟨rfl, hR1⟩ := hp2
        have hPX2 : va_P D vwCl (mv_w cy adX S1 0 layX) H2 := hP1.kept (fun k q hk => hk2 q.1 ((hP1 k q hk).lt) (fun z => hG.2.2.1 _ (lw_inA hk) z))
        exact lv_icmp_eq (tgt := 409) hx hb dL_law_279 (by decide) (fun _ => back S1 T1 H2 locs2 ls hR1 ⟨hPX2, hP2, hS2⟩ hl) (fun z => absurd rfl z)
      · show W p l e room_1 s m #[Value.ref b] below meth c H locs 74 73527 (lw_Z below #[Value.ref b] s) (F0 m 284 ls [])
        have hsim := hstep n hlt S T hRel 8 _ rfl [] rfl
        refine lv_aload_n hx hb dL_law_284 rfl (lv_at hl 1 rfl) ?_
        refine lw_call (as := []) (rest := []) (A := lw_A adX 37) okLX ok_sysX hx hb hml hown hts hK (M := _) (h0 := rfl) rfl rfl (mv_mem_of (h := 1093) (by decide +kernel)) rfl dL_law_285 hsim hPX hG.1 hS hG.2.2.2.1 hl.1 (by decide) (by omega) (by omega) (fun r S1 H1 locs1 hp1 hP1 hk1 hS1 => ?_)
        obtain ⟨x, rfl, hp1⟩ := hp1
        have hPY1 : va_P D vwCl (mv_w cy adY T 0 layY) H1 := hPY.kept (fun k q hk => hk1 q.1 ((hPY k q hk).lt) (fun z => hG.2.2.1 _ z (lw_inA hk)))
        have hS := hS1
        refine lv_aload_n hx hb dL_law_288 rfl (lv_at hl 2 rfl) ?_
        refine lw_call (as := []) (rest := [.int x]) (A := lw_A adY 37) okLY ok_sysY hx hb hml hown hts hK (M := _) (h0 := rfl) rfl rfl (mv_mem_of (h := 1637) (by decide +kernel)) rfl dL_law_289 hp1 hPY1 hG.2.1 hS1 hG.2.2.2.2 hl.1 (Nat.le_of_ble_eq_true rfl) (by omega) (by omega) (fun r2 T1 H2 locs2 hp2 hP2 hk2 hS2 => ?_)
        obtain ⟨rfl, hR1⟩ := hp2
        have hPX2 : va_P D vwCl (mv_w cy adX S1 0 layX) H2 := hP1.kept (fun k q hk => hk2 q.1 ((hP1 k q hk).lt) (fun z => hG.2.2.1 _ (lw_inA hk) z))
        exact lv_icmp_eq (tgt := 409) hx hb dL_law_292 (by decide) (fun _ => back S1 T1 H2 locs2 ls hR1 ⟨hPX2, hP2, hS2⟩ hl) (fun z => absurd rfl z)
      · show W p l e room_1 s m #[Value.ref b] below meth c H locs 74 73527 (lw_Z below #[Value.ref b] s) (F0 m 297 ls [])
        have hsim := hstep n hlt S T hRel 9 _ rfl [xs (nI (4 * n) + 1).toNatClampNeg] rfl
        refine lv_aload_n hx hb dL_law_297 rfl (lv_at hl 1 rfl) ?_
        refine lv_aload_n hx hb dL_law_298 rfl (lv_at hl 0 rfl) ?_
        refine lv_iload_n hx hb dL_law_299 rfl (lv_at hl 3 rfl) ?_
        refine lv_iconst (v := 1) hx hb dL_law_300 (by decide) ?_
        refine lv_iadd hx hb dL_law_301 ?_
        refine va_sld hx hb hX hbl hbA hS i1 dL_law_302 ?_
        refine lw_call (as := [xs (nI (4 * n) + 1).toNatClampNeg]) (rest := []) (A := lw_A adX 37) okLX ok_sysX hx hb hml hown hts hK (M := _) (h0 := rfl) rfl rfl (mv_mem_of (h := 1101) (by decide +kernel)) rfl dL_law_303 hsim hPX hG.1 hS hG.2.2.2.1 hl.1 (by decide) (by omega) (by omega) (fun r S1 H1 locs1 hp1 hP1 hk1 hS1 => ?_)
        obtain ⟨x, rfl, hp1⟩ := hp1
        have hPY1 : va_P D vwCl (mv_w cy adY T 0 layY) H1 := hPY.kept (fun k q hk => hk1 q.1 ((hPY k q hk).lt) (fun z => hG.2.2.1 _ z (lw_inA hk)))
        have hS := hS1
        refine lv_aload_n hx hb dL_law_306 rfl (lv_at hl 2 rfl) ?_
        refine lv_aload_n hx hb dL_law_307 rfl (lv_at hl 0 rfl) ?_
        refine lv_iload_n hx hb dL_law_308 rfl (lv_at hl 3 rfl) ?_
        refine lv_iconst (v := 1) hx hb dL_law_309 (by decide) ?_
        refine lv_iadd hx hb dL_law_310 ?_
        refine va_sld hx hb hX hbl hbA hS i1 dL_law_311 ?_
        refine lw_call (as := [xs (nI (4 * n) + 1).toNatClampNeg]) (rest := [.int x]) (A := lw_A adY 37) okLY ok_sysY hx hb hml hown hts hK (M := _) (h0 := rfl) rfl rfl (mv_mem_of (h := 1641) (by decide +kernel)) rfl dL_law_312 hp1 hPY1 hG.2.1 hS1 hG.2.2.2.2 hl.1 (Nat.le_of_ble_eq_true rfl) (by omega) (by omega) (fun r2 T1 H2 locs2 hp2 hP2 hk2 hS2 => ?_)
        obtain ⟨rfl, hR1⟩ := hp2
        have hPX2 : va_P D vwCl (mv_w cy adX S1 0 layX) H2 := hP1.kept (fun k q hk => hk2 q.1 ((hP1 k q hk).lt) (fun z => hG.2.2.1 _ (lw_inA hk) z))
        exact lv_icmp_eq (tgt := 409) hx hb dL_law_315 (by decide) (fun _ => back S1 T1 H2 locs2 ls hR1 ⟨hPX2, hP2, hS2⟩ hl) (fun z => absurd rfl z)
      · show W p l e room_1 s m #[Value.ref b] below meth c H locs 74 73527 (lw_Z below #[Value.ref b] s) (F0 m 320 ls [])
        have hsim := hstep n hlt S T hRel 10 _ rfl [xs (nI (4 * n) + 1).toNatClampNeg] rfl
        refine lv_aload_n hx hb dL_law_320 rfl (lv_at hl 1 rfl) ?_
        refine lv_aload_n hx hb dL_law_321 rfl (lv_at hl 0 rfl) ?_
        refine lv_iload_n hx hb dL_law_322 rfl (lv_at hl 3 rfl) ?_
        refine lv_iconst (v := 1) hx hb dL_law_323 (by decide) ?_
        refine lv_iadd hx hb dL_law_324 ?_
        refine va_sld hx hb hX hbl hbA hS i1 dL_law_325 ?_
        refine lw_call (as := [xs (nI (4 * n) + 1).toNatClampNeg]) (rest := []) (A := lw_A adX 37) okLX ok_sysX hx hb hml hown hts hK (M := _) (h0 := rfl) rfl rfl (mv_mem_of (h := 1109) (by decide +kernel)) rfl dL_law_326 hsim hPX hG.1 hS hG.2.2.2.1 hl.1 (by decide) (by omega) (by omega) (fun r S1 H1 locs1 hp1 hP1 hk1 hS1 => ?_)
        obtain ⟨x, rfl, hp1⟩ := hp1
        have hPY1 : va_P D vwCl (mv_w cy adY T 0 layY) H1 := hPY.kept (fun k q hk => hk1 q.1 ((hPY k q hk).lt) (fun z => hG.2.2.1 _ z (lw_inA hk)))
        have hS := hS1
        refine lv_aload_n hx hb dL_law_329 rfl (lv_at hl 2 rfl) ?_
        refine lv_aload_n hx hb dL_law_330 rfl (lv_at hl 0 rfl) ?_
        refine lv_iload_n hx hb dL_law_331 rfl (lv_at hl 3 rfl) ?_
        refine lv_iconst (v := 1) hx hb dL_law_332 (by decide) ?_
        refine lv_iadd hx hb dL_law_333 ?_
        refine va_sld hx hb hX hbl hbA hS i1 dL_law_334 ?_
        refine lw_call (as := [xs (nI (4 * n) + 1).toNatClampNeg]) (rest := [.int x]) (A := lw_A adY 37) okLY ok_sysY hx hb hml hown hts hK (M := _) (h0 := rfl) rfl rfl (mv_mem_of (h := 1645) (by decide +kernel)) rfl dL_law_335 hp1 hPY1 hG.2.1 hS1 hG.2.2.2.2 hl.1 (Nat.le_of_ble_eq_true rfl) (by omega) (by omega) (fun r2 T1 H2 locs2 hp2 hP2 hk2 hS2 => ?_)
        obtain ⟨rfl, hR1⟩ := hp2
        have hPX2 : va_P D vwCl (mv_w cy adX S1 0 layX) H2 := hP1.kept (fun k q hk => hk2 q.1 ((hP1 k q hk).lt) (fun z => hG.2.2.1 _ (lw_inA hk) z))
        exact lv_icmp_eq (tgt := 409) hx hb dL_law_338 (by decide) (fun _ => back S1 T1 H2 locs2 ls hR1 ⟨hPX2, hP2, hS2⟩ hl) (fun z => absurd rfl z)
      · show W p l e room_1 s m #[Value.ref b] below meth c H locs 74 73527 (lw_Z below #[Value.ref b] s) (F0 m 343 ls [])
        have hsim := hstep n hlt S T hRel 11 _ rfl [xs (nI (4 * n) + 1).toNatClampNeg, xs (nI (4 * n) + 2).toNatClampNeg, xs (nI (4 * n) + 3).toNatClampNeg] rfl
        refine lv_aload_n hx hb dL_law_343 rfl (lv_at hl 1 rfl) ?_
        refine lv_aload_n hx hb dL_law_344 rfl (lv_at hl 0 rfl) ?_
        refine lv_iload_n hx hb dL_law_345 rfl (lv_at hl 3 rfl) ?_
        refine lv_iconst (v := 1) hx hb dL_law_346 (by decide) ?_
        refine lv_iadd hx hb dL_law_347 ?_
        refine va_sld hx hb hX hbl hbA hS i1 dL_law_348 ?_
        refine lv_aload_n hx hb dL_law_349 rfl (lv_at hl 0 rfl) ?_
        refine lv_iload_n hx hb dL_law_350 rfl (lv_at hl 3 rfl) ?_
        refine lv_iconst (v := 2) hx hb dL_law_351 (by decide) ?_
        refine lv_iadd hx hb dL_law_352 ?_
        refine va_sld hx hb hX hbl hbA hS i2 dL_law_353 ?_
        refine lv_aload_n hx hb dL_law_354 rfl (lv_at hl 0 rfl) ?_
        refine lv_iload_n hx hb dL_law_355 rfl (lv_at hl 3 rfl) ?_
        refine lv_iconst (v := 3) hx hb dL_law_356 (by decide) ?_
        refine lv_iadd hx hb dL_law_357 ?_
        refine va_sld hx hb hX hbl hbA hS i3 dL_law_358 ?_
        refine lw_call (as := [xs (nI (4 * n) + 1).toNatClampNeg, xs (nI (4 * n) + 2).toNatClampNeg, xs (nI (4 * n) + 3).toNatClampNeg]) (rest := []) (A := lw_A adX 37) okLX ok_sysX hx hb hml hown hts hK (M := _) (h0 := rfl) rfl rfl (mv_mem_of (h := 1114) (by decide +kernel)) rfl dL_law_359 hsim hPX hG.1 hS hG.2.2.2.1 hl.1 (by decide) (by omega) (by omega) (fun r S1 H1 locs1 hp1 hP1 hk1 hS1 => ?_)
        obtain ⟨x, rfl, hp1⟩ := hp1
        have hPY1 : va_P D vwCl (mv_w cy adY T 0 layY) H1 := hPY.kept (fun k q hk => hk1 q.1 ((hPY k q hk).lt) (fun z => hG.2.2.1 _ z (lw_inA hk)))
        have hS := hS1
        refine lv_aload_n hx hb dL_law_362 rfl (lv_at hl 2 rfl) ?_
        refine lv_aload_n hx hb dL_law_363 rfl (lv_at hl 0 rfl) ?_
        refine lv_iload_n hx hb dL_law_364 rfl (lv_at hl 3 rfl) ?_
        refine lv_iconst (v := 1) hx hb dL_law_365 (by decide) ?_
        refine lv_iadd hx hb dL_law_366 ?_
        refine va_sld hx hb hX hbl hbA hS i1 dL_law_367 ?_
        refine lv_aload_n hx hb dL_law_368 rfl (lv_at hl 0 rfl) ?_
        refine lv_iload_n hx hb dL_law_369 rfl (lv_at hl 3 rfl) ?_
        refine lv_iconst (v := 2) hx hb dL_law_370 (by decide) ?_
        refine lv_iadd hx hb dL_law_371 ?_
        refine va_sld hx hb hX hbl hbA hS i2 dL_law_372 ?_
        refine lv_aload_n hx hb dL_law_373 rfl (lv_at hl 0 rfl) ?_
        refine lv_iload_n hx hb dL_law_374 rfl (lv_at hl 3 rfl) ?_
        refine lv_iconst (v := 3) hx hb dL_law_375 (by decide) ?_
        refine lv_iadd hx hb dL_law_376 ?_
        refine va_sld hx hb hX hbl hbA hS i3 dL_law_377 ?_
        refine lw_call (as := [xs (nI (4 * n) + 1).toNatClampNeg, xs (nI (4 * n) + 2).toNatClampNeg, xs (nI (4 * n) + 3).toNatClampNeg]) (rest := [.int x]) (A := lw_A adY 37) okLY ok_sysY hx hb hml hown hts hK (M := _) (h0 := rfl) rfl rfl (mv_mem_of (h := 1649) (by decide +kernel)) rfl dL_law_378 hp1 hPY1 hG.2.1 hS1 hG.2.2.2.2 hl.1 (Nat.le_of_ble_eq_true rfl) (by omega) (by omega) (fun r2 T1 H2 locs2 hp2 hP2 hk2 hS2 => ?_)
        obtain ⟨rfl, hR1⟩ := hp2
        have hPX2 : va_P D vwCl (mv_w cy adX S1 0 layX) H2 := hP1.kept (fun k q hk => hk2 q.1 ((hP1 k q hk).lt) (fun z => hG.2.2.1 _ (lw_inA hk) z))
        exact lv_icmp_eq (tgt := 409) hx hb dL_law_381 (by decide) (fun _ => back S1 T1 H2 locs2 ls hR1 ⟨hPX2, hP2, hS2⟩ hl) (fun z => absurd rfl z)
      · show W p l e room_1 s m #[Value.ref b] below meth c H locs 74 73527 (lw_Z below #[Value.ref b] s) (F0 m 386 ls [])
        have hsim := hstep n hlt S T hRel 12 _ rfl [xs (nI (4 * n) + 1).toNatClampNeg] rfl
        refine lv_aload_n hx hb dL_law_386 rfl (lv_at hl 1 rfl) ?_
        refine lv_aload_n hx hb dL_law_387 rfl (lv_at hl 0 rfl) ?_
        refine lv_iload_n hx hb dL_law_388 rfl (lv_at hl 3 rfl) ?_
        refine lv_iconst (v := 1) hx hb dL_law_389 (by decide) ?_
        refine lv_iadd hx hb dL_law_390 ?_
        refine va_sld hx hb hX hbl hbA hS i1 dL_law_391 ?_
        refine lw_call (as := [xs (nI (4 * n) + 1).toNatClampNeg]) (rest := []) (A := lw_A adX 37) okLX ok_sysX hx hb hml hown hts hK (M := _) (h0 := rfl) rfl rfl (mv_mem_of (h := 1128) (by decide +kernel)) rfl dL_law_392 hsim hPX hG.1 hS hG.2.2.2.1 hl.1 (by decide) (by omega) (by omega) (fun r S1 H1 locs1 hp1 hP1 hk1 hS1 => ?_)
        obtain ⟨x, rfl, hp1⟩ := hp1
        have hPY1 : va_P D vwCl (mv_w cy adY T 0 layY) H1 := hPY.kept (fun k q hk => hk1 q.1 ((hPY k q hk).lt) (fun z => hG.2.2.1 _ z (lw_inA hk)))
        have hS := hS1
        refine lv_aload_n hx hb dL_law_395 rfl (lv_at hl 2 rfl) ?_
        refine lv_aload_n hx hb dL_law_396 rfl (lv_at hl 0 rfl) ?_
        refine lv_iload_n hx hb dL_law_397 rfl (lv_at hl 3 rfl) ?_
        refine lv_iconst (v := 1) hx hb dL_law_398 (by decide) ?_
        refine lv_iadd hx hb dL_law_399 ?_
        refine va_sld hx hb hX hbl hbA hS i1 dL_law_400 ?_
        refine lw_call (as := [xs (nI (4 * n) + 1).toNatClampNeg]) (rest := [.int x]) (A := lw_A adY 37) okLY ok_sysY hx hb hml hown hts hK (M := _) (h0 := rfl) rfl rfl (mv_mem_of (h := 1653) (by decide +kernel)) rfl dL_law_401 hp1 hPY1 hG.2.1 hS1 hG.2.2.2.2 hl.1 (Nat.le_of_ble_eq_true rfl) (by omega) (by omega) (fun r2 T1 H2 locs2 hp2 hP2 hk2 hS2 => ?_)
        obtain ⟨rfl, hR1⟩ := hp2
        have hPX2 : va_P D vwCl (mv_w cy adX S1 0 layX) H2 := hP1.kept (fun k q hk => hk2 q.1 ((hP1 k q hk).lt) (fun z => hG.2.2.1 _ (lw_inA hk) z))
        exact lv_icmp_eq (tgt := 409) hx hb dL_law_404 (by decide) (fun _ => back S1 T1 H2 locs2 ls hR1 ⟨hPX2, hP2, hS2⟩ hl) (fun z => absurd rfl z)
      · show W p l e room_1 s m #[Value.ref b] below meth c H locs 74 73527 (lw_Z below #[Value.ref b] s) (F0 m 409 ls [])
        exact back S T H locs ls (hskip n S T hRel) ⟨hPX, hPY, hS⟩ hl

/-! THE SMALL MACHINE IS SOUND: the walk -/
def mv_Ts : List Cond := lw_tbl.filter goodWord
theorem mv_in {w : Cond} (h : w ∈ lw_tbl) (g : goodWord w = true) : w ∈ mv_Ts := List.mem_filter.mpr ⟨h, g⟩
theorem mv_good : ∀ w ∈ mv_Ts, goodWord w = true := fun _ h => (List.mem_filter.mp h).2
/-- a class of the list: its fields' words, types and names -/
def mv_cok (ci : Nat) : Prop := ∃ (C : String) (T : u_T) (N : Nat) (ty : Nat → FieldType), vwCl[ci]? = some (C, T, N) ∧ (∀ w ∈ u_ws C T N, w ∈ mv_Ts) ∧ (∀ k, k < N → parseFieldDescriptor (T k).2.2.1 = some (ty k)) ∧ (∀ a, a < N → ∀ b, b < N → a ≠ b → (T a).2.1 ≠ (T b).2.1)
/-- a field's link -/
def mv_fok (own : String) (i ci k : Nat) : Prop := ∃ (C : String) (T : u_T) (N : Nat), vwCl[ci]? = some (C, T, N) ∧ k < N ∧ Cond.fieldLink own i C (T k).2.1 (T k).2.2.1 ∈ mv_Ts ∧ (T k).1 = C
/-- the shapes' fields are those of their classes -/
def mv_lok (lay : List mv_D) : Prop := ∀ (q ci : Nat) (fs : List Nat), lay[q]? = some (.inl (ci, fs)) → mv_cok ci ∧ ∀ (C : String) (T : u_T) (N : Nat), vwCl[ci]? = some (C, T, N) → fs.length = N ∧ ∀ k f, fs[k]? = some f → (f = 0 → (T k).2.2.2 = false ∧ parseFieldDescriptor (T k).2.2.1 = some .int) ∧ (f = 1 → (T k).2.2.2 = false ∧ parseFieldDescriptor (T k).2.2.1 = some .boolean)
theorem mv_fd_spec {lay : List mv_D} {T : mv_T} {i q ci k f : Nat} (h : mv_fd lay T i q = some (ci, k, f)) : (i, ci, k) ∈ T.1 ∧ ∃ fs, lay[q]? = some (.inl (ci, fs)) ∧ fs[k]? = some f := by
  unfold mv_fd at h
  split at h
  · cases h
  · next cj kj hm =>
    split at h
    · next cq fs hq =>
      cases hb : Nat.beq cq cj with
      | false => rw [hb] at h; simp at h
      | true =>
        rw [hb] at h
        have e : cq = cj := Nat.eq_of_beq_eq_true hb
        subst e
        simp only [cond_true] at h
        split at h
        · next f' hf =>
          cases h
          exact ⟨mv_at_mem hm, fs, hq, hf⟩
        · cases h
    · cases h
theorem mv_iv_spec {lay : List mv_D} {sys : List mv_M} {T : mv_T} {i j : Nat} {st a rest : List Value} (h : mv_iv lay sys T i st = some (j, a, rest)) : (i, j) ∈ T.2.2.2 ∧ ∃ (y : MethodName) (cc : ByteArray) (mL : Nat) (rt : Option FieldType) (np ci : Nat) (T' : mv_T) (il : List (Nat × Instr)) (q : Nat) (fs : List Nat) (As : List Value), sys[j]? = some (y, cc, mL, rt, np, some ci, T', il) ∧ lay[q]? = some (.inl (ci, fs)) ∧ As.length = np ∧ a = .ref q :: As ∧ st = As.reverse ++ .ref q :: rest ∧ mv_cat rest ≤ 8 := by
  unfold mv_iv at h
  split at h
  · cases h
  · next j' hm =>
    split at h
    · next y cc mL rt np ci T' il hs =>
      split at h
      · next q rs hd =>
        split at h
        · next cj fs hq =>
          cases hb : (Nat.beq cj ci && Nat.beq (st.take np).length np && Nat.ble (mv_cat rs) 8) with
          | false => rw [hb] at h; simp at h
          | true =>
            rw [hb] at h
            simp only [cond_true] at h
            cases h
            simp only [Bool.and_eq_true] at hb
            obtain ⟨⟨h1, h2⟩, h3⟩ := hb
            have e1 : cj = ci := Nat.eq_of_beq_eq_true h1
            have e2 : (st.take np).length = np := Nat.eq_of_beq_eq_true h2
            subst e1
            refine ⟨mv_at_mem hm, y, cc, mL, rt, np, cj, T', il, q, fs, (st.take np).reverse, hs, hq, by rw [List.length_reverse]; exact e2, rfl, ?_, Nat.le_of_ble_eq_true h3⟩
            rw [List.reverse_reverse, ← hd, List.take_append_drop]
        · cases h
      · cases h
    · cases h
theorem mv_is_spec {sys : List mv_M} {T : mv_T} {i j : Nat} {st a rest : List Value} (h : mv_is sys T i st = some (j, a, rest)) : (i, j) ∈ T.2.2.2 ∧ ∃ (y : MethodName) (cc : ByteArray) (mL : Nat) (rt : Option FieldType) (np : Nat) (T' : mv_T) (il : List (Nat × Instr)), sys[j]? = some (y, cc, mL, rt, np, none, T', il) ∧ a.length = np ∧ st = a.reverse ++ rest ∧ mv_cat rest ≤ 8 := by
  unfold mv_is at h
  split at h
  · cases h
  · next j' hm =>
    split at h
    · next y cc mL rt np T' il hs =>
      cases hb : (Nat.beq (st.take np).length np && Nat.ble (mv_cat (st.drop np)) 8) with
      | false => rw [hb] at h; simp at h
      | true =>
        rw [hb] at h
        simp only [cond_true] at h
        cases h
        simp only [Bool.and_eq_true] at hb
        obtain ⟨h2, h3⟩ := hb
        have e2 : (st.take np).length = np := Nat.eq_of_beq_eq_true h2
        exact ⟨mv_at_mem hm, y, cc, mL, rt, np, T', il, hs, by rw [List.length_reverse]; exact e2, by rw [List.reverse_reverse, List.take_append_drop], Nat.le_of_ble_eq_true h3⟩
    · cases h
theorem mv_nar {x : Int32} (h : x = 0 ∨ x = 1) : vp_nar .boolean x = x ∧ narrow .boolean (.int x) = .int x ∧ fits .boolean (.int x) = true := by
  rcases h with rfl | rfl <;> exact ⟨by decide, by decide, by decide⟩
section MV
variable {p : Program} {l : Launch} {e : Env} {R : Room} {s : State} {m : MethodId} {args : Array Value} {below : List Frame} {meth : Method} {c : Code} {cells slots : Nat} {Q : State → Prop}
variable {cc : ByteArray} {D : va_G} {cy : Nat → ClassId} {ad : Nat → Nat} {A : Nat → Prop} {lay : List mv_D} {own : String} {T : mv_T} {nL : Nat}
/-- what a world is: the store's cells on the heap, apart, nothing else changed since the start -/
def mv_W (D : va_G) (cy : Nat → ClassId) (ad : Nat → Nat) (A : Nat → Prop) (lay : List mv_D) (s : State) (S : mv_S) (H : Heap) (locs : List Loc) : Prop := va_P D vwCl (mv_w cy ad S 0 lay) H ∧ va_D A (mv_w cy ad S 0 lay) ∧ va_S A s.heap H locs
theorem mv_sws {pc : Nat} {ls : Array Slot} {rest : List Value} {x : Int32} {H : Heap} {locs : List Loc} {K : Nat → Prop} (hexec : p.tables.exec = Jvm.exec) (hb : c.code = cc) {d : Int} {ps : Array (Int × Int)} {len : Nat} (hdg : decode cc pc = .ok (.lookupswitch d ps, len))
    (hp : (ps.toList.zip (ps.toList.drop 1)).all (fun (a, next) => a.1 < next.1) = true) (hr : ps.toList.all (fun q => mv_rng q.1) = true) (hK : ∀ t, K t → W p l e R s m args below meth c H locs cells slots Q (F0 m t ls rest)) (h : mv_sw pc x d K ps.toList) : W p l e R s m args below meth c H locs cells slots Q (F0 m pc ls (.int x :: rest)) := by
  have key : ∀ r : List (Int × Int), r.all (fun q => mv_rng q.1) = true → mv_sw pc x d K r → ∃ (off : Int) (t : Nat), Op.lookupswitch.offset r d x.toInt = off ∧ (pc : Int) + off = (t : Int) ∧ K t := by
    intro r
    induction r with
    | nil =>
      intro _ h
      obtain ⟨t, e1, e2⟩ := mv_to_spec h
      exact ⟨d, t, rfl, e1, e2⟩
    | cons q r ih =>
      obtain ⟨cq, oq⟩ := q
      intro ha h
      simp only [List.all_cons, Bool.and_eq_true] at ha
      by_cases hx : x = Int32.ofInt cq
      · obtain ⟨t, e1, e2⟩ := mv_to_spec (h.1 hx)
        refine ⟨oq, t, ?_, e1, e2⟩
        have hi : x.toInt = cq := by rw [hx]; exact mv_rng_toInt ha.1
        simp [Op.lookupswitch.offset, hi]
      · obtain ⟨off, t, e1, e2, e3⟩ := ih ha.2 (h.2 hx)
        refine ⟨off, t, ?_, e2, e3⟩
        rw [← e1]
        exact lv_osw hx (mv_rng_toInt ha.1)
  obtain ⟨off, t, e1, e2, e3⟩ := key _ hr h
  exact lv_lookup hexec hb hdg hp e1 e2 (hK t e3)
theorem mv_swt {pc : Nat} {ls : Array Slot} {rest : List Value} {x : Int32} {H : Heap} {locs : List Loc} {K : Nat → Prop} (hexec : p.tables.exec = Jvm.exec) (hb : c.code = cc) {d lo hi : Int} {offs : Array Int} {len : Nat} (hdg : decode cc pc = .ok (.tableswitch d lo hi offs, len))
    (hh : hi + 1 = lo + offs.size) (h1 : mv_rng lo = true) (h2 : mv_rng hi = true) (hK : ∀ t, K t → W p l e R s m args below meth c H locs cells slots Q (F0 m t ls rest)) (h : mv_sw pc x d K (mv_tb lo offs.toList)) : W p l e R s m args below meth c H locs cells slots Q (F0 m pc ls (.int x :: rest)) := by
  have b1 : -2147483648 ≤ lo := by simp only [mv_rng, Bool.and_eq_true, decide_eq_true_eq] at h1; exact h1.1
  have b2 : hi < 2147483648 := by simp only [mv_rng, Bool.and_eq_true, decide_eq_true_eq] at h2; exact h2.2
  have key : ∀ (r : List Int) (c0 : Int), -2147483648 ≤ c0 → c0 + r.length ≤ 2147483648 → mv_sw pc x d K (mv_tb c0 r) → (∃ (j : Nat) (o : Int) (t : Nat), r[j]? = some o ∧ x.toInt = c0 + j ∧ (pc : Int) + o = (t : Int) ∧ K t) ∨ ((x.toInt < c0 ∨ c0 + r.length ≤ x.toInt) ∧ ∃ t : Nat, (pc : Int) + d = (t : Int) ∧ K t) := by
    intro r
    induction r with
    | nil =>
      intro c0 _ _ h
      obtain ⟨t, e1, e2⟩ := mv_to_spec h
      exact Or.inr ⟨by simp only [List.length_nil]; omega, t, e1, e2⟩
    | cons o r ih =>
      intro c0 hl hu h
      simp only [List.length_cons] at hu
      have hr : mv_rng c0 = true := by
        simp only [mv_rng, Bool.and_eq_true, decide_eq_true_eq]
        omega
      by_cases hx : x = Int32.ofInt c0
      · obtain ⟨t, e1, e2⟩ := mv_to_spec (h.1 hx)
        refine Or.inl ⟨0, o, t, rfl, ?_, e1, e2⟩
        rw [hx, mv_rng_toInt hr]; simp
      · have hne : ¬ x.toInt = c0 := fun q => hx (by rw [← q, Int32.ofInt_toInt])
        rcases ih (c0 + 1) (by omega) (by omega) (h.2 hx) with ⟨j, o', t, e1, e2, e3, e4⟩ | ⟨e1, t, e2, e3⟩
        · exact Or.inl ⟨j + 1, o', t, by simpa using e1, by rw [e2]; omega, e3, e4⟩
        · exact Or.inr ⟨by simp only [List.length_cons]; omega, t, e2, e3⟩
  have hlen : (offs.toList.length : Int) = offs.size := by simp
  rcases key offs.toList lo b1 (by rw [hlen]; omega) h with ⟨j, o, t, e1, e2, e3, e4⟩ | ⟨e1, t, e2, e3⟩
  · have hj : j < offs.toList.length := mv_lt e1
    refine lv_tableIn hexec hb hdg (by omega) (by have : (j : Int) < offs.toList.length := by exact_mod_cast hj
                                                  rw [hlen] at this; omega) (off := o) ?_ e3 (hK t e4)
    rw [show (x.toInt - lo).toNat = j by omega, ← Array.getElem?_toList]
    exact e1
  · exact lv_tableOut hexec hb hdg (by rw [hlen] at e1; omega) e2 (hK t e3)
end MV

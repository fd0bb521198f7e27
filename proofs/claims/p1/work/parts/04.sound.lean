/-! THE SMALL MACHINE IS SOUND: helper rows -/
theorem mv_fs_at (ad : Nat → Nat) (v : Nat → Int32) : ∀ (l : List Nat) (k0 k : Nat), (mv_fs ad v k0 l)[k]? = (l[k]?).map (fun f => mv_f ad (v (k0 + k)) f)
  | [], k0, k => by simp [mv_fs]
  | f :: r, k0, 0 => by simp [mv_fs]
  | f :: r, k0, k + 1 => by
    simp only [mv_fs, List.getElem?_cons_succ]
    rw [mv_fs_at ad v r (k0 + 1) k, show k0 + 1 + k = k0 + (k + 1) by omega]
theorem mv_w_at (cy : Nat → ClassId) (ad : Nat → Nat) (S : mv_S) : ∀ (l : List mv_D) (q0 q : Nat), (mv_w cy ad S q0 l)[q]? = (l[q]?).map (fun d => (ad (q0 + q), mv_c cy ad S (q0 + q) d))
  | [], q0, q => by simp [mv_w]
  | d :: r, q0, 0 => by simp [mv_w]
  | d :: r, q0, q + 1 => by
    simp only [mv_w, List.getElem?_cons_succ]
    rw [mv_w_at cy ad S r (q0 + 1) q, show q0 + 1 + q = q0 + (q + 1) by omega]
theorem mv_w_get {cy : Nat → ClassId} {ad : Nat → Nat} {S : mv_S} {lay : List mv_D} {q : Nat} {d : mv_D} (h : lay[q]? = some d) : (mv_w cy ad S 0 lay)[q]? = some (ad q, mv_c cy ad S q d) := by
  rw [mv_w_at, h, Nat.zero_add]; rfl
theorem mv_lt {α : Type} {l : List α} {q : Nat} {d : α} (h : l[q]? = some d) : q < l.length := (List.getElem?_eq_some_iff.mp h).1
/-- the store changed at one place is the list changed there -/
theorem mv_w_set {cy : Nat → ClassId} {ad : Nat → Nat} {S S' : mv_S} {lay : List mv_D} {q : Nat} {d : mv_D} {e : va_E} (h : lay[q]? = some d) (he : mv_c cy ad S' q d = e) (ho : ∀ (p : Nat) (d : mv_D), p ≠ q → mv_c cy ad S' p d = mv_c cy ad S p d) : (mv_w cy ad S 0 lay).set q (ad q, e) = mv_w cy ad S' 0 lay := by
  apply List.ext_getElem?
  intro p
  rw [List.getElem?_set, mv_w_at, mv_w_at]
  by_cases hp : q = p
  · subst hp
    have hl : q < (mv_w cy ad S 0 lay).length := by
      have := mv_w_get (cy := cy) (ad := ad) (S := S) h
      exact mv_lt this
    rw [if_pos rfl, if_pos hl, h, Nat.zero_add, ← he]; rfl
  · rw [if_neg hp, Nat.zero_add]
    cases hd : lay[p]? with
    | none => rfl
    | some d' => simp only [Option.map]; rw [ho p d' (Ne.symm hp)]
theorem mv_fs_set {ad : Nat → Nat} {v : Nat → Int32} {l : List Nat} {k f : Nat} {x : Int32} (h : l[k]? = some f) (hf : f < 2) : (mv_fs ad v 0 l).set k (.int x) = mv_fs ad (upd v k x) 0 l := by
  apply List.ext_getElem?
  intro p
  rw [List.getElem?_set, mv_fs_at, mv_fs_at]
  by_cases hp : k = p
  · subst hp
    have hl : k < (mv_fs ad v 0 l).length := by
      have : (mv_fs ad v 0 l)[k]? = some (mv_f ad (v (0 + k)) f) := by rw [mv_fs_at, h]; rfl
      exact mv_lt this
    rw [if_pos rfl, if_pos hl, h]
    match f, hf with
    | 0, _ => simp [mv_f, upd]
    | 1, _ => simp [mv_f, upd]
  · rw [if_neg hp]
    simp only [Nat.zero_add]
    rw [show upd v k x p = v p from if_neg (Ne.symm hp)]
theorem mv_c_ne {cy : Nat → ClassId} {ad : Nat → Nat} {S S' : mv_S} {p : Nat} (h1 : S'.1 p = S.1 p) (h2 : S'.2.1 p = S.2.1 p) (h3 : S'.2.2 p = S.2.2 p) (d : mv_D) : mv_c cy ad S' p d = mv_c cy ad S p d := by
  match d with
  | .inl (ci, fs) => simp only [mv_c, h1]
  | .inr (0, n) => simp only [mv_c, h2]
  | .inr (1, n) => simp only [mv_c, h2]
  | .inr (_ + 2, n) => simp only [mv_c, h3]
theorem mv_w_pf {cy : Nat → ClassId} {ad : Nat → Nat} {S : mv_S} {lay : List mv_D} {q ci k f : Nat} {fs : List Nat} {x : Int32} (h : lay[q]? = some (.inl (ci, fs))) (hk : fs[k]? = some f) (hf : f < 2) : (mv_w cy ad S 0 lay).set q (ad q, .inr (ci, (mv_fs ad (S.1 q) 0 fs).set k (.int x))) = mv_w cy ad (mv_pf S q k x) 0 lay := by
  refine mv_w_set h ?_ (fun p d hp => mv_c_ne (S' := mv_pf S q k x) (S := S) (va_up_ne _ _ hp) rfl rfl d)
  · rw [mv_fs_set hk hf]
    simp only [mv_c, mv_pf, va_up_self]
theorem mv_w_pr {cy : Nat → ClassId} {ad : Nat → Nat} {S : mv_S} {lay : List mv_D} {q t n k : Nat} {x : Int32} (ht : t < 2) (h : lay[q]? = some (.inr (t, n))) : (mv_w cy ad S 0 lay).set q (ad q, .inl (cy t, n, .inl (upd (S.2.1 q) k x))) = mv_w cy ad (mv_pr S q k x) 0 lay := by
  refine mv_w_set h ?_ (fun p d hp => mv_c_ne (S' := mv_pr S q k x) (S := S) rfl (va_up_ne _ _ hp) rfl d)
  · match t, ht with
    | 0, _ => simp only [mv_c, mv_pr, va_up_self]
    | 1, _ => simp only [mv_c, mv_pr, va_up_self]
theorem mv_w_pl {cy : Nat → ClassId} {ad : Nat → Nat} {S : mv_S} {lay : List mv_D} {q t n k : Nat} {x : Int64} (h : lay[q]? = some (.inr (t + 2, n))) : (mv_w cy ad S 0 lay).set q (ad q, .inl (cy 2, n, .inr (.inl (vp_updL (S.2.2 q) k x)))) = mv_w cy ad (mv_pl S q k x) 0 lay := by
  refine mv_w_set h ?_ (fun p d hp => mv_c_ne (S' := mv_pl S q k x) (S := S) rfl rfl (va_up_ne _ _ hp) d)
  · simp only [mv_c, mv_pl, va_up_self]
theorem mv_k_cat (ad : Nat → Nat) (v : Value) : (mv_k ad v).category = v.category := by cases v <;> rfl
theorem mv_at_mem {α : Type} {i : Nat} {a : α} : ∀ {l : List (Nat × α)}, mv_at i l = some a → (i, a) ∈ l
  | [], h => by simp [mv_at] at h
  | (j, b) :: r, h => by
    simp only [mv_at] at h
    cases hj : Nat.beq j i with
    | true =>
      rw [hj] at h
      have e : j = i := Nat.eq_of_beq_eq_true hj
      simp at h
      subst e; subst h
      exact List.mem_cons_self
    | false =>
      rw [hj] at h
      simp at h
      exact List.mem_cons_of_mem _ (mv_at_mem h)
theorem mv_ks_mem {ad : Nat → Nat} {i : Nat} {v : Value} {lv : List (Nat × Value)} (h : mv_at i lv = some v) : (i, mv_k ad v) ∈ mv_ks ad lv := List.mem_map.mpr ⟨(i, v), mv_at_mem h, rfl⟩
theorem mv_ks_at {ad : Nat → Nat} {ls : Array Slot} {nL i : Nat} {v : Value} {lv : List (Nat × Value)} (hl : lv_has ls nL (mv_ks ad lv)) (h : mv_at i lv = some v) : ls[i]? = some (.val (mv_k ad v)) := hl.2.2 _ (mv_ks_mem h)
theorem mv_ks_sv (ad : Nat → Nat) (i : Nat) (x : Value) (lv : List (Nat × Value)) : (i, mv_k ad x) :: (mv_ks ad lv).filter (fun q => !(q.1 == i) && !(q.1 + 1 == i && q.2.category == 2)) = mv_ks ad (mv_sv i x lv) := by
  simp only [mv_ks, mv_sv, List.map_cons, List.filter_map]
  congr 2
  apply List.filter_congr
  intro q _
  simp only [Function.comp, mv_k_cat]
theorem mv_ks_args (ad : Nat → Nat) : ∀ (a : List Value) (k : Nat), lv_args k (a.map (mv_k ad)) = mv_ks ad (lv_args k a)
  | [], k => rfl
  | v :: r, k => by
    simp only [List.map_cons, lv_args, mv_k_cat, mv_ks]
    rw [mv_ks_args ad r]
    rfl
theorem mv_sl_len (ad : Nat → Nat) : ∀ a : List Value, (lg_sl (a.map (mv_k ad))).length = (lg_sl a).length
  | [] => rfl
  | v :: r => by
    have h := mv_sl_len ad r
    simp only [lg_sl, List.map_cons, List.flatMap_cons, List.length_append, mv_k_cat] at h ⊢
    rw [h]
    by_cases hc : v.category = 2 <;> simp [hc]
theorem mv_cat_k (ad : Nat → Nat) (l : List Value) : (((l.map (mv_k ad)).map fun v => v.category)).sum = mv_cat l := by
  simp only [mv_cat, List.map_map]
  congr 1
  apply List.map_congr_left
  intro v _
  exact mv_k_cat ad v
theorem mv_to_spec {pc : Nat} {off : Int} {k : Nat → Prop} (h : mv_to pc off k) : ∃ t : Nat, (pc : Int) + off = (t : Int) ∧ k t := by
  unfold mv_to at h
  split at h
  · next t e => exact ⟨t, e, h⟩
  · exact h.elim
theorem mv_rng_toInt {c : Int} (h : mv_rng c = true) : (Int32.ofInt c).toInt = c := by
  simp only [mv_rng, Bool.and_eq_true, decide_eq_true_eq] at h
  exact Int32.toInt_ofInt_of_le h.1 (by omega)

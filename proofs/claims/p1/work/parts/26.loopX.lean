/-! THE CLASS'S METHODS: loops that fill a row -/
abbrev xW (M : mv_M) (d : Nat) (P : Option Value → mv_S → Prop) (n pc : Nat) (lv : List (Nat × Value)) (st : List Value) (S : mv_S) : Prop := mv_wp layX sysX M.2.2.2.2.2.2.1 M.2.2.1 M.2.2.2.1 M.2.2.2.2.2.2.2 (mv_big layX sysX d) P n pc lv st S
/-- the store with another row at q -/
def stR (S : mv_S) (q : Nat) (r : Nat → Int32) : mv_S := (S.1, va_up S.2.1 q r, S.2.2)
theorem stR_pr (S : mv_S) (q : Nat) (r : Nat → Int32) (k : Nat) (x : Int32) : mv_pr (stR S q r) q k x = stR S q (upd r k x) := by
  simp only [mv_pr, stR, va_up_self]
  congr 2
  funext j
  by_cases h : j = q <;> simp [va_up, h]
theorem stR_self (S : mv_S) (q : Nat) : stR S q (S.2.1 q) = S := by
  obtain ⟨a, b, c⟩ := S
  simp only [stR]
  congr 2
  funext j
  by_cases h : j = q <;> simp [va_up, h]
/-- a row with c from a to before n -/
def rFill (r : Nat → Int32) (a n : Nat) (c : Int32) : Nat → Int32 := fun f => if a ≤ f ∧ f < n then c else r f
theorem rFill_0 (r : Nat → Int32) (a : Nat) (c : Int32) : rFill r a a c = r := by
  funext f
  simp only [rFill]
  rw [if_neg (by omega)]
theorem rFill_s (r : Nat → Int32) {a i : Nat} (h : a ≤ i) (c : Int32) : upd (rFill r a i c) i c = rFill r a (i + 1) c := by
  funext f
  simp only [rFill, upd]
  by_cases h1 : f = i
  · subst h1; simp [h]
  · rw [if_neg h1]
    by_cases h2 : a ≤ f ∧ f < i
    · rw [if_pos h2, if_pos (by omega)]
    · rw [if_neg h2, if_neg (by omega)]
theorem nI_leN {a b : Nat} (ha : a < 2 ^ 31) (hb : b < 2 ^ 31) : (nI a ≤ nI b) = (a ≤ b) := propext (nI_leI ha hb)
section WS
variable {lay : List mv_D} {sys : List mv_M} {T : mv_T} {nL : Nat} {z : Option FieldType} {il : List (Nat × Instr)} {Call : mv_Call} {P : Option Value → mv_S → Prop} {n pc : Nat} {lv : List (Nat × Value)} {st : List Value} {S : mv_S}
theorem ws_i {i : Instr} (hi : mv_at pc il = some i) (h : mv_do lay sys T nL z Call P (mv_wp lay sys T nL z il Call P n) pc lv st S i) : mv_wp lay sys T nL z il Call P (n + 1) pc lv st S := by
  unfold mv_wp
  rw [hi]
  exact h
theorem ws_iinc {k t : Nat} {c : Int} {x y : Int32} {lv' : List (Nat × Value)} (hi : mv_at pc il = some (.iinc k c)) (hl : mv_at k lv = some (.int x)) (hb : Nat.blt k nL = true) (hy : x + Int32.ofInt c = y) (hv : mv_sv k (.int y) lv = lv') (ht : pc + 3 = t) (h : mv_wp lay sys T nL z il Call P n t lv' st S) : mv_wp lay sys T nL z il Call P (n + 1) pc lv st S := by
  subst hv; subst ht; subst hy
  refine ws_i hi ?_
  simp only [mv_do, hl, hb, cond_true]
  exact h
theorem ws_goto {off : Int} {t : Nat} (hi : mv_at pc il = some (.goto off)) (ht : (pc : Int) + off = (t : Int)) (h : mv_wp lay sys T nL z il Call P n t lv st S) : mv_wp lay sys T nL z il Call P (n + 1) pc lv st S := by
  refine ws_i hi ?_
  show mv_to pc off _
  unfold mv_to
  rw [ht]
  exact h
theorem ws_iconst {c : Int} {x : Int32} {t : Nat} (hi : mv_at pc il = some (.iconst c)) (hx : Int32.ofInt c = x) (ht : pc + 1 = t) (h : mv_wp lay sys T nL z il Call P n t lv (.int x :: st) S) : mv_wp lay sys T nL z il Call P (n + 1) pc lv st S := by
  subst ht; subst hx
  exact ws_i hi h
theorem ws_istore_n {k : Fin 4} {x : Int32} {t : Nat} {lv' : List (Nat × Value)} (hi : mv_at pc il = some (.istore_n k)) (hb : Nat.blt k.val nL = true) (hv : mv_sv k.val (.int x) lv = lv') (ht : pc + 1 = t) (h : mv_wp lay sys T nL z il Call P n t lv' st S) : mv_wp lay sys T nL z il Call P (n + 1) pc lv (.int x :: st) S := by
  subst ht; subst hv
  refine ws_i hi ?_
  simp only [mv_do, hb, cond_true]
  exact h
theorem ws_istore {k : Nat} {x : Int32} {t : Nat} {lv' : List (Nat × Value)} (hi : mv_at pc il = some (.istore k)) (hb : Nat.blt k nL = true) (hv : mv_sv k (.int x) lv = lv') (ht : pc + 2 = t) (h : mv_wp lay sys T nL z il Call P n t lv' st S) : mv_wp lay sys T nL z il Call P (n + 1) pc lv (.int x :: st) S := by
  subst ht; subst hv
  refine ws_i hi ?_
  simp only [mv_do, hb, cond_true]
  exact h
theorem ws_bipush {c : Int} {x : Int32} {t : Nat} (hi : mv_at pc il = some (.bipush c)) (hx : (Int8.ofInt c).toInt32 = x) (ht : pc + 2 = t) (h : mv_wp lay sys T nL z il Call P n t lv (.int x :: st) S) : mv_wp lay sys T nL z il Call P (n + 1) pc lv st S := by
  subst ht; subst hx
  exact ws_i hi h
theorem ws_sipush {c : Int} {x : Int32} {t : Nat} (hi : mv_at pc il = some (.sipush c)) (hx : (Int16.ofInt c).toInt32 = x) (ht : pc + 3 = t) (h : mv_wp lay sys T nL z il Call P n t lv (.int x :: st) S) : mv_wp lay sys T nL z il Call P (n + 1) pc lv st S := by
  subst ht; subst hx
  exact ws_i hi h
theorem ws_iload_n {k : Fin 4} {x : Int32} {t : Nat} (hi : mv_at pc il = some (.iload_n k)) (hl : mv_at k.val lv = some (.int x)) (ht : pc + 1 = t) (h : mv_wp lay sys T nL z il Call P n t lv (.int x :: st) S) : mv_wp lay sys T nL z il Call P (n + 1) pc lv st S := by
  subst ht
  refine ws_i hi ?_
  simp only [mv_do, hl]
  exact h
theorem ws_iload {k : Nat} {x : Int32} {t : Nat} (hi : mv_at pc il = some (.iload k)) (hl : mv_at k lv = some (.int x)) (ht : pc + 2 = t) (h : mv_wp lay sys T nL z il Call P n t lv (.int x :: st) S) : mv_wp lay sys T nL z il Call P (n + 1) pc lv st S := by
  subst ht
  refine ws_i hi ?_
  simp only [mv_do, hl]
  exact h
theorem ws_aload_n {k : Fin 4} {x : Nat} {t : Nat} (hi : mv_at pc il = some (.aload_n k)) (hl : mv_at k.val lv = some (.ref x)) (ht : pc + 1 = t) (h : mv_wp lay sys T nL z il Call P n t lv (.ref x :: st) S) : mv_wp lay sys T nL z il Call P (n + 1) pc lv st S := by
  subst ht
  refine ws_i hi ?_
  simp only [mv_do, hl]
  exact h
theorem ws_iadd {x y w : Int32} {t : Nat} (hi : mv_at pc il = some .iadd) (hw : x + y = w) (ht : pc + 1 = t) (h : mv_wp lay sys T nL z il Call P n t lv (.int w :: st) S) : mv_wp lay sys T nL z il Call P (n + 1) pc lv (.int y :: .int x :: st) S := by
  subst ht; subst hw
  exact ws_i hi h
theorem ws_isub {x y w : Int32} {t : Nat} (hi : mv_at pc il = some .isub) (hw : x - y = w) (ht : pc + 1 = t) (h : mv_wp lay sys T nL z il Call P n t lv (.int w :: st) S) : mv_wp lay sys T nL z il Call P (n + 1) pc lv (.int y :: .int x :: st) S := by
  subst ht; subst hw
  exact ws_i hi h
theorem ws_imul {x y w : Int32} {t : Nat} (hi : mv_at pc il = some .imul) (hw : x * y = w) (ht : pc + 1 = t) (h : mv_wp lay sys T nL z il Call P n t lv (.int w :: st) S) : mv_wp lay sys T nL z il Call P (n + 1) pc lv (.int y :: .int x :: st) S := by
  subst ht; subst hw
  exact ws_i hi h
theorem ws_dup_r {x : Nat} {t : Nat} (hi : mv_at pc il = some .dup) (ht : pc + 1 = t) (h : mv_wp lay sys T nL z il Call P n t lv (.ref x :: .ref x :: st) S) : mv_wp lay sys T nL z il Call P (n + 1) pc lv (.ref x :: st) S := by
  subst ht
  exact ws_i hi h
theorem ws_geti {i q ci k t : Nat} {x : Int32} (hi : mv_at pc il = some (.getfield i)) (hf : mv_fd lay T i q = some (ci, k, 0)) (hx : S.1 q k = x) (ht : pc + 3 = t) (h : mv_wp lay sys T nL z il Call P n t lv (.int x :: st) S) : mv_wp lay sys T nL z il Call P (n + 1) pc lv (.ref q :: st) S := by
  subst ht; subst hx
  refine ws_i hi ?_
  simp only [mv_do, hf]
  exact h
theorem ws_getz {i q ci k t : Nat} {x : Int32} (hi : mv_at pc il = some (.getfield i)) (hf : mv_fd lay T i q = some (ci, k, 1)) (hx : S.1 q k = x) (ht : pc + 3 = t) (h : mv_wp lay sys T nL z il Call P n t lv (.int x :: st) S) : mv_wp lay sys T nL z il Call P (n + 1) pc lv (.ref q :: st) S := by
  subst ht; subst hx
  refine ws_i hi ?_
  simp only [mv_do, hf]
  exact h
theorem ws_getr {i q ci k j t : Nat} (hi : mv_at pc il = some (.getfield i)) (hf : mv_fd lay T i q = some (ci, k, j + 2)) (ht : pc + 3 = t) (h : mv_wp lay sys T nL z il Call P n t lv (.ref j :: st) S) : mv_wp lay sys T nL z il Call P (n + 1) pc lv (.ref q :: st) S := by
  subst ht
  refine ws_i hi ?_
  simp only [mv_do, hf]
  exact h
theorem ws_puti {i q ci k t : Nat} {x : Int32} (hi : mv_at pc il = some (.putfield i)) (hf : mv_fd lay T i q = some (ci, k, 0)) (ht : pc + 3 = t) (h : mv_wp lay sys T nL z il Call P n t lv st (mv_pf S q k x)) : mv_wp lay sys T nL z il Call P (n + 1) pc lv (.int x :: .ref q :: st) S := by
  subst ht
  refine ws_i hi ?_
  simp only [mv_do, hf]
  exact h
theorem ws_putz {i q ci k t : Nat} {x : Int32} (hi : mv_at pc il = some (.putfield i)) (hf : mv_fd lay T i q = some (ci, k, 1)) (hz : x = 0 ∨ x = 1) (ht : pc + 3 = t) (h : mv_wp lay sys T nL z il Call P n t lv st (mv_pf S q k x)) : mv_wp lay sys T nL z il Call P (n + 1) pc lv (.int x :: .ref q :: st) S := by
  subst ht
  refine ws_i hi ?_
  simp only [mv_do, hf]
  exact ⟨hz, h⟩
theorem ws_iv {i j t : Nat} {a rest : List Value} (hi : mv_at pc il = some (.invokevirtual i)) (hv : mv_iv lay sys T i st = some (j, a, rest)) (ht : pc + 3 = t) (h : Call j a S (fun r S' => mv_wp lay sys T nL z il Call P n t lv (r.toList ++ rest) S')) : mv_wp lay sys T nL z il Call P (n + 1) pc lv st S := by
  subst ht
  refine ws_i hi ?_
  simp only [mv_do, hv]
  exact h
theorem ws_is {i j t : Nat} {a rest : List Value} (hi : mv_at pc il = some (.invokestatic i)) (hv : mv_is sys T i st = some (j, a, rest)) (ht : pc + 3 = t) (h : Call j a S (fun r S' => mv_wp lay sys T nL z il Call P n t lv (r.toList ++ rest) S')) : mv_wp lay sys T nL z il Call P (n + 1) pc lv st S := by
  subst ht
  refine ws_i hi ?_
  simp only [mv_do, hv]
  exact h
end WS
section LX
variable {d : Nat} {S : mv_S} {P : Option Value → mv_S → Prop}
theorem stR_fill (S : mv_S) (q : Nat) (r : Nat → Int32) {a i : Nat} (h : a ≤ i) (hi : i < 2 ^ 31) (c : Int32) : mv_pr (stR S q (rFill r a i c)) q (nI i).toNatClampNeg c = stR S q (rFill r a (i + 1) c) := by
  rw [nI_clamp hi, stR_pr, rFill_s r h]
theorem x_zero_23 (h : P none (stR S 23 (rFill (S.2.1 23) 0 158 0))) : mv_big layX sysX (d + 1) 81 [.ref 23] S P := by
  have key := mv_loop (T := tT3) (nL := 2) (z := none) (il := mX3_zero.2.2.2.2.2.2.2) (lay := layX) (sys := sysX) (d := d) (P := P) (pc := 2) 20 (fun k lv st S' => ∃ i, i + k = 158 ∧ lv = [(1, .int (nI i)), (0, .ref 23)] ∧ st = [] ∧ S' = stR S 23 (rFill (S.2.1 23) 0 i 0)) (by
      rintro n lv st S' ⟨i, hk, rfl, rfl, rfl⟩
      obtain rfl : i = 158 := hk
      exact ⟨fun _ => h, fun c => absurd (by decide) c⟩) (by
      rintro k n lv st S' ⟨i, hk, rfl, rfl, rfl⟩ ih
      refine ⟨fun c => ?_, fun c => ⟨vp_in_nI (by omega) (by omega), ?_⟩⟩
      · exact absurd ((nI_leI (by omega) (by omega)).mp c) (by omega)
      · have hi := ih (n + 10) [(1, .int (nI (i + 1))), (0, .ref 23)] [] (stR S 23 (rFill (S.2.1 23) 0 (i + 1) 0)) (by omega) ⟨i + 1, by omega, rfl, rfl, rfl⟩
        rw [← stR_fill S 23 _ (Nat.zero_le i) (by omega) 0] at hi
        exact ws_iinc (y := nI (i + 1)) rfl rfl rfl (nI_succ i).symm rfl rfl (ws_goto (t := 2) rfl (by decide) hi))
  refine ⟨3202, ?_⟩
  refine ws_iconst (x := nI 0) rfl rfl rfl (ws_istore_n rfl rfl rfl rfl ?_)
  exact key 158 3200 [(1, .int (nI 0)), (0, .ref 23)] [] S (by omega) ⟨0, rfl, rfl, rfl, by rw [rFill_0, stR_self]⟩
end LX

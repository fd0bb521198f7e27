/-! THE SMALL MACHINE: more fuel, deeper calls, weaker ends -/
theorem mv_to_mono {pc : Nat} {off : Int} {k k' : Nat → Prop} (hk : ∀ t, k t → k' t) (h : mv_to pc off k) : mv_to pc off k' := by
  unfold mv_to at h ⊢
  split at h
  · next t e => (try simp only [e]); exact hk t h
  · exact h.elim
theorem mv_sw_mono {pc : Nat} {x : Int32} {d : Int} {k k' : Nat → Prop} (hk : ∀ t, k t → k' t) : ∀ {l : List (Int × Int)}, mv_sw pc x d k l → mv_sw pc x d k' l
  | [], h => mv_to_mono hk h
  | (_, _) :: _, h => ⟨fun c => mv_to_mono hk (h.1 c), fun c => mv_sw_mono hk (h.2 c)⟩
section MVM
variable {lay : List mv_D} {sys : List mv_M} {T : mv_T} {nL : Nat} {z : Option FieldType} {Call Call' : mv_Call} {P P' : Option Value → mv_S → Prop} {K K' : Nat → List (Nat × Value) → List Value → mv_S → Prop} {pc : Nat} {lv : List (Nat × Value)} {st : List Value} {S : mv_S} {i : Instr}
set_option maxHeartbeats 4000000 in
theorem mv_do_mono (hP : ∀ r S, P r S → P' r S) (hK : ∀ pc lv st S, K pc lv st S → K' pc lv st S) (hC : ∀ (j : Nat) (a : List Value) (S : mv_S) (X X' : Option Value → mv_S → Prop), (∀ r S, X r S → X' r S) → Call j a S X → Call' j a S X') (h : mv_do lay sys T nL z Call P K pc lv st S i) : mv_do lay sys T nL z Call' P' K' pc lv st S i := by
  cases i
  case iconst n =>
    dsimp only [mv_do] at h ⊢
    exact hK _ _ _ _ h
  case bipush n =>
    dsimp only [mv_do] at h ⊢
    exact hK _ _ _ _ h
  case sipush n =>
    dsimp only [mv_do] at h ⊢
    exact hK _ _ _ _ h
  case lconst n =>
    dsimp only [mv_do] at h ⊢
    exact hK _ _ _ _ h
  case iload_n k =>
    dsimp only [mv_do] at h ⊢
    split at h
    · next hm => (try simp only [hm]); exact hK _ _ _ _ h
    · exact h.elim
  case iload k =>
    dsimp only [mv_do] at h ⊢
    split at h
    · next hm => (try simp only [hm]); exact hK _ _ _ _ h
    · exact h.elim
  case aload_n k =>
    dsimp only [mv_do] at h ⊢
    split at h
    · next hm => (try simp only [hm]); exact hK _ _ _ _ h
    · exact h.elim
  case aload k =>
    dsimp only [mv_do] at h ⊢
    split at h
    · next hm => (try simp only [hm]); exact hK _ _ _ _ h
    · exact h.elim
  case lload_n k =>
    dsimp only [mv_do] at h ⊢
    split at h
    · next hm => (try simp only [hm]); exact hK _ _ _ _ h
    · exact h.elim
  case ldc k =>
    dsimp only [mv_do] at h ⊢
    split at h
    · next hm => (try simp only [hm]); exact hK _ _ _ _ h
    · exact h.elim
  case ldc_w k =>
    dsimp only [mv_do] at h ⊢
    split at h
    · next hm => (try simp only [hm]); exact hK _ _ _ _ h
    · exact h.elim
  case ldc2_w k =>
    dsimp only [mv_do] at h ⊢
    split at h
    · next hm => (try simp only [hm]); exact hK _ _ _ _ h
    · exact h.elim
  case iinc k n =>
    dsimp only [mv_do] at h ⊢
    split at h
    · next hm =>
      obtain ⟨b1, h⟩ := mv_bif h
      (try simp only [hm]); simp only [b1, cond_true]
      exact hK _ _ _ _ h
    · exact h.elim
  case istore_n k =>
    dsimp only [mv_do] at h ⊢
    split at h
    · obtain ⟨b1, h⟩ := mv_bif h
      simp only [b1, cond_true]
      exact hK _ _ _ _ h
    · exact h.elim
  case istore k =>
    dsimp only [mv_do] at h ⊢
    split at h
    · obtain ⟨b1, h⟩ := mv_bif h
      simp only [b1, cond_true]
      exact hK _ _ _ _ h
    · exact h.elim
  case astore_n k =>
    dsimp only [mv_do] at h ⊢
    split at h
    · obtain ⟨b1, h⟩ := mv_bif h
      simp only [b1, cond_true]
      exact hK _ _ _ _ h
    · exact h.elim
  case astore k =>
    dsimp only [mv_do] at h ⊢
    split at h
    · obtain ⟨b1, h⟩ := mv_bif h
      simp only [b1, cond_true]
      exact hK _ _ _ _ h
    · exact h.elim
  case iadd =>
    dsimp only [mv_do] at h ⊢
    split at h
    · exact hK _ _ _ _ h
    · exact h.elim
  case isub =>
    dsimp only [mv_do] at h ⊢
    split at h
    · exact hK _ _ _ _ h
    · exact h.elim
  case imul =>
    dsimp only [mv_do] at h ⊢
    split at h
    · exact hK _ _ _ _ h
    · exact h.elim
  case iand =>
    dsimp only [mv_do] at h ⊢
    split at h
    · exact hK _ _ _ _ h
    · exact h.elim
  case ixor =>
    dsimp only [mv_do] at h ⊢
    split at h
    · exact hK _ _ _ _ h
    · exact h.elim
  case ineg =>
    dsimp only [mv_do] at h ⊢
    split at h
    · exact hK _ _ _ _ h
    · exact h.elim
  case iushr =>
    dsimp only [mv_do] at h ⊢
    split at h
    · exact hK _ _ _ _ h
    · exact h.elim
  case i2l =>
    dsimp only [mv_do] at h ⊢
    split at h
    · exact hK _ _ _ _ h
    · exact h.elim
  case ladd =>
    dsimp only [mv_do] at h ⊢
    split at h
    · exact hK _ _ _ _ h
    · exact h.elim
  case lcmp =>
    dsimp only [mv_do] at h ⊢
    split at h
    · exact hK _ _ _ _ h
    · exact h.elim
  case dup =>
    dsimp only [mv_do] at h ⊢
    split at h
    · exact hK _ _ _ _ h
    · exact hK _ _ _ _ h
    · exact h.elim
  case pop =>
    dsimp only [mv_do] at h ⊢
    split at h
    · exact hK _ _ _ _ h
    · exact hK _ _ _ _ h
    · exact h.elim
  case idiv =>
    dsimp only [mv_do] at h ⊢
    split at h
    · exact ⟨h.1, hK _ _ _ _ h.2⟩
    · exact h.elim
  case irem =>
    dsimp only [mv_do] at h ⊢
    split at h
    · exact ⟨h.1, hK _ _ _ _ h.2⟩
    · exact h.elim
  case goto off =>
    dsimp only [mv_do] at h ⊢
    exact mv_to_mono (fun t h => hK _ _ _ _ h) h
  case ifCond c off =>
    dsimp only [mv_do] at h ⊢
    split at h
    · exact mv_to_mono (fun t h => ⟨fun c => hK _ _ _ _ (h.1 c), fun c => hK _ _ _ _ (h.2 c)⟩) h
    · exact h.elim
  case if_icmp c off =>
    dsimp only [mv_do] at h ⊢
    split at h
    · exact mv_to_mono (fun t h => ⟨fun c => hK _ _ _ _ (h.1 c), fun c => hK _ _ _ _ (h.2 c)⟩) h
    · exact h.elim
  case tableswitch d lo hi offs =>
    dsimp only [mv_do] at h ⊢
    split at h
    · obtain ⟨b1, h⟩ := mv_bif h
      rw [b1]
      exact mv_sw_mono (fun t h => hK _ _ _ _ h) h
    · exact h.elim
  case lookupswitch d ps =>
    dsimp only [mv_do] at h ⊢
    split at h
    · obtain ⟨b1, h⟩ := mv_bif h
      rw [b1]
      exact mv_sw_mono (fun t h => hK _ _ _ _ h) h
    · exact h.elim
  case getfield k =>
    dsimp only [mv_do] at h ⊢
    split at h
    · split at h
      · next hf => (try simp only [hf]); exact hK _ _ _ _ h
      · next hf => (try simp only [hf]); exact hK _ _ _ _ h
      · next hf => (try simp only [hf]); exact hK _ _ _ _ h
      · exact h.elim
    · exact h.elim
  case putfield k =>
    dsimp only [mv_do] at h ⊢
    split at h
    · split at h
      · next hf => (try simp only [hf]); exact hK _ _ _ _ h
      · next hf => (try simp only [hf]); exact ⟨h.1, hK _ _ _ _ h.2⟩
      · exact h.elim
    · exact h.elim
  case iaload =>
    dsimp only [mv_do] at h ⊢
    split at h
    · split at h
      · next hq => (try simp only [hq]); exact ⟨h.1, hK _ _ _ _ h.2⟩
      · exact h.elim
    · exact h.elim
  case baload =>
    dsimp only [mv_do] at h ⊢
    split at h
    · split at h
      · next hq => (try simp only [hq]); exact ⟨h.1, hK _ _ _ _ h.2⟩
      · exact h.elim
    · exact h.elim
  case laload =>
    dsimp only [mv_do] at h ⊢
    split at h
    · split at h
      · next hq => (try simp only [hq]); exact ⟨h.1, hK _ _ _ _ h.2⟩
      · exact h.elim
    · exact h.elim
  case iastore =>
    dsimp only [mv_do] at h ⊢
    split at h
    · split at h
      · next hq => (try simp only [hq]); exact ⟨h.1, hK _ _ _ _ h.2⟩
      · exact h.elim
    · exact h.elim
  case lastore =>
    dsimp only [mv_do] at h ⊢
    split at h
    · split at h
      · next hq => (try simp only [hq]); exact ⟨h.1, hK _ _ _ _ h.2⟩
      · exact h.elim
    · exact h.elim
  case bastore =>
    dsimp only [mv_do] at h ⊢
    split at h
    · split at h
      · next hq => (try simp only [hq]); exact ⟨h.1, h.2.1, hK _ _ _ _ h.2.2⟩
      · exact h.elim
    · exact h.elim
  case arraylength =>
    dsimp only [mv_do] at h ⊢
    split at h
    · split at h
      · next hq => (try simp only [hq]); exact hK _ _ _ _ h
      · next hq => (try simp only [hq]); exact hK _ _ _ _ h
      · next hq => (try simp only [hq]); exact hK _ _ _ _ h
      · exact h.elim
    · exact h.elim
  case invokevirtual k =>
    dsimp only [mv_do] at h ⊢
    split at h
    · next hi => (try simp only [hi]); exact hC _ _ _ _ _ (fun r S h => hK _ _ _ _ h) h
    · exact h.elim
  case invokestatic k =>
    dsimp only [mv_do] at h ⊢
    split at h
    · next hi => (try simp only [hi]); exact hC _ _ _ _ _ (fun r S h => hK _ _ _ _ h) h
    · exact h.elim
  case ireturn =>
    dsimp only [mv_do] at h ⊢
    split at h
    · split at h
      · exact hP _ _ h
      · exact ⟨h.1, hP _ _ h.2⟩
      · exact h.elim
    · exact h.elim
  case lreturn =>
    dsimp only [mv_do] at h ⊢
    split at h
    · split at h
      · exact hP _ _ h
      · exact h.elim
    · exact h.elim
  case return_ =>
    dsimp only [mv_do] at h ⊢
    split at h
    · split at h
      · exact hP _ _ h
      · exact h.elim
    · exact h.elim
  all_goals exact False.elim h
theorem mv_wp_mono {il : List (Nat × Instr)} (hP : ∀ r S, P r S → P' r S) (hC : ∀ (j : Nat) (a : List Value) (S : mv_S) (X X' : Option Value → mv_S → Prop), (∀ r S, X r S → X' r S) → Call j a S X → Call' j a S X') : ∀ (n m : Nat), n ≤ m → ∀ (pc : Nat) (lv : List (Nat × Value)) (st : List Value) (S : mv_S), mv_wp lay sys T nL z il Call P n pc lv st S → mv_wp lay sys T nL z il Call' P' m pc lv st S
  | 0, _, _, _, _, _, _, h => h.elim
  | n + 1, 0, hn, _, _, _, _, _ => absurd hn (by omega)
  | n + 1, m + 1, hn, pc, lv, st, S, h => by
    unfold mv_wp at h ⊢
    split at h
    · exact h.elim
    · next i hi =>
      (try simp only [hi])
      exact mv_do_mono hP (mv_wp_mono hP hC n m (by omega)) hC h
end MVM
theorem mv_big_mono {lay : List mv_D} {sys : List mv_M} : ∀ (d e : Nat), d ≤ e → ∀ (j : Nat) (a : List Value) (S : mv_S) (X X' : Option Value → mv_S → Prop), (∀ r S, X r S → X' r S) → mv_big lay sys d j a S X → mv_big lay sys e j a S X'
  | 0, _, _, _, _, _, _, _, _, h => h.elim
  | d + 1, 0, hd, _, _, _, _, _, _, _ => absurd hd (by omega)
  | d + 1, e + 1, hd, j, a, S, X, X', hX, h => by
    unfold mv_big at h ⊢
    split at h
    · exact h.elim
    · next M hM =>
      obtain ⟨b1, n, h⟩ := mv_bif h
      (try simp only [hM]); simp only [b1, cond_true]
      exact ⟨n, mv_wp_mono hX (mv_big_mono d e (by omega)) n n (Nat.le_refl n) _ _ _ _ h⟩
/-- more fuel -/
theorem mv_fuel {lay : List mv_D} {sys : List mv_M} {T : mv_T} {nL : Nat} {z : Option FieldType} {il : List (Nat × Instr)} {d : Nat} {P : Option Value → mv_S → Prop} {n m pc : Nat} {lv : List (Nat × Value)} {st : List Value} {S : mv_S} (h : n ≤ m) (w : mv_wp lay sys T nL z il (mv_big lay sys d) P n pc lv st S) : mv_wp lay sys T nL z il (mv_big lay sys d) P m pc lv st S := mv_wp_mono (fun _ _ h => h) (mv_big_mono d d (Nat.le_refl d)) n m h pc lv st S w
/-- deeper calls -/
theorem mv_deep {lay : List mv_D} {sys : List mv_M} {d e j : Nat} {a : List Value} {S : mv_S} {P : Option Value → mv_S → Prop} (h : d ≤ e) (w : mv_big lay sys d j a S P) : mv_big lay sys e j a S P := mv_big_mono d e h j a S P P (fun _ _ h => h) w
/-- a loop: with k turns left, each within c instructions -/
theorem mv_loop {lay : List mv_D} {sys : List mv_M} {T : mv_T} {nL : Nat} {z : Option FieldType} {il : List (Nat × Instr)} {d : Nat} {P : Option Value → mv_S → Prop} {pc : Nat} (c : Nat) (I : Nat → List (Nat × Value) → List Value → mv_S → Prop)
    (h0 : ∀ n lv st S, I 0 lv st S → mv_wp lay sys T nL z il (mv_big lay sys d) P (n + c) pc lv st S)
    (hs : ∀ k n lv st S, I (k + 1) lv st S → (∀ n' lv' st' S', n ≤ n' → I k lv' st' S' → mv_wp lay sys T nL z il (mv_big lay sys d) P n' pc lv' st' S') → mv_wp lay sys T nL z il (mv_big lay sys d) P (n + c) pc lv st S) :
    ∀ k n lv st S, c * (k + 1) ≤ n → I k lv st S → mv_wp lay sys T nL z il (mv_big lay sys d) P n pc lv st S := by
  intro k
  induction k with
  | zero =>
    intro n lv st S hn hI
    exact mv_fuel (n := 0 + c) (by omega) (h0 0 lv st S hI)
  | succ k ih =>
    intro n lv st S hn hI
    have e1 : c * (k + 1 + 1) = c * (k + 1) + c := by rw [Nat.mul_succ]
    refine mv_fuel (n := c * (k + 1) + c) (by omega) (hs k (c * (k + 1)) lv st S hI (fun n' lv' st' S' hn' hI' => ih n' lv' st' S' hn' hI'))

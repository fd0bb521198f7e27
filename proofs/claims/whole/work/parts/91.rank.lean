/-! RANKS: two keys of one rank are one key -/
theorem rk_s16 (x : Int32) : ((x ^^^ (x.toUInt32 >>> ((16 : Int32).toUInt32 &&& Int32.toUInt32 31)).toInt32) : Int32).toBitVec = x.toBitVec ^^^ (x.toBitVec >>> 16) := by
  rfl
theorem rk_s15 (x : Int32) : ((x ^^^ (x.toUInt32 >>> ((15 : Int32).toUInt32 &&& Int32.toUInt32 31)).toInt32) : Int32).toBitVec = x.toBitVec ^^^ (x.toBitVec >>> 15) := by
  rfl
theorem rk_i16 {a b : BitVec 32} (h : a ^^^ (a >>> 16) = b ^^^ (b >>> 16)) : a = b := by
  have inv : ∀ x : BitVec 32, (x ^^^ (x >>> 16)) ^^^ ((x ^^^ (x >>> 16)) >>> 16) = x := by
    intro x
    rw [BitVec.ushiftRight_xor_distrib]
    have : x >>> 16 >>> 16 = 0#32 := by
      ext i hi
      simp
    rw [this]
    simp [BitVec.xor_assoc]
  rw [← inv a, ← inv b, h]
theorem rk_i15 {a b : BitVec 32} (h : a ^^^ (a >>> 15) = b ^^^ (b >>> 15)) : a = b := by
  have inv : ∀ x : BitVec 32, (x ^^^ (x >>> 15)) ^^^ ((x ^^^ (x >>> 15)) >>> 15) ^^^ ((x ^^^ (x >>> 15)) >>> 30) = x := by
    intro x
    ext i hi
    simp
    rw [show 15 + (15 + i) = 30 + i by omega, BitVec.getLsbD_of_ge x (15 + (30 + i)) (by omega)]
    simp
  rw [← inv a, ← inv b, h]
theorem rk_x16 {x y : Int32} (h : (x ^^^ (x.toUInt32 >>> ((16 : Int32).toUInt32 &&& Int32.toUInt32 31)).toInt32) = (y ^^^ (y.toUInt32 >>> ((16 : Int32).toUInt32 &&& Int32.toUInt32 31)).toInt32)) : x = y := by
  have := congrArg Int32.toBitVec h
  rw [rk_s16, rk_s16] at this
  exact Int32.toBitVec_inj.mp (rk_i16 this)
theorem rk_x15 {x y : Int32} (h : (x ^^^ (x.toUInt32 >>> ((15 : Int32).toUInt32 &&& Int32.toUInt32 31)).toInt32) = (y ^^^ (y.toUInt32 >>> ((15 : Int32).toUInt32 &&& Int32.toUInt32 31)).toInt32)) : x = y := by
  have := congrArg Int32.toBitVec h
  rw [rk_s15, rk_s15] at this
  exact Int32.toBitVec_inj.mp (rk_i15 this)
theorem rk_m {x y c c' : Int32} (hc : c * c' = 1) (h : x * c = y * c) : x = y := by
  have := congrArg (fun z => z * c') h
  simp only [Int32.mul_assoc, hc, Int32.mul_one] at this
  exact this
theorem rk_x {x y c : Int32} (h : x ^^^ c = y ^^^ c) : x = y := by
  have := congrArg (fun z => z ^^^ c) h
  simp only [Int32.xor_assoc, Int32.xor_self, Int32.xor_zero] at this
  exact this
theorem xRank_inj (s : Int32) : ∀ a b, xRank s a = xRank s b → a = b := by
  intro a b h
  unfold xRank at h
  simp only at h
  have h := rk_x16 (rk_x h)
  have h := rk_x15 (rk_m (c' := (1124208931)) (by decide) h)
  have h := rk_x16 (rk_m (c' := (493478565)) (by decide) h)
  exact rk_x h

/-! OFTEN -/
theorem rnd_yn {a : Nat} (h0 : 0 < a) (ha : a ≤ 4) (x : Int32) : yIs a (((x.toUInt32 >>> ((8 : Int32).toUInt32 &&& Int32.toUInt32 31)).toInt32) - ((x.toUInt32 >>> ((8 : Int32).toUInt32 &&& Int32.toUInt32 31)).toInt32) / (yn a) * (yn a)) := by
  have e8 : ((8 : Int32).toUInt32 &&& Int32.toUInt32 31) = 8 := by decide
  rw [e8]
  obtain ⟨u, hu⟩ : ∃ u, u = x.toUInt32 >>> 8 := ⟨_, rfl⟩
  rw [← hu]
  have hn : u.toNat < 16777216 := by
    rw [hu, UInt32.toNat_shiftRight]
    have := x.toUInt32.toNat_lt
    rw [show (8 : UInt32).toNat % 32 = 8 from rfl, Nat.shiftRight_eq_div_pow]
    omega
  obtain ⟨m, hm⟩ : ∃ m, m = u.toNat := ⟨_, rfl⟩
  have eu : u.toInt32 = yn m := by
    apply Int32.toInt_inj.mp
    rw [yn_toInt (by omega), hm]
    show u.toInt32.toInt = _
    rw [Int32.toInt, UInt32.toBitVec_toInt32, BitVec.toInt_eq_toNat_cond, UInt32.toNat_toBitVec, if_pos (by omega)]
  rw [eu, yn_div (by omega) (by omega), yn_mul, yn_sub (Nat.div_mul_le_self _ _)]
  refine ⟨m % a, Nat.mod_lt _ h0, ?_⟩
  congr 1
  have := Nat.div_add_mod m a
  rw [Nat.mul_comm] at this
  omega

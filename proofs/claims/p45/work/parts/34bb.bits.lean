-- bits of sets
def bt (z : Int64) (c : Nat) : Bool := z.toBitVec.getLsbD c
theorem hb_amt : ∀ n : Fin 64, ((Int32.ofInt ((n.val : Nat) : Int)).toInt64 &&& 63).toBitVec.smod 64 = BitVec.ofNat 64 n.val := by decide +kernel
theorem hb_and (x : BitVec 64) : x &&& 1#64 = 1#64 ↔ x.getLsbD 0 = true := by
  rw [BitVec.and_one_eq_setWidth_ofBool_getLsbD]
  cases x.getLsbD 0 <;> simp
theorem bt_shr {z : Int64} {c : Int} (h0 : 0 ≤ c) (h1 : c < 64) : (jshr z (Int32.ofInt c)) &&& 1 = 1 ↔ bt z c.toNat = true := by
  obtain ⟨n, rfl⟩ : ∃ n : Nat, c = (n : Int) := ⟨c.toNat, by omega⟩
  have hn : n < 64 := by omega
  have ha := hb_amt ⟨n, hn⟩
  unfold bt
  rw [← Int64.toBitVec_inj, Int64.toBitVec_and]
  show (z >>> ((Int32.ofInt (n : Int)).toInt64 &&& 63)).toBitVec &&& 1#64 = 1#64 ↔ _
  rw [hb_and, Int64.toBitVec_shiftRight, ha]
  show ((z.toBitVec).sshiftRight' (BitVec.ofNat 64 n)).getLsbD 0 = true ↔ _
  rw [BitVec.sshiftRight_eq', BitVec.getLsbD_sshiftRight]
  have e : (BitVec.ofNat 64 n).toNat = n := by simp; omega
  rw [e]
  simp
  omega
theorem hu_amt : ∀ n : Fin 64, ((Int32.ofInt ((n.val : Nat) : Int)).toInt64.toUInt64 &&& Int64.toUInt64 63).toBitVec % 64 = BitVec.ofNat 64 n.val := by decide +kernel
theorem bt_ushr {z : Int64} {c : Int} (h0 : 0 ≤ c) (h1 : c < 64) : (jushr z (Int32.ofInt c)) &&& 1 = 1 ↔ bt z c.toNat = true := by
  obtain ⟨n, rfl⟩ : ∃ n : Nat, c = (n : Int) := ⟨c.toNat, by omega⟩
  have hn : n < 64 := by omega
  have ha := hu_amt ⟨n, hn⟩
  unfold bt
  rw [← Int64.toBitVec_inj, Int64.toBitVec_and]
  show (z.toUInt64 >>> ((Int32.ofInt (n : Int)).toInt64.toUInt64 &&& Int64.toUInt64 63)).toBitVec &&& 1#64 = 1#64 ↔ _
  rw [hb_and, UInt64.toBitVec_shiftRight, ha]
  show ((z.toBitVec) >>> (BitVec.ofNat 64 n)).getLsbD 0 = true ↔ _
  have e : (BitVec.ofNat 64 n).toNat = n := by simp; omega
  rw [BitVec.ushiftRight_eq', BitVec.getLsbD_ushiftRight, e]
  simp
theorem bt_or (a b : Int64) (c : Nat) : bt (a ||| b) c = (bt a c || bt b c) := by
  unfold bt
  rw [Int64.toBitVec_or, BitVec.getLsbD_or]
theorem bt_and (a b : Int64) (c : Nat) : bt (a &&& b) c = (bt a c && bt b c) := by
  unfold bt
  rw [Int64.toBitVec_and, BitVec.getLsbD_and]
theorem bt_zero (c : Nat) : bt 0 c = false := by
  show (0#64).getLsbD c = false
  simp
theorem bt_one {n c : Nat} (hn : n < 64) (hc : c < 64) : bt (jshl 1 (Int32.ofInt (n : Int))) c = decide (c = n) := by
  have ha := hb_amt ⟨n, hn⟩
  unfold bt jshl
  rw [Int64.toBitVec_shiftLeft, ha]
  show ((1#64) <<< (BitVec.ofNat 64 n)).getLsbD c = _
  have e : (BitVec.ofNat 64 n).toNat = n := by simp; omega
  rw [BitVec.shiftLeft_eq', BitVec.getLsbD_shiftLeft, e]
  by_cases h : c = n
  · subst h; simp [hc]
  · rcases Nat.lt_or_ge c n with q | q
    · simp [q, h]
    · have : c - n ≠ 0 := by omega
      simp [h, hc, this]
theorem bt_not {z : Int64} {c : Nat} (hc : c < 64) : bt (z ^^^ (-1)) c = !(bt z c) := by
  unfold bt
  rw [Int64.toBitVec_xor, BitVec.getLsbD_xor]
  show (z.toBitVec.getLsbD c ^^ (-1#64).getLsbD c) = _
  have : (-1#64).getLsbD c = true := by
    rw [show (-1#64) = BitVec.allOnes 64 from by decide, BitVec.getLsbD_allOnes]
    simp [hc]
  rw [this]
  cases z.toBitVec.getLsbD c <;> rfl

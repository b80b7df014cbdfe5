-- Long.bitCount
def NB64 (z : Int64) : Nat := z.toBitVec.toNat
theorem ju_nat {z : Int64} {n : Nat} (hn : n < 64) : NB64 (jushr z (Int32.ofInt (n : Int))) = NB64 z / 2 ^ n := by
  have ha := hu_amt ⟨n, hn⟩
  show ((z.toUInt64 >>> ((Int32.ofInt (n : Int)).toInt64.toUInt64 &&& Int64.toUInt64 63)).toBitVec).toNat = _
  rw [UInt64.toBitVec_shiftRight, ha]
  show ((z.toBitVec) >>> (BitVec.ofNat 64 n)).toNat = _
  have e : (BitVec.ofNat 64 n).toNat = n := by simp; omega
  rw [BitVec.ushiftRight_eq', e, BitVec.toNat_ushiftRight, Nat.shiftRight_eq_div_pow]
  rfl
theorem nb_and (a b : Int64) : NB64 (a &&& b) = NB64 a &&& NB64 b := by
  unfold NB64
  rw [Int64.toBitVec_and, BitVec.toNat_and]
theorem nb_add {a b : Int64} (h : NB64 a + NB64 b < 2 ^ 64) : NB64 (a + b) = NB64 a + NB64 b := by
  unfold NB64 at h ⊢
  rw [Int64.toBitVec_add, BitVec.toNat_add_of_lt h]
theorem nb_sub {a b : Int64} (h : NB64 b ≤ NB64 a) : NB64 (a - b) = NB64 a - NB64 b := by
  unfold NB64 at h ⊢
  rw [Int64.toBitVec_sub, BitVec.toNat_sub_of_le (BitVec.le_def.mpr h)]
theorem nb_lt (a : Int64) : NB64 a < 2 ^ 64 := a.toBitVec.isLt
/-- n bytes m -/
def BM (m : Nat) : Nat → Nat
  | 0 => 0
  | n + 1 => m + 256 * BM m n
theorem and_split {a b X Y : Nat} (ha : a < 256) (hb : b < 256) : (a + 256 * X) &&& (b + 256 * Y) = (a &&& b) + 256 * (X &&& Y) := by
  have h1 := Nat.and_mod_two_pow (a := a + 256 * X) (b := b + 256 * Y) (n := 8)
  have h2 := Nat.and_div_two_pow (a := a + 256 * X) (b := b + 256 * Y) (n := 8)
  have e1 : (a + 256 * X) % 2 ^ 8 = a := by omega
  have e2 : (b + 256 * Y) % 2 ^ 8 = b := by omega
  have e3 : (a + 256 * X) / 2 ^ 8 = X := by omega
  have e4 : (b + 256 * Y) / 2 ^ 8 = Y := by omega
  rw [e1, e2] at h1
  rw [e3, e4] at h2
  omega
def pc8 (b : Nat) : Nat := b % 2 + b / 2 % 2 + b / 4 % 2 + b / 8 % 2 + b / 16 % 2 + b / 32 % 2 + b / 64 % 2 + b / 128 % 2
/-- the sum of the bytes' counts, byte by byte -/
def P8 : Nat → Nat → Nat
  | 0, _ => 0
  | n + 1, x => pc8 (x % 256) + 256 * P8 n (x / 256)
def S1 (x m : Nat) : Nat := x - ((x / 2) &&& m)
def S2 (x m : Nat) : Nat := (x &&& m) + ((x / 4) &&& m)
def S3 (x m : Nat) : Nat := (x + x / 16) &&& m
theorem b1 : ∀ e : Fin 2, ∀ b : Fin 256, ((b.val / 2 + 128 * e.val) &&& 85) = ((b.val / 2) &&& 85) ∧ ((b.val / 2) &&& 85) ≤ b.val := by decide +kernel
theorem b2 : ∀ e : Fin 4, ∀ b : Fin 256, ((b.val / 4 + 64 * e.val) &&& 51) = ((b.val / 4) &&& 51) := by decide +kernel
theorem b3 : ∀ b : Fin 256, S2 (S1 b.val 85) 51 ≤ 68 ∧ S2 (S1 b.val 85) 51 % 16 ≤ 4 ∧ (S2 (S1 b.val 85) 51 + S2 (S1 b.val 85) 51 / 16) &&& 15 = pc8 b.val := by decide +kernel
theorem b4 : ∀ e : Fin 5, ∀ b : Fin 69, ((b.val + b.val / 16 + 16 * e.val) &&& 15) = ((b.val + b.val / 16) &&& 15) ∧ (b.val % 16 ≤ 4 → b.val + b.val / 16 + 16 * e.val < 256) := by decide +kernel
theorem S1_bm : ∀ (n x : Nat), S1 x (BM 85 (n + 1)) = S1 (x % 256) 85 + 256 * S1 (x / 256) (BM 85 n) ∧ ((x / 256) / 2 &&& BM 85 n) ≤ x / 256 := by
  intro n x
  have hx : ∀ y, (y &&& BM 85 n) ≤ y := fun y => Nat.and_le_left
  have e : x / 2 = (x % 256 / 2 + 128 * (x / 256 % 2)) + 256 * (x / 256 / 2) := by omega
  have h1 := b1 ⟨x / 256 % 2, by omega⟩ ⟨x % 256, by omega⟩
  have h2 : ((x % 256 / 2 + 128 * (x / 256 % 2)) + 256 * (x / 256 / 2)) &&& (85 + 256 * BM 85 n) = ((x % 256 / 2 + 128 * (x / 256 % 2)) &&& 85) + 256 * ((x / 256 / 2) &&& BM 85 n) := and_split (by omega) (by omega)
  have h3 := hx (x / 256 / 2)
  refine ⟨?_, by omega⟩
  unfold S1
  show x - (x / 2 &&& (85 + 256 * BM 85 n)) = _
  rw [e, h2]
  have h4 : ((x % 256 / 2 + 128 * (x / 256 % 2)) &&& 85) = ((x % 256 / 2) &&& 85) := h1.1
  have h5 : ((x % 256 / 2) &&& 85) ≤ x % 256 := h1.2
  rw [h4]
  omega
theorem S2_bm (n b Y : Nat) (hb : b < 256) : S2 (b + 256 * Y) (BM 51 (n + 1)) = S2 b 51 + 256 * S2 Y (BM 51 n) := by
  have e : (b + 256 * Y) / 4 = (b / 4 + 64 * (Y % 4)) + 256 * (Y / 4) := by omega
  have h1 := b2 ⟨Y % 4, by omega⟩ ⟨b, hb⟩
  have h2 : ((b / 4 + 64 * (Y % 4)) + 256 * (Y / 4)) &&& (51 + 256 * BM 51 n) = ((b / 4 + 64 * (Y % 4)) &&& 51) + 256 * ((Y / 4) &&& BM 51 n) := and_split (by omega) (by omega)
  have h3 : (b + 256 * Y) &&& (51 + 256 * BM 51 n) = (b &&& 51) + 256 * (Y &&& BM 51 n) := and_split hb (by omega)
  have h4 : ((b / 4 + 64 * (Y % 4)) &&& 51) = ((b / 4) &&& 51) := h1
  unfold S2
  show ((b + 256 * Y) &&& (51 + 256 * BM 51 n)) + ((b + 256 * Y) / 4 &&& (51 + 256 * BM 51 n)) = _
  rw [e, h2, h3, h4]
  omega
theorem S12_lo (n x : Nat) (hx : x < 256 ^ n) : S2 (S1 x (BM 85 n)) (BM 51 n) % 16 ≤ 4 := by
  cases n with
  | zero =>
    have : x = 0 := by simp at hx; exact hx
    subst this
    decide
  | succ n =>
    have h3 := b3 ⟨x % 256, by omega⟩
    have h3b : S2 (S1 (x % 256) 85) 51 % 16 ≤ 4 := h3.2.1
    have s1 : S1 (x % 256) 85 < 256 := by unfold S1; omega
    rw [(S1_bm n x).1, S2_bm n _ _ s1]
    omega
theorem S_all : ∀ (n x : Nat), x < 256 ^ n → S3 (S2 (S1 x (BM 85 n)) (BM 51 n)) (BM 15 n) = P8 n x := by
  intro n
  induction n with
  | zero =>
    intro x _
    show _ &&& 0 = 0
    exact Nat.and_zero _
  | succ n ih =>
    intro x hx
    have hx2 : x / 256 < 256 ^ n := by
      rw [Nat.pow_succ] at hx
      exact Nat.div_lt_of_lt_mul (by rw [Nat.mul_comm]; exact hx)
    have h3 := b3 ⟨x % 256, by omega⟩
    have h3a : S2 (S1 (x % 256) 85) 51 ≤ 68 := h3.1
    have h3b : S2 (S1 (x % 256) 85) 51 % 16 ≤ 4 := h3.2.1
    have h3c : (S2 (S1 (x % 256) 85) 51 + S2 (S1 (x % 256) 85) 51 / 16) &&& 15 = pc8 (x % 256) := h3.2.2
    have s1 : S1 (x % 256) 85 < 256 := by unfold S1; omega
    have lo := S12_lo n (x / 256) hx2
    rw [(S1_bm n x).1, S2_bm n _ _ s1]
    have ih := ih (x / 256) hx2
    generalize S2 (S1 (x % 256) 85) 51 = b at *
    generalize S2 (S1 (x / 256) (BM 85 n)) (BM 51 n) = W at *
    have h4 := b4 ⟨W % 16, by omega⟩ ⟨b, by omega⟩
    have h4a : ((b + b / 16 + 16 * (W % 16)) &&& 15) = ((b + b / 16) &&& 15) := h4.1
    have h4b : b + b / 16 + 16 * (W % 16) < 256 := h4.2 h3b
    unfold S3 at ih ⊢
    show ((b + 256 * W) + (b + 256 * W) / 16) &&& (15 + 256 * BM 15 n) = pc8 (x % 256) + 256 * P8 n (x / 256)
    have e : (b + 256 * W) + (b + 256 * W) / 16 = (b + b / 16 + 16 * (W % 16)) + 256 * (W + W / 16) := by omega
    rw [e, and_split h4b (by omega), h4a, h3c, ih]
theorem sumN_lo (g : Nat → Int) (k : Nat) : ∀ m : Nat, sumN g (k + m) = sumN g k + sumN (fun j => g (k + j)) m := by
  intro m
  induction m with
  | zero => show sumN g k = sumN g k + 0; omega
  | succ m ih =>
    show sumN g (k + m) + g (k + m) = sumN g k + (sumN (fun j => g (k + j)) m + g (k + m))
    rw [ih]; omega
def bitn (x c : Nat) : Int := ((x / 2 ^ c % 2 : Nat) : Int)
def PS : Nat → Nat → Nat
  | 0, _ => 0
  | n + 1, x => pc8 (x % 256) + PS n (x / 256)
theorem PS_sum : ∀ (n x : Nat), sumN (bitn x) (8 * n) = (PS n x : Int) := by
  intro n
  induction n with
  | zero => intro x; rfl
  | succ n ih =>
    intro x
    have e8 : sumN (bitn x) (8 * (n + 1)) = sumN (bitn x) 8 + sumN (fun j => bitn x (8 + j)) (8 * n) := by
      rw [show 8 * (n + 1) = 8 + 8 * n by omega]; exact sumN_lo _ 8 _
    have e9 : sumN (fun j => bitn x (8 + j)) (8 * n) = sumN (bitn (x / 256)) (8 * n) := sumN_cg (fun j _ => by
      show ((x / 2 ^ (8 + j) % 2 : Nat) : Int) = ((x / 256 / 2 ^ j % 2 : Nat) : Int)
      rw [Nat.pow_add, ← Nat.div_div_eq_div_mul])
    have e7 : sumN (bitn x) 8 = (pc8 (x % 256) : Int) := by
      show (((((((0 + bitn x 0 + bitn x 1) + bitn x 2) + bitn x 3) + bitn x 4) + bitn x 5) + bitn x 6) + bitn x 7 : Int) = _
      unfold bitn pc8
      omega
    rw [e8, e9, ih, e7]
    show _ = ((pc8 (x % 256) + PS n (x / 256) : Nat) : Int)
    omega
theorem pc8_le (b : Nat) : pc8 b ≤ 8 := by unfold pc8; omega
/-- how many bits are set -/
def PC (z : Int64) : Int := sumN (fun c => if bt z c = true then 1 else 0) 64
theorem PC_PS (z : Int64) : PC z = (PS 8 (NB64 z) : Int) := by
  rw [← PS_sum 8 (NB64 z)]
  apply sumN_cg
  intro c _
  show (if z.toBitVec.getLsbD c = true then (1 : Int) else 0) = ((z.toBitVec.toNat / 2 ^ c % 2 : Nat) : Int)
  have e : z.toBitVec.getLsbD c = decide (z.toBitVec.toNat / 2 ^ c % 2 = 1) := by
    rw [← Nat.testBit_eq_decide_div_mod_eq]; rfl
  rw [e]
  by_cases h : z.toBitVec.toNat / 2 ^ c % 2 = 1
  · simp [h]
  · have : z.toBitVec.toNat / 2 ^ c % 2 = 0 := by omega
    simp [this]
theorem jand127 (m : Int64) : jand (ji m) 127 = ((NB64 m % 128 : Nat) : Int) := by
  unfold jand ji
  rw [Int32.ofInt_toInt]
  have e : (m.toInt32 &&& Int32.ofInt 127).toBitVec.toNat = NB64 m % 128 := by
    have t2 : (Int32.ofInt 127).toBitVec.toNat = 2 ^ 7 - 1 := by decide +kernel
    rw [Int32.toBitVec_and, BitVec.toNat_and, t2, Int64.toBitVec_toInt32, BitVec.signExtend_eq_setWidth_of_le m.toBitVec (by decide), BitVec.toNat_setWidth, Nat.and_two_pow_sub_one_eq_mod]
    unfold NB64
    omega
  show (m.toInt32 &&& Int32.ofInt 127).toBitVec.toInt = _
  rw [BitVec.toInt_eq_toNat_of_lt (by rw [e]; omega), e]
theorem lin4 (a0 a1 a2 a3 a4 a5 a6 a7 : Nat) : a0 + 256 * (a1 + 256 * (a2 + 256 * (a3 + 256 * (a4 + 256 * (a5 + 256 * (a6 + 256 * (a7 + 256 * 0))))))) + (a1 + 256 * (a2 + 256 * (a3 + 256 * (a4 + 256 * (a5 + 256 * (a6 + 256 * (a7 + 256 * 0))))))) = ((a0 + a1) + 256 * (a1 + a2)) + 65536 * ((a2 + a3) + 256 * (a3 + a4) + 65536 * ((a4 + a5) + 256 * (a5 + a6) + 65536 * ((a6 + a7) + 256 * a7))) := by omega
theorem lin5 (a0 a1 a2 a3 a4 a5 a6 a7 : Nat) : ((a0 + a1) + 256 * (a1 + a2)) + 65536 * ((a2 + a3) + 256 * (a3 + a4) + 65536 * ((a4 + a5) + 256 * (a5 + a6) + 65536 * ((a6 + a7) + 256 * a7))) + ((a2 + a3) + 256 * (a3 + a4) + 65536 * ((a4 + a5) + 256 * (a5 + a6) + 65536 * ((a6 + a7) + 256 * a7))) = ((a0 + a1 + a2 + a3) + 256 * (a1 + a2 + a3 + a4) + 65536 * ((a2 + a3 + a4 + a5) + 256 * (a3 + a4 + a5 + a6))) + 4294967296 * ((a4 + a5 + a6 + a7) + 256 * (a5 + a6 + a7) + 65536 * ((a6 + a7) + 256 * a7)) := by omega
theorem lin6 (a0 a1 a2 a3 a4 a5 a6 a7 : Nat) : ((a0 + a1 + a2 + a3) + 256 * (a1 + a2 + a3 + a4) + 65536 * ((a2 + a3 + a4 + a5) + 256 * (a3 + a4 + a5 + a6))) + 4294967296 * ((a4 + a5 + a6 + a7) + 256 * (a5 + a6 + a7) + 65536 * ((a6 + a7) + 256 * a7)) + ((a4 + a5 + a6 + a7) + 256 * (a5 + a6 + a7) + 65536 * ((a6 + a7) + 256 * a7)) = (a0 + (a1 + (a2 + (a3 + (a4 + (a5 + (a6 + (a7 + 0)))))))) + 128 * (2 * (a1 + a2 + a3 + a4 + (a5 + a6 + a7)) + 512 * ((a2 + a3 + a4 + a5) + 256 * (a3 + a4 + a5 + a6) + (a6 + a7) + 256 * a7) + 33554432 * ((a4 + a5 + a6 + a7) + 256 * (a5 + a6 + a7) + 65536 * ((a6 + a7) + 256 * a7))) := by omega
theorem bytes8 {a0 a1 a2 a3 a4 a5 a6 a7 m3 m4 m5 m6 : Nat} (p0 : a0 ≤ 8) (p1 : a1 ≤ 8) (p2 : a2 ≤ 8) (p3 : a3 ≤ 8) (p4 : a4 ≤ 8) (p5 : a5 ≤ 8) (p6 : a6 ≤ 8) (p7 : a7 ≤ 8)
    (h3 : m3 = a0 + 256 * (a1 + 256 * (a2 + 256 * (a3 + 256 * (a4 + 256 * (a5 + 256 * (a6 + 256 * (a7 + 256 * 0)))))))) (h4 : m4 = m3 + m3 / 256) (h5 : m5 = m4 + m4 / 65536) (h6 : m6 = m5 + m5 / 4294967296) : m6 % 128 = (a0 + (a1 + (a2 + (a3 + (a4 + (a5 + (a6 + (a7 + 0)))))))) := by
  have b4 : (a0 + a1) + 256 * (a1 + a2) < 65536 := by clear h3 h4 h5 h6; omega
  have b5 : (a0 + a1 + a2 + a3) + 256 * (a1 + a2 + a3 + a4) + 65536 * ((a2 + a3 + a4 + a5) + 256 * (a3 + a4 + a5 + a6)) < 4294967296 := by clear h3 h4 h5 h6; omega
  have b6 : (a0 + (a1 + (a2 + (a3 + (a4 + (a5 + (a6 + (a7 + 0)))))))) < 128 := by clear h3 h4 h5 h6; omega
  have b3 : a0 < 256 := by clear h3 h4 h5 h6; omega
  have d3 : m3 / 256 = a1 + 256 * (a2 + 256 * (a3 + 256 * (a4 + 256 * (a5 + 256 * (a6 + 256 * (a7 + 256 * 0)))))) := by
    rw [h3, Nat.add_mul_div_left _ _ (by decide), Nat.div_eq_of_lt b3, Nat.zero_add]
  have r4 : m4 = ((a0 + a1) + 256 * (a1 + a2)) + 65536 * ((a2 + a3) + 256 * (a3 + a4) + 65536 * ((a4 + a5) + 256 * (a5 + a6) + 65536 * ((a6 + a7) + 256 * a7))) := by
    rw [h4, d3, h3]; exact lin4 a0 a1 a2 a3 a4 a5 a6 a7
  have d4 : m4 / 65536 = ((a2 + a3) + 256 * (a3 + a4) + 65536 * ((a4 + a5) + 256 * (a5 + a6) + 65536 * ((a6 + a7) + 256 * a7))) := by
    rw [r4, Nat.add_mul_div_left _ _ (by decide), Nat.div_eq_of_lt b4, Nat.zero_add]
  have r5 : m5 = ((a0 + a1 + a2 + a3) + 256 * (a1 + a2 + a3 + a4) + 65536 * ((a2 + a3 + a4 + a5) + 256 * (a3 + a4 + a5 + a6))) + 4294967296 * ((a4 + a5 + a6 + a7) + 256 * (a5 + a6 + a7) + 65536 * ((a6 + a7) + 256 * a7)) := by
    rw [h5, d4, r4]; exact lin5 a0 a1 a2 a3 a4 a5 a6 a7
  have d5 : m5 / 4294967296 = ((a4 + a5 + a6 + a7) + 256 * (a5 + a6 + a7) + 65536 * ((a6 + a7) + 256 * a7)) := by
    rw [r5, Nat.add_mul_div_left _ _ (by decide), Nat.div_eq_of_lt b5, Nat.zero_add]
  have r6 : m6 = (a0 + (a1 + (a2 + (a3 + (a4 + (a5 + (a6 + (a7 + 0)))))))) + 128 * (2 * (a1 + a2 + a3 + a4 + (a5 + a6 + a7)) + 512 * ((a2 + a3 + a4 + a5) + 256 * (a3 + a4 + a5 + a6) + (a6 + a7) + 256 * a7) + 33554432 * ((a4 + a5 + a6 + a7) + 256 * (a5 + a6 + a7) + 65536 * ((a6 + a7) + 256 * a7))) := by
    rw [h6, d5, r5]; exact lin6 a0 a1 a2 a3 a4 a5 a6 a7
  rw [r6, Nat.add_mul_mod_self_left, Nat.mod_eq_of_lt b6]
theorem bytes8_lt {a0 a1 a2 a3 a4 a5 a6 a7 m3 : Nat} (p0 : a0 ≤ 8) (p1 : a1 ≤ 8) (p2 : a2 ≤ 8) (p3 : a3 ≤ 8) (p4 : a4 ≤ 8) (p5 : a5 ≤ 8) (p6 : a6 ≤ 8) (p7 : a7 ≤ 8) (h3 : m3 = a0 + 256 * (a1 + 256 * (a2 + 256 * (a3 + 256 * (a4 + 256 * (a5 + 256 * (a6 + 256 * (a7 + 256 * 0)))))))) : m3 < 1152921504606846976 := by omega
theorem P8_eq (x : Nat) : P8 8 x = pc8 (x % 256) + 256 * (pc8 (x / 256 % 256) + 256 * (pc8 (x / 256 / 256 % 256) + 256 * (pc8 (x / 256 / 256 / 256 % 256) + 256 * (pc8 (x / 256 / 256 / 256 / 256 % 256) + 256 * (pc8 (x / 256 / 256 / 256 / 256 / 256 % 256) + 256 * (pc8 (x / 256 / 256 / 256 / 256 / 256 / 256 % 256) + 256 * (pc8 (x / 256 / 256 / 256 / 256 / 256 / 256 / 256 % 256) + 256 * 0))))))) := rfl
theorem PS_eq (x : Nat) : PS 8 x = pc8 (x % 256) + (pc8 (x / 256 % 256) + (pc8 (x / 256 / 256 % 256) + (pc8 (x / 256 / 256 / 256 % 256) + (pc8 (x / 256 / 256 / 256 / 256 % 256) + (pc8 (x / 256 / 256 / 256 / 256 / 256 % 256) + (pc8 (x / 256 / 256 / 256 / 256 / 256 / 256 % 256) + (pc8 (x / 256 / 256 / 256 / 256 / 256 / 256 / 256 % 256) + 0))))))) := rfl
theorem P8_lt (x : Nat) : P8 8 x < 1152921504606846976 := bytes8_lt (pc8_le _) (pc8_le _) (pc8_le _) (pc8_le _) (pc8_le _) (pc8_le _) (pc8_le _) (pc8_le _) (P8_eq x)
theorem P8_sum {x m3 m4 m5 m6 : Nat} (h3 : m3 = P8 8 x) (h4 : m4 = m3 + m3 / 256) (h5 : m5 = m4 + m4 / 65536) (h6 : m6 = m5 + m5 / 4294967296) : m6 % 128 = PS 8 x := by
  rw [PS_eq x]
  exact bytes8 (pc8_le _) (pc8_le _) (pc8_le _) (pc8_le _) (pc8_le _) (pc8_le _) (pc8_le _) (pc8_le _) (h3.trans (P8_eq x)) h4 h5 h6
theorem pq4 {m3 m4 m5 : Nat} (q3 : m3 < 1152921504606846976) (h4 : m4 = m3 + m3 / 256) (h5 : m5 = m4 + m4 / 65536) : m3 + m3 / 256 < 18446744073709551616 ∧ m4 + m4 / 65536 < 18446744073709551616 ∧ m5 + m5 / 4294967296 < 18446744073709551616 := by
  have a : m3 / 256 ≤ m3 := Nat.div_le_self _ _
  have b : m4 / 65536 ≤ m4 := Nat.div_le_self _ _
  have c : m5 / 4294967296 ≤ m5 := Nat.div_le_self _ _
  generalize m3 / 256 = x at *
  generalize m4 / 65536 = y at *
  generalize m5 / 4294967296 = w at *
  omega
theorem S2_le (x : Nat) : S2 x (BM 51 8) ≤ 2 * BM 51 8 := by
  have a := Nat.and_le_right (n := x) (m := BM 51 8)
  have b := Nat.and_le_right (n := x / 4) (m := BM 51 8)
  unfold S2
  generalize x &&& BM 51 8 = u at *
  generalize x / 4 &&& BM 51 8 = v at *
  omega
theorem S2_lt (x : Nat) : S2 x (BM 51 8) + S2 x (BM 51 8) / 16 < 18446744073709551616 := by
  have a := S2_le x
  have e : BM 51 8 = 3689348814741910323 := by decide +kernel
  rw [e] at a
  have b : S2 x (BM 51 8) / 16 * 16 ≤ S2 x (BM 51 8) := Nat.div_mul_le_self _ _
  rw [e] at b ⊢
  generalize S2 x 3689348814741910323 = u at *
  generalize u / 16 = v at *
  omega
theorem popc {z m1 m2 m3 m4 m5 m6 : Int64} (e1 : m1 = z - ((jushr z (Int32.ofInt 1)) &&& 6148914691236517205)) (e2 : m2 = (m1 &&& 3689348814741910323) + ((jushr m1 (Int32.ofInt 2)) &&& 3689348814741910323)) (e3 : m3 = (m2 + (jushr m2 (Int32.ofInt 4))) &&& 1085102592571150095) (e4 : m4 = m3 + (jushr m3 (Int32.ofInt 8))) (e5 : m5 = m4 + (jushr m4 (Int32.ofInt 16))) (e6 : m6 = m5 + (jushr m5 (Int32.ofInt 32))) : jand (ji m6) 127 = PC z := by
  have c1 : NB64 (6148914691236517205 : Int64) = BM 85 8 := by decide +kernel
  have c2 : NB64 (3689348814741910323 : Int64) = BM 51 8 := by decide +kernel
  have c3 : NB64 (1085102592571150095 : Int64) = BM 15 8 := by decide +kernel
  have s1 : NB64 (jushr z (Int32.ofInt 1)) = NB64 z / 2 := ju_nat (n := 1) (by decide)
  have s2 : NB64 (jushr m1 (Int32.ofInt 2)) = NB64 m1 / 4 := ju_nat (n := 2) (by decide)
  have s3 : NB64 (jushr m2 (Int32.ofInt 4)) = NB64 m2 / 16 := ju_nat (n := 4) (by decide)
  have s4 : NB64 (jushr m3 (Int32.ofInt 8)) = NB64 m3 / 256 := ju_nat (n := 8) (by decide)
  have s5 : NB64 (jushr m4 (Int32.ofInt 16)) = NB64 m4 / 65536 := ju_nat (n := 16) (by decide)
  have s6 : NB64 (jushr m5 (Int32.ofInt 32)) = NB64 m5 / 4294967296 := ju_nat (n := 32) (by decide)
  have hz : NB64 z < 256 ^ 8 := nb_lt z
  have n1 : NB64 m1 = S1 (NB64 z) (BM 85 8) := by
    have l : NB64 ((jushr z (Int32.ofInt 1)) &&& 6148914691236517205) ≤ NB64 z := by
      rw [nb_and, s1]
      exact Nat.le_trans Nat.and_le_left (Nat.div_le_self _ _)
    rw [e1, nb_sub l, nb_and, s1, c1]
    rfl
  have n2 : NB64 m2 = S2 (NB64 m1) (BM 51 8) := by
    have l : NB64 (m1 &&& 3689348814741910323) + NB64 ((jushr m1 (Int32.ofInt 2)) &&& 3689348814741910323) = S2 (NB64 m1) (BM 51 8) := by
      rw [nb_and, nb_and, s2, c2]; rfl
    have l3 : S2 (NB64 m1) (BM 51 8) < 2 ^ 64 := Nat.lt_of_le_of_lt (Nat.le_add_right _ _) (S2_lt (NB64 m1))
    rw [e2, nb_add (by rw [l]; exact l3), l]
  have n3 : NB64 m3 = P8 8 (NB64 z) := by
    have l3 : NB64 m2 + NB64 (jushr m2 (Int32.ofInt 4)) < 2 ^ 64 := by rw [s3, n2]; exact S2_lt (NB64 m1)
    have e : NB64 m3 = S3 (NB64 m2) (BM 15 8) := by
      rw [e3, nb_and, nb_add l3, s3, c3]; rfl
    rw [e, n2, n1]
    exact S_all 8 (NB64 z) hz
  have q3 : NB64 m3 < 1152921504606846976 := by rw [n3]; exact P8_lt _
  have n4 : NB64 m4 = NB64 m3 + NB64 m3 / 256 := by
    rw [e4, nb_add (by rw [s4]; exact (pq4 q3 rfl rfl).1), s4]
  have n5 : NB64 m5 = NB64 m4 + NB64 m4 / 65536 := by
    rw [e5, nb_add (by rw [s5]; exact (pq4 q3 n4 rfl).2.1), s5]
  have n6 : NB64 m6 = NB64 m5 + NB64 m5 / 4294967296 := by
    rw [e6, nb_add (by rw [s6]; exact (pq4 q3 n4 n5).2.2), s6]
  rw [jand127, PC_PS, P8_sum n3 n4 n5 n6]

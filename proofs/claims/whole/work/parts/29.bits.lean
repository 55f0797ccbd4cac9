def b2i (b : Bool) : Int32 := if b then 1 else 0
theorem b2i_0 (b : Bool) : b2i b = 0 ↔ b = false := by cases b <;> decide
theorem b2i_n0 (b : Bool) : ¬ b2i b = 0 ↔ b = true := by cases b <;> decide
theorem b2i_1 (b : Bool) : b2i b = 1 ↔ b = true := by cases b <;> decide
theorem b2i_bz (b : Bool) : bz (b2i b) := by cases b <;> simp [bz, b2i]
theorem wb_tb (n : Nat) : (lN n).toBitVec = BitVec.ofNat 64 n := rfl
theorem wb_inj {a b : Int64} (h : a.toBitVec = b.toBitVec) : a = b := Int64.toBitVec_inj.mp h
theorem wb_tn {n : Nat} (h : n < 2 ^ 64) : (lN n).toBitVec.toNat = n := by rw [wb_tb, BitVec.toNat_ofNat, Nat.mod_eq_of_lt h]
theorem wb_of (x : Int64) : ∃ n, n < 2 ^ 64 ∧ x = lN n := ⟨x.toBitVec.toNat, x.toBitVec.isLt, wb_inj (by rw [wb_tb]; simp)⟩
theorem wb_of32 (x : Int32) : ∃ n, n < 2 ^ 32 ∧ x = nI n := ⟨x.toBitVec.toNat, x.toBitVec.isLt, Int32.toBitVec_inj.mp (by show _ = BitVec.ofNat 32 _; simp)⟩
theorem wb_c : ∀ k, k < 64 → ((nI k).toInt64 &&& 63) = lN k := by decide +kernel
theorem wb_cu : ∀ k, k < 64 → ((nI k).toInt64.toUInt64 &&& Int64.toUInt64 63) = UInt64.ofNat k := by decide +kernel
theorem wb_sm : ∀ k, k < 64 → (BitVec.ofNat 64 k).smod 64 = BitVec.ofNat 64 k := by decide +kernel
theorem wb_pw {a b : Nat} (h : a ≤ b) : 2 ^ b = 2 ^ a * 2 ^ (b - a) := by rw [← Nat.pow_add]; congr 1; omega
theorem wb_lt2 {a b : Nat} (h : a < b) : 2 ^ a < 2 ^ b := Nat.pow_lt_pow_right (by decide) h
theorem wb_mod (n : Nat) : lN n = lN (n % 2 ^ 64) := wb_inj (by rw [wb_tb, wb_tb]; apply BitVec.eq_of_toNat_eq; rw [BitVec.toNat_ofNat, BitVec.toNat_ofNat, Nat.mod_mod])
theorem wb_shr {n k : Nat} (hn : n < 2 ^ 64) (hk : k < 64) : ((lN n).toUInt64 >>> ((nI k).toInt64.toUInt64 &&& Int64.toUInt64 63)).toInt64 = lN (n / 2 ^ k) := by
  rw [wb_cu k hk]
  apply wb_inj
  apply BitVec.eq_of_toNat_eq
  show ((lN n).toUInt64 >>> UInt64.ofNat k).toNat = (BitVec.ofNat 64 _).toNat
  have h1 : (UInt64.ofNat k).toNat = k := by
    show (BitVec.ofNat 64 k).toNat = k
    rw [BitVec.toNat_ofNat, Nat.mod_eq_of_lt (by omega)]
  have h2 : (lN n).toUInt64.toNat = n := wb_tn hn
  rw [UInt64.toNat_shiftRight, h1, h2, Nat.mod_eq_of_lt hk, Nat.shiftRight_eq_div_pow, BitVec.toNat_ofNat, Nat.mod_eq_of_lt (Nat.lt_of_le_of_lt (Nat.div_le_self _ _) hn)]
theorem wb_shl (n : Nat) {k : Nat} (hk : k < 64) : lN n <<< ((nI k).toInt64 &&& 63) = lN (n * 2 ^ k) := by
  rw [wb_c k hk]
  apply wb_inj
  rw [Int64.toBitVec_shiftLeft, wb_tb, wb_tb, wb_tb, wb_sm k hk]
  apply BitVec.eq_of_toNat_eq
  rw [BitVec.shiftLeft_eq', BitVec.toNat_shiftLeft, BitVec.toNat_ofNat, BitVec.toNat_ofNat, BitVec.toNat_ofNat, Nat.mod_eq_of_lt (show k < 2 ^ 64 by omega), Nat.shiftLeft_eq, Nat.mul_mod, Nat.mod_mod, ← Nat.mul_mod]
theorem wb_and {a b : Nat} (ha : a < 2 ^ 64) (hb : b < 2 ^ 64) : lN a &&& lN b = lN (a &&& b) := by
  apply wb_inj
  rw [Int64.toBitVec_and, wb_tb, wb_tb, wb_tb]
  apply BitVec.eq_of_toNat_eq
  rw [BitVec.toNat_and, BitVec.toNat_ofNat, BitVec.toNat_ofNat, BitVec.toNat_ofNat, Nat.mod_eq_of_lt ha, Nat.mod_eq_of_lt hb, Nat.mod_eq_of_lt (Nat.and_lt_two_pow _ hb)]
theorem wb_or {a b : Nat} (ha : a < 2 ^ 64) (hb : b < 2 ^ 64) : lN a ||| lN b = lN (a ||| b) := by
  apply wb_inj
  rw [Int64.toBitVec_or, wb_tb, wb_tb, wb_tb]
  apply BitVec.eq_of_toNat_eq
  rw [BitVec.toNat_or, BitVec.toNat_ofNat, BitVec.toNat_ofNat, BitVec.toNat_ofNat, Nat.mod_eq_of_lt ha, Nat.mod_eq_of_lt hb, Nat.mod_eq_of_lt (Nat.or_lt_two_pow ha hb)]
theorem wb_mask {n k : Nat} (hn : n < 2 ^ 64) (hk : k < 64) : lN n &&& lN (2 ^ k - 1) = lN (n % 2 ^ k) := by
  rw [wb_and hn (by have := wb_lt2 hk; omega), Nat.and_two_pow_sub_one_eq_mod]
theorem wb_a1 {n : Nat} (hn : n < 2 ^ 64) : lN n &&& 1 = lN (n % 2) := wb_mask (k := 1) hn (by decide)
theorem wb_bit {n k : Nat} (hn : n < 2 ^ 64) (hk : k < 64) : ((lN n).toUInt64 >>> ((nI k).toInt64.toUInt64 &&& Int64.toUInt64 63)).toInt64 &&& 1 = lN (n / 2 ^ k % 2) := by
  rw [wb_shr hn hk, wb_a1 (Nat.lt_of_le_of_lt (Nat.div_le_self _ _) hn)]
/-! a long as a number, its bits -/
def nn (x : Int64) : Nat := x.toBitVec.toNat
theorem nn_lt (x : Int64) : nn x < 2 ^ 64 := x.toBitVec.isLt
theorem lN_nn (x : Int64) : lN (nn x) = x := wb_inj (by rw [wb_tb]; simp [nn])
theorem nn_lN {n : Nat} (h : n < 2 ^ 64) : nn (lN n) = n := wb_tn h
theorem nn_inj {x y : Int64} (h : nn x = nn y) : x = y := by rw [← lN_nn x, ← lN_nn y, h]
def bT (x : Int64) (k : Nat) : Bool := (nn x).testBit k
theorem bT_ext {x y : Int64} (h : ∀ k, k < 64 → bT x k = bT y k) : x = y := by
  apply nn_inj
  apply Nat.eq_of_testBit_eq
  intro i
  by_cases hi : i < 64
  · exact h i hi
  · have hp : 2 ^ 64 ≤ 2 ^ i := Nat.pow_le_pow_right (by decide) (by omega)
    rw [Nat.testBit_lt_two_pow (Nat.lt_of_lt_of_le (nn_lt x) hp), Nat.testBit_lt_two_pow (Nat.lt_of_lt_of_le (nn_lt y) hp)]
theorem bT_big (x : Int64) {k : Nat} (h : 64 ≤ k) : bT x k = false := Nat.testBit_lt_two_pow (Nat.lt_of_lt_of_le (nn_lt x) (Nat.pow_le_pow_right (by decide) h))
theorem bT_or (x y : Int64) (k : Nat) : bT (x ||| y) k = (bT x k || bT y k) := by
  show (x ||| y).toBitVec.toNat.testBit k = _
  rw [Int64.toBitVec_or, BitVec.toNat_or, Nat.testBit_or]; rfl
theorem bT_and (x y : Int64) (k : Nat) : bT (x &&& y) k = (bT x k && bT y k) := by
  show (x &&& y).toBitVec.toNat.testBit k = _
  rw [Int64.toBitVec_and, BitVec.toNat_and, Nat.testBit_and]; rfl
theorem bT_xor (x y : Int64) (k : Nat) : bT (x ^^^ y) k = (bT x k ^^ bT y k) := by
  show (x ^^^ y).toBitVec.toNat.testBit k = _
  rw [Int64.toBitVec_xor, BitVec.toNat_xor, Nat.testBit_xor]; rfl
theorem bT_0 (k : Nat) : bT 0 k = false := by show (0 : Nat).testBit k = false; simp
theorem bT_m1 {k : Nat} (h : k < 64) : bT (-1) k = true := by
  show (2 ^ 64 - 1 : Nat).testBit k = true
  rw [Nat.testBit_two_pow_sub_one]; simp [h]
theorem bT_not (x : Int64) {k : Nat} (h : k < 64) : bT (x ^^^ (-1)) k = !bT x k := by rw [bT_xor, bT_m1 h]; simp
theorem shl1 {k : Nat} (h : k < 64) : lShl 1 (nI k) = lN (2 ^ k) := by
  have := wb_shl 1 h
  rw [Nat.one_mul] at this
  exact this
theorem bT_shl1 {k : Nat} (h : k < 64) (i : Nat) : bT (lShl 1 (nI k)) i = decide (i = k) := by
  rw [shl1 h]
  unfold bT
  rw [nn_lN (wb_lt2 h), Nat.testBit_two_pow]
  simp [eq_comm]
theorem ush1 (x : Int64) {k : Nat} (h : k < 64) : lUsh x (nI k) &&& 1 = if bT x k then 1 else 0 := by
  have h1 := wb_bit (n := nn x) (nn_lt x) h
  rw [lN_nn] at h1
  show lUsh x (nI k) &&& 1 = _
  refine h1.trans ?_
  unfold bT
  rw [Nat.testBit_eq_decide_div_mod_eq]
  rcases Nat.mod_two_eq_zero_or_one (nn x / 2 ^ k) with e | e
  · rw [e]; rfl
  · rw [e]; rfl
theorem shr1 (x : Int64) {k : Nat} (h : k < 64) : lShr x (nI k) &&& 1 = if bT x k then 1 else 0 := by
  rw [← ush1 x h]
  show x >>> ((nI k).toInt64 &&& 63) &&& 1 = (x.toUInt64 >>> ((nI k).toInt64.toUInt64 &&& Int64.toUInt64 63)).toInt64 &&& 1
  rw [wb_c k h, wb_cu k h]
  apply wb_inj
  rw [Int64.toBitVec_and, Int64.toBitVec_and, Int64.toBitVec_shiftRight, wb_tb, wb_sm k h]
  apply BitVec.eq_of_getLsbD_eq
  intro i hi
  rw [BitVec.getLsbD_and, BitVec.getLsbD_and]
  by_cases hi0 : i = 0
  · subst hi0
    congr 1
    have h1 : (UInt64.ofNat k).toNat = k := Nat.mod_eq_of_lt (by omega)
    show (x.toBitVec.sshiftRight (BitVec.ofNat 64 k).toNat).getLsbD 0 = (x.toUInt64 >>> UInt64.ofNat k).toBitVec.getLsbD 0
    rw [BitVec.toNat_ofNat, Nat.mod_eq_of_lt (show k < 2 ^ 64 by omega), BitVec.getLsbD_sshiftRight]
    rw [UInt64.toBitVec_shiftRight]
    simp [h, BitVec.getLsbD_ushiftRight]
    rw [Nat.mod_eq_of_lt h, BitVec.getLsbD_eq_getElem h]
  · have : (1 : Int64).toBitVec.getLsbD i = false := by
      show (1#64).getLsbD i = false
      simp [hi0]
    rw [this]; simp
theorem i32_01 (b : Bool) : (if b then (1 : Int64) else 0).toInt32 = b2i b := by cases b <;> rfl
theorem i64_01 (b : Bool) : ((if b then (1 : Int64) else 0) = 1) ↔ b = true := by cases b <;> decide
theorem i64_00 (b : Bool) : ((if b then (1 : Int64) else 0) = 0) ↔ b = false := by cases b <;> decide
theorem and0 (x y : Int64) : x &&& y = 0 ↔ ∀ k, k < 64 → ¬ (bT x k = true ∧ bT y k = true) := by
  constructor
  · intro h k hk ⟨h1, h2⟩
    have := bT_and x y k
    rw [h, bT_0, h1, h2] at this
    cases this
  · intro h
    apply bT_ext
    intro k hk
    rw [bT_and, bT_0]
    have h1 := h k hk
    cases hx : bT x k
    · rfl
    · cases hy : bT y k
      · rfl
      · exact absurd ⟨hx, hy⟩ h1

/-! pasted from the kit's page of bits (starting text) -/
def uN (x : Int64) : Nat := x.toUInt64.toNat
theorem uN_lt (x : Int64) : uN x < 18446744073709551616 := x.toUInt64.toNat_lt
theorem uN_inj {x y : Int64} (h : uN x = uN y) : x = y := congrArg UInt64.toInt64 (UInt64.toNat_inj.mp h)
theorem uN_add (x y : Int64) : uN (x + y) = (uN x + uN y) % 18446744073709551616 := by
  show (x.toUInt64 + y.toUInt64).toNat = _
  exact UInt64.toNat_add _ _
theorem uN_mul (x y : Int64) : uN (x * y) = (uN x * uN y) % 18446744073709551616 := by
  show (x.toUInt64 * y.toUInt64).toNat = _
  exact UInt64.toNat_mul _ _
theorem uN_shl (x : Int64) : uN (x <<< ((1 : Int32).toInt64 &&& 63)) = (2 * uN x) % 18446744073709551616 := by
  have h : (((1 : Int32).toInt64 &&& 63).toBitVec.smod 64).toNat = 1 := by decide
  show (x.toBitVec <<< (((1 : Int32).toInt64 &&& 63).toBitVec.smod 64).toNat).toNat = _
  rw [h, BitVec.toNat_shiftLeft, Nat.shiftLeft_eq, Nat.mul_comm]
  rfl
theorem uN_shr (x : Int64) (s : UInt64) : uN (x.toUInt64 >>> s).toInt64 = uN x / 2 ^ (s.toNat % 64) := by
  show (x.toUInt64 >>> s).toNat = _
  rw [UInt64.toNat_shiftRight, Nat.shiftRight_eq_div_pow]
  rfl
theorem uN_s32 (x : Int64) : uN (x.toUInt64 >>> ((32 : Int32).toInt64.toUInt64 &&& Int64.toUInt64 63)).toInt64 = uN x / 4294967296 := by
  have h : ((32 : Int32).toInt64.toUInt64 &&& Int64.toUInt64 63).toNat % 64 = 32 := by decide
  rw [uN_shr, h]
theorem uN_s63 (x : Int64) : uN (x.toUInt64 >>> ((63 : Int32).toInt64.toUInt64 &&& Int64.toUInt64 63)).toInt64 = uN x / 9223372036854775808 := by
  have h : ((63 : Int32).toInt64.toUInt64 &&& Int64.toUInt64 63).toNat % 64 = 63 := by decide
  rw [uN_shr, h]
theorem uN_lo (x : Int64) : uN (x &&& 4294967295) = uN x % 4294967296 := by
  show (x.toUInt64 &&& Int64.toUInt64 4294967295).toNat = _
  rw [UInt64.toNat_and]
  exact Nat.and_two_pow_sub_one_eq_mod _ 32
theorem uN_bit (x : Int64) : (x &&& 1) = 0 ↔ uN x % 2 = 0 := by
  have h : uN (x &&& 1) = uN x % 2 := by
    show (x.toUInt64 &&& Int64.toUInt64 1).toNat = _
    rw [UInt64.toNat_and]
    exact Nat.and_two_pow_sub_one_eq_mod _ 1
  rw [← h]
  exact ⟨fun z => by rw [z]; rfl, fun z => uN_inj (z.trans rfl)⟩
theorem uN_or {x y : Int64} (hy : uN y < 2) : uN ((x <<< ((1 : Int32).toInt64 &&& 63)) ||| y) = (2 * uN x) % 18446744073709551616 + uN y := by
  have h1 : uN ((x <<< ((1 : Int32).toInt64 &&& 63)) ||| y) = uN (x <<< ((1 : Int32).toInt64 &&& 63)) ||| uN y := UInt64.toNat_or _ _
  have h2 : (2 * uN x) % 18446744073709551616 = 2 ^ 1 * (uN x % 9223372036854775808) := by omega
  rw [h1, uN_shl, h2]
  exact (Nat.two_pow_add_eq_or_of_lt (i := 1) hy _).symm
theorem nat_xor {a : Nat} (h : a < 18446744073709551616) : a ^^^ 2 ^ 63 = (a + 9223372036854775808) % 18446744073709551616 := by
  have h1 : (a ^^^ 2 ^ 63) % 2 ^ 63 = a % 2 ^ 63 := by rw [Nat.xor_mod_two_pow, Nat.mod_self, Nat.xor_zero]
  have h2 : (a ^^^ 2 ^ 63) / 2 ^ 63 = (a / 2 ^ 63) ^^^ 1 := by rw [Nat.xor_div_two_pow, Nat.div_self (Nat.two_pow_pos 63)]
  have h3 : a / 2 ^ 63 = 0 ∨ a / 2 ^ 63 = 1 := by omega
  generalize a ^^^ 2 ^ 63 = t at h1 h2
  rcases h3 with h3 | h3
  · rw [h3] at h2
    have h2 : t / 2 ^ 63 = 1 := h2
    omega
  · rw [h3] at h2
    have h2 : t / 2 ^ 63 = 0 := h2
    omega
theorem uN_xor (x : Int64) : uN (x ^^^ (-9223372036854775808)) = (uN x + 9223372036854775808) % 18446744073709551616 := by
  rw [← nat_xor (uN_lt x)]
  exact UInt64.toNat_xor _ _
theorem uN_int (x : Int64) : x.toInt = if 2 * uN x < 18446744073709551616 then (uN x : Int) else (uN x : Int) - 18446744073709551616 := BitVec.toInt_eq_toNat_cond _
theorem uN_le (x y : Int64) : (x ^^^ (-9223372036854775808)) ≤ (y ^^^ (-9223372036854775808)) ↔ uN x ≤ uN y := by
  have hx := uN_lt x
  have hy := uN_lt y
  rw [Int64.le_iff_toInt_le, uN_int, uN_int, uN_xor, uN_xor]
  omega
theorem uN_sk (x : Int64) {k : Nat} (hk : k < 64) : uN (x.toUInt64 >>> ((nI k).toInt64.toUInt64 &&& Int64.toUInt64 63)).toInt64 = uN x / 2 ^ k := by
  have h : ((nI k).toInt64.toUInt64 &&& Int64.toUInt64 63).toNat % 64 = k := by
    rw [nI_l (by omega), UInt64.toNat_and]
    have e : (lN k).toUInt64.toNat = k % 2 ^ 64 := rfl
    have e2 : (Int64.toUInt64 63).toNat = 2 ^ 6 - 1 := by decide
    rw [e, e2, Nat.and_two_pow_sub_one_eq_mod]
    omega
  rw [uN_shr, h]
/-! Numbers as naturals: iN of an int, uN of a long (uN's rows are in the part of pasted rows) -/
def iN (x : Int32) : Nat := x.toUInt32.toNat
theorem iN_lt (x : Int32) : iN x < 4294967296 := x.toUInt32.toNat_lt
theorem iN_inj {x y : Int32} (h : iN x = iN y) : x = y := congrArg UInt32.toInt32 (UInt32.toNat_inj.mp h)
theorem iN_int (x : Int32) : x.toInt = if 2 * iN x < 4294967296 then (iN x : Int) else (iN x : Int) - 4294967296 := BitVec.toInt_eq_toNat_cond _
theorem iN_nI (n : Nat) : iN (nI n) = n % 4294967296 := by
  show (BitVec.ofNat 32 n).toNat = _
  rw [BitVec.toNat_ofNat]
theorem nI_iN (x : Int32) : nI (iN x) = x := iN_inj (by rw [iN_nI, Nat.mod_eq_of_lt (iN_lt x)])
theorem uN_lN (n : Nat) : uN (lN n) = n % 18446744073709551616 := by
  show (BitVec.ofNat 64 n).toNat = _
  rw [BitVec.toNat_ofNat]
theorem lN_uN (x : Int64) : lN (uN x) = x := uN_inj (by rw [uN_lN, Nat.mod_eq_of_lt (uN_lt x)])
theorem iN_add (x y : Int32) : iN (x + y) = (iN x + iN y) % 4294967296 := by
  show (x.toUInt32 + y.toUInt32).toNat = _
  exact UInt32.toNat_add _ _
theorem iN_mul (x y : Int32) : iN (x * y) = (iN x * iN y) % 4294967296 := by
  show (x.toUInt32 * y.toUInt32).toNat = _
  exact UInt32.toNat_mul _ _
theorem iN_sub (x y : Int32) : iN (x - y) = (4294967296 - iN y + iN x) % 4294967296 := by
  show (x.toUInt32 - y.toUInt32).toNat = _
  exact UInt32.toNat_sub _ _
theorem uN_sub (x y : Int64) : uN (x - y) = (18446744073709551616 - uN y + uN x) % 18446744073709551616 := by
  show (x.toUInt64 - y.toUInt64).toNat = _
  exact UInt64.toNat_sub _ _
theorem iN_neg (x : Int32) : iN (-x) = (4294967296 - iN x) % 4294967296 := by
  rw [show -x = 0 - x from (Int32.zero_sub x).symm, iN_sub]
  rfl
theorem iN_and (x y : Int32) : iN (x &&& y) = iN x &&& iN y := by
  show (x.toUInt32 &&& y.toUInt32).toNat = _
  exact UInt32.toNat_and _ _
theorem iN_or (x y : Int32) : iN (x ||| y) = iN x ||| iN y := by
  show (x.toUInt32 ||| y.toUInt32).toNat = _
  exact UInt32.toNat_or _ _
theorem iN_xor (x y : Int32) : iN (x ^^^ y) = iN x ^^^ iN y := by
  show (x.toUInt32 ^^^ y.toUInt32).toNat = _
  exact UInt32.toNat_xor _ _
theorem uN_and (x y : Int64) : uN (x &&& y) = uN x &&& uN y := by
  show (x.toUInt64 &&& y.toUInt64).toNat = _
  exact UInt64.toNat_and _ _
theorem uN_orr (x y : Int64) : uN (x ||| y) = uN x ||| uN y := by
  show (x.toUInt64 ||| y.toUInt64).toNat = _
  exact UInt64.toNat_or _ _
theorem uN_xorr (x y : Int64) : uN (x ^^^ y) = uN x ^^^ uN y := by
  show (x.toUInt64 ^^^ y.toUInt64).toNat = _
  exact UInt64.toNat_xor _ _
/-- an int without its sign, as a long -/
theorem uN_ext (x : Int32) : uN (x.toInt64 &&& 4294967295) = iN x := by
  rw [uN_lo]
  have h1 := uN_int x.toInt64
  have h2 := iN_int x
  have h3 := iN_lt x
  have h4 := uN_lt x.toInt64
  rw [Int32.toInt_toInt64] at h1
  omega
theorem iN_tr (x : Int64) : iN x.toInt32 = uN x % 4294967296 := by
  have h := congrArg iN (lN_i (uN x))
  rw [lN_uN, iN_nI] at h
  exact h
/-- the low bits -/
theorem uN_m16 (x : Int64) : uN (x &&& 65535) = uN x % 65536 := by
  rw [uN_and]
  exact Nat.and_two_pow_sub_one_eq_mod _ 16
theorem uN_m8 (x : Int64) : uN (x &&& 255) = uN x % 256 := by
  rw [uN_and]
  exact Nat.and_two_pow_sub_one_eq_mod _ 8
theorem iN_m5 (x : Int32) : iN (x &&& 31) = iN x % 32 := by
  rw [iN_and]
  exact Nat.and_two_pow_sub_one_eq_mod _ 5
theorem sh_31 : ∀ c, c < 32 → ((nI c).toBitVec.smod 32).toNat = c := by decide +kernel
theorem sh_u31 : ∀ c, c < 32 → (nI c).toUInt32.toNat % 32 = c := by decide +kernel
theorem iN_shl (x y : Int32) : iN (x <<< (y &&& 31)) = iN x * 2 ^ (iN y % 32) % 4294967296 := by
  have hy : y &&& 31 = nI (iN y % 32) := iN_inj (by rw [iN_m5, iN_nI]; omega)
  have hc : iN y % 32 < 32 := Nat.mod_lt _ (by decide)
  rw [hy]
  generalize iN y % 32 = k at hc
  show (x.toBitVec <<< ((nI k).toBitVec.smod 32).toNat).toNat = _
  rw [sh_31 k hc, BitVec.toNat_shiftLeft, Nat.shiftLeft_eq]
  rfl
theorem iN_ushr (x y : Int32) : iN ((x.toUInt32 >>> (y.toUInt32 &&& Int32.toUInt32 31)).toInt32) = iN x / 2 ^ (iN y % 32) := by
  have hy : y &&& 31 = nI (iN y % 32) := iN_inj (by rw [iN_m5, iN_nI]; omega)
  have hc : iN y % 32 < 32 := Nat.mod_lt _ (by decide)
  have e : (y.toUInt32 &&& Int32.toUInt32 31) = (y &&& 31).toUInt32 := rfl
  rw [e, hy]
  generalize iN y % 32 = k at hc
  show (x.toUInt32 >>> (nI k).toUInt32).toNat = _
  rw [UInt32.toNat_shiftRight, Nat.shiftRight_eq_div_pow, sh_u31 k hc]
  rfl
theorem lt_n {x y : Int32} (hx : iN x < 2147483648) (hy : iN y < 2147483648) : x < y ↔ iN x < iN y := by
  rw [Int32.lt_iff_toInt_lt, iN_int, iN_int]
  omega
theorem le_n {x y : Int32} (hx : iN x < 2147483648) (hy : iN y < 2147483648) : x ≤ y ↔ iN x ≤ iN y := by
  rw [Int32.le_iff_toInt_le, iN_int, iN_int]
  omega
theorem ltL_n {x y : Int64} (hx : uN x < 9223372036854775808) (hy : uN y < 9223372036854775808) : x < y ↔ uN x < uN y := by
  rw [Int64.lt_iff_toInt_lt, uN_int, uN_int]
  omega
theorem leL_n {x y : Int64} (hx : uN x < 9223372036854775808) (hy : uN y < 9223372036854775808) : x ≤ y ↔ uN x ≤ uN y := by
  rw [Int64.le_iff_toInt_le, uN_int, uN_int]
  omega
theorem uN_eq {x y : Int64} : x = y ↔ uN x = uN y := ⟨fun h => by rw [h], uN_inj⟩
theorem iN_eq {x y : Int32} : x = y ↔ iN x = iN y := ⟨fun h => by rw [h], iN_inj⟩
theorem uN_div {x y : Int64} (hx : uN x < 9223372036854775808) (hy : uN y < 9223372036854775808) (h0 : 0 < uN y) : uN (x / y) = uN x / uN y := by
  have ex : x.toInt = (uN x : Int) := by rw [uN_int]; omega
  have ey : y.toInt = (uN y : Int) := by rw [uN_int]; omega
  have hne : y ≠ -1 := by
    intro h
    rw [h] at hy
    exact absurd hy (by decide)
  have h1 := Int64.toInt_div_of_ne_right x y hne
  rw [ex, ey, ← Int.ofNat_tdiv] at h1
  have h2 := uN_int (x / y)
  have h3 := uN_lt (x / y)
  have h4 : uN x / uN y ≤ uN x := Nat.div_le_self _ _
  rw [h1] at h2
  generalize uN x / uN y = q at h2 h4
  omega
/-- the rest of a division by 32 and by 4 -/
theorem uN_r32 {x : Int64} (hx : uN x < 4294967296) : uN (x - x / 32 * 32) = uN x % 32 := by
  have hd := uN_div (x := x) (y := 32) (by omega) (by decide) (by decide)
  have e : uN 32 = 32 := rfl
  rw [e] at hd
  rw [uN_sub, uN_mul, hd, e]
  have := Nat.div_mul_le_self (uN x) 32
  omega
theorem uN_r4 {x : Int64} (hx : uN x < 4294967296) : uN (x - x / 4 * 4) = uN x % 4 := by
  have hd := uN_div (x := x) (y := 4) (by omega) (by decide) (by decide)
  have e : uN 4 = 4 := rfl
  rw [e] at hd
  rw [uN_sub, uN_mul, hd, e]
  have := Nat.div_mul_le_self (uN x) 4
  omega
theorem iN_d4 {x : Int32} (hx : iN x < 2147483648) : iN (x / 4) = iN x / 4 := by
  have ex : x.toInt = (iN x : Int) := by rw [iN_int]; omega
  have h1 := Int32.toInt_div_of_ne_right x 4 (by decide)
  rw [ex, show (4 : Int32).toInt = ((4 : Nat) : Int) from rfl, ← Int.ofNat_tdiv] at h1
  have h2 := iN_int (x / 4)
  have h3 := iN_lt (x / 4)
  rw [h1] at h2
  omega
theorem uN_i2l {x : Int32} (hx : iN x < 2147483648) : uN x.toInt64 = iN x := by
  have h1 := uN_int x.toInt64
  have h2 := iN_int x
  have h4 := uN_lt x.toInt64
  rw [Int32.toInt_toInt64] at h1
  omega
theorem sh_63 : ∀ c, c < 64 → (((nI c).toInt64 &&& 63).toBitVec.smod 64).toNat = c := by decide +kernel
theorem uN_lshl (x : Int64) {c : Int32} (hc : iN c < 64) : uN (x <<< (c.toInt64 &&& 63)) = uN x * 2 ^ iN c % 18446744073709551616 := by
  have e := nI_iN c
  generalize iN c = k at hc e
  subst e
  show (x.toBitVec <<< (((nI k).toInt64 &&& 63).toBitVec.smod 64).toNat).toNat = _
  rw [sh_63 k hc, BitVec.toNat_shiftLeft, Nat.shiftLeft_eq]
  rfl
theorem uN_lshr {x : Int64} (hx : uN x < 9223372036854775808) {c : Int32} (hc : iN c < 64) : uN (x >>> (c.toInt64 &&& 63)) = uN x / 2 ^ iN c := by
  have e := nI_iN c
  generalize iN c = k at hc e
  subst e
  show (x.toBitVec.sshiftRight (((nI k).toInt64 &&& 63).toBitVec.smod 64).toNat).toNat = _
  rw [sh_63 k hc, BitVec.sshiftRight_eq_of_msb_false, BitVec.toNat_ushiftRight, Nat.shiftRight_eq_div_pow]
  · rfl
  · rw [BitVec.msb_eq_false_iff_two_mul_lt]
    show 2 * uN x < 2 ^ 64
    omega
/-- the low bits of a long that is moved right with its sign -/
theorem uN_sar (x : Int64) {c : Int32} {j : Nat} (hc : iN c + j ≤ 64) (h64 : iN c < 64) : uN (x >>> (c.toInt64 &&& 63)) % 2 ^ j = uN x / 2 ^ iN c % 2 ^ j := by
  have e := nI_iN c
  generalize iN c = k at hc h64 e
  subst e
  apply Nat.eq_of_testBit_eq
  intro i
  rw [Nat.testBit_mod_two_pow, Nat.testBit_mod_two_pow, Nat.testBit_div_two_pow]
  by_cases hi : i < j
  · have h1 : (uN (x >>> ((nI k).toInt64 &&& 63))).testBit i = (x.toBitVec.sshiftRight (((nI k).toInt64 &&& 63).toBitVec.smod 64).toNat).getLsbD i := rfl
    rw [h1, sh_63 k h64, BitVec.getLsbD_sshiftRight]
    have h2 : k + i < 64 := by omega
    simp only [hi, decide_true, Bool.true_and, h2, if_true]
    have h3 : ¬ 64 ≤ i := by omega
    simp only [h3, decide_false, Bool.not_false, Bool.true_and]
    rw [Nat.add_comm]
    rfl
  · simp [hi]
/-! The comparison of longs -/
theorem cmp_cases (x y : Int64) : (y.toInt < x.toInt ∧ lg_cmp x y = 1) ∨ (x.toInt = y.toInt ∧ lg_cmp x y = 0) ∨ (x.toInt < y.toInt ∧ lg_cmp x y = -1) := by
  unfold lg_cmp
  by_cases h : x > y
  · exact Or.inl ⟨Int64.lt_iff_toInt_lt.mp h, by rw [if_pos h]⟩
  · by_cases h2 : x = y
    · exact Or.inr (Or.inl ⟨by rw [h2], by rw [if_neg h, if_pos h2]⟩)
    · refine Or.inr (Or.inr ⟨?_, by rw [if_neg h, if_neg h2]⟩)
      have h3 : ¬ y < x := h
      rw [Int64.lt_iff_toInt_lt] at h3
      have h4 : ¬ x.toInt = y.toInt := fun q => h2 (Int64.toInt_inj.mp q)
      omega
theorem cmp_le (x y : Int64) : lg_cmp x y ≤ (0 : Int32) ↔ x ≤ y := by
  rw [Int64.le_iff_toInt_le]
  rcases cmp_cases x y with ⟨h, e⟩ | ⟨h, e⟩ | ⟨h, e⟩ <;> rw [e]
  · exact ⟨fun q => absurd q (by decide), fun q => by omega⟩
  · exact ⟨fun _ => by omega, fun _ => by decide⟩
  · exact ⟨fun _ => by omega, fun _ => by decide⟩
theorem cmp_ge (x y : Int64) : (0 : Int32) ≤ lg_cmp x y ↔ y ≤ x := by
  rw [Int64.le_iff_toInt_le]
  rcases cmp_cases x y with ⟨h, e⟩ | ⟨h, e⟩ | ⟨h, e⟩ <;> rw [e]
  · exact ⟨fun _ => by omega, fun _ => by decide⟩
  · exact ⟨fun _ => by omega, fun _ => by decide⟩
  · exact ⟨fun q => absurd q (by decide), fun q => by omega⟩
theorem cmp_lt (x y : Int64) : lg_cmp x y < (0 : Int32) ↔ x < y := by
  rw [Int64.lt_iff_toInt_lt]
  rcases cmp_cases x y with ⟨h, e⟩ | ⟨h, e⟩ | ⟨h, e⟩ <;> rw [e]
  · exact ⟨fun q => absurd q (by decide), fun q => by omega⟩
  · exact ⟨fun q => absurd q (by decide), fun q => by omega⟩
  · exact ⟨fun _ => by omega, fun _ => by decide⟩
theorem cmp_gt (x y : Int64) : (0 : Int32) < lg_cmp x y ↔ y < x := by
  rw [Int64.lt_iff_toInt_lt]
  rcases cmp_cases x y with ⟨h, e⟩ | ⟨h, e⟩ | ⟨h, e⟩ <;> rw [e]
  · exact ⟨fun _ => by omega, fun _ => by decide⟩
  · exact ⟨fun q => absurd q (by decide), fun q => by omega⟩
  · exact ⟨fun q => absurd q (by decide), fun q => by omega⟩
theorem cmp_eq (x y : Int64) : lg_cmp x y = (0 : Int32) ↔ x = y := by
  rw [← Int64.toInt_inj]
  rcases cmp_cases x y with ⟨h, e⟩ | ⟨h, e⟩ | ⟨h, e⟩ <;> rw [e]
  · exact ⟨fun q => absurd q (by decide), fun q => by omega⟩
  · exact ⟨fun _ => by omega, fun _ => rfl⟩
  · exact ⟨fun q => absurd q (by decide), fun q => by omega⟩
theorem uN_pack {lo hi : Int64} (hlo : uN lo < 4294967296) (hhi : uN hi < 4294967296) : uN (lo ||| hi <<< ((32 : Int32).toInt64 &&& 63)) = uN hi * 4294967296 + uN lo := by
  rw [uN_orr, uN_lshl hi (c := 32) (by decide), show iN (32 : Int32) = 32 from rfl]
  have h1 : uN hi * 2 ^ 32 % 18446744073709551616 = 2 ^ 32 * uN hi := by omega
  rw [h1, Nat.or_comm, ← Nat.two_pow_add_eq_or_of_lt (i := 32) hlo]
  omega
/-! A code with the bit of X, and without it -/
theorem and9 (c : Int32) : c = c &&& -9 ∨ c = (c &&& -9) ||| 8 := by
  have h1 : iN (c &&& -9) = iN c &&& 4294967287 := by rw [iN_and]; rfl
  have h2 : iN ((c &&& -9) ||| 8) = (iN c &&& 4294967287) ||| 8 := by rw [iN_or, h1]; rfl
  have key : ∀ n, n < 4294967296 → n = n &&& 4294967287 ∨ n = (n &&& 4294967287) ||| 8 := by
    intro n hn
    by_cases hb : n.testBit 3 = true
    · right
      apply Nat.eq_of_testBit_eq
      intro i
      rw [Nat.testBit_or, Nat.testBit_and]
      by_cases hi : i < 32
      · have e : ∀ i, i < 32 → Nat.testBit 4294967287 i = !decide (i = 3) ∧ Nat.testBit 8 i = decide (i = 3) := by decide
        rw [(e i hi).1, (e i hi).2]
        by_cases h3 : i = 3
        · subst h3; rw [hb]; rfl
        · simp [h3]
      · have hz : n.testBit i = false := Nat.testBit_lt_two_pow (Nat.lt_of_lt_of_le hn (by rw [show (4294967296 : Nat) = 2 ^ 32 from rfl]; exact Nat.pow_le_pow_right (by decide) (by omega)))
        have hz8 : Nat.testBit 8 i = false := Nat.testBit_lt_two_pow (Nat.lt_of_lt_of_le (show 8 < 2 ^ 32 by decide) (Nat.pow_le_pow_right (by decide) (by omega)))
        rw [hz, hz8]; rfl
    · left
      apply Nat.eq_of_testBit_eq
      intro i
      rw [Nat.testBit_and]
      by_cases hi : i < 32
      · have e : ∀ i, i < 32 → Nat.testBit 4294967287 i = !decide (i = 3) := by decide
        rw [e i hi]
        by_cases h3 : i = 3
        · subst h3
          have hb' : n.testBit 3 = false := by cases h : n.testBit 3 <;> simp_all
          rw [hb']; rfl
        · simp [h3]
      · have hz : n.testBit i = false := Nat.testBit_lt_two_pow (Nat.lt_of_lt_of_le hn (by rw [show (4294967296 : Nat) = 2 ^ 32 from rfl]; exact Nat.pow_le_pow_right (by decide) (by omega)))
        rw [hz]; rfl
  rcases key (iN c) (iN_lt c) with h | h
  · left; exact iN_inj (by rw [h1]; exact h)
  · right; exact iN_inj (by rw [h2]; exact h)

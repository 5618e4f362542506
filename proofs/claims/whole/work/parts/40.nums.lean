/-! Numbers: ints and longs as numbers without sign; digits to a base. -/
def uI (x : Int32) : Nat := x.toUInt32.toNat
def uL (x : Int64) : Nat := x.toUInt64.toNat
theorem uI_lt (x : Int32) : uI x < 4294967296 := x.toUInt32.toNat_lt
theorem uL_lt (x : Int64) : uL x < 18446744073709551616 := x.toUInt64.toNat_lt
theorem uI_inj {x y : Int32} (h : uI x = uI y) : x = y := congrArg UInt32.toInt32 (UInt32.toNat_inj.mp h)
theorem uL_inj {x y : Int64} (h : uL x = uL y) : x = y := congrArg UInt64.toInt64 (UInt64.toNat_inj.mp h)
theorem uI_0 : uI 0 = 0 := rfl
theorem uI_1 : uI 1 = 1 := rfl
theorem uL_0 : uL 0 = 0 := rfl
theorem uL_1 : uL 1 = 1 := rfl
theorem uI_eq0 (x : Int32) : x = 0 ↔ uI x = 0 := ⟨fun h => by rw [h]; rfl, fun h => uI_inj (h.trans rfl)⟩
theorem uL_eq0 (x : Int64) : x = 0 ↔ uL x = 0 := ⟨fun h => by rw [h]; rfl, fun h => uL_inj (h.trans rfl)⟩
theorem uI_eq (x y : Int32) : x = y ↔ uI x = uI y := ⟨fun h => by rw [h], uI_inj⟩
theorem uL_eq (x y : Int64) : x = y ↔ uL x = uL y := ⟨fun h => by rw [h], uL_inj⟩
theorem uI_nI (n : Nat) : uI (nI n) = n % 4294967296 := by
  show (Int32.ofNat n).toUInt32.toNat = _
  rw [Int32.toUInt32_ofNat']
  exact UInt32.toNat_ofNat'
theorem uL_lN (n : Nat) : uL (lN n) = n % 18446744073709551616 := by
  show (Int64.ofNat n).toUInt64.toNat = _
  rw [Int64.toUInt64_ofNat']
  exact UInt64.toNat_ofNat'
theorem uI_int (x : Int32) : x.toInt = if 2 * uI x < 4294967296 then (uI x : Int) else (uI x : Int) - 4294967296 := BitVec.toInt_eq_toNat_cond _
theorem uL_int (x : Int64) : x.toInt = if 2 * uL x < 18446744073709551616 then (uL x : Int) else (uL x : Int) - 18446744073709551616 := BitVec.toInt_eq_toNat_cond _
theorem uL_add (x y : Int64) : uL (x + y) = (uL x + uL y) % 18446744073709551616 := UInt64.toNat_add _ _
theorem uL_mul (x y : Int64) : uL (x * y) = (uL x * uL y) % 18446744073709551616 := UInt64.toNat_mul _ _
theorem uL_sub (x y : Int64) : uL (x - y) = (18446744073709551616 - uL y + uL x) % 18446744073709551616 := UInt64.toNat_sub _ _
theorem uI_add (x y : Int32) : uI (x + y) = (uI x + uI y) % 4294967296 := UInt32.toNat_add _ _
theorem uI_mul (x y : Int32) : uI (x * y) = (uI x * uI y) % 4294967296 := UInt32.toNat_mul _ _
theorem uI_sub (x y : Int32) : uI (x - y) = (4294967296 - uI y + uI x) % 4294967296 := UInt32.toNat_sub _ _
theorem uL_shr (x : Int64) (s : UInt64) : uL (x.toUInt64 >>> s).toInt64 = uL x / 2 ^ (s.toNat % 64) := by
  show (x.toUInt64 >>> s).toNat = _
  rw [UInt64.toNat_shiftRight, Nat.shiftRight_eq_div_pow]
  rfl
theorem uL_s32 (x : Int64) : uL (x.toUInt64 >>> ((32 : Int32).toInt64.toUInt64 &&& Int64.toUInt64 63)).toInt64 = uL x / 4294967296 := by
  have h : ((32 : Int32).toInt64.toUInt64 &&& Int64.toUInt64 63).toNat % 64 = 32 := by decide
  rw [uL_shr, h]
theorem uL_lo (x : Int64) : uL (x &&& 4294967295) = uL x % 4294967296 := by
  show (x.toUInt64 &&& Int64.toUInt64 4294967295).toNat = _
  rw [UInt64.toNat_and]
  exact Nat.and_two_pow_sub_one_eq_mod _ 32
theorem uL_ext0 (x : Int32) : uL x.toInt64 = if 2 * uI x < 4294967296 then uI x else 18446744073709551616 - 4294967296 + uI x := by
  have h1 : x.toInt64.toInt = x.toInt := Int32.toInt_toInt64 x
  rw [uL_int, uI_int] at h1
  have h2 := uL_lt x.toInt64
  have h3 := uI_lt x
  split at h1 <;> split at h1 <;> split <;> omega
theorem uL_ext (x : Int32) : uL (x.toInt64 &&& 4294967295) = uI x := by
  rw [uL_lo, uL_ext0]
  have h3 := uI_lt x
  split <;> omega
theorem uI_low (x : Int64) : uI x.toInt32 = uL x % 4294967296 := by
  show (x.toBitVec.signExtend 32).toNat = x.toBitVec.toNat % _
  rw [BitVec.signExtend_eq_setWidth_of_le _ (by decide), BitVec.toNat_setWidth]
theorem uL_sl (x : Int64) (y : Int32) (k : Nat) (hk : ((y.toInt64 &&& 63).toBitVec.smod 64).toNat = k) : uL (x <<< (y.toInt64 &&& 63)) = uL x * 2 ^ k % 18446744073709551616 := by
  show (x.toBitVec <<< ((y.toInt64 &&& 63).toBitVec.smod 64).toNat).toNat = _
  rw [hk, BitVec.toNat_shiftLeft, Nat.shiftLeft_eq]
  rfl
theorem uL_sl32 (x : Int64) : uL (x <<< ((32 : Int32).toInt64 &&& 63)) = uL x * 4294967296 % 18446744073709551616 := uL_sl x 32 32 (by decide)
theorem uL_or (x y : Int64) : uL (x ||| y) = uL x ||| uL y := UInt64.toNat_or _ _
/-- a limb above a limb -/
theorem uL_two (x y : Int64) (hx : uL x < 4294967296) (hy : uL y < 4294967296) : uL (x <<< ((32 : Int32).toInt64 &&& 63) ||| y) = uL x * 4294967296 + uL y := by
  rw [uL_or, uL_sl32, Nat.mod_eq_of_lt (by omega), Nat.mul_comm]
  exact (Nat.two_pow_add_eq_or_of_lt (i := 32) hy _).symm
theorem uL_neg (x : Int64) : x < 0 ↔ 9223372036854775808 ≤ uL x := by
  rw [Int64.lt_iff_toInt_lt, uL_int]
  have h := uL_lt x
  have h0 : (0 : Int64).toInt = 0 := rfl
  rw [h0]
  split <;> omega
theorem uI_neg (x : Int32) : x < 0 ↔ 2147483648 ≤ uI x := by
  rw [Int32.lt_iff_toInt_lt, uI_int]
  have h := uI_lt x
  have h0 : (0 : Int32).toInt = 0 := rfl
  rw [h0]
  split <;> omega
theorem uL_lti (x y : Int64) (hx : uL x < 9223372036854775808) (hy : uL y < 9223372036854775808) : x < y ↔ uL x < uL y := by
  rw [Int64.lt_iff_toInt_lt, uL_int, uL_int, if_pos (by omega), if_pos (by omega)]
  omega
theorem uL_lei (x y : Int64) (hx : uL x < 9223372036854775808) (hy : uL y < 9223372036854775808) : x ≤ y ↔ uL x ≤ uL y := by
  rw [Int64.le_iff_toInt_le, uL_int, uL_int, if_pos (by omega), if_pos (by omega)]
  omega
theorem lc_cases (x y : Int64) : (x < y ∧ ¬ y < x ∧ ¬ x = y ∧ lg_cmp x y = -1) ∨ (x = y ∧ ¬ x < y ∧ ¬ y < x ∧ lg_cmp x y = 0) ∨ (y < x ∧ ¬ x < y ∧ ¬ x = y ∧ lg_cmp x y = 1) := by
  have e1 : x < y ↔ x.toInt < y.toInt := Int64.lt_iff_toInt_lt
  have e2 : y < x ↔ y.toInt < x.toInt := Int64.lt_iff_toInt_lt
  have e3 : x = y ↔ x.toInt = y.toInt := Int64.toInt_inj.symm
  by_cases h1 : y < x
  · exact Or.inr (Or.inr ⟨h1, by rw [e1]; rw [e2] at h1; omega, by rw [e3]; rw [e2] at h1; omega, by simp [lg_cmp, h1]⟩)
  · by_cases h2 : x = y
    · exact Or.inr (Or.inl ⟨h2, by rw [e1]; rw [e3] at h2; omega, h1, by simp [lg_cmp, h1, h2]⟩)
    · exact Or.inl ⟨by rw [e1]; rw [e2] at h1; rw [e3] at h2; omega, h1, h2, by simp [lg_cmp, h1, h2]⟩
theorem lc_lt (x y : Int64) : lg_cmp x y < 0 ↔ x < y := by
  rcases lc_cases x y with ⟨a, b, c, e⟩ | ⟨a, b, c, e⟩ | ⟨a, b, c, e⟩ <;> rw [e]
  · exact ⟨fun _ => a, fun _ => by decide⟩
  · exact ⟨fun h => absurd h (by decide), fun h => absurd h b⟩
  · exact ⟨fun h => absurd h (by decide), fun h => absurd h b⟩
theorem lc_gt (x y : Int64) : 0 < lg_cmp x y ↔ y < x := by
  rcases lc_cases x y with ⟨a, b, c, e⟩ | ⟨a, b, c, e⟩ | ⟨a, b, c, e⟩ <;> rw [e]
  · exact ⟨fun h => absurd h (by decide), fun h => absurd h b⟩
  · exact ⟨fun h => absurd h (by decide), fun h => absurd h c⟩
  · exact ⟨fun _ => a, fun _ => by decide⟩
theorem lc_ge (x y : Int64) : 0 ≤ lg_cmp x y ↔ ¬ x < y := by
  rcases lc_cases x y with ⟨a, b, c, e⟩ | ⟨a, b, c, e⟩ | ⟨a, b, c, e⟩ <;> rw [e]
  · exact ⟨fun h => absurd h (by decide), fun h => absurd a h⟩
  · exact ⟨fun _ => b, fun _ => by decide⟩
  · exact ⟨fun _ => b, fun _ => by decide⟩
theorem lc_le (x y : Int64) : lg_cmp x y ≤ 0 ↔ ¬ y < x := by
  rcases lc_cases x y with ⟨a, b, c, e⟩ | ⟨a, b, c, e⟩ | ⟨a, b, c, e⟩ <;> rw [e]
  · exact ⟨fun _ => b, fun _ => by decide⟩
  · exact ⟨fun _ => c, fun _ => by decide⟩
  · exact ⟨fun h => absurd h (by decide), fun h => absurd a h⟩
theorem lc_eq (x y : Int64) : lg_cmp x y = 0 ↔ x = y := by
  rcases lc_cases x y with ⟨a, b, c, e⟩ | ⟨a, b, c, e⟩ | ⟨a, b, c, e⟩ <;> rw [e]
  · exact ⟨fun h => absurd h (by decide), fun h => absurd h c⟩
  · exact ⟨fun _ => a, fun _ => rfl⟩
  · exact ⟨fun h => absurd h (by decide), fun h => absurd h c⟩
/-! digits to a base -/
def nv (B : Nat) (d : Nat → Nat) : Nat → Nat
  | 0 => 0
  | n + 1 => nv B d n + d n * B ^ n
theorem nv_0 (B : Nat) (d : Nat → Nat) : nv B d 0 = 0 := rfl
theorem nv_s (B : Nat) (d : Nat → Nat) (n : Nat) : nv B d (n + 1) = nv B d n + d n * B ^ n := rfl
theorem nv_congr {B : Nat} {d d' : Nat → Nat} : ∀ {n : Nat}, (∀ i, i < n → d i = d' i) → nv B d n = nv B d' n
  | 0, _ => rfl
  | n + 1, h => by rw [nv_s, nv_s, nv_congr (fun i hi => h i (Nat.lt_succ_of_lt hi)), h n (Nat.lt_succ_self n)]
theorem nv_lt {B : Nat} (hB : 0 < B) {d : Nat → Nat} : ∀ {n : Nat}, (∀ i, i < n → d i < B) → nv B d n < B ^ n
  | 0, _ => by simp [nv]
  | n + 1, h => by
    have h1 := nv_lt hB (d := d) (n := n) (fun i hi => h i (Nat.lt_succ_of_lt hi))
    have h2 := h n (Nat.lt_succ_self n)
    have h3 : (d n + 1) * B ^ n ≤ B * B ^ n := Nat.mul_le_mul_right _ h2
    rw [nv_s, Nat.pow_succ, Nat.mul_comm (B ^ n) B]
    rw [Nat.add_mul, Nat.one_mul] at h3
    omega
/-- the lowest digit apart -/
theorem nv_low (B : Nat) (d : Nat → Nat) : ∀ n : Nat, nv B d (n + 1) = d 0 + B * nv B (fun i => d (i + 1)) n
  | 0 => by simp [nv]
  | n + 1 => by
    rw [nv_s, nv_low B d n, nv_s, Nat.mul_add, Nat.pow_succ, Nat.add_assoc]
    congr 2
    rw [Nat.mul_comm (B ^ n) B, Nat.mul_left_comm]
/-- a number in two parts -/
theorem nv_add (B : Nat) (d : Nat → Nat) (m : Nat) : ∀ n : Nat, nv B d (m + n) = nv B d m + B ^ m * nv B (fun i => d (m + i)) n
  | 0 => by simp [nv]
  | n + 1 => by
    rw [← Nat.add_assoc, nv_s, nv_add B d m n, nv_s, Nat.mul_add, Nat.pow_add, Nat.add_assoc]
    congr 2
    rw [Nat.mul_left_comm]
theorem nv_zero {B : Nat} {d : Nat → Nat} : ∀ {n : Nat}, (∀ i, i < n → d i = 0) → nv B d n = 0
  | 0, _ => rfl
  | n + 1, h => by rw [nv_s, nv_zero (fun i hi => h i (Nat.lt_succ_of_lt hi)), h n (Nat.lt_succ_self n), Nat.zero_mul]
theorem nv_ge {B : Nat} {d : Nat → Nat} {n : Nat} (h : 0 < d n) : B ^ n ≤ nv B d (n + 1) := by
  rw [nv_s]
  have : 1 * B ^ n ≤ d n * B ^ n := Nat.mul_le_mul_right _ h
  omega

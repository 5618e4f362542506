/-! Pure level: long division, the digits. -/
theorem uL_s1 (x : Int64) : uL (x.toUInt64 >>> ((1 : Int32).toInt64.toUInt64 &&& Int64.toUInt64 63)).toInt64 = uL x / 2 := uL_srr (r := 1) x (by decide)
theorem uL_sl1 (x : Int64) : uL (x <<< ((1 : Int32).toInt64 &&& 63)) = uL x * 2 % 18446744073709551616 := uL_sl x 1 1 (by decide)
theorem wl_divideUnsigned {G : qG} {x y : Int64} {d : Nat} {σ : qS} {post : Int64 → qS → Prop} (hy : uL y = d) (hd0 : 0 < d) (hd : d < 4294967296) (k : ∀ v : Int64, uL v = uL x / d → post v σ) : wpX0_divideUnsigned G x y σ post := by
  have hx := uL_lt x
  unfold wpX0_divideUnsigned
  rw [lc_gt, uL_lti _ _ (by rw [uL_0]; decide) (by omega), uL_0]
  refine ⟨fun _ => ⟨by rw [uL_eq0]; omega, fun v3 e3 => ?_⟩, fun h => absurd (by omega) h⟩
  generalize hq0 : uL x / 2 / d = q0
  have hr0 := Nat.div_add_mod (uL x / 2) d
  have hrl := Nat.mod_lt (uL x / 2) hd0
  rw [hq0] at hr0
  have hq0le : q0 ≤ uL x / 2 := by rw [← hq0]; exact Nat.div_le_self _ _
  have h3 : uL v3 = 2 * q0 := by
    rw [e3, uL_sl1, uL_div (by rw [uL_s1]; omega) (by omega) (by omega), uL_s1, hy, hq0]
    omega
  -- what is left behind the even digit
  generalize hr : uL x / 2 % d = r0 at hr0 hrl
  generalize hX : uL x = X at *
  have hprod : 2 * q0 * d = 2 * (d * q0) := by rw [Nat.mul_assoc, Nat.mul_comm q0 d]
  have hleft : uL (x - v3 * y) = X - 2 * (d * q0) := by
    rw [uL_sub, uL_mul, h3, hy, hX, hprod]
    omega
  have hR : X - 2 * (d * q0) < 2 * d := by omega
  rw [lc_lt, uL_lti _ _ (by rw [hleft]; omega) (by omega), hleft, hy]
  refine ⟨fun h => k v3 ?_, fun h => k (v3 + 1) ?_⟩
  · rw [h3]
    refine (Nat.div_eq_of_lt_le ?_ ?_).symm
    · rw [hprod]; omega
    · rw [Nat.add_mul, hprod]; omega
  · have h4 : uL (v3 + 1) = 2 * q0 + 1 := by
      rw [uL_add, h3, uL_1]; omega
    rw [h4]
    refine (Nat.div_eq_of_lt_le ?_ ?_).symm
    · rw [Nat.add_mul, hprod]; omega
    · rw [Nat.add_mul, Nat.add_mul, hprod]; omega
theorem xor_min (x : Int64) : uL (x ^^^ (-9223372036854775808)) = (uL x + 9223372036854775808) % 18446744073709551616 := by
  have h1 : uL (x ^^^ (-9223372036854775808)) = uL x ^^^ 2 ^ 63 := UInt64.toNat_xor _ _
  rw [h1]
  have hx := uL_lt x
  generalize uL x = a at hx
  have e1 : (a ^^^ 2 ^ 63) % 2 ^ 63 = a % 2 ^ 63 := by rw [Nat.xor_mod_two_pow, Nat.mod_self, Nat.xor_zero]
  have e2 : (a ^^^ 2 ^ 63) / 2 ^ 63 = (a / 2 ^ 63) ^^^ 1 := by rw [Nat.xor_div_two_pow, Nat.div_self (Nat.two_pow_pos 63)]
  rcases (show a / 2 ^ 63 = 0 ∨ a / 2 ^ 63 = 1 by omega) with h | h
  · rw [h] at e2
    have e3 : (0 : Nat) ^^^ 1 = 1 := by decide
    rw [e3] at e2
    omega
  · rw [h] at e2
    have e3 : (1 : Nat) ^^^ 1 = 0 := by decide
    rw [e3] at e2
    omega
theorem wl_isAbove {G : qG} {x y : Int64} {σ : qS} {post : Int32 → qS → Prop} (k0 : uL x ≤ uL y → post 0 σ) (k1 : uL y < uL x → post 1 σ) : wpX0_isAbove G x y σ post := by
  have hx := uL_lt x
  have hy := uL_lt y
  have key : (y ^^^ (-9223372036854775808)) < (x ^^^ (-9223372036854775808)) ↔ uL y < uL x := by
    rw [Int64.lt_iff_toInt_lt, uL_int, uL_int, xor_min, xor_min]
    split <;> split <;> omega
  unfold wpX0_isAbove
  rw [lc_le, key]
  exact ⟨fun h => k0 (by omega), fun h => k1 (by omega)⟩
/-- Knuth's two bounds on a guessed digit: T and V with their highest limbs T3, V2 above P -/
theorem knuth_lo {T3 Tl V2 Vl P Q : Nat} (hT : Tl < P) (h : T3 < Q * V2) : (T3 * P + Tl) / (V2 * P + Vl) < Q := by
  apply Nat.div_lt_of_lt_mul
  have h1 : (T3 + 1) * P ≤ Q * V2 * P := Nat.mul_le_mul_right _ h
  rw [Nat.add_mul, Nat.one_mul] at h1
  have h2 : (V2 * P + Vl) * Q = Q * V2 * P + Vl * Q := by rw [Nat.add_mul, Nat.mul_right_comm, Nat.mul_comm V2 Q]
  omega
theorem knuth_hi {T3 Tl V2 Vl P Q B : Nat} (hP : 0 < P) (hV : Vl < P) (hB : B ≤ V2) (hQ : Q ≤ B) (h : Q * V2 ≤ T3) : Q ≤ (T3 * P + Tl) / (V2 * P + Vl) + 1 := by
  have hVp : 0 < V2 * P + Vl ∨ V2 * P + Vl = 0 := by omega
  rcases hVp with hVp | hVp
  · generalize hq : (T3 * P + Tl) / (V2 * P + Vl) = q
    rcases Nat.lt_or_ge (q + 1) Q with hc | hc
    · exfalso
      have h1 : T3 * P + Tl < (q + 1) * (V2 * P + Vl) := by
        have := Nat.lt_mul_div_succ (T3 * P + Tl) hVp
        rw [hq] at this
        rw [Nat.mul_comm (q + 1)]
        exact this
      have h2 : (q + 2) * (V2 * P + Vl) ≤ Q * (V2 * P + Vl) := Nat.mul_le_mul_right _ hc
      have h3 : Q * V2 * P ≤ T3 * P := Nat.mul_le_mul_right _ h
      have h4 : Q * Vl ≤ B * Vl := Nat.mul_le_mul_right _ hQ
      have h5 : B * Vl ≤ V2 * Vl := Nat.mul_le_mul_right _ hB
      have h6 : V2 * Vl ≤ V2 * P := Nat.mul_le_mul_left _ (Nat.le_of_lt hV)
      have h7 : Q * (V2 * P + Vl) = Q * V2 * P + Q * Vl := by rw [Nat.mul_add, Nat.mul_assoc]
      have h8 : (q + 2) * (V2 * P + Vl) = (q + 1) * (V2 * P + Vl) + (V2 * P + Vl) := by rw [Nat.add_mul q 2, Nat.add_mul q 1]; omega
      omega
    · omega
  · have : V2 = 0 := by
      rcases Nat.eq_zero_or_pos V2 with h1 | h1
      · exact h1
      · have := Nat.mul_le_mul h1 hP
        omega
    have hQ0 : Q = 0 := by omega
    rw [hQ0]
    exact Nat.zero_le _
/-- the first guess is 2 too great at most -/
theorem knuth_2 {T V v1 R Q B : Nat} (hV : V < (v1 + 1) * R) (hVp : 0 < V) (hT : Q * v1 * R ≤ T) (hv : B ≤ 2 * v1) (hQ : Q < B) : Q ≤ T / V + 2 := by
  generalize hq : T / V = q
  rcases Nat.lt_or_ge (q + 2) Q with hc | hc
  · exfalso
    have h1 : T < (q + 1) * V := by
      have := Nat.lt_mul_div_succ T hVp
      rw [hq, Nat.mul_comm] at this
      exact this
    have h2 : (q + 1) * V ≤ (Q - 2) * V := Nat.mul_le_mul_right _ (by omega)
    have h3 : (Q - 2) * V ≤ (Q - 2) * ((v1 + 1) * R) := Nat.mul_le_mul_left _ (Nat.le_of_lt hV)
    have h4 : Q * v1 * R < (Q - 2) * (v1 + 1) * R := by rw [Nat.mul_assoc (Q - 2)]; omega
    have h5 : Q * v1 < (Q - 2) * (v1 + 1) := Nat.lt_of_mul_lt_mul_right h4
    obtain ⟨Q', rfl⟩ : ∃ Q', Q = Q' + 2 := ⟨Q - 2, by omega⟩
    rw [Nat.add_sub_cancel, Nat.add_mul, Nat.mul_add] at h5
    omega
  · exact hc

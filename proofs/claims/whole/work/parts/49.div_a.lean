/-! Pure level: long division, the digits. -/
theorem uL_s1 (x : Int64) : uL (x.toUInt64 >>> ((1 : Int32).toInt64.toUInt64 &&& Int64.toUInt64 63)).toInt64 = uL x / 2 := uL_srr (r := 1) x (by decide)
theorem uL_sl1 (x : Int64) : uL (x <<< ((1 : Int32).toInt64 &&& 63)) = uL x * 2 % 18446744073709551616 := uL_sl x 1 1 (by decide)
theorem wl_divideUnsigned {G : qG} {x y : Int64} {d : Nat} {σ : qS} {post : Int64 → qS → Prop} (hy : uL y = d) (hd0 : 0 < d) (hd : d < 4294967296) (k : ∀ v : Int64, uL v = uL x / d → post v σ) : wpX0_divideUnsigned G x y σ post := by
  have hx := uL_lt x
  unfold wpX0_divideUnsigned
  rw [lc_gt, uL_lti _ _ (by rw [uL_0]; decide) (by omega), uL_0]
  refine ⟨fun _ => ⟨by rw [uL_eq0]; omega, fun v3 e3 => ?_⟩, fun h => absurd (by omega) h⟩
  generalize hq0 : uL x / 2 / d = q0
  have hr0 := Nat.div_add_mod (uL x / 2) d
  have hrl := Nat.mod_lt (uL x / 2) hd0
  rw [hq0] at hr0
  have hq0le : q0 ≤ uL x / 2 := by rw [← hq0]; exact Nat.div_le_self _ _
  have h3 : uL v3 = 2 * q0 := by
    rw [e3, uL_sl1, uL_div (by rw [uL_s1]; omega) (by omega) (by omega), uL_s1, hy, hq0]
    omega
  -- what is left behind the even digit
  generalize hr : uL x / 2 % d = r0 at hr0 hrl
  generalize hX : uL x = X at *
  have hprod : 2 * q0 * d = 2 * (d * q0) := by rw [Nat.mul_assoc, Nat.mul_comm q0 d]
  have hleft : uL (x - v3 * y) = X - 2 * (d * q0) := by
    rw [uL_sub, uL_mul, h3, hy, hX, hprod]
    omega
  have hR : X - 2 * (d * q0) < 2 * d := by omega
  rw [lc_lt, uL_lti _ _ (by rw [hleft]; omega) (by omega), hleft, hy]
  refine ⟨fun h => k v3 ?_, fun h => k (v3 + 1) ?_⟩
  · rw [h3]
    refine (Nat.div_eq_of_lt_le ?_ ?_).symm
    · rw [hprod]; omega
    · rw [Nat.add_mul, hprod]; omega
  · have h4 : uL (v3 + 1) = 2 * q0 + 1 := by
      rw [uL_add, h3, uL_1]; omega
    rw [h4]
    refine (Nat.div_eq_of_lt_le ?_ ?_).symm
    · rw [Nat.add_mul, hprod]; omega
    · rw [Nat.add_mul, Nat.add_mul, hprod]; omega
theorem xor_min (x : Int64) : uL (x ^^^ (-9223372036854775808)) = (uL x + 9223372036854775808) % 18446744073709551616 := by
  have h1 : uL (x ^^^ (-9223372036854775808)) = uL x ^^^ 2 ^ 63 := UInt64.toNat_xor _ _
  rw [h1]
  have hx := uL_lt x
  generalize uL x = a at hx
  have e1 : (a ^^^ 2 ^ 63) % 2 ^ 63 = a % 2 ^ 63 := by rw [Nat.xor_mod_two_pow, Nat.mod_self, Nat.xor_zero]
  have e2 : (a ^^^ 2 ^ 63) / 2 ^ 63 = (a / 2 ^ 63) ^^^ 1 := by rw [Nat.xor_div_two_pow, Nat.div_self (Nat.two_pow_pos 63)]
  rcases (show a / 2 ^ 63 = 0 ∨ a / 2 ^ 63 = 1 by omega) with h | h
  · rw [h] at e2
    have e3 : (0 : Nat) ^^^ 1 = 1 := by decide
    rw [e3] at e2
    omega
  · rw [h] at e2
    have e3 : (1 : Nat) ^^^ 1 = 0 := by decide
    rw [e3] at e2
    omega
theorem wl_isAbove {G : qG} {x y : Int64} {σ : qS} {post : Int32 → qS → Prop} (k0 : uL x ≤ uL y → post 0 σ) (k1 : uL y < uL x → post 1 σ) : wpX0_isAbove G x y σ post := by
  have hx := uL_lt x
  have hy := uL_lt y
  have key : (y ^^^ (-9223372036854775808)) < (x ^^^ (-9223372036854775808)) ↔ uL y < uL x := by
    rw [Int64.lt_iff_toInt_lt, uL_int, uL_int, xor_min, xor_min]
    split <;> split <;> omega
  unfold wpX0_isAbove
  rw [lc_le, key]
  exact ⟨fun h => k0 (by omega), fun h => k1 (by omega)⟩
/-- Knuth's bounds on a guessed digit Q: q is the digit; T and V with their highest limbs T3, V2 above P -/
theorem kf_lo {T3 Tl V2 Vl P Q q : Nat} (hT : Tl < P) (h1 : q * (V2 * P + Vl) ≤ T3 * P + Tl) (h : T3 < Q * V2) : q < Q := by
  rcases Nat.lt_or_ge q Q with hc | hc
  · exact hc
  · exfalso
    have a1 : (T3 + 1) * P ≤ Q * V2 * P := Nat.mul_le_mul_right _ h
    have a2 : Q * (V2 * P + Vl) ≤ q * (V2 * P + Vl) := Nat.mul_le_mul_right _ hc
    have a3 : Q * (V2 * P + Vl) = Q * V2 * P + Q * Vl := by rw [Nat.mul_add, Nat.mul_assoc]
    rw [Nat.add_mul, Nat.one_mul] at a1
    omega
theorem kf_hi {T3 Tl V2 Vl P Q B q : Nat} (hV : Vl < P) (hB : B ≤ V2) (hQ : Q ≤ B) (h1 : T3 * P + Tl < (q + 1) * (V2 * P + Vl)) (h : Q * V2 ≤ T3) : Q ≤ q + 1 := by
  rcases Nat.lt_or_ge (q + 1) Q with hc | hc
  · exfalso
    have h2 : (q + 2) * (V2 * P + Vl) ≤ Q * (V2 * P + Vl) := Nat.mul_le_mul_right _ hc
    have h3 : Q * V2 * P ≤ T3 * P := Nat.mul_le_mul_right _ h
    have h4 : Q * Vl ≤ B * Vl := Nat.mul_le_mul_right _ hQ
    have h5 : B * Vl ≤ V2 * Vl := Nat.mul_le_mul_right _ hB
    have h6 : V2 * Vl ≤ V2 * P := Nat.mul_le_mul_left _ (Nat.le_of_lt hV)
    have h7 : Q * (V2 * P + Vl) = Q * V2 * P + Q * Vl := by rw [Nat.mul_add, Nat.mul_assoc]
    have h8 : (q + 2) * (V2 * P + Vl) = (q + 1) * (V2 * P + Vl) + (V2 * P + Vl) := by rw [Nat.add_mul q 2, Nat.add_mul q 1]; omega
    omega
  · exact hc
/-- the first guess is 2 too great at most -/
theorem kf_2 {T V v1 R Q B q : Nat} (hV : V < (v1 + 1) * R) (h1 : T < (q + 1) * V) (hT : Q * v1 * R ≤ T) (hv : B ≤ 2 * v1) (hQ : Q < B) : Q ≤ q + 2 := by
  rcases Nat.lt_or_ge (q + 2) Q with hc | hc
  · exfalso
    have h2 : (q + 1) * V ≤ (Q - 2) * V := Nat.mul_le_mul_right _ (by omega)
    have h3 : (Q - 2) * V ≤ (Q - 2) * ((v1 + 1) * R) := Nat.mul_le_mul_left _ (Nat.le_of_lt hV)
    have h4 : Q * v1 * R < (Q - 2) * (v1 + 1) * R := by rw [Nat.mul_assoc (Q - 2)]; omega
    have h5 : Q * v1 < (Q - 2) * (v1 + 1) := Nat.lt_of_mul_lt_mul_right h4
    obtain ⟨Q', rfl⟩ : ∃ Q', Q = Q' + 2 := ⟨Q - 2, by omega⟩
    rw [Nat.add_sub_cancel, Nat.add_mul, Nat.mul_add] at h5
    omega
  · exact hc
/-- all that is needed of the digit q of T by V -/
theorem kf_all {B two u0 u1 u2 v0 v1 P Tl Vl q : Nat} (hB0 : 0 < B) (h2 : two = u2 * B + u1) (lu0 : u0 < B) (lu1 : u1 < B) (lv0 : v0 < B) (lv1 : v1 < B) (htop : B ≤ 2 * v1) (hP : 0 < P) (lT : Tl < P) (lV : Vl < P) (h1 : q * ((v1 * B + v0) * P + Vl) ≤ (two * B + u0) * P + Tl) (h3 : (two * B + u0) * P + Tl < (q + 1) * ((v1 * B + v0) * P + Vl)) (hTV : (two * B + u0) * P + Tl < ((v1 * B + v0) * P + Vl) * B) :
    q < B ∧ q * v1 ≤ two ∧ u2 ≤ v1 ∧ (∀ Q : Nat, two * B + u0 < Q * (v1 * B + v0) → q < Q) ∧ (∀ Q : Nat, Q < B → Q * (v1 * B + v0) ≤ two * B + u0 → Q ≤ q + 1) ∧ ∀ Q : Nat, Q * v1 ≤ two → Q < B → Q ≤ q + 2 := by
  have hv1p : 1 ≤ v1 := by omega
  have hVlt : (v1 * B + v0) * P + Vl < (v1 + 1) * (B * P) := by
    have : (v1 * B + v0 + 1) * P ≤ (v1 * B + B) * P := Nat.mul_le_mul_right _ (by omega)
    rw [Nat.add_mul (v1 * B + v0)] at this
    rw [← Nat.mul_assoc, Nat.add_mul v1, Nat.one_mul]
    omega
  have hT3 : (two * B + u0) * P + Tl < (two + 1) * (B * P) := by
    have : (two * B + u0 + 1) * P ≤ (two * B + B) * P := Nat.mul_le_mul_right _ (by omega)
    rw [Nat.add_mul (two * B + u0)] at this
    rw [← Nat.mul_assoc, Nat.add_mul two, Nat.one_mul]
    omega
  refine ⟨?_, ?_, ?_, fun Q h => kf_lo lT h1 h, fun Q hq h => ?_, fun Q hq1 hq2 => ?_⟩
  · rcases Nat.lt_or_ge q B with hc | hc
    · exact hc
    · have := Nat.mul_le_mul_right ((v1 * B + v0) * P + Vl) hc
      rw [Nat.mul_comm B] at this
      omega
  · have h4 : q * (v1 * B * P) ≤ q * ((v1 * B + v0) * P + Vl) := Nat.mul_le_mul_left _ (by rw [Nat.add_mul]; omega)
    have h5 : q * v1 * (B * P) < (two + 1) * (B * P) := by
      rw [show q * v1 * (B * P) = q * (v1 * B * P) by rw [Nat.mul_assoc, Nat.mul_assoc]]
      omega
    have := Nat.lt_of_mul_lt_mul_right h5
    omega
  · have h4 : u2 * (B * (B * P)) ≤ (two * B + u0) * P + Tl := by
      rw [show u2 * (B * (B * P)) = u2 * B * B * P by rw [← Nat.mul_assoc, ← Nat.mul_assoc]]
      have h6 : u2 * B * B ≤ two * B := Nat.mul_le_mul_right _ (by omega)
      have : u2 * B * B * P ≤ (two * B + u0) * P := Nat.mul_le_mul_right _ (by omega)
      omega
    have h5 : ((v1 * B + v0) * P + Vl) * B ≤ (v1 + 1) * (B * P) * B := Nat.mul_le_mul_right _ (Nat.le_of_lt hVlt)
    have h6 : u2 * (B * (B * P)) < (v1 + 1) * (B * (B * P)) := by
      rw [show (v1 + 1) * (B * (B * P)) = (v1 + 1) * (B * P) * B by rw [Nat.mul_assoc, Nat.mul_comm B (B * P)]]
      omega
    have := Nat.lt_of_mul_lt_mul_right h6
    omega
  · have hb : 1 * B ≤ v1 * B := Nat.mul_le_mul_right _ hv1p
    exact kf_hi (B := B) lV (by omega) (by omega) h3 h
  · refine kf_2 (v1 := v1) (R := B * P) (B := B) hVlt h3 ?_ htop hq2
    have h4 : Q * v1 * (B * P) ≤ two * (B * P) := Nat.mul_le_mul_right _ hq1
    rw [← Nat.mul_assoc two] at h4
    have h5 : two * B * P ≤ (two * B + u0) * P := Nat.mul_le_mul_right _ (by omega)
    omega

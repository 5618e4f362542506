/-! Pure level: long division, the guess. -/
theorem wl_guess97 {G : qG} {two u0 v0 v1 q : Nat} {x3 x5 x9 x11 s0 : Int64} {σ : qS} {post : Int64 → qS → Prop}
    (h3 : uL x3 = v1) (h5 : uL x5 = v0) (h9 : uL x9 = two) (h11 : uL x11 = u0) (hu0 : u0 < 4294967296) (hv0 : v0 < 4294967296) (hv1 : v1 < 4294967296)
    (hQ : uL s0 < 4294967296) (hlo : q ≤ uL s0) (hle : uL s0 * v1 ≤ two) (hlt : two < uL s0 * v1 + 2 * 4294967296) (h2 : uL s0 ≤ q + 2)
    (lo : ∀ Q : Nat, two * 4294967296 + u0 < Q * (v1 * 4294967296 + v0) → q < Q) (hi : ∀ Q : Nat, Q < 4294967296 → Q * (v1 * 4294967296 + v0) ≤ two * 4294967296 + u0 → Q ≤ q + 1)
    (k : ∀ v : Int64, uL v < 4294967296 → q ≤ uL v → uL v ≤ q + 1 → post v σ) : bkX0_guessDigit_97 G x3 x5 x9 x11 s0 post σ := by
  have h9lt := uL_lt x9
  rw [h9] at h9lt
  unfold bkX0_guessDigit_97
  intro v16 e16 v17 e17
  have h16 : uL v16 + uL s0 * v1 = two := by
    rw [e16, uL_sub, uL_mul, h9, h3]; omega
  have hmul : ∀ Q : Nat, Q * (v1 * 4294967296 + v0) = Q * v1 * 4294967296 + Q * v0 := fun Q => by rw [Nat.mul_add, Nat.mul_assoc]
  refine lp3 (W := fun m x13 x15 x17 => lpX0_guessDigit_111 G x3 x5 x11 post _ _ m x13 x15 x17 σ) (I := fun x13 x15 x17 => ∃ t, t ≤ 2 ∧ x17 = nI t ∧ uL x13 + t = uL s0 ∧ q ≤ uL x13 ∧ uL x15 + uL x13 * v1 = two ∧ uL x15 < (2 + t) * 4294967296) (μ := fun _ _ x17 => 2 - x17.toNatClampNeg) ?_ s0 v16 v17 ⟨0, by omega, by rw [e17]; rfl, rfl, hlo, h16, by omega⟩
  intro m x13 x15 x17 hI ih
  obtain ⟨t, ht, rfl, hst, hqq, hl, hlb⟩ := hI
  show lpX0_guessDigit_111 G x3 x5 x11 post _ _ (m + 1) _ _ _ σ
  unfold lpX0_guessDigit_111
  rw [show (2 : Int32) = nI 2 from rfl, nI_leI (by decide) (by omega)]
  have hx13 : uL x13 < 4294967296 := by omega
  have hprod : uL x13 * v0 ≤ 4294967295 * 4294967295 := Nat.mul_le_mul (by omega) (by omega)
  have e13 : uL (x13 * x5) = uL x13 * v0 := by rw [uL_mul, h5]; omega
  have htwo : two * 4294967296 = uL x15 * 4294967296 + uL x13 * v1 * 4294967296 := by rw [← hl, Nat.add_mul]
  refine ⟨fun h => ?_, fun h => ⟨fun hg => ?_, fun hg => ?_⟩⟩
  · exact k x13 hx13 hqq (by omega)
  · rw [lc_gt, uL_lti _ _ (by decide) (by omega)] at hg
    have hg' : 4294967295 < uL x15 := hg
    refine k x13 hx13 hqq (hi _ hx13 ?_)
    rw [hmul]
    have : 4294967296 * 4294967296 ≤ uL x15 * 4294967296 := Nat.mul_le_mul_right _ (by omega)
    omega
  · rw [lc_gt, uL_lti _ _ (by decide) (by omega)] at hg
    have hg' : ¬ 4294967295 < uL x15 := hg
    have ecmp : uL (x15 <<< ((32 : Int32).toInt64 &&& 63) ||| x11) = uL x15 * 4294967296 + u0 := by rw [uL_two _ _ (by omega) (by omega), h11]
    refine wl_isAbove (fun hle2 => ?_) (fun hlt2 => ?_)
    · rw [e13, ecmp] at hle2
      refine ⟨fun _ => k x13 hx13 hqq (hi _ hx13 ?_), fun z => absurd rfl z⟩
      rw [hmul]
      omega
    · rw [e13, ecmp] at hlt2
      refine ⟨fun z => absurd z (by decide), fun _ v23 e23 v24 e24 v25 e25 => ?_⟩
      have hbig : two * 4294967296 + u0 < uL x13 * (v1 * 4294967296 + v0) := by
        rw [hmul, htwo, Nat.add_right_comm, Nat.add_comm (uL x15 * 4294967296 + u0)]
        exact Nat.add_lt_add_left hlt2 _
      have hqlt : q < uL x13 := lo (uL x13) hbig
      have h23 : uL v23 = uL x13 - 1 := by rw [e23, uL_sub, uL_1]; omega
      have h24 : uL v24 = uL x15 + v1 := by rw [e24, uL_add, h3]; omega
      refine ih v23 v24 v25 ⟨t + 1, by omega, by rw [e25, nI_1], by omega, by omega, ?_, by omega⟩ ?_
      · rw [h23, h24]
        obtain ⟨y, hy⟩ : ∃ y, uL x13 = y + 1 := ⟨uL x13 - 1, by omega⟩
        rw [hy, Nat.add_mul, Nat.one_mul] at hl
        rw [hy, Nat.add_sub_cancel]
        omega
      · show 2 - v25.toNatClampNeg < 2 - (nI t).toNatClampNeg
        rw [e25, nI_1, nI_clamp (by omega), nI_clamp (by omega)]
        omega
theorem vU_s2 (σ : qS) (a n : Nat) : vU σ a (n + 2) = (uI (σ a (n + 1)) * 4294967296 + uI (σ a n)) * 4294967296 ^ n + vU σ a n := by
  rw [vU_s, vU_s, Nat.pow_succ, Nat.add_mul, Nat.mul_assoc, Nat.mul_comm (4294967296 ^ n) 4294967296]
  omega
theorem vO_s3 (σ : qS) (a p n : Nat) : vO σ a p (n + 3) = ((uI (σ a (p + (n + 2))) * 4294967296 + uI (σ a (p + (n + 1)))) * 4294967296 + uI (σ a (p + n))) * 4294967296 ^ n + vO σ a p n := by
  rw [vO_s, vO_s, vO_s]
  simp only [Nat.add_mul, Nat.pow_succ]
  have e1 : uI (σ a (p + (n + 2))) * (4294967296 ^ n * 4294967296 * 4294967296) = uI (σ a (p + (n + 2))) * 4294967296 * 4294967296 * 4294967296 ^ n := by
    rw [Nat.mul_comm (4294967296 ^ n * 4294967296) 4294967296, Nat.mul_comm (4294967296 ^ n) 4294967296, ← Nat.mul_assoc, ← Nat.mul_assoc]
  have e2 : uI (σ a (p + (n + 1))) * (4294967296 ^ n * 4294967296) = uI (σ a (p + (n + 1))) * 4294967296 * 4294967296 ^ n := by
    rw [Nat.mul_comm (4294967296 ^ n) 4294967296, ← Nat.mul_assoc]
  rw [e1, e2]
  omega
theorem wl_guessDigit {G : qG} {h0 j n : Nat} {σ : qS} {post : Int64 → qS → Prop} (hn : 2 ≤ n) (ho : j + n < G.2.2 (G.2.1 h0 2)) (ho2 : G.2.2 (G.2.1 h0 2) < 100000) (hu : n ≤ G.2.2 (G.2.1 h0 3)) (hu2 : G.2.2 (G.2.1 h0 3) < 100000) (htop : 2147483648 ≤ uI (σ (G.2.1 h0 3) (n - 1))) (hTV : vO σ (G.2.1 h0 2) j (n + 1) < vU σ (G.2.1 h0 3) n * 4294967296)
    (k : ∀ v : Int64, uL v < 4294967296 → vO σ (G.2.1 h0 2) j (n + 1) / vU σ (G.2.1 h0 3) n ≤ uL v → uL v ≤ vO σ (G.2.1 h0 2) j (n + 1) / vU σ (G.2.1 h0 3) n + 1 → post v σ) : wpX0_guessDigit G h0 (nI (j + n)) (nI n) σ post := by
  obtain ⟨n', rfl⟩ : ∃ n', n = n' + 2 := ⟨n - 2, by omega⟩
  unfold wpX0_guessDigit
  rw [show (2 : Int32) = nI 2 from rfl, show (1 : Int32) = nI 1 from rfl, pk_sub (by omega), pk_sub (by omega), pk_sub (by omega), pk_sub (by omega), nI_clamp (by omega), nI_clamp (by omega), nI_clamp (by omega), nI_clamp (by omega), nI_clamp (by omega)]
  rw [show n' + 2 - 1 = n' + 1 by omega] at htop ⊢
  rw [show n' + 2 - 2 = n' by omega, show j + (n' + 2) - 1 = j + (n' + 1) by omega, show j + (n' + 2) - 2 = j + n' by omega]
  rw [show n' + 2 + 1 = n' + 3 by omega, vO_s3, vU_s2] at hTV k
  have l1 := uI_lt (σ (G.2.1 h0 3) (n' + 1))
  have l2 := uI_lt (σ (G.2.1 h0 3) n')
  have l3 := uI_lt (σ (G.2.1 h0 2) (j + (n' + 2)))
  have l4 := uI_lt (σ (G.2.1 h0 2) (j + (n' + 1)))
  have l5 := uI_lt (σ (G.2.1 h0 2) (j + n'))
  have lV := vU_lt σ (G.2.1 h0 3) n'
  have lT := vO_lt σ (G.2.1 h0 2) j n'
  have hP : 0 < 4294967296 ^ n' := Nat.pow_pos (by decide)
  refine ⟨vp_in_nI (by omega) (by omega), fun v3 e3 => ⟨vp_in_nI (by omega) (by omega), fun v5 e5 => ⟨vp_in_nI (by omega) (by omega), fun v8 e8 => ⟨vp_in_nI (by omega) (by omega), fun v10 e10 => ⟨vp_in_nI (by omega) (by omega), fun v12 e12 => ?_⟩⟩⟩⟩⟩
  have h3 : uL v3 = uI (σ (G.2.1 h0 3) (n' + 1)) := by rw [e3, uL_ext]
  have h5 : uL v5 = uI (σ (G.2.1 h0 3) n') := by rw [e5, uL_ext]
  have h8 : uL v8 = uI (σ (G.2.1 h0 2) (j + (n' + 2))) := by rw [e8, uL_ext]
  have h12 : uL v12 = uI (σ (G.2.1 h0 2) (j + n')) := by rw [e12, uL_ext]
  have h10 : uL v10 = uI (σ (G.2.1 h0 2) (j + (n' + 2))) * 4294967296 + uI (σ (G.2.1 h0 2) (j + (n' + 1))) := by
    rw [e10, uL_two _ _ (by omega) (by rw [uL_ext]; exact l4), h8, uL_ext]
  have hTq := Nat.div_mul_le_self (((uI (σ (G.2.1 h0 2) (j + (n' + 2))) * 4294967296 + uI (σ (G.2.1 h0 2) (j + (n' + 1)))) * 4294967296 + uI (σ (G.2.1 h0 2) (j + n'))) * 4294967296 ^ n' + vO σ (G.2.1 h0 2) j n') ((uI (σ (G.2.1 h0 3) (n' + 1)) * 4294967296 + uI (σ (G.2.1 h0 3) n')) * 4294967296 ^ n' + vU σ (G.2.1 h0 3) n')
  have hVpos : 0 < (uI (σ (G.2.1 h0 3) (n' + 1)) * 4294967296 + uI (σ (G.2.1 h0 3) n')) * 4294967296 ^ n' + vU σ (G.2.1 h0 3) n' := by
    have : 1 * 1 ≤ (uI (σ (G.2.1 h0 3) (n' + 1)) * 4294967296 + uI (σ (G.2.1 h0 3) n')) * 4294967296 ^ n' := Nat.mul_le_mul (by clear k; omega) hP
    clear k
    omega
  have hTq2 := Nat.lt_mul_div_succ (((uI (σ (G.2.1 h0 2) (j + (n' + 2))) * 4294967296 + uI (σ (G.2.1 h0 2) (j + (n' + 1)))) * 4294967296 + uI (σ (G.2.1 h0 2) (j + n'))) * 4294967296 ^ n' + vO σ (G.2.1 h0 2) j n') hVpos
  generalize (((uI (σ (G.2.1 h0 2) (j + (n' + 2))) * 4294967296 + uI (σ (G.2.1 h0 2) (j + (n' + 1)))) * 4294967296 + uI (σ (G.2.1 h0 2) (j + n'))) * 4294967296 ^ n' + vO σ (G.2.1 h0 2) j n') / ((uI (σ (G.2.1 h0 3) (n' + 1)) * 4294967296 + uI (σ (G.2.1 h0 3) n')) * 4294967296 ^ n' + vU σ (G.2.1 h0 3) n') = q at hTq hTq2 k
  rw [Nat.mul_comm _ (q + 1)] at hTq2
  obtain ⟨f1, f2, f3, f4, f5, f6⟩ := kf_all (B := 4294967296) (by decide) rfl l5 l4 l2 l1 (by omega) hP lT lV hTq hTq2 hTV
  clear hTq hTq2 hTV hVpos lV lT hP
  rw [lc_lt, uL_lti _ _ (by omega) (by omega), h8, h3]
  refine ⟨fun hlt => ?_, fun hge => ?_⟩
  · refine wl_divideUnsigned h3 (by omega) l1 (fun u15 h15 => ?_)
    rw [h10] at h15
    have hv1p : 0 < uI (σ (G.2.1 h0 3) (n' + 1)) := by omega
    have hm := Nat.div_add_mod (uI (σ (G.2.1 h0 2) (j + (n' + 2))) * 4294967296 + uI (σ (G.2.1 h0 2) (j + (n' + 1)))) (uI (σ (G.2.1 h0 3) (n' + 1)))
    have hml := Nat.mod_lt (uI (σ (G.2.1 h0 2) (j + (n' + 2))) * 4294967296 + uI (σ (G.2.1 h0 2) (j + (n' + 1)))) hv1p
    have hqle := (Nat.le_div_iff_mul_le hv1p).mpr f2
    rw [← h15] at hm hqle
    rw [Nat.mul_comm] at hm
    generalize (uI (σ (G.2.1 h0 2) (j + (n' + 2))) * 4294967296 + uI (σ (G.2.1 h0 2) (j + (n' + 1)))) % uI (σ (G.2.1 h0 3) (n' + 1)) = rr at hm hml
    have hQB : uL u15 < 4294967296 := by
      rcases Nat.lt_or_ge (uL u15) 4294967296 with hc | hc
      · exact hc
      · have a1 := Nat.mul_le_mul_right (uI (σ (G.2.1 h0 3) (n' + 1))) hc
        have a2 : (uI (σ (G.2.1 h0 2) (j + (n' + 2))) + 1) * 4294967296 ≤ uI (σ (G.2.1 h0 3) (n' + 1)) * 4294967296 := Nat.mul_le_mul_right _ hlt
        rw [Nat.mul_comm 4294967296] at a1
        clear h15
        omega
    clear h15
    exact wl_guess97 h3 h5 h10 h12 l5 l2 l1 hQB hqle (by omega) (by omega) (f6 _ (by omega) hQB) f4 f5 k
  · have hs0 : uL (4294967295 : Int64) = 4294967295 := by decide
    have huv : uI (σ (G.2.1 h0 2) (j + (n' + 2))) = uI (σ (G.2.1 h0 3) (n' + 1)) := by omega
    exact wl_guess97 h3 h5 h10 h12 l5 l2 l1 (by rw [hs0]; decide) (by rw [hs0]; omega) (by rw [hs0]; omega) (by rw [hs0]; omega) (f6 _ (by rw [hs0]; omega) (by rw [hs0]; decide)) f4 f5 k

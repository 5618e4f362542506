/-! Pure level: products, the long way and by three. -/
theorem wl_multiplyLong {G : qG} {h0 p xm q ym z : Nat} {σ : qS} {post : qS → Prop} (hc : G.2.2 (G.2.1 h0 1) < 100000) (hp : p + xm ≤ z) (hq : q + ym ≤ z) (hz : z + xm + ym ≤ G.2.2 (G.2.1 h0 1))
    (k : ∀ σ' : qS, (∀ b, b ≠ (G.2.1 h0 1) → σ' b = σ b) → (∀ t, (t < z ∨ z + (xm + ym) ≤ t) → σ' (G.2.1 h0 1) t = σ (G.2.1 h0 1) t) → vO σ' (G.2.1 h0 1) z (xm + ym) = vO σ (G.2.1 h0 1) p xm * vO σ (G.2.1 h0 1) q ym → post σ') : wpX1_multiplyLong G h0 (nI p) (nI xm) (nI q) (nI ym) (nI z) σ post := by
  unfold wpX1_multiplyLong
  rw [nI_add, nI_add]
  refine wl_fill (by omega) hz hc (fun σ2 f1 f2 f3 => ?_)
  intro v4 e4
  refine lp2 (W := fun m x6 τ => lpX1_multiplyLong_20 G h0 (nI p) (nI xm) (nI q) (nI ym) (nI z) post _ m x6 τ) (I := fun x6 τ => ∃ j, j ≤ ym ∧ x6 = nI j ∧ (∀ b, b ≠ (G.2.1 h0 1) → τ b = σ b) ∧ (∀ t, (t < z ∨ z + (xm + ym) ≤ t) → τ (G.2.1 h0 1) t = σ (G.2.1 h0 1) t) ∧ (∀ t, z + xm + j ≤ t → t < z + (xm + ym) → τ (G.2.1 h0 1) t = 0) ∧ vO τ (G.2.1 h0 1) z (xm + j) = vO σ (G.2.1 h0 1) p xm * vO σ (G.2.1 h0 1) q j) (μ := fun x6 _ => ym - x6.toNatClampNeg) ?_ v4 σ2 ⟨0, Nat.zero_le _, by rw [e4]; rfl, f1, fun t ht => f3 t (by omega), fun t h1 h2 => f2 t (by omega) (by omega), ?_⟩
  · intro m x6 τ hI ih
    obtain ⟨j, hj, rfl, hfr, hun, hzr, hv⟩ := hI
    show lpX1_multiplyLong_20 G h0 (nI p) (nI xm) (nI q) (nI ym) (nI z) post _ (m + 1) _ _
    unfold lpX1_multiplyLong_20
    rw [nI_leI (by omega) (by omega)]
    refine ⟨fun h => ?_, fun h => ?_⟩
    · have : j = ym := by omega
      subst this
      exact k τ hfr hun hv
    · rw [nI_add, nI_clamp (by omega), hun _ (by omega)]
      refine ⟨vp_in_nI (by omega) (by omega), fun v8 e8 v9 e9 v10 e10 => ?_⟩
      have h8 : uL v8 = uI (σ (G.2.1 h0 1) (q + j)) := by rw [e8, uL_ext]
      have l8 := uI_lt (σ (G.2.1 h0 1) (q + j))
      generalize hfa : uI (σ (G.2.1 h0 1) (q + j)) = fa at h8 l8
      refine lp3 (W := fun m x9 x11 ρ => lpX1_multiplyLong_49 G h0 (nI p) (nI xm) (nI q) (nI ym) (nI z) (nI j) v8 post _ m x9 x11 ρ) (I := fun x9 x11 ρ => ∃ i, i ≤ xm ∧ x11 = nI i ∧ (∀ b, b ≠ (G.2.1 h0 1) → ρ b = σ b) ∧ (∀ t, (t < z + j ∨ z + j + i ≤ t) → ρ (G.2.1 h0 1) t = τ (G.2.1 h0 1) t) ∧ uL x9 < 4294967296 ∧ vO ρ (G.2.1 h0 1) (z + j) i + uL x9 * 4294967296 ^ i = vO τ (G.2.1 h0 1) (z + j) i + vO σ (G.2.1 h0 1) p i * fa) (μ := fun _ x11 _ => xm - x11.toNatClampNeg) ?_ v9 v10 τ ⟨0, Nat.zero_le _, by rw [e10]; rfl, hfr, fun _ _ => rfl, by rw [e9]; decide, by rw [e9]; show 0 + 0 * _ = 0 + 0 * _; omega⟩
      intro m2 x9 x11 ρ hI2 ih2
      obtain ⟨i, hi, rfl, hfr2, hun2, hx9, hv2⟩ := hI2
      show lpX1_multiplyLong_49 G h0 (nI p) (nI xm) (nI q) (nI ym) (nI z) (nI j) v8 post _ (m2 + 1) _ _ _
      unfold lpX1_multiplyLong_49
      rw [nI_leI (by omega) (by omega)]
      refine ⟨fun h3 => ?_, fun h3 => ?_⟩
      · have : i = xm := by omega
        subst this
        show vp_in _ _ ∧ _
        rw [nI_add, nI_add, nI_clamp (by omega)]
        refine ⟨vp_in_nI (by omega) (by omega), fun σ23 e23 v24 e24 => ?_⟩
        have hl : uI x9.toInt32 = uL x9 := by rw [uI_low]; omega
        refine ih v24 σ23 ⟨j + 1, by omega, by rw [e24, nI_1], fun b hb => by rw [e23, q_st_a _ _ hb, hfr2 b hb], fun t ht => by rw [e23, q_st_ne _ _ (by omega), hun2 t (by omega), hun t (by omega)], fun t h4 h5 => by rw [e23, q_st_ne _ _ (by omega), hun2 t (by omega), hzr t (by omega) h5], ?_⟩ ?_
        · have z1 : vO σ23 (G.2.1 h0 1) z (i + (j + 1)) = vO σ23 (G.2.1 h0 1) z j + 4294967296 ^ j * vO σ23 (G.2.1 h0 1) (z + j) (i + 1) := by rw [show i + (j + 1) = j + (i + 1) by omega, vO_add]
          have z2 : vO σ23 (G.2.1 h0 1) z j = vO τ (G.2.1 h0 1) z j := vO_congr (fun t ht => by rw [e23, q_st_ne _ _ (by omega), hun2 _ (by omega)])
          have z3 : vO σ23 (G.2.1 h0 1) (z + j) (i + 1) = vO τ (G.2.1 h0 1) (z + j) i + vO σ (G.2.1 h0 1) p i * fa := by
            rw [vO_s, vO_congr (σ := σ23) (σ' := ρ) (a' := (G.2.1 h0 1)) (p' := z + j) (fun t ht => by rw [e23, q_st_ne _ _ (by omega)]), show z + j + i = z + i + j by omega, e23, q_st_self, hl]
            exact hv2
          have z4 : vO τ (G.2.1 h0 1) z (i + j) = vO τ (G.2.1 h0 1) z j + 4294967296 ^ j * vO τ (G.2.1 h0 1) (z + j) i := by rw [Nat.add_comm i j, vO_add]
          have z5 : 4294967296 ^ j * (vO σ (G.2.1 h0 1) p i * fa) = vO σ (G.2.1 h0 1) p i * (fa * 4294967296 ^ j) := by rw [Nat.mul_left_comm, Nat.mul_comm (4294967296 ^ j) fa]
          rw [z1, z2, z3, Nat.mul_add, z5, vO_s, hfa, Nat.mul_add, ← hv, z4]
          omega
        · show ym - v24.toNatClampNeg < ym - (nI j).toNatClampNeg
          rw [e24, nI_1, nI_clamp (by omega), nI_clamp (by omega)]
          omega
      · rw [nI_add, nI_add, nI_add, nI_clamp (by omega), nI_clamp (by omega)]
        refine ⟨vp_in_nI (by omega) (by omega), vp_in_nI (by omega) (by omega), fun v15 e15 => ⟨vp_in_nI (by omega) (by omega), fun σ17 e17 v18 e18 v19 e19 => ?_⟩⟩
        rw [hun2 (p + i) (by omega), hun (p + i) (by omega), hun2 (z + i + j) (by omega)] at e15
        have l1 := uI_lt (σ (G.2.1 h0 1) (p + i))
        have l2 := uI_lt (τ (G.2.1 h0 1) (z + i + j))
        have hpr : uI (σ (G.2.1 h0 1) (p + i)) * fa ≤ 4294967295 * 4294967295 := Nat.mul_le_mul (by omega) (by omega)
        have hs : uL v15 = uI (σ (G.2.1 h0 1) (p + i)) * fa + uI (τ (G.2.1 h0 1) (z + i + j)) + uL x9 := by
          rw [e15, uL_add, uL_add, uL_mul, uL_ext, uL_ext, h8]; omega
        refine ih2 v18 v19 σ17 ⟨i + 1, by omega, by rw [e19, nI_1], fun b hb => by rw [e17, q_st_a _ _ hb, hfr2 b hb], fun t ht => by rw [e17, q_st_ne _ _ (by omega)]; exact hun2 t (by omega), by rw [e18, uL_s32]; omega, ?_⟩ ?_
        · rw [e18, uL_s32, vO_s, vO_s, vO_s, vO_congr (σ := σ17) (σ' := ρ) (a' := (G.2.1 h0 1)) (p' := z + j) (fun t ht => by rw [e17, q_st_ne _ _ (by omega)])]
          have hlast : uI (σ17 (G.2.1 h0 1) (z + j + i)) = uL v15 % 4294967296 := by rw [show z + j + i = z + i + j by omega, e17, q_st_self, uI_low]
          have hcs := carry_step 4294967296 (uL v15) (4294967296 ^ i)
          rw [← Nat.pow_succ] at hcs
          rw [hlast, Nat.add_assoc, hcs, hs, Nat.add_mul, Nat.add_mul, Nat.add_mul, show z + j + i = z + i + j by omega, Nat.mul_right_comm (uI (σ (G.2.1 h0 1) (p + i))) (4294967296 ^ i) fa]
          omega
        · show xm - v19.toNatClampNeg < xm - (nI i).toNatClampNeg
          rw [e19, nI_1, nI_clamp (by omega), nI_clamp (by omega)]
          omega
  · show vO σ2 (G.2.1 h0 1) z (xm + 0) = _ * 0
    rw [Nat.mul_zero, Nat.add_zero]
    exact nv_zero (fun i hi => by rw [f2 _ (by omega) (by omega)]; rfl)
/-- the room that halving needs -/
def hroom : Nat → Nat → Nat
  | 0, _ => 0
  | d + 1, m => 4 * ((m + 1) / 2 + 1) + hroom d ((m + 1) / 2 + 1)
theorem hroom_mono : ∀ (d : Nat) {m m' : Nat}, m ≤ m' → hroom d m ≤ hroom d m'
  | 0, _, _, _ => Nat.le_refl _
  | d + 1, m, m', h => by
    have := hroom_mono d (m := (m + 1) / 2 + 1) (m' := (m' + 1) / 2 + 1) (by omega)
    unfold hroom
    omega
theorem hroom_succ (d m : Nat) : hroom d m ≤ hroom (d + 1) m := by
  induction d generalizing m with
  | zero => exact Nat.zero_le _
  | succ d ih =>
    unfold hroom
    have := ih ((m + 1) / 2 + 1)
    omega
/-- the product of two numbers in halves -/
theorem kar_id (X0 X1 Y0 Y1 R : Nat) : (X0 + R * X1) * (Y0 + R * Y1) = X0 * Y0 + R * (X0 * Y1 + X1 * Y0) + R * (R * (X1 * Y1)) := by
  rw [Nat.add_mul, Nat.mul_add, Nat.mul_add, Nat.mul_add]
  have e1 : X0 * (R * Y1) = R * (X0 * Y1) := Nat.mul_left_comm _ _ _
  have e2 : R * X1 * Y0 = R * (X1 * Y0) := Nat.mul_assoc _ _ _
  have e3 : R * X1 * (R * Y1) = R * (R * (X1 * Y1)) := by rw [Nat.mul_assoc, Nat.mul_left_comm X1 R Y1]
  rw [e1, e2, e3]
  omega
theorem kar_mid (X0 X1 Y0 Y1 : Nat) : (X0 + X1) * (Y0 + Y1) = (X0 * Y1 + X1 * Y0) + X0 * Y0 + X1 * Y1 := by
  rw [Nat.add_mul, Nat.mul_add, Nat.mul_add]
  omega

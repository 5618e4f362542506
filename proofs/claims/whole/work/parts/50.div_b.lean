/-! Pure level: long division, a digit guessed, taken, given back. over: G.2.1 h0 2, under: G.2.1 h0 3. -/
theorem wl_giveBack {G : qG} {h0 j n : Nat} {σ : qS} {post : qS → Prop} (hne : G.2.1 h0 2 ≠ G.2.1 h0 3) (ho : j + n ≤ G.2.2 (G.2.1 h0 2)) (ho2 : G.2.2 (G.2.1 h0 2) < 100000) (hu : n ≤ G.2.2 (G.2.1 h0 3)) (hu2 : G.2.2 (G.2.1 h0 3) < 100000)
    (k : ∀ (σ' : qS) (cy : Nat), (∀ b, b ≠ G.2.1 h0 2 → σ' b = σ b) → (∀ i, (i < j ∨ j + n ≤ i) → σ' (G.2.1 h0 2) i = σ (G.2.1 h0 2) i) → vO σ' (G.2.1 h0 2) j n + cy * 4294967296 ^ n = vO σ (G.2.1 h0 2) j n + vU σ (G.2.1 h0 3) n → post σ') : wpX0_giveBack G h0 (nI j) (nI n) σ post := by
  unfold wpX0_giveBack
  intro v1 e1 v2 e2
  refine lp3 (W := fun m x3 x5 τ => lpX0_giveBack_5 G h0 (nI j) (nI n) post _ m x3 x5 τ) (I := fun x3 x5 τ => ∃ i, i ≤ n ∧ x5 = nI i ∧ (∀ b, b ≠ G.2.1 h0 2 → τ b = σ b) ∧ (∀ t, (t < j ∨ j + i ≤ t) → τ (G.2.1 h0 2) t = σ (G.2.1 h0 2) t) ∧ uL x3 ≤ 1 ∧ vO τ (G.2.1 h0 2) j i + uL x3 * 4294967296 ^ i = vO σ (G.2.1 h0 2) j i + vU σ (G.2.1 h0 3) i) (μ := fun _ x5 _ => n - x5.toNatClampNeg) ?_ v1 v2 σ ⟨0, Nat.zero_le _, by rw [e2]; rfl, fun _ _ => rfl, fun _ _ => rfl, by rw [e1]; decide, by rw [e1]; rfl⟩
  intro m x3 x5 τ hI ih
  obtain ⟨i, hi, rfl, hf, hun, hx, hv⟩ := hI
  show lpX0_giveBack_5 G h0 (nI j) (nI n) post _ (m + 1) _ _ _
  unfold lpX0_giveBack_5
  rw [nI_leI (by omega) (by omega)]
  refine ⟨fun h => ?_, fun h => ?_⟩
  · have : i = n := by omega
    subst this
    exact k τ (uL x3) hf hun hv
  · rw [nI_add, nI_clamp (by omega), nI_clamp (by omega)]
    refine ⟨vp_in_nI (by omega) (by omega), vp_in_nI (by omega) (by omega), fun v8 e8 => ⟨vp_in_nI (by omega) (by omega), fun σ10 e10 v11 e11 v12 e12 => ?_⟩⟩
    rw [hun _ (by omega), hf _ (Ne.symm hne)] at e8
    have l1 := uI_lt (σ (G.2.1 h0 2) (j + i))
    have l2 := uI_lt (σ (G.2.1 h0 3) i)
    have hs : uL v8 = uI (σ (G.2.1 h0 2) (j + i)) + uI (σ (G.2.1 h0 3) i) + uL x3 := by
      rw [e8, uL_add, uL_add, uL_ext, uL_ext]; omega
    refine ih v11 v12 σ10 ⟨i + 1, by omega, by rw [e12, nI_1], fun b hb => by rw [e10, q_st_a _ _ hb, hf b hb], fun t ht => by rw [e10, q_st_ne _ _ (by omega)]; exact hun t (by omega), by rw [e11, uL_s32]; omega, ?_⟩ ?_
    · rw [e11, uL_s32, vO_s, vO_s, vU_s, vO_congr (σ := σ10) (σ' := τ) (a' := G.2.1 h0 2) (p' := j) (fun t ht => by rw [e10, q_st_ne _ _ (by omega)])]
      have hlast : uI (σ10 (G.2.1 h0 2) (j + i)) = uL v8 % 4294967296 := by rw [e10, q_st_self, uI_low]
      have hcs := carry_step 4294967296 (uL v8) (4294967296 ^ i)
      rw [← Nat.pow_succ] at hcs
      rw [hlast, Nat.add_assoc, hcs, hs, Nat.add_mul, Nat.add_mul]
      omega
    · show n - v12.toNatClampNeg < n - (nI i).toNatClampNeg
      rw [e12, nI_1, nI_clamp (by omega), nI_clamp (by omega)]
      omega
theorem wl_takeProduct {G : qG} {h0 j n : Nat} {x1 : Int64} {σ : qS} {post : Int32 → qS → Prop} (hne : G.2.1 h0 2 ≠ G.2.1 h0 3) (ho : j + n < G.2.2 (G.2.1 h0 2)) (ho2 : G.2.2 (G.2.1 h0 2) < 100000) (hu : n ≤ G.2.2 (G.2.1 h0 3)) (hu2 : G.2.2 (G.2.1 h0 3) < 100000) (hx1 : uL x1 < 4294967296)
    (k : ∀ (r : Int32) (σ' : qS) (cy : Nat), (∀ b, b ≠ G.2.1 h0 2 → σ' b = σ b) → (∀ i, (i < j ∨ j + n ≤ i) → σ' (G.2.1 h0 2) i = σ (G.2.1 h0 2) i) → vO σ' (G.2.1 h0 2) j n + uL x1 * vU σ (G.2.1 h0 3) n = vO σ (G.2.1 h0 2) j n + cy * 4294967296 ^ n → (r = 0 ∧ cy ≤ uI (σ (G.2.1 h0 2) (j + n)) ∨ r = 1 ∧ uI (σ (G.2.1 h0 2) (j + n)) < cy) → post r σ') : wpX0_takeProduct G h0 x1 (nI j) (nI n) σ post := by
  unfold wpX0_takeProduct
  intro v1 e1 v2 e2
  refine lp3 (W := fun m x5 x7 τ => lpX0_takeProduct_6 G h0 x1 (nI j) (nI n) post _ m x5 x7 τ) (I := fun x5 x7 τ => ∃ i, i ≤ n ∧ x7 = nI i ∧ (∀ b, b ≠ G.2.1 h0 2 → τ b = σ b) ∧ (∀ t, (t < j ∨ j + i ≤ t) → τ (G.2.1 h0 2) t = σ (G.2.1 h0 2) t) ∧ uL x5 < 4294967296 ∧ vO τ (G.2.1 h0 2) j i + uL x1 * vU σ (G.2.1 h0 3) i = vO σ (G.2.1 h0 2) j i + uL x5 * 4294967296 ^ i) (μ := fun _ x7 _ => n - x7.toNatClampNeg) ?_ v1 v2 σ ⟨0, Nat.zero_le _, by rw [e2]; rfl, fun _ _ => rfl, fun _ _ => rfl, by rw [e1]; decide, by rw [e1]; rfl⟩
  intro m x5 x7 τ hI ih
  obtain ⟨i, hi, rfl, hf, hun, hx, hv⟩ := hI
  show lpX0_takeProduct_6 G h0 x1 (nI j) (nI n) post _ (m + 1) _ _ _
  unfold lpX0_takeProduct_6
  rw [nI_leI (by omega) (by omega)]
  refine ⟨fun h => ?_, fun h => ?_⟩
  · have : i = n := by omega
    subst this
    show vp_in _ _ ∧ _
    rw [nI_add, nI_clamp (by omega), hun _ (by omega)]
    have l1 := uI_lt (σ (G.2.1 h0 2) (j + i))
    rw [lc_ge, uL_lti _ _ (by rw [uL_ext]; omega) (by omega), uL_ext]
    refine ⟨vp_in_nI (by omega) (by omega), fun h3 => k 0 τ (uL x5) hf hun hv (Or.inl ⟨rfl, by omega⟩), fun h3 => k 1 τ (uL x5) hf hun hv (Or.inr ⟨rfl, by omega⟩)⟩
  · rw [nI_add, nI_clamp (by omega), nI_clamp (by omega)]
    refine ⟨vp_in_nI (by omega) (by omega), fun v6 e6 => ⟨vp_in_nI (by omega) (by omega), fun v9 e9 => ⟨vp_in_nI (by omega) (by omega), fun σ11 e11 => ?_⟩⟩⟩
    rw [hf _ (Ne.symm hne)] at e6
    rw [hun _ (by omega)] at e9
    have l1 := uI_lt (σ (G.2.1 h0 2) (j + i))
    have l2 := uI_lt (σ (G.2.1 h0 3) i)
    generalize hu1 : uI (σ (G.2.1 h0 3) i) = u at l2
    generalize ht1 : uI (σ (G.2.1 h0 2) (j + i)) = t at l1
    -- the product has room in a long, and its high half has room for one more
    have hp1 : u * uL x1 ≤ 4294967295 * 4294967295 := Nat.mul_le_mul (by omega) (by omega)
    have h6 : uL v6 = u * uL x1 + uL x5 := by
      rw [e6, uL_add, uL_mul, uL_ext, hu1]; omega
    have h9 : uL v9 = (18446744073709551616 - uL v6 % 4294967296 + t) % 18446744073709551616 := by
      rw [e9, uL_sub, uL_ext, uL_lo, ht1]
    have go : ∀ s1 : Int32, uL s1.toInt64 ≤ 1 → uL v6 / 4294967296 + uL s1.toInt64 < 4294967296 → uL v9 % 4294967296 + uL v6 = t + (uL v6 / 4294967296 + uL s1.toInt64) * 4294967296 → bkX0_takeProduct_84 G h0 x1 (nI j) (nI n) (nI i) ((v6.toUInt64 >>> ((32 : Int32).toInt64.toUInt64 &&& Int64.toUInt64 63)).toInt64) s1 post (lpX0_takeProduct_6 G h0 x1 (nI j) (nI n) post (fun (w15 : Int64) (σ16 : qS) => vp_in (nI j + nI n) (G.2.2 (G.2.1 h0 2)) ∧ ((0 ≤ (lg_cmp (((σ16 (G.2.1 h0 2) (nI j + nI n).toNatClampNeg).toInt64) &&& 4294967295) w15) → post 0 σ16) ∧ (¬ 0 ≤ (lg_cmp (((σ16 (G.2.1 h0 2) (nI j + nI n).toNatClampNeg).toInt64) &&& 4294967295) w15) → post 1 σ16))) m) σ11 := by
      intro s1 hs1 hlt heq v13 e13 v14 e14
      have h13 : uL v13 = uL v6 / 4294967296 + uL s1.toInt64 := by rw [e13, uL_add, uL_s32]; omega
      refine ih v13 v14 σ11 ⟨i + 1, by omega, by rw [e14, nI_1], fun b hb => by rw [e11, q_st_a _ _ hb, hf b hb], fun q hq => by rw [e11, q_st_ne _ _ (by omega)]; exact hun q (by omega), by omega, ?_⟩ ?_
      · rw [h13, vO_s, vO_s, vU_s, vO_congr (σ := σ11) (σ' := τ) (a' := G.2.1 h0 2) (p' := j) (fun q hq => by rw [e11, q_st_ne _ _ (by omega)]), hu1, ht1]
        have hlast : uI (σ11 (G.2.1 h0 2) (j + i)) = uL v9 % 4294967296 := by rw [e11, q_st_self, uI_low]
        have hm := congrArg (fun z => z * 4294967296 ^ i) heq
        simp only [Nat.add_mul, h6] at hm
        rw [hlast, Nat.mul_add, Nat.pow_succ, Nat.mul_comm (4294967296 ^ i) 4294967296, ← Nat.mul_assoc, h6, ← Nat.mul_assoc, Nat.mul_comm (uL x1) u]
        simp only [Nat.add_mul]
        omega
      · show n - v14.toNatClampNeg < n - (nI i).toNatClampNeg
        rw [e14, nI_1, nI_clamp (by omega), nI_clamp (by omega)]
        omega
    rw [lc_ge, uL_neg]
    have s0 : uL (0 : Int32).toInt64 = 0 := by decide
    have s1 : uL (1 : Int32).toInt64 = 1 := by decide
    refine ⟨fun h3 => go 0 (by rw [s0]; omega) (by rw [s0]; omega) (by rw [s0]; omega), fun h3 => go 1 (by rw [s1]; omega) (by rw [s1]; omega) (by rw [s1]; omega)⟩

/-! Pure level: shifts down, scaling, division by a small number. -/
theorem nv_shr {r : Nat} (hr : r ≤ 32) : ∀ (q : Nat) (d : Nat → Nat), (∀ j, j < q → d j < 4294967296) → nv 4294967296 (fun i => ((if i + 1 < q then d (i + 1) else 0) * 4294967296 + d i) / 2 ^ r % 4294967296) q = nv 4294967296 d q / 2 ^ r
  | 0, d, _ => by simp [nv]
  | q + 1, d, hd => by
    have ih := nv_shr hr q (fun i => d (i + 1)) (fun j hj => hd (j + 1) (by omega))
    have hP := Nat.two_pow_pos r
    rw [nv_low, nv_low]
    have e1 : nv 4294967296 (fun i => ((if i + 1 + 1 < q + 1 then d (i + 1 + 1) else 0) * 4294967296 + d (i + 1)) / 2 ^ r % 4294967296) q = nv 4294967296 (fun i => d (i + 1)) q / 2 ^ r := by
      rw [← ih]
      refine nv_congr (fun i _ => ?_)
      simp only [Nat.add_lt_add_iff_right]
    rw [e1]
    have h0 : d 0 < 4294967296 := hd 0 (by omega)
    generalize hV' : nv 4294967296 (fun i => d (i + 1)) q = V'
    have hdig : V' % 4294967296 = (if 0 + 1 < q + 1 then d (0 + 1) else 0) := by
      rw [← hV']
      cases q with
      | zero => rfl
      | succ q =>
        rw [nv_low, Nat.add_mul_mod_self_left, if_pos (by omega)]
        exact Nat.mod_eq_of_lt (hd 1 (by omega))
    rw [← hdig]
    -- the whole number
    have hX : (V' % 4294967296 * 4294967296 + d 0) / 2 ^ r % 4294967296 = (d 0 + 4294967296 * V') / 2 ^ r % 4294967296 := by
      rw [← Nat.mod_mul_right_div_self, ← Nat.mod_mul_right_div_self]
      congr 1
      have hB : 4294967296 = 2 ^ r * 2 ^ (32 - r) := by rw [← Nat.pow_add, show r + (32 - r) = 32 by omega]
      have hsplit : d 0 + 4294967296 * V' = (V' % 4294967296 * 4294967296 + d 0) + (2 ^ r * 4294967296) * (2 ^ (32 - r) * (V' / 4294967296)) := by
        have h1 := Nat.mod_add_div V' 4294967296
        have h2 : (2 ^ r * 4294967296) * (2 ^ (32 - r) * (V' / 4294967296)) = 4294967296 * (4294967296 * (V' / 4294967296)) := by
          rw [Nat.mul_assoc, Nat.mul_left_comm 4294967296 (2 ^ (32 - r)), ← Nat.mul_assoc (2 ^ r) (2 ^ (32 - r)), ← hB]
        rw [h2]
        generalize V' / 4294967296 = Q at h1
        generalize V' % 4294967296 = M at h1
        rw [← h1, Nat.mul_add]
        omega
      rw [hsplit, Nat.add_mul_mod_self_left]
    have hY : (d 0 + 4294967296 * V') / 2 ^ r / 4294967296 = V' / 2 ^ r := by
      rw [Nat.div_div_eq_div_mul, Nat.mul_comm (2 ^ r) 4294967296, ← Nat.div_div_eq_div_mul, Nat.add_mul_div_left _ _ (show 0 < 4294967296 by decide), Nat.div_eq_of_lt h0, Nat.zero_add]
    rw [hX, ← hY]
    exact Nat.mod_add_div _ _
theorem wl_shiftDown {G : qG} {h0 h1 p q r : Nat} {σ : qS} {post : qS → Prop} (hw : wFix G h0) (hd : h1 ≠ (G.2.1 h0 0)) (hp : p + q ≤ G.2.2 h1) (hp2 : G.2.2 h1 < 100000) (hq : q ≤ G.2.2 ((G.2.1 h0 0))) (hr : r < 32)
    (k : ∀ σ' : qS, (∀ b, b ≠ (G.2.1 h0 0) → σ' b = σ b) → vU σ' ((G.2.1 h0 0)) q = vO σ h1 p q / 2 ^ r → post σ') : wpX4_shiftDown G h0 h1 (nI p) (nI q) (nI r) σ post := by
  have hc := hw.2
  unfold wpX4_shiftDown
  intro v1 e1 v2 e2
  refine lp3 (W := fun m x5 x7 τ => lpX4_shiftDown_8 G h0 h1 (nI p) (nI r) post _ m x5 x7 τ) (I := fun x5 x7 τ => ∃ i, i ≤ q ∧ x7 = nI i - 1 ∧ (∀ b, b ≠ (G.2.1 h0 0) → τ b = σ b) ∧ uL x5 = (if i < q then uI (σ h1 (p + i)) else 0) ∧ ∀ j, i ≤ j → j < q → uI (τ ((G.2.1 h0 0)) j) = ((if j + 1 < q then uI (σ h1 (p + (j + 1))) else 0) * 4294967296 + uI (σ h1 (p + j))) / 2 ^ r % 4294967296) (μ := fun _ x7 _ => (x7 + 1).toNatClampNeg) ?_ v1 v2 σ ⟨q, Nat.le_refl _, e2, fun _ _ => rfl, by rw [e1, if_neg (Nat.lt_irrefl _)]; rfl, fun j h1 h2 => absurd h1 (by omega)⟩
  intro m x5 x7 τ hI ih
  obtain ⟨i, hi, rfl, hf, hx, hv⟩ := hI
  show lpX4_shiftDown_8 G h0 h1 (nI p) (nI r) post _ (m + 1) _ _ _
  unfold lpX4_shiftDown_8
  rw [nI_m1neg (by omega)]
  refine ⟨fun h => ?_, fun h => ?_⟩
  · subst h
    refine k τ hf ?_
    unfold vU vO
    rw [← nv_shr (by omega) q (fun i => uI (σ h1 (p + i))) (fun j _ => uI_lt _)]
    exact nv_congr (fun j hj => hv j (Nat.zero_le _) hj)
  · obtain ⟨i', rfl⟩ : ∃ i', i = i' + 1 := ⟨i - 1, by omega⟩
    rw [nI_pred, nI_add]
    refine ⟨vp_in_nI (by omega) (by omega), fun v5 e5 => ⟨vp_lm (by omega) (by omega), fun σ8 e8 v9 e9 => ?_⟩⟩
    rw [nI_clamp (by omega), hf _ hd] at e5
    rw [nI_clamp (by omega)] at e8
    have h5 : uL v5 = uI (σ h1 (p + i')) := by rw [e5, uL_ext]
    have hx5 : uL x5 < 4294967296 := by
      rw [hx]
      split
      · exact uI_lt _
      · decide
    refine ih v5 v9 σ8 ⟨i', by omega, by rw [e9, i32_m1], fun b hb => by rw [e8, q_st_a _ _ hb, hf b hb], by rw [h5, if_pos (by omega)], fun j g1 g2 => ?_⟩ ?_
    · rcases Nat.lt_or_ge i' j with g3 | g3
      · rw [e8, q_st_ne _ _ (by omega)]; exact hv j (by omega) g2
      · have : j = i' := by omega
        subst this
        rw [e8, q_st_self, uI_low, uL_srr _ (by omega), uL_two _ _ hx5 (by rw [h5]; exact uI_lt _), h5, hx]
    · show (v9 + 1).toNatClampNeg < (nI (i' + 1) - 1 + 1).toNatClampNeg
      rw [e9, i32_m1, i32_mp, i32_mp, nI_clamp (by omega), nI_clamp (by omega)]
      omega
theorem mask_k : ∀ r, r < 32 → (((1 : Int32) <<< (nI r &&& 31)) - 1).toBitVec.toNat = 2 ^ r - 1 := by decide
theorem mod_ne {N a b : Nat} (h : a ∣ b) (h1 : N % a ≠ 0) : N % b ≠ 0 := fun z => h1 (by
  have := Nat.dvd_of_mod_eq_zero z
  exact Nat.mod_eq_zero_of_dvd (Nat.dvd_trans h this))
theorem wl_hasOneBelow {G : qG} {h0 c n : Nat} {σ : qS} {post : Int32 → qS → Prop} (hw : wFix G h0) (ho : wOk G σ h0 c) (hn : n < 2 ^ 31) (k0 : wN G σ h0 c % 2 ^ n = 0 → post 0 σ) (k1 : wN G σ h0 c % 2 ^ n ≠ 0 → post 1 σ) : wpX4_hasOneBelow G h0 (nI n) σ post := by
  obtain ⟨a1, a2, a3, a4, a5⟩ := id ho
  have hc := hw.2
  have ediv : nI n / 32 = nI (n / 32) := pk_div (a := n) (d := 32) hn (by decide) (by decide)
  have erem : nI n - nI n / 32 * 32 = nI (n % 32) := pk_rem (a := n) (d := 32) hn (by decide) (by decide)
  unfold wpX4_hasOneBelow
  intro v1 e1 v2 e2
  generalize hm : min (n / 32) c = w
  have ev1 : v1 = nI w := by
    rw [e1, a1, ediv]
    by_cases h : c < n / 32
    · rw [if_pos ((nI_ltI (by omega) (by omega)).mpr h)]; congr 1; omega
    · rw [if_neg (fun z => h ((nI_ltI (by omega) (by omega)).mp z))]; congr 1; omega
  subst ev1
  refine lp1 (W := fun m x3 => lpX4_hasOneBelow_14 G h0 (nI n) (nI w) post _ _ m x3 σ) (I := fun x3 => ∃ i, i ≤ w ∧ x3 = nI i ∧ ∀ j, j < i → σ ((G.2.1 h0 0)) j = 0) (μ := fun x3 => w - x3.toNatClampNeg) ?_ v2 ⟨0, Nat.zero_le _, by rw [e2]; rfl, fun j hj => absurd hj (by omega)⟩
  intro m x3 hI ih
  obtain ⟨i, hi, rfl, hz⟩ := hI
  show lpX4_hasOneBelow_14 G h0 (nI n) (nI w) post _ _ (m + 1) _ σ
  unfold lpX4_hasOneBelow_14
  rw [nI_leI (by omega) (by omega)]
  refine ⟨fun h => ?_, fun h => ⟨vp_lm (by omega) (by omega), fun h2 v7 e7 => ?_, fun h2 => ?_⟩⟩
  · have hiw : i = w := by omega
    subst hiw
    rw [a1, nI_leI (by omega) (by omega)]
    have hlow : vU σ ((G.2.1 h0 0)) i = 0 := nv_zero (fun j hj => by unfold dg; rw [hz j hj]; rfl)
    refine ⟨fun h3 => k0 ?_, fun h3 => ⟨vp_lm (by omega) (by omega), ?_⟩⟩
    · have : wN G σ h0 c = 0 := by
        unfold wN
        rw [show c = i by omega]; exact hlow
      rw [this]; exact Nat.zero_mod _
    · rw [nI_clamp (by omega), erem, pk_and _ (n % 32) (mask_k _ (Nat.mod_lt _ (by decide)))]
      have hin : i = n / 32 := by omega
      have hl2 : (σ ((G.2.1 h0 0)) i).toBitVec.toNat = uI (σ ((G.2.1 h0 0)) i) := rfl
      rw [hl2]
      have hval : wN G σ h0 c % 2 ^ n = 4294967296 ^ i * (uI (σ ((G.2.1 h0 0)) i) % 2 ^ (n % 32)) := by
        have e3 : wN G σ h0 c = 4294967296 ^ i * vO σ ((G.2.1 h0 0)) i (c - i) := by
          unfold wN
          have := vU_add σ ((G.2.1 h0 0)) i (c - i)
          rw [show i + (c - i) = c by omega, hlow, Nat.zero_add] at this
          exact this
        have e4 : 2 ^ n = 4294967296 ^ i * 2 ^ (n % 32) := by
          rw [pow32, ← Nat.pow_add]; congr 1; omega
        have e5 : vO σ ((G.2.1 h0 0)) i (c - i) % 2 ^ (n % 32) = uI (σ ((G.2.1 h0 0)) i) % 2 ^ (n % 32) := by
          obtain ⟨t, ht⟩ : ∃ t, c - i = t + 1 := ⟨c - i - 1, by omega⟩
          unfold vO
          rw [ht, nv_low]
          have hB : 4294967296 = 2 ^ (n % 32) * 2 ^ (32 - n % 32) := by rw [← Nat.pow_add, show n % 32 + (32 - n % 32) = 32 by omega]
          rw [show (4294967296 : Nat) * nv 4294967296 (fun i_1 => uI (σ ((G.2.1 h0 0)) (i + (i_1 + 1)))) t = 2 ^ (n % 32) * (2 ^ (32 - n % 32) * nv 4294967296 (fun i_1 => uI (σ ((G.2.1 h0 0)) (i + (i_1 + 1)))) t) by rw [← Nat.mul_assoc, ← hB], Nat.add_mul_mod_self_left, Nat.add_zero]
        rw [e3, e4, Nat.mul_mod_mul_left, e5]
      have hmz : nI (uI (σ ((G.2.1 h0 0)) i) % 2 ^ (n % 32)) = 0 ↔ uI (σ ((G.2.1 h0 0)) i) % 2 ^ (n % 32) = 0 := by
        have hlt := uI_lt (σ ((G.2.1 h0 0)) i)
        have hle := Nat.mod_le (uI (σ ((G.2.1 h0 0)) i)) (2 ^ (n % 32))
        rw [uI_eq0, uI_nI, Nat.mod_eq_of_lt (by omega)]
      rw [hmz]
      have hpos : 0 < 4294967296 ^ i := Nat.pow_pos (by decide)
      refine ⟨fun h4 => k0 (by rw [hval, h4, Nat.mul_zero]), fun h4 => k1 ?_⟩
      rw [hval]
      exact Nat.mul_ne_zero (by omega) h4
  · rw [nI_clamp (by omega)] at h2
    refine ih v7 ⟨i + 1, by omega, by rw [e7, nI_1], fun j hj => ?_⟩ ?_
    · rcases Nat.lt_or_ge j i with g | g
      · exact hz j g
      · rw [show j = i by omega]; exact h2
    · show w - v7.toNatClampNeg < w - (nI i).toNatClampNeg
      rw [e7, nI_1, nI_clamp (by omega), nI_clamp (by omega)]
      omega
  · rw [nI_clamp (by omega), uI_eq0] at h2
    refine k1 ?_
    have hlow : vU σ ((G.2.1 h0 0)) i = 0 := nv_zero (fun j hj => by unfold dg; rw [hz j hj]; rfl)
    have hdvd : 4294967296 ^ (i + 1) ∣ 2 ^ n := by rw [pow32]; exact Nat.pow_dvd_pow 2 (by omega)
    refine mod_ne hdvd ?_
    have e3 : wN G σ h0 c = vU σ ((G.2.1 h0 0)) (i + 1) + 4294967296 ^ (i + 1) * vO σ ((G.2.1 h0 0)) (i + 1) (c - (i + 1)) := by
      unfold wN
      have := vU_add σ ((G.2.1 h0 0)) (i + 1) (c - (i + 1))
      rw [show i + 1 + (c - (i + 1)) = c by omega] at this
      exact this
    rw [e3, Nat.add_mul_mod_self_left, Nat.mod_eq_of_lt (vU_lt _ _ _), vU_s, hlow, Nat.zero_add]
    have hpos : 0 < 4294967296 ^ i := Nat.pow_pos (by decide)
    exact Nat.mul_ne_zero h2 (by omega)

/-! Pure level: Whole, sizes compared, added, taken away. -/
theorem i32_m1 (x : Int32) : x + (-1) = x - 1 := (Int32.sub_eq_add_neg (a := x) (b := 1)).symm
theorem i32_mp (x : Int32) : x - 1 + 1 = x := Int32.sub_add_cancel x 1
theorem nI_m1neg {i : Nat} (h : i < 2 ^ 31) : nI i - 1 < 0 ↔ i = 0 := by
  constructor
  · intro h1
    rcases Nat.eq_zero_or_pos i with h2 | h2
    · exact h2
    · rw [nI_m1 h2] at h1
      exact absurd h1 (nI_pos (by omega))
  · intro h1; subst h1; decide
/-- the limbs up to a count, and 0 behind them -/
def dgc (σ : qS) (a c : Nat) : Nat → Nat := fun i => if i < c then dg σ a i else 0
theorem dgc_lt (σ : qS) (a c i : Nat) : dgc σ a c i < 4294967296 := by
  unfold dgc
  split
  · exact dg_lt _ _ _
  · decide
theorem nv_dgc (σ : qS) (a c : Nat) {n : Nat} (h : c ≤ n) : nv 4294967296 (dgc σ a c) n = vU σ a c := by
  rw [nv_trim h (fun j h1 _ => by simp only [dgc, if_neg (by omega : ¬ j < c)])]
  exact nv_congr (fun i hi => by simp only [dgc, if_pos hi])
theorem wl_compareSize {G : qG} {h0 h1 c0 c1 : Nat} {σ : qS} {post : Int32 → qS → Prop} (hw0 : wFix G h0) (hw1 : wFix G h1) (ho0 : wOk G σ h0 c0) (ho1 : wOk G σ h1 c1)
    (k : ∀ r : Int32, ((wN G σ h0 c0 < wN G σ h1 c1 ∧ r = -1) ∨ (wN G σ h0 c0 = wN G σ h1 c1 ∧ r = 0) ∨ (wN G σ h1 c1 < wN G σ h0 c0 ∧ r = 1)) → post r σ) : wpX4_compareSize G h0 h1 σ post := by
  obtain ⟨a1, a2, -, -, a5⟩ := ho0
  obtain ⟨b1, b2, -, -, b5⟩ := ho1
  have hc0 := hw0.2
  have hc1 := hw1.2
  unfold wpX4_compareSize
  rw [a1, b1]
  refine ⟨fun he v2 e2 => ?_, fun hne => ?_⟩
  · rw [nI_eq (by omega) (by omega)] at he
    subst he
    refine lp1 (W := fun m x => lpX4_compareSize_35 G h0 h1 post _ _ m x σ) (I := fun x => ∃ i, i ≤ c0 ∧ x = nI i - 1 ∧ ∀ j, i ≤ j → j < c0 → σ ((G.2.1 h0 0)) j = σ ((G.2.1 h1 0)) j) (μ := fun x => (x + 1).toNatClampNeg) ?_ v2 ⟨c0, Nat.le_refl _, e2, fun j h1 h2 => absurd h1 (by omega)⟩
    intro m x hI ih
    obtain ⟨i, hi, rfl, hs⟩ := hI
    show lpX4_compareSize_35 G h0 h1 post _ _ (m + 1) _ σ
    unfold lpX4_compareSize_35
    refine ⟨fun hx => ?_, fun hx => ?_⟩
    · have hi0 := (nI_m1neg (by omega)).mp hx
      subst hi0
      exact k 0 (Or.inr (Or.inl ⟨vU_congr (fun j hj => hs j (Nat.zero_le _) hj), rfl⟩))
    · have hip : i ≠ 0 := fun z => hx ((nI_m1neg (by omega)).mpr z)
      obtain ⟨i', rfl⟩ : ∃ i', i = i' + 1 := ⟨i - 1, by omega⟩
      rw [nI_pred, nI_clamp (by omega)]
      refine ⟨vp_lm (by omega) (by omega), vp_lm (by omega) (by omega), fun hq v9 e9 => ?_, fun hq => ?_⟩
      · refine ih v9 ⟨i', by omega, by rw [e9, i32_m1], fun j h3 h4 => ?_⟩ ?_
        · rcases Nat.lt_or_ge i' j with h5 | h5
          · exact hs j (by omega) h4
          · rw [show j = i' by omega]; exact hq
        · show (v9 + 1).toNatClampNeg < (nI (i' + 1) - 1 + 1).toNatClampNeg
          rw [e9, i32_m1, i32_mp, i32_mp, nI_clamp (by omega), nI_clamp (by omega)]
          omega
      · refine ⟨vp_lm (by omega) (by omega), vp_lm (by omega) (by omega), fun h3 => ?_, fun h3 => ?_⟩
        · rw [lc_ge, uL_lti _ _ (by rw [uL_ext]; have := uI_lt (σ ((G.2.1 h0 0)) i'); omega) (by rw [uL_ext]; have := uI_lt (σ ((G.2.1 h1 0)) i'); omega), uL_ext, uL_ext] at h3
          refine k 1 (Or.inr (Or.inr ⟨?_, rfl⟩))
          have hq2 : uI (σ ((G.2.1 h1 0)) i') ≠ uI (σ ((G.2.1 h0 0)) i') := fun z => hq (uI_inj z.symm)
          exact nv_lt_at (by decide) (i := i') (by omega) (fun j h4 h5 => by simp only [dg, hs j (by omega) h5]) (show uI (σ ((G.2.1 h1 0)) i') < uI (σ ((G.2.1 h0 0)) i') by omega) (fun j _ => dg_lt _ _ _)
        · rw [lc_ge, Decidable.not_not, uL_lti _ _ (by rw [uL_ext]; have := uI_lt (σ ((G.2.1 h0 0)) i'); omega) (by rw [uL_ext]; have := uI_lt (σ ((G.2.1 h1 0)) i'); omega), uL_ext, uL_ext] at h3
          refine k (-1) (Or.inl ⟨?_, rfl⟩)
          exact nv_lt_at (by decide) (i := i') (by omega) (fun j h4 h5 => by simp only [dg, hs j (by omega) h5]) h3 (fun j _ => dg_lt _ _ _)
  · have hne' : c0 ≠ c1 := fun z => hne (by rw [z])
    refine ⟨fun h3 => ?_, fun h3 => ?_⟩
    · rw [nI_leI (by omega) (by omega)] at h3
      exact k 1 (Or.inr (Or.inr ⟨vU_lt_of_count (by omega) a5, rfl⟩))
    · rw [nI_leI (by omega) (by omega)] at h3
      exact k (-1) (Or.inl ⟨vU_lt_of_count (by omega) b5, rfl⟩)
theorem wl_limbOrZero {G : qG} {h0 c i : Nat} {σ : qS} {post : Int64 → qS → Prop} (hw : wFix G h0) (h1 : σ h0 1 = nI c) (h2 : c ≤ G.2.2 ((G.2.1 h0 0))) (hi : i < 2 ^ 31) (k : ∀ v : Int64, uL v = dgc σ ((G.2.1 h0 0)) c i → post v σ) : wpX4_limbOrZero G h0 (nI i) σ post := by
  have hc := hw.2
  unfold wpX4_limbOrZero
  rw [h1, nI_leI (by omega) hi]
  refine ⟨fun h => k 0 ?_, fun h => ⟨vp_lm (by omega) (by omega), k _ ?_⟩⟩
  · simp only [dgc, if_neg (by omega : ¬ i < c)]; rfl
  · rw [uL_ext, nI_clamp hi]
    simp only [dgc, if_pos (by omega : i < c), dg]
theorem carry_step (B s P : Nat) : s % B * P + s / B * (P * B) = s * P := by
  rw [Nat.mul_comm P B, ← Nat.mul_assoc, ← Nat.add_mul, Nat.mul_comm (s / B) B, Nat.mod_add_div]
theorem wl_addSizes {G : qG} {h0 h1 h2 c1 c2 : Nat} {σ : qS} {post : qS → Prop} (hw0 : wFix G h0) (hw1 : wFix G h1) (hw2 : wFix G h2) (ho1 : wOk G σ h1 c1) (ho2 : wOk G σ h2 c2) (hd1 : (G.2.1 h0 0) ≠ (G.2.1 h1 0)) (hd2 : (G.2.1 h0 0) ≠ (G.2.1 h2 0)) (he1 : (G.2.1 h0 0) ≠ h1) (he2 : (G.2.1 h0 0) ≠ h2) (hr : max c1 c2 + 1 ≤ G.2.2 ((G.2.1 h0 0)))
    (k : ∀ σ' : qS, (∀ b, b ≠ (G.2.1 h0 0) → σ' b = σ b) → vU σ' ((G.2.1 h0 0)) (max c1 c2 + 1) = wN G σ h1 c1 + wN G σ h2 c2 → post σ') : wpX4_addSizes G h0 h1 h2 σ post := by
  obtain ⟨a1, a2, -⟩ := ho1
  obtain ⟨b1, b2, -⟩ := ho2
  have hc0 := hw0.2
  have hc1 := hw1.2
  have hc2 := hw2.2
  unfold wpX4_addSizes
  intro v1 e1 v2 e2 v3 e3
  generalize hn : max c1 c2 = n at hr k
  have hn1 : c1 ≤ n := by omega
  have hn2 : c2 ≤ n := by omega
  have ev1 : v1 = nI n := by
    rw [e1, a1, b1]
    by_cases h : c1 < c2
    · rw [if_pos ((nI_ltI (by omega) (by omega)).mpr h)]
      congr 1; omega
    · rw [if_neg (fun z => h ((nI_ltI (by omega) (by omega)).mp z))]
      congr 1; omega
  subst ev1
  refine lp3 (W := fun m x4 x6 τ => lpX4_addSizes_18 G h0 h1 h2 (nI n) post _ m x4 x6 τ) (I := fun x4 x6 τ => ∃ i, i ≤ n ∧ x6 = nI i ∧ (∀ b, b ≠ (G.2.1 h0 0) → τ b = σ b) ∧ uL x4 ≤ 1 ∧ vU τ ((G.2.1 h0 0)) i + uL x4 * 4294967296 ^ i = nv 4294967296 (dgc σ ((G.2.1 h1 0)) c1) i + nv 4294967296 (dgc σ ((G.2.1 h2 0)) c2) i) (μ := fun _ x6 _ => n - x6.toNatClampNeg) ?_ v2 v3 σ ⟨0, Nat.zero_le _, by rw [e3]; rfl, fun _ _ => rfl, by rw [e2]; decide, by rw [e2]; rfl⟩
  intro m x4 x6 τ hI ih
  obtain ⟨i, hi, rfl, hf, hx4, hv⟩ := hI
  show lpX4_addSizes_18 G h0 h1 h2 (nI n) post _ (m + 1) _ _ _
  unfold lpX4_addSizes_18
  rw [nI_leI (by omega) (by omega)]
  refine ⟨fun hge => ?_, fun hlt => ?_⟩
  · have hin : i = n := by omega
    subst hin
    show vp_in _ _ ∧ _
    refine ⟨vp_lm (by omega) (by omega), fun σ19 e19 => k σ19 (fun b hb => ?_) ?_⟩
    · rw [e19, q_st_a _ _ hb, hf b hb]
    · rw [e19, nI_clamp (by omega)]
      unfold vU
      rw [nv_s, nv_congr (d' := dg τ ((G.2.1 h0 0))) (fun j hj => by simp [dg, q_st, Nat.ne_of_lt hj])]
      have hlast : dg (q_st τ ((G.2.1 h0 0)) i x4.toInt32) ((G.2.1 h0 0)) i = uL x4 := by
        simp only [dg, q_st_self, uI_low]
        exact Nat.mod_eq_of_lt (by omega)
      rw [hlast]
      have := hv
      unfold vU at this
      rw [this, nv_dgc _ _ _ hn1, nv_dgc _ _ _ hn2]
      rfl
  · have hlt' : i < n := by omega
    refine wl_limbOrZero hw1 (by rw [hf _ (Ne.symm he1)]; exact a1) a2 (by omega) (fun u6 hu6 => ?_)
    refine wl_limbOrZero hw2 (by rw [hf _ (Ne.symm he2)]; exact b1) b2 (by omega) (fun u8 hu8 => ?_)
    intro v9 e9
    refine ⟨vp_lm (by omega) (by omega), fun σ12 e12 v13 e13 v14 e14 => ?_⟩
    have hg1 : dgc τ ((G.2.1 h1 0)) c1 i = dgc σ ((G.2.1 h1 0)) c1 i := by simp only [dgc, dg, hf _ (Ne.symm hd1)]
    have hg2 : dgc τ ((G.2.1 h2 0)) c2 i = dgc σ ((G.2.1 h2 0)) c2 i := by simp only [dgc, dg, hf _ (Ne.symm hd2)]
    rw [hg1] at hu6
    rw [hg2] at hu8
    have l1 := dgc_lt σ ((G.2.1 h1 0)) c1 i
    have l2 := dgc_lt σ ((G.2.1 h2 0)) c2 i
    have hs : uL v9 = dgc σ ((G.2.1 h1 0)) c1 i + dgc σ ((G.2.1 h2 0)) c2 i + uL x4 := by
      rw [e9, uL_add, uL_add, hu6, hu8]
      omega
    rw [nI_clamp (by omega)] at e12
    refine ih v13 v14 σ12 ⟨i + 1, by omega, by rw [e14, nI_1], fun b hb => by rw [e12, q_st_a _ _ hb, hf b hb], ?_, ?_⟩ ?_
    · rw [e13, uL_s32]; omega
    · rw [e13, uL_s32, e12]
      unfold vU
      rw [nv_s, nv_congr (d' := dg τ ((G.2.1 h0 0))) (fun j hj => by simp [dg, q_st, Nat.ne_of_lt hj])]
      have hlast : dg (q_st τ ((G.2.1 h0 0)) i v9.toInt32) ((G.2.1 h0 0)) i = uL v9 % 4294967296 := by
        simp only [dg, q_st_self, uI_low]
      rw [hlast, nv_s, nv_s]
      have hcs := carry_step 4294967296 (uL v9) (4294967296 ^ i)
      rw [← Nat.pow_succ] at hcs
      rw [Nat.add_assoc, hcs, hs, Nat.add_mul, Nat.add_mul]
      have hv' : nv 4294967296 (dg τ ((G.2.1 h0 0))) i + uL x4 * 4294967296 ^ i = nv 4294967296 (dgc σ ((G.2.1 h1 0)) c1) i + nv 4294967296 (dgc σ ((G.2.1 h2 0)) c2) i := hv
      omega
    · show n - v14.toNatClampNeg < n - (nI i).toNatClampNeg
      rw [e14, nI_1, nI_clamp (by omega), nI_clamp (by omega)]
      omega

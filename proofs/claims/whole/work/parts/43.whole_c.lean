/-! Pure level: Whole, differences and sums; settle in terms of whole numbers. -/
/-- settle: the row's first n limbs are the number now -/
theorem wl_settleZ {G : qG} {h0 n : Nat} {x2 : Int32} {σ : qS} {post : qS → Prop} (hw : wFix G h0) (hn : n ≤ G.2.2 ((G.2.1 h0 0))) (hx : x2 = 0 ∨ x2 = 1)
    (k : ∀ (c : Nat) (σ' : qS), c ≤ n → (∀ b, b ≠ h0 → σ' b = σ b) → wOk G σ' h0 c → wN G σ' h0 c = vU σ ((G.2.1 h0 0)) n → wZ G σ' h0 c = (if x2 = 1 then -(vU σ ((G.2.1 h0 0)) n : Int) else (vU σ ((G.2.1 h0 0)) n : Int)) → post σ') : wpX4_settle G h0 (nI n) x2 σ post := by
  refine wl_settle hw hn hx (fun c s σ' h1 h2 h3 h4 h5 h6 h7 h8 h9 => ?_)
  have hlm : σ' ((G.2.1 h0 0)) = σ ((G.2.1 h0 0)) := h2 _ hw.1
  have hN : wN G σ' h0 c = vU σ ((G.2.1 h0 0)) n := by
    unfold wN
    rw [vU_trim h1 h8]
    exact vU_congr (fun j _ => by rw [hlm])
  refine k c σ' h1 h2 ⟨h4, Nat.le_trans h1 hn, by rw [h5]; exact h6, fun hc => ?_, fun j hj => by rw [hlm]; exact h9 j hj⟩ hN ?_
  · rw [h5]
    rcases h6 with h | h
    · exact h
    · have := (h7.mp h).2
      omega
  · unfold wZ
    rw [hN, h5]
    by_cases hs : s = 1
    · rw [if_pos hs, if_pos (h7.mp hs).1]
    · rw [if_neg hs]
      by_cases hx2 : x2 = 1
      · have hc0 : c = 0 := by
          rcases Nat.eq_zero_or_pos c with h | h
          · exact h
          · exact absurd (h7.mpr ⟨hx2, h⟩) hs
        have : vU σ ((G.2.1 h0 0)) n = 0 := by rw [vU_trim h1 h8, hc0]; rfl
        rw [if_pos hx2, this]
        rfl
      · rw [if_neg hx2]
theorem wl_subtractSizes {G : qG} {h0 h1 h2 c1 c2 : Nat} {σ : qS} {post : qS → Prop} (hw0 : wFix G h0) (hw1 : wFix G h1) (hw2 : wFix G h2) (ho1 : wOk G σ h1 c1) (ho2 : wOk G σ h2 c2) (hd1 : (G.2.1 h0 0) ≠ (G.2.1 h1 0)) (hd2 : (G.2.1 h0 0) ≠ (G.2.1 h2 0)) (he1 : (G.2.1 h0 0) ≠ h1) (he2 : (G.2.1 h0 0) ≠ h2) (hr : c1 ≤ G.2.2 ((G.2.1 h0 0))) (hle : wN G σ h2 c2 ≤ wN G σ h1 c1)
    (k : ∀ σ' : qS, (∀ b, b ≠ (G.2.1 h0 0) → σ' b = σ b) → vU σ' ((G.2.1 h0 0)) c1 + wN G σ h2 c2 = wN G σ h1 c1 → post σ') : wpX4_subtractSizes G h0 h1 h2 σ post := by
  have ho1' := ho1
  obtain ⟨a1, a2, -⟩ := ho1
  obtain ⟨b1, b2, -, -, b5⟩ := ho2
  have hc0 := hw0.2
  have hc1 := hw1.2
  have hc2 := hw2.2
  have hcc : c2 ≤ c1 := by
    rcases Nat.lt_or_ge c1 c2 with h | h
    · have := vU_lt_of_count (σ := σ) (a := (G.2.1 h1 0)) (σ' := σ) (a' := (G.2.1 h2 0)) h b5
      unfold wN at hle
      omega
    · exact h
  unfold wpX4_subtractSizes
  intro v1 e1 v2 e2
  refine lp3 (W := fun m x3 x5 τ => lpX4_subtractSizes_5 G h0 h1 h2 post _ m x3 x5 τ) (I := fun x3 x5 τ => ∃ i, i ≤ c1 ∧ x5 = nI i ∧ (∀ b, b ≠ (G.2.1 h0 0) → τ b = σ b) ∧ uL x3 ≤ 1 ∧ vU τ ((G.2.1 h0 0)) i + nv 4294967296 (dgc σ ((G.2.1 h2 0)) c2) i = nv 4294967296 (dgc σ ((G.2.1 h1 0)) c1) i + uL x3 * 4294967296 ^ i) (μ := fun _ x5 _ => c1 - x5.toNatClampNeg) ?_ v1 v2 σ ⟨0, Nat.zero_le _, by rw [e2]; rfl, fun _ _ => rfl, by rw [e1]; decide, by rw [e1]; rfl⟩
  intro m x3 x5 τ hI ih
  obtain ⟨i, hi, rfl, hf, hx3, hv⟩ := hI
  show lpX4_subtractSizes_5 G h0 h1 h2 post _ (m + 1) _ _ _
  unfold lpX4_subtractSizes_5
  have ha1 : τ h1 1 = nI c1 := by rw [hf _ (Ne.symm he1)]; exact a1
  have hb1 : τ h2 1 = nI c2 := by rw [hf _ (Ne.symm he2)]; exact b1
  rw [ha1, nI_leI (by omega) (by omega)]
  refine ⟨fun hge => ?_, fun hlt => ?_⟩
  · have hin : i = c1 := by omega
    subst hin
    rw [nv_dgc _ _ _ (Nat.le_refl _), nv_dgc _ _ _ hcc] at hv
    refine k τ hf ?_
    have hl := vU_lt τ ((G.2.1 h0 0)) i
    unfold wN at hle ⊢
    have : uL x3 = 0 := by
      rcases Nat.eq_zero_or_pos (uL x3) with h | h
      · exact h
      · have : uL x3 = 1 := by omega
        rw [this, Nat.one_mul] at hv
        omega
    rw [this, Nat.zero_mul] at hv
    omega
  · have hlt' : i < c1 := by omega
    refine wl_limbOrZero hw1 ha1 a2 (by omega) (fun u5 hu5 => ?_)
    refine wl_limbOrZero hw2 hb1 b2 (by omega) (fun u7 hu7 => ?_)
    intro v8 e8
    refine ⟨vp_lm (by omega) (by omega), fun σ11 e11 => ?_⟩
    have hg1 : dgc τ ((G.2.1 h1 0)) c1 i = dgc σ ((G.2.1 h1 0)) c1 i := by simp only [dgc, dg, hf _ (Ne.symm hd1)]
    have hg2 : dgc τ ((G.2.1 h2 0)) c2 i = dgc σ ((G.2.1 h2 0)) c2 i := by simp only [dgc, dg, hf _ (Ne.symm hd2)]
    rw [hg1] at hu5
    rw [hg2] at hu7
    have l1 := dgc_lt σ ((G.2.1 h1 0)) c1 i
    have l2 := dgc_lt σ ((G.2.1 h2 0)) c2 i
    have hs : uL v8 = (18446744073709551616 + dgc σ ((G.2.1 h1 0)) c1 i - dgc σ ((G.2.1 h2 0)) c2 i - uL x3) % 18446744073709551616 := by
      rw [e8, uL_sub, uL_sub, hu5, hu7]
      omega
    rw [nI_clamp (by omega)] at e11
    -- one step, with the borrow that goes on
    have go : ∀ s0 : Int64, uL s0 ≤ 1 → uL v8 % 4294967296 + dgc σ ((G.2.1 h2 0)) c2 i + uL x3 = dgc σ ((G.2.1 h1 0)) c1 i + uL s0 * 4294967296 → bkX4_subtractSizes_53 G h0 h1 h2 (nI i) s0 post (lpX4_subtractSizes_5 G h0 h1 h2 post (fun (σ14 : qS) => post σ14) m) σ11 := by
      intro s0 hs0 heq v13 e13
      refine ih s0 v13 σ11 ⟨i + 1, by omega, by rw [e13, nI_1], fun b hb => by rw [e11, q_st_a _ _ hb, hf b hb], hs0, ?_⟩ ?_
      · rw [e11]
        unfold vU
        rw [nv_s, nv_congr (d' := dg τ ((G.2.1 h0 0))) (fun j hj => by simp [dg, q_st, Nat.ne_of_lt hj])]
        have hlast : dg (q_st τ ((G.2.1 h0 0)) i v8.toInt32) ((G.2.1 h0 0)) i = uL v8 % 4294967296 := by
          simp only [dg, q_st_self, uI_low]
        rw [hlast, nv_s, nv_s, Nat.pow_succ, Nat.mul_comm (4294967296 ^ i) 4294967296, ← Nat.mul_assoc]
        have hv' : nv 4294967296 (dg τ ((G.2.1 h0 0))) i + nv 4294967296 (dgc σ ((G.2.1 h2 0)) c2) i = nv 4294967296 (dgc σ ((G.2.1 h1 0)) c1) i + uL x3 * 4294967296 ^ i := hv
        have hm := congrArg (fun z => z * 4294967296 ^ i) heq
        simp only [Nat.add_mul] at hm
        omega
      · show c1 - v13.toNatClampNeg < c1 - (nI i).toNatClampNeg
        rw [e13, nI_1, nI_clamp (by omega), nI_clamp (by omega)]
        omega
    rw [lc_ge, uL_neg]
    refine ⟨fun h => go 0 (by decide) ?_, fun h => go 1 (by decide) ?_⟩
    · show _ = _ + 0 * 4294967296
      omega
    · show _ = _ + 1 * 4294967296
      omega
/-- the number of limbs says how large the number is -/
theorem wOk_count {G : qG} {σ : qS} {h c w : Nat} (ho : wOk G σ h c) : c ≤ w ↔ wN G σ h c < 4294967296 ^ w := by
  obtain ⟨-, -, -, -, ht⟩ := ho
  constructor
  · intro hc
    exact Nat.lt_of_lt_of_le (vU_lt σ ((G.2.1 h 0)) c) (Nat.pow_le_pow_right (by decide) hc)
  · intro hlt
    rcases Nat.lt_or_ge w c with h1 | h1
    · obtain ⟨j, rfl⟩ : ∃ j, c = j + 1 := ⟨c - 1, by omega⟩
      have h2 : 4294967296 ^ j ≤ wN G σ h (j + 1) := nv_ge (by
        have := ht j rfl
        rw [Ne, uI_eq0] at this
        exact Nat.pos_of_ne_zero this)
      have h3 : 4294967296 ^ w ≤ 4294967296 ^ j := Nat.pow_le_pow_right (by decide) (by omega)
      omega
    · exact h1
theorem wl_becomeSum {G : qG} {h0 h1 h2 c1 c2 : Nat} {x3 : Int32} {σ : qS} {post : qS → Prop} (hw0 : wFix G h0) (hw1 : wFix G h1) (hw2 : wFix G h2) (ho1 : wOk G σ h1 c1) (ho2 : wOk G σ h2 c2) (hx3 : x3 = 0 ∨ x3 = 1) (hd1 : (G.2.1 h0 0) ≠ (G.2.1 h1 0)) (hd2 : (G.2.1 h0 0) ≠ (G.2.1 h2 0)) (he1 : (G.2.1 h0 0) ≠ h1) (he2 : (G.2.1 h0 0) ≠ h2) (hr : max c1 c2 ≤ G.2.2 ((G.2.1 h0 0))) (hr1 : σ h1 2 = x3 → max c1 c2 + 1 ≤ G.2.2 ((G.2.1 h0 0)))
    (k : ∀ (c : Nat) (σ' : qS), (∀ b, b ≠ h0 → b ≠ (G.2.1 h0 0) → σ' b = σ b) → wOk G σ' h0 c → wZ G σ' h0 c = wZ G σ h1 c1 + (if x3 = 1 then -(wN G σ h2 c2 : Int) else (wN G σ h2 c2 : Int)) → post σ') : wpX4_becomeSum G h0 h1 h2 x3 σ post := by
  obtain ⟨a1, a2, a3, -⟩ := id ho1
  obtain ⟨b1, b2, -⟩ := id ho2
  have hc0 := hw0.2
  have hc1 := hw1.2
  have hc2 := hw2.2
  unfold wpX4_becomeSum
  refine ⟨fun hs => ?_, fun hs => ?_⟩
  · refine wl_addSizes hw0 hw1 hw2 ho1 ho2 hd1 hd2 he1 he2 (hr1 hs) (fun σ13 hf hv => ?_)
    have hmx : (if σ13 h1 1 < σ13 h2 1 then σ13 h2 1 else σ13 h1 1) + 1 = nI (max c1 c2 + 1) := by
      rw [hf _ (Ne.symm he1), hf _ (Ne.symm he2), a1, b1]
      by_cases h : c1 < c2
      · rw [if_pos ((nI_ltI (by omega) (by omega)).mpr h), nI_1]
        congr 1; omega
      · rw [if_neg (fun z => h ((nI_ltI (by omega) (by omega)).mp z)), nI_1]
        congr 1; omega
    rw [hmx]
    refine wl_settleZ hw0 (hr1 hs) hx3 (fun c σ15 g1 g2 g3 g4 g5 => k c σ15 (fun b hb hb2 => by rw [g2 b hb, hf b hb2]) g3 ?_)
    rw [g5, hv]
    unfold wZ
    rw [hs]
    by_cases hx : x3 = 1
    · rw [if_pos hx, if_pos hx, if_pos hx]; omega
    · rw [if_neg hx, if_neg hx, if_neg hx]; omega
  · refine wl_compareSize hw1 hw2 ho1 ho2 (fun r hr3 => ?_)
    have hsg : σ h1 2 = 1 ↔ ¬ x3 = 1 := by
      rcases a3 with h | h <;> rcases hx3 with h' | h' <;> rw [h] at hs ⊢ <;> rw [h'] at hs ⊢ <;> first | exact absurd rfl hs | decide
    refine ⟨fun hneg => ?_, fun hneg => ?_⟩
    · have hlt : wN G σ h1 c1 < wN G σ h2 c2 := by
        rcases hr3 with ⟨h, -⟩ | ⟨-, h⟩ | ⟨-, h⟩
        · exact h
        · rw [h] at hneg; exact absurd hneg (by decide)
        · rw [h] at hneg; exact absurd hneg (by decide)
      refine wl_subtractSizes hw0 hw2 hw1 ho2 ho1 hd2 hd1 he2 he1 (by omega) (by omega) (fun σ5 hf hv => ?_)
      rw [hf _ (Ne.symm he2), b1]
      refine wl_settleZ hw0 (by omega) hx3 (fun c σ7 g1 g2 g3 g4 g5 => k c σ7 (fun b hb hb2 => by rw [g2 b hb, hf b hb2]) g3 ?_)
      rw [g5]
      unfold wZ
      by_cases hx : x3 = 1
      · rw [if_pos hx, if_pos hx, if_neg (fun z => (hsg.mp z) hx)]; omega
      · rw [if_neg hx, if_neg hx, if_pos (hsg.mpr hx)]; omega
    · have hge : wN G σ h2 c2 ≤ wN G σ h1 c1 := by
        rcases hr3 with ⟨-, h⟩ | ⟨h, -⟩ | ⟨h, -⟩
        · rw [h] at hneg; exact absurd (by decide) hneg
        · omega
        · omega
      refine wl_subtractSizes hw0 hw1 hw2 ho1 ho2 hd1 hd2 he1 he2 (by omega) hge (fun σ9 hf hv => ?_)
      rw [hf _ (Ne.symm he1), a1]
      refine wl_settleZ hw0 (by omega) a3 (fun c σ11 g1 g2 g3 g4 g5 => k c σ11 (fun b hb hb2 => by rw [g2 b hb, hf b hb2]) g3 ?_)
      rw [g5]
      unfold wZ
      by_cases hx : x3 = 1
      · rw [if_neg (fun z => (hsg.mp z) hx), if_neg (fun z => (hsg.mp z) hx), if_pos hx]; omega
      · rw [if_pos (hsg.mpr hx), if_pos (hsg.mpr hx), if_neg hx]; omega

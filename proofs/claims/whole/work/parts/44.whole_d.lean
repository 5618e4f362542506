/-! Pure level: Whole, what becomes what. -/
theorem clamp0 : (0 : Int32).toNatClampNeg = 0 := by decide
theorem clamp1 : (1 : Int32).toNatClampNeg = 1 := by decide
theorem wl_become {G : qG} {h0 h1 c : Nat} {σ : qS} {post : qS → Prop} (hw0 : wFix G h0) (hw1 : wFix G h1) (ho : wOk G σ h1 c) (hr : c ≤ G.2.2 ((G.2.1 h0 0))) (he1 : (G.2.1 h0 0) ≠ h1)
    (k : ∀ σ' : qS, (∀ b, b ≠ h0 → b ≠ (G.2.1 h0 0) → σ' b = σ b) → wOk G σ' h0 c → wN G σ' h0 c = wN G σ h1 c → wZ G σ' h0 c = wZ G σ h1 c → post σ') : wpX4_become G h0 h1 σ post := by
  obtain ⟨a1, a2, a3, a4, a5⟩ := id ho
  have hc0 := hw0.2
  have hc1 := hw1.2
  unfold wpX4_become
  rw [a1, clamp0, nI_clamp (by omega)]
  refine ⟨by decide, by decide, nI_pos (by omega), (by show 0 + c ≤ G.2.2 ((G.2.1 h1 0)); omega), (by show 0 + c ≤ G.2.2 ((G.2.1 h0 0)); omega), fun σ3 e3 σ9 e9 => ?_⟩
  have h31 : σ3 h1 = σ h1 := by rw [e3]; simp only [q_cp, if_neg (Ne.symm he1)]
  have h92 : σ9 h1 2 = σ h1 2 := by rw [e9, q_st_ne _ _ (by omega), h31]
  rw [h92]
  refine ⟨a3, fun σ11 e11 => ?_⟩
  have hrow : ∀ j, j < c → σ11 ((G.2.1 h0 0)) j = σ ((G.2.1 h1 0)) j := by
    intro j hj
    rw [e11, q_st_a _ _ hw0.1, e9, q_st_a _ _ hw0.1, e3]
    simp only [q_cp, if_true]
    rw [pk_cpy_in (by omega) (by omega)]
    congr 1; omega
  have e1 : σ11 h0 1 = nI c := by rw [e11, q_st_ne _ _ (by omega), e9, q_st_self, h31, a1]
  have e2 : σ11 h0 2 = σ h1 2 := by rw [e11, q_st_self]
  have hN : wN G σ11 h0 c = wN G σ h1 c := vU_congr hrow
  refine k σ11 (fun b hb hb2 => ?_) ⟨e1, hr, by rw [e2]; exact a3, fun z => by rw [e2]; exact a4 z, fun j hj => by rw [hrow j (by omega)]; exact a5 j hj⟩ hN ?_
  · rw [e11, q_st_a _ _ hb, e9, q_st_a _ _ hb, e3]
    simp only [q_cp, if_neg hb2]
  · unfold wZ
    rw [hN, e2]
theorem uL_negv (x : Int64) : uL (-x) = (18446744073709551616 - uL x) % 18446744073709551616 := by
  have h : -x = 0 - x := (Int64.zero_sub x).symm
  rw [h, uL_sub]
  rfl
/-- the size of an int -/
theorem uI_abs (x : Int32) : uI (if 0 < x.toInt64 then x.toInt64 else -x.toInt64).toInt32 = x.toInt.natAbs := by
  have h1 := uI_lt x
  have h2 := uL_ext0 x
  have h3 := uI_int x
  rw [uI_low]
  by_cases h : 0 < x.toInt64
  · rw [if_pos h]
    have hn : ¬ x.toInt64 < 0 := fun z => by
      have e1 := Int64.lt_iff_toInt_lt.mp h
      have e2 := Int64.lt_iff_toInt_lt.mp z
      omega
    rw [uL_neg] at hn
    split at h2 <;> split at h3 <;> omega
  · rw [if_neg h, uL_negv]
    have hn : x.toInt64 = 0 ∨ x.toInt64 < 0 := by
      have e0 : (0 : Int64).toInt = 0 := rfl
      rw [Int64.lt_iff_toInt_lt] at h ⊢
      rw [← Int64.toInt_inj]
      omega
    rw [uL_neg, uL_eq0] at hn
    split at h2 <;> split at h3 <;> omega
theorem wl_becomeInt {G : qG} {h0 : Nat} {x1 : Int32} {σ : qS} {post : qS → Prop} (hw : wFix G h0) (hr : 1 ≤ G.2.2 ((G.2.1 h0 0)))
    (k : ∀ (c : Nat) (σ' : qS), (∀ b, b ≠ h0 → b ≠ (G.2.1 h0 0) → σ' b = σ b) → wOk G σ' h0 c → wZ G σ' h0 c = x1.toInt → post σ') : wpX4_becomeInt G h0 x1 σ post := by
  have hc := hw.2
  unfold wpX4_becomeInt
  refine ⟨vp_lm (i := 0) (by omega) (by omega), fun σ3 e3 => ?_⟩
  have hv : vU σ3 ((G.2.1 h0 0)) 1 = x1.toInt.natAbs := by
    unfold vU
    rw [nv_s, nv_0, Nat.pow_zero, Nat.mul_one, Nat.zero_add]
    unfold dg
    rw [e3, clamp0, q_st_self, uI_abs]
  have hf : ∀ b, b ≠ (G.2.1 h0 0) → σ3 b = σ b := fun b hb => by rw [e3, q_st_a _ _ hb]
  have hsg : 0 ≤ x1 ↔ 0 ≤ x1.toInt := by rw [Int32.le_iff_toInt_le]; rfl
  refine ⟨fun h => ?_, fun h => ?_⟩
  · refine wl_settleZ (n := 1) hw hr (Or.inl rfl) (fun c σ5 g1 g2 g3 g4 g5 => k c σ5 (fun b hb hb2 => by rw [g2 b hb, hf b hb2]) g3 ?_)
    rw [g5, hv, if_neg (by decide)]
    have := hsg.mp h
    omega
  · refine wl_settleZ (n := 1) hw hr (Or.inr rfl) (fun c σ5 g1 g2 g3 g4 g5 => k c σ5 (fun b hb hb2 => by rw [g2 b hb, hf b hb2]) g3 ?_)
    rw [g5, hv, if_pos rfl]
    rw [hsg] at h
    omega
theorem wl_becomePushed {G : qG} {h0 h1 c : Nat} {x2 : Int32} {σ : qS} {post : qS → Prop} (hw0 : wFix G h0) (hw1 : wFix G h1) (ho : wOk G σ h1 c) (hr : c + 1 ≤ G.2.2 ((G.2.1 h0 0))) (he1 : (G.2.1 h0 0) ≠ h1) (hd : (G.2.1 h0 0) ≠ (G.2.1 h1 0))
    (k : ∀ (c' : Nat) (σ' : qS), (∀ b, b ≠ h0 → b ≠ (G.2.1 h0 0) → σ' b = σ b) → wOk G σ' h0 c' → wZ G σ' h0 c' = (if σ h1 2 = 1 then -((uI x2 + 4294967296 * wN G σ h1 c : Nat) : Int) else ((uI x2 + 4294967296 * wN G σ h1 c : Nat) : Int)) → post σ') : wpX4_becomePushed G h0 h1 x2 σ post := by
  obtain ⟨a1, a2, a3, a4, a5⟩ := id ho
  have hc0 := hw0.2
  have hc1 := hw1.2
  unfold wpX4_becomePushed
  rw [a1, clamp0, clamp1, nI_clamp (by omega)]
  refine ⟨by decide, by decide, nI_pos (by omega), (by show 0 + c ≤ G.2.2 ((G.2.1 h1 0)); omega), (by show 1 + c ≤ G.2.2 ((G.2.1 h0 0)); omega), fun σ3 e3 => ⟨vp_lm (i := 0) (by omega) (by omega), fun σ10 e10 => ?_⟩⟩
  have h10 : σ10 h1 = σ h1 := by rw [e10, q_st_a _ _ (Ne.symm he1), e3]; simp only [q_cp, if_neg (Ne.symm he1)]
  have hf : ∀ b, b ≠ (G.2.1 h0 0) → σ10 b = σ b := fun b hb => by rw [e10, q_st_a _ _ hb, e3]; simp only [q_cp, if_neg hb]
  rw [h10, a1, nI_1]
  have hv : vU σ10 ((G.2.1 h0 0)) (c + 1) = uI x2 + 4294967296 * wN G σ h1 c := by
    unfold vU
    rw [nv_low]
    congr 1
    · unfold dg; rw [e10, q_st_self]
    · congr 1
      refine nv_congr (fun j hj => ?_)
      unfold dg
      rw [e10, q_st_ne _ _ (by omega), e3]
      simp only [q_cp, if_true]
      rw [pk_cpy_in (by omega) (by omega)]
      congr 2; omega
  refine wl_settleZ hw0 hr a3 (fun c' σ11 g1 g2 g3 g4 g5 => k c' σ11 (fun b hb hb2 => by rw [g2 b hb, hf b hb2]) g3 ?_)
  rw [g5, hv]
theorem wl_turnSign {G : qG} {h0 c : Nat} {σ : qS} {post : qS → Prop} (hw : wFix G h0) (ho : wOk G σ h0 c)
    (k : ∀ σ' : qS, (∀ b, b ≠ h0 → σ' b = σ b) → wOk G σ' h0 c → wZ G σ' h0 c = -wZ G σ h0 c → post σ') : wpX4_turnSign G h0 σ post := by
  obtain ⟨a1, a2, a3, a4, a5⟩ := id ho
  have hc := hw.2
  have out : ∀ s : Int32, (s = 0 ∨ s = 1) → (c = 0 → s = 0) → ((if s = 1 then -(wN G σ h0 c : Int) else (wN G σ h0 c : Int)) = -wZ G σ h0 c) → post (q_st σ h0 2 s) := by
    intro s h1 h2 h3
    have hlm : q_st σ h0 2 s ((G.2.1 h0 0)) = σ ((G.2.1 h0 0)) := q_st_a _ _ hw.1
    have hN : wN G (q_st σ h0 2 s) h0 c = wN G σ h0 c := vU_congr (fun j _ => by rw [hlm])
    refine k _ (fun b hb => q_st_a _ _ hb) ⟨by rw [q_st_ne _ _ (by omega)]; exact a1, a2, by rw [q_st_self]; exact h1, fun z => by rw [q_st_self]; exact h2 z, fun j hj => by rw [hlm]; exact a5 j hj⟩ ?_
    unfold wZ
    rw [hN, q_st_self]
    exact h3
  unfold wpX4_turnSign
  rw [a1]
  refine ⟨fun h => ⟨fun h1 => ?_, fun h1 σ4 e4 => ?_⟩, fun h => ?_⟩
  · intro σ2 e2
    rw [e2]
    have hc0 := (nI_le0 (by omega)).mp h1
    refine out 0 (Or.inl rfl) (fun _ => rfl) ?_
    have hN0 : wN G σ h0 c = 0 := by subst hc0; rfl
    unfold wZ
    rw [hN0, if_neg (by decide), if_neg (by rw [h]; decide)]
    rfl
  · rw [e4]
    refine out 1 (Or.inr rfl) (fun z => absurd ((nI_le0 (by omega)).mpr z) h1) ?_
    unfold wZ
    rw [if_pos rfl, if_neg (by rw [h]; decide)]
  · intro σ2 e2
    rw [e2]
    refine out 0 (Or.inl rfl) (fun _ => rfl) ?_
    unfold wZ
    rw [if_neg (by decide), if_pos (a3.resolve_left h)]
    omega
theorem wZ_pos {G : qG} {σ : qS} {h c : Nat} (ho : wOk G σ h c) : (c = 0 ↔ wZ G σ h c = 0) ∧ (σ h 2 = 1 ↔ wZ G σ h c < 0) := by
  obtain ⟨a1, a2, a3, a4, a5⟩ := ho
  unfold wZ
  rcases Nat.eq_zero_or_pos c with hc | hc
  · have hs := a4 hc
    have hN : wN G σ h c = 0 := by subst hc; rfl
    rw [hN, hs, if_neg (by decide)]
    exact ⟨⟨fun _ => rfl, fun _ => hc⟩, ⟨fun z => absurd z (by decide), fun z => absurd z (by decide)⟩⟩
  · have hp : 0 < wN G σ h c := vU_pos hc a5
    by_cases hs : σ h 2 = 1
    · rw [if_pos hs]
      exact ⟨⟨fun z => by omega, fun z => by omega⟩, ⟨fun _ => by omega, fun _ => hs⟩⟩
    · rw [if_neg hs]
      exact ⟨⟨fun z => by omega, fun z => by omega⟩, ⟨fun z => absurd z hs, fun z => by omega⟩⟩
theorem wl_side {G : qG} {h0 c : Nat} {σ : qS} {post : Int32 → qS → Prop} (hw : wFix G h0) (ho : wOk G σ h0 c) (k : ∀ r : Int32, ((wZ G σ h0 c < 0 ∧ r = -1) ∨ (wZ G σ h0 c = 0 ∧ r = 0) ∨ (0 < wZ G σ h0 c ∧ r = 1)) → post r σ) : wpX4_side G h0 σ post := by
  obtain ⟨p1, p2⟩ := wZ_pos ho
  obtain ⟨a1, a2, a3, a4, a5⟩ := id ho
  have hc := hw.2
  unfold wpX4_side
  rw [a1]
  refine ⟨fun h => ?_, fun h => ⟨fun h1 => ?_, fun h1 => ?_⟩⟩
  · rw [← nI_0, nI_eq (by omega) (by omega)] at h
    exact k 0 (Or.inr (Or.inl ⟨p1.mp h, rfl⟩))
  · have hc0 : c ≠ 0 := fun z => h (by rw [z]; rfl)
    have h2 : ¬ wZ G σ h0 c = 0 := fun z => hc0 (p1.mpr z)
    have h3 : ¬ wZ G σ h0 c < 0 := fun z => absurd ((p2.mpr z).symm.trans h1) (by decide)
    exact k 1 (Or.inr (Or.inr ⟨by omega, rfl⟩))
  · exact k (-1) (Or.inl ⟨p2.mp (a3.resolve_left h1), rfl⟩)
theorem wl_compareValue {G : qG} {h0 h1 c0 c1 : Nat} {σ : qS} {post : Int32 → qS → Prop} (hw0 : wFix G h0) (hw1 : wFix G h1) (ho0 : wOk G σ h0 c0) (ho1 : wOk G σ h1 c1)
    (k : ∀ r : Int32, ((wZ G σ h0 c0 < wZ G σ h1 c1 ∧ r = -1) ∨ (wZ G σ h0 c0 = wZ G σ h1 c1 ∧ r = 0) ∨ (wZ G σ h1 c1 < wZ G σ h0 c0 ∧ r = 1)) → post r σ) : wpX4_compareValue G h0 h1 σ post := by
  obtain ⟨p1, p2⟩ := wZ_pos ho0
  obtain ⟨q1, q2⟩ := wZ_pos ho1
  obtain ⟨-, -, a3, -⟩ := id ho0
  obtain ⟨-, -, b3, -⟩ := id ho1
  have z0 : wZ G σ h0 c0 = (if σ h0 2 = 1 then -(wN G σ h0 c0 : Int) else (wN G σ h0 c0 : Int)) := rfl
  have z1 : wZ G σ h1 c1 = (if σ h1 2 = 1 then -(wN G σ h1 c1 : Int) else (wN G σ h1 c1 : Int)) := rfl
  unfold wpX4_compareValue
  refine ⟨fun he => ⟨fun h => ?_, fun h => ?_⟩, fun he => ⟨fun h => ?_, fun h => ?_⟩⟩
  · have n0 : ¬ σ h0 2 = 1 := by rw [h]; decide
    have n1 : ¬ σ h1 2 = 1 := by rw [← he, h]; decide
    rw [if_neg n0] at z0
    rw [if_neg n1] at z1
    refine wl_compareSize hw0 hw1 ho0 ho1 (fun r hr => k r ?_)
    rcases hr with ⟨h2, h3⟩ | ⟨h2, h3⟩ | ⟨h2, h3⟩
    · exact Or.inl ⟨by omega, h3⟩
    · exact Or.inr (Or.inl ⟨by omega, h3⟩)
    · exact Or.inr (Or.inr ⟨by omega, h3⟩)
  · have n0 : σ h0 2 = 1 := a3.resolve_left h
    have n1 : σ h1 2 = 1 := by rw [← he]; exact n0
    rw [if_pos n0] at z0
    rw [if_pos n1] at z1
    refine wl_compareSize hw1 hw0 ho1 ho0 (fun r hr => k r ?_)
    rcases hr with ⟨h2, h3⟩ | ⟨h2, h3⟩ | ⟨h2, h3⟩
    · exact Or.inl ⟨by omega, h3⟩
    · exact Or.inr (Or.inl ⟨by omega, h3⟩)
    · exact Or.inr (Or.inr ⟨by omega, h3⟩)
  · have n1 : σ h1 2 = 1 := b3.resolve_left (fun z => he (h.trans z.symm))
    have := q2.mp n1
    have : ¬ wZ G σ h0 c0 < 0 := fun z => absurd ((p2.mpr z).symm.trans h) (by decide)
    exact k 1 (Or.inr (Or.inr ⟨by omega, rfl⟩))
  · have n0 : σ h0 2 = 1 := a3.resolve_left h
    have n1 : σ h1 2 = 0 := b3.resolve_right (fun z => he (n0.trans z.symm))
    have := p2.mp n0
    have : ¬ wZ G σ h1 c1 < 0 := fun z => absurd ((q2.mpr z).symm.trans n1) (by decide)
    exact k (-1) (Or.inl ⟨by omega, rfl⟩)

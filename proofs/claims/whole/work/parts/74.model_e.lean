/-! Pure level: the reference's division. -/
def dF (G : qG) (h : Nat) (σ σ' : qS) : Prop := (∀ b, b ≠ (G.2.1 h 2) → b ≠ (G.2.1 h 3) → b ≠ (G.2.1 h 4) → σ' b = σ b) ∧ (∀ j, (j < 8320 ∨ 10400 ≤ j) → σ' (G.2.1 h 2) j = σ (G.2.1 h 2) j) ∧ ∀ r, (r < 16 ∨ 19 < r) → σ' (G.2.1 h 3) r = σ (G.2.1 h 3) r ∧ σ' (G.2.1 h 4) r = σ (G.2.1 h 4) r
theorem dF.refl {G : qG} {h : Nat} {σ : qS} : dF G h σ σ := ⟨fun _ _ _ _ => rfl, fun _ _ => rfl, fun _ _ => ⟨rfl, rfl⟩⟩
theorem dF.trans {G : qG} {h : Nat} {σ σ' σ'' : qS} (a : dF G h σ σ') (b : dF G h σ' σ'') : dF G h σ σ'' := ⟨fun x h1 h2 h3 => by rw [b.1 x h1 h2 h3, a.1 x h1 h2 h3], fun j hj => by rw [b.2.1 j hj, a.2.1 j hj], fun r hr => ⟨by rw [(b.2.2 r hr).1, (a.2.2 r hr).1], by rw [(b.2.2 r hr).2, (a.2.2 r hr).2]⟩⟩
theorem rF.dF {G : qG} {h d : Nat} {σ σ' : qS} (a : rF G h d σ σ') (h1 : 16 ≤ d) (h2 : d ≤ 19) : dF G h σ σ' := ⟨a.1, fun j hj => a.2.1 j (by omega), fun r hr => a.2.2 r (by omega)⟩
theorem dF.same {G : qG} {h r : Nat} {σ σ' : qS} (a : dF G h σ σ') (hr : r < 16 ∨ 19 < r) : rSame G h r σ σ' := ⟨fun j hj => a.2.1 _ (by omega), (a.2.2 r hr).1, (a.2.2 r hr).2⟩
theorem and15 {v : Nat} (h : v < 65536) : nI v &&& 32768 = 0 ↔ v < 32768 := by
  rw [uI_eq0]
  have e : uI (nI v &&& 32768) = v &&& 2 ^ 15 := by
    have h1 : uI (nI v &&& 32768) = uI (nI v) &&& uI 32768 := UInt32.toNat_and _ _
    rw [h1, uI_n (by omega)]
    rfl
  have key : v &&& 2 ^ 15 = 0 ↔ v.testBit 15 = false := by
    constructor
    · intro q
      have this : (v &&& 2 ^ 15).testBit 15 = Nat.testBit 0 15 := by rw [q]
      rw [Nat.testBit_and, Nat.testBit_two_pow_self, Bool.and_true, Nat.zero_testBit] at this
      exact this
    · intro q
      apply Nat.eq_of_testBit_eq
      intro i
      rw [Nat.testBit_and, Nat.testBit_two_pow, Nat.zero_testBit]
      by_cases hi : 15 = i
      · subst hi; rw [q]; rfl
      · simp [hi]
  rw [e, key, Nat.testBit_eq_decide_div_mod_eq, decide_eq_false_iff_not]
  omega
theorem gs_low {T V t1 R two q : Nat} (hV : t1 * R ≤ V) (hT : T < (two + 1) * R) (hq : q * V ≤ T) : q * t1 ≤ two := by
  have h1 : q * (t1 * R) ≤ q * V := Nat.mul_le_mul_left _ hV
  rw [← Nat.mul_assoc] at h1
  have h2 : q * t1 * R < (two + 1) * R := by omega
  have := Nat.lt_of_mul_lt_mul_right h2
  omega
/-- one flag set to 0 -/
theorem mB_0 {G : qG} {h r : Nat} {σ σ' : qS} {U : Nat → Nat} (hM : mS G h U) (hW : mW G σ h) (e : σ' = q_st σ (G.2.1 h 4) r 0) : rF G h r σ σ' ∧ mW G σ' h ∧ σ' (G.2.1 h 4) r = 0 ∧ σ' (G.2.1 h 2) = σ (G.2.1 h 2) ∧ σ' (G.2.1 h 3) = σ (G.2.1 h 3) := by
  obtain ⟨⟨gH, gC, gL, gB, gT, gP⟩, kC, kL, kB, kT, kP⟩ := id hM
  have hC : σ' (G.2.1 h 2) = σ (G.2.1 h 2) := by rw [e, q_st_a _ _ (ntg (T := U) (by omega))]
  have hL : σ' (G.2.1 h 3) = σ (G.2.1 h 3) := by rw [e, q_st_a _ _ (ntg (T := U) (by omega))]
  refine ⟨⟨fun b _ _ b3 => by rw [e, q_st_a _ _ b3], fun j _ => by rw [hC], fun t ht => ⟨by rw [hL], by rw [e, q_st_ne _ _ (by omega)]⟩⟩, ⟨fun j => by rw [hC]; exact hW.1 j, fun t => ?_⟩, by rw [e, q_st_self], hC, hL⟩
  by_cases ht : t = r
  · rw [e, ht, q_st_self]; exact Or.inl rfl
  · rw [e, q_st_ne _ _ (by omega)]; exact hW.2 t
set_option maxHeartbeats 2000000 in
theorem m_divide {G : qG} {σ : qS} {h a b ca cb : Nat} {U : Nat → Nat} {post : qS → Prop} (hM : mS G h U) (ha : a < 16 ∨ 19 < a) (ha2 : a < 24) (hb : b < 16 ∨ 19 < b) (hb2 : b < 24) (hW : mW G σ h) (oa : rOk G σ h a ca) (ob : rOk G σ h b cb) (hb0 : 0 < cb) (hca : ca ≤ 519)
    (k : ∀ σ', dF G h σ σ' → mW G σ' h → rM G σ' h 16 (rV G σ h a ca / rV G σ h b cb) → σ' (G.2.1 h 4) 16 = 0 → rM G σ' h 17 (rV G σ h a ca % rV G σ h b cb) → σ' (G.2.1 h 4) 17 = 0 → post σ') : wpX6_divide G h (nI a) (nI b) σ post := by
  obtain ⟨⟨gH, gC, gL, gB, gT, gP⟩, kC, kL, kB, kT, kP⟩ := id hM
  have c16 : (16 : Int32).toNatClampNeg = 16 := by decide
  have c17 : (17 : Int32).toNatClampNeg = 17 := by decide
  have c18 : (18 : Int32).toNatClampNeg = 18 := by decide
  have c19 : (19 : Int32).toNatClampNeg = 19 := by decide
  unfold wpX6_divide
  rw [c16, c17, c18, c19, nI_clamp (n := a) (by omega)]
  refine ⟨vB (r := 16) hM (by decide), fun σ3 e3 => ⟨vB (r := 17) hM (by decide), fun σ5 e5 => ?_⟩⟩
  obtain ⟨F3, W3, B3, C3, L3⟩ := mB_0 hM hW e3
  obtain ⟨F5, W5, B5, C5, L5⟩ := mB_0 hM W3 e5
  have D5 : dF G h σ σ5 := (F3.dF (by decide) (by decide)).trans (F5.dF (by decide) (by decide))
  have B516 : σ5 (G.2.1 h 4) 16 = 0 := by rw [(F5.2.2 16 (by decide)).2, B3]
  obtain ⟨oa5, va5⟩ := rOk_same (D5.same ha) oa
  obtain ⟨ob5, vb5⟩ := rOk_same (D5.same hb) ob
  refine m_order hM ha2 hb2 W5 oa5 ob5 (fun r hr => ?_)
  rw [va5, vb5] at hr
  have hNB : 0 < rV G σ h b cb := Nat.pos_of_ne_zero (fun q => absurd ((rOk_zero hW ob).mpr q) (by omega))
  generalize hNAe : rV G σ h a ca = NA at *
  generalize hNBe : rV G σ h b cb = NB at *
  refine ⟨fun hr0 => ?_, fun hr0 => ?_⟩
  · -- the long way
    have hle : NB ≤ NA := by
      rcases hr with ⟨-, h2⟩ | ⟨h1, -⟩ | ⟨h1, -⟩
      · rw [h2] at hr0; exact absurd hr0 (by decide)
      · omega
      · omega
    have hcba : cb ≤ ca := by
      have h1 : NA < 65536 ^ ca := by rw [← hNAe]; exact rV_lt hW
      exact (rOk_count hW ob).mpr (by rw [hNBe]; omega)
    obtain ⟨c, hc⟩ : ∃ c, cb = c + 1 := ⟨cb - 1, by omega⟩
    obtain ⟨b1, b2, b3⟩ := id ob5
    have hD0 := b3 c hc
    have hD1 := W5.1 (520 * b + c)
    have hNBs : NB = mO σ5 (G.2.1 h 2) (520 * b) c + uI (σ5 (G.2.1 h 2) (520 * b + c)) * 65536 ^ c := by rw [← vb5, hc]; rfl
    have hlow : mO σ5 (G.2.1 h 2) (520 * b) c < 65536 ^ c := nv_lt (by decide) (fun j _ => W5.1 _)
    generalize hDe : uI (σ5 (G.2.1 h 2) (520 * b + c)) = D at *
    intro v9 e9
    refine lp2 (W := fun f x3 τ => lpX6_divide_51 G h (nI a) (nI b) post _ f x3 τ) (I := fun x3 τ => τ = σ5 ∧ ∃ i, i ≤ 15 ∧ x3 = nI i ∧ D * 2 ^ i < 65536) (μ := fun x3 _ => 16 - x3.toNatClampNeg) ?_ v9 σ5 ⟨rfl, 0, by omega, e9, by omega⟩
    intro f x3 τ hI ih
    obtain ⟨rfl, z, hz, rfl, hDz⟩ := hI
    show lpX6_divide_51 G h (nI a) (nI b) post _ (f + 1) _ _
    unfold lpX6_divide_51
    rw [nI_clamp (n := b) (by omega), b1, nI_m1 hb0]
    refine ⟨vL hM hb2, m_digit hM hb2 (by omega) b1 b2 ?_⟩
    have ed : mdg G τ h b cb (cb - 1) = D := by unfold mdg; rw [if_pos (by omega), show cb - 1 = c by omega, hDe]
    rw [ed, pk_shlN _ z (ms_k z (by omega)) (by omega), and15 hDz]
    refine ⟨fun hsm v15 e15 => ih v15 τ ⟨rfl, z + 1, ?_, by rw [e15, nI_1], by rw [Nat.pow_succ, ← Nat.mul_assoc]; omega⟩ ?_, fun hbig => ?_⟩
    · rcases Nat.lt_or_ge 14 z with h1 | h1
      · exfalso
        have : z = 15 := by omega
        subst this
        omega
      · omega
    · show 16 - v15.toNatClampNeg < 16 - (nI z).toNatClampNeg
      rw [e15, nI_1, nI_clamp (by omega), nI_clamp (by omega)]
      omega
    clear ih
    have hzp := Nat.two_pow_pos z
    refine m_shiftUp (d := 18) hM (by decide) ha2 (by omega) W5 oa5 (by omega) (by omega) (fun σ18 R18 => ?_)
    rw [va5] at R18
    obtain ⟨F18, W18, -, cU, oU, vU', -⟩ := R18
    obtain ⟨ob18, vb18⟩ := rOk_same (F18.same (r := b) (by omega)) ob5
    refine m_shiftUp (d := 19) hM (by decide) hb2 (by omega) W18 ob18 (by omega) (by omega) (fun σ20 R20 => ?_)
    rw [vb18, vb5] at R20
    obtain ⟨F20, W20, -, cV, oV, vV', -⟩ := R20
    obtain ⟨oU20, vU20⟩ := rOk_same (F20.same (r := 18) (by decide)) oU
    rw [vU'] at vU20
    have D20 : dF G h σ σ20 := D5.trans ((F18.dF (by decide) (by decide)).trans (F20.dF (by decide) (by decide)))
    have B2016 : σ20 (G.2.1 h 4) 16 = 0 := by rw [(F20.2.2 16 (by decide)).2, (F18.2.2 16 (by decide)).2, B516]
    have B2017 : σ20 (G.2.1 h 4) 17 = 0 := by rw [(F20.2.2 17 (by decide)).2, (F18.2.2 17 (by decide)).2, B5]
    have la20 : σ20 (G.2.1 h 3) a = nI ca := by rw [(D20.same ha).2.1]; exact oa.1
    -- the numbers
    have hPc : 0 < 65536 ^ c := Nat.pow_pos (by decide)
    have hVlo : 32768 * 65536 ^ c ≤ NB * 2 ^ z := by
      have e1 : D * 65536 ^ c ≤ NB := by omega
      have e2 := Nat.mul_le_mul_right (2 ^ z) e1
      rw [Nat.mul_right_comm] at e2
      exact Nat.le_trans (Nat.mul_le_mul_right _ (by omega)) e2
    have hVhi : NB * 2 ^ z < 65536 ^ cb := by
      have e0 : (D + 1) * 2 ^ z ≤ 65536 := by
        have hB : 65536 = 2 ^ (16 - z) * 2 ^ z := by rw [← Nat.pow_add, show 16 - z + z = 16 by omega]
        rw [hB] at hDz ⊢
        exact Nat.mul_le_mul_right _ (Nat.lt_of_mul_lt_mul_right hDz)
      have e1 : NB < (D + 1) * 65536 ^ c := by rw [Nat.add_mul, Nat.one_mul]; omega
      have e2 := Nat.mul_lt_mul_of_pos_right e1 hzp
      rw [Nat.mul_right_comm] at e2
      have e3 := Nat.mul_le_mul_right (65536 ^ c) e0
      rw [hc, Nat.pow_succ, Nat.mul_comm (65536 ^ c)]
      omega
    have hcV : cV = cb := by
      have h1 : cV ≤ cb := (rOk_count W20 oV).mpr (by rw [vV']; exact hVhi)
      rcases Nat.lt_or_ge cV cb with h2 | h2
      · exfalso
        have h3 := (rOk_count (k := c) W20 oV).mp (by omega)
        rw [vV'] at h3
        omega
      · omega
    subst hcV
    generalize hVV : NB * 2 ^ z = V at *
    have hVpos : 0 < V := by omega
    obtain ⟨t1, t2, t3⟩ := id oV
    have hNA : NA < 65536 ^ ca := by rw [← hNAe]; exact rV_lt hW
    have hUca : NA * 2 ^ z < 65536 ^ (ca + 1) := by
      have e0 : 2 ^ z ≤ 65536 := by
        have : 2 ^ z ≤ 2 ^ 16 := Nat.pow_le_pow_right (by decide) (by omega)
        exact this
      rw [Nat.pow_succ]
      exact Nat.lt_of_lt_of_le (Nat.mul_lt_mul_of_pos_right hNA hzp) (Nat.mul_le_mul_left _ e0)
    have hcU : cU ≤ ca + 1 := (rOk_count W20 oU20).mpr (by rw [vU20]; exact hUca)
    show vp_in _ _ ∧ _
    rw [t1, la20, nI_1, oU20.1]
    refine ⟨vL (r := 19) hM (by decide), fun v24 e24 => ⟨vL hM ha2, fun v26 e26 => ⟨vL (r := 18) hM (by decide), fun v28 e28 => ?_⟩⟩⟩
    subst e24 e26
    -- zeros above the dividend
    refine lp2 (W := fun f x6 τ2 => lpX6_divide_122 G h (nI z) (nI cV) (nI (ca + 1)) post _ f x6 τ2) (I := fun x6 τ2 => ∃ i, cU ≤ i ∧ i ≤ ca + 1 ∧ x6 = nI i ∧ rF G h 18 σ20 τ2 ∧ mW G τ2 h ∧ τ2 (G.2.1 h 3) = σ20 (G.2.1 h 3) ∧ τ2 (G.2.1 h 4) = σ20 (G.2.1 h 4) ∧ (∀ t, t < cU → τ2 (G.2.1 h 2) (9360 + t) = σ20 (G.2.1 h 2) (9360 + t)) ∧ ∀ t, cU ≤ t → t < i → uI (τ2 (G.2.1 h 2) (9360 + t)) = 0) (μ := fun x6 _ => ca + 1 - x6.toNatClampNeg) ?_ v28 σ20 ⟨cU, Nat.le_refl _, hcU, e28, rF.refl, W20, rfl, rfl, fun _ _ => rfl, fun t t1 t2 => absurd t1 (by omega)⟩
    intro f2 x6 τ2 hI2 ih2
    obtain ⟨i2, hi2, hi2', rfl, FZ, WZ, LZ, BZ, sZ, zZ⟩ := hI2
    show lpX6_divide_122 G h (nI z) (nI cV) (nI (ca + 1)) post _ (f2 + 1) _ _
    unfold lpX6_divide_122
    rw [nI_leI (by omega) (by omega)]
    refine ⟨fun hz1 => ?_, fun hz1 => m_put (r := 18) hM (by decide) (by omega) (fun σ30 e30 v32 e32 => ih2 v32 σ30 ⟨i2 + 1, by omega, by omega, by rw [e32, nI_1], FZ.trans (rF_put hM (by omega) e30), mW_put hM WZ (by decide) e30, by rw [e30, q_st_a _ _ (ntg (T := U) (by omega)), LZ], by rw [e30, q_st_a _ _ (ntg (T := U) (by omega)), BZ], fun t ht => ?_, fun t q1 q2 => ?_⟩ ?_)⟩
    · clear ih2
      have : i2 = ca + 1 := by omega
      subst this
      have hUz : mO τ2 (G.2.1 h 2) 9360 (ca + 1) = NA * 2 ^ z := by
        have e1 : mO τ2 (G.2.1 h 2) 9360 (ca + 1) = mO τ2 (G.2.1 h 2) 9360 cU := nv_trim hcU (fun t q1 q2 => zZ t q1 q2)
        rw [e1, ← vU20]
        exact mO_congr (fun t ht => sZ t ht)
      have sVz := FZ.same (r := 19) (by decide)
      have hVz : mO τ2 (G.2.1 h 2) 9880 cV = V := by
        rw [← vV']
        exact mO_congr (fun t ht => sVz.1 t (by omega))
      have DZ : dF G h σ τ2 := D20.trans (FZ.dF (by decide) (by decide))
      have BZ16 : τ2 (G.2.1 h 4) 16 = 0 := by rw [BZ, B2016]
      have BZ17 : τ2 (G.2.1 h 4) 17 = 0 := by rw [BZ, B2017]
      show vp_in _ _ ∧ _
      have e98 : (9880 : Int32) + nI cV = nI (9880 + cV) := nI_add 9880 cV
      rw [e98, nI_m1 (by omega), nI_clamp (by omega), pk_sub (by omega), show 9880 + cV - 1 = 9880 + c by omega]
      refine ⟨vC hM (by omega), fun v36 e36 v37 e37 => ?_⟩
      have wT := WZ.1 (9880 + c)
      have h36 : uL v36 = uI (τ2 (G.2.1 h 2) (9880 + c)) := by rw [e36, uL_ext0, if_pos (by omega)]
      have hVs : V = mO τ2 (G.2.1 h 2) 9880 c + uI (τ2 (G.2.1 h 2) (9880 + c)) * 65536 ^ c := by rw [← hVz, hc]; rfl
      have hVl : mO τ2 (G.2.1 h 2) 9880 c < 65536 ^ c := nv_lt (by decide) (fun j _ => WZ.1 _)
      have htop : 32768 ≤ uI (τ2 (G.2.1 h 2) (9880 + c)) := by
        rcases Nat.lt_or_ge (uI (τ2 (G.2.1 h 2) (9880 + c))) 32768 with h1 | h1
        · exfalso
          have e3 := Nat.mul_le_mul_right (65536 ^ c) (show uI (τ2 (G.2.1 h 2) (9880 + c)) + 1 ≤ 32768 by omega)
          rw [Nat.add_mul, Nat.one_mul] at e3
          omega
        · exact h1
      generalize htp : uI (τ2 (G.2.1 h 2) (9880 + c)) = tp at *
      generalize hmm : ca - cV = mm at *
      have hca1 : ca + 1 - cV = mm + 1 := by omega
      rw [hca1] at e37 ⊢
      have hstart : NA * 2 ^ z < V * 65536 ^ (mm + 1) := by
        have e1 : NA * 2 ^ z < 65536 ^ ca * 32768 := by
          have e0 : 2 ^ z ≤ 32768 := by
            have : 2 ^ z ≤ 2 ^ 15 := Nat.pow_le_pow_right (by decide) hz
            exact this
          exact Nat.lt_of_lt_of_le (Nat.mul_lt_mul_of_pos_right hNA hzp) (Nat.mul_le_mul_left _ e0)
        have e2 := Nat.mul_le_mul_right (65536 ^ (mm + 1)) hVlo
        rw [Nat.mul_assoc, ← Nat.pow_add, show c + (mm + 1) = ca by omega, Nat.mul_comm] at e2
        exact Nat.lt_of_lt_of_le e1 e2
      refine lp2 (W := fun f x8 κ => lpX6_divide_169 G h (nI z) (nI cV) (nI (ca + 1)) v36 post _ f x8 κ) (I := fun x8 κ => ∃ i, i ≤ mm + 1 ∧ x8 = nI i - 1 ∧ dF G h σ κ ∧ mW G κ h ∧ κ (G.2.1 h 4) 16 = 0 ∧ κ (G.2.1 h 4) 17 = 0 ∧ (∀ t, t < 520 → κ (G.2.1 h 2) (9880 + t) = τ2 (G.2.1 h 2) (9880 + t)) ∧ mO κ (G.2.1 h 2) 9360 (i + cV) + mO κ (G.2.1 h 2) (8320 + i) (mm + 1 - i) * (65536 ^ i * V) = NA * 2 ^ z ∧ mO κ (G.2.1 h 2) 9360 (i + cV) < V * 65536 ^ i) (μ := fun x8 _ => (x8 + 1).toNatClampNeg) ?_ v37 τ2 ⟨mm + 1, Nat.le_refl _, e37, DZ, WZ, BZ16, BZ17, fun _ _ => rfl, by rw [Nat.sub_self, show mm + 1 + cV = ca + 1 by omega, hUz]; show _ + 0 * _ = _; omega, by rw [show mm + 1 + cV = ca + 1 by omega, hUz]; exact hstart⟩
      intro f3 x8 κ hI3 ih3
      obtain ⟨i, hi, rfl, Dk, Wk, Bk16, Bk17, hVk, hsum, hlt⟩ := hI3
      have hVκ : mO κ (G.2.1 h 2) 9880 cV = V := by
        rw [← hVz]
        exact mO_congr (fun t ht => hVk t (by omega))
      show lpX6_divide_169 G h (nI z) (nI cV) (nI (ca + 1)) v36 post _ (f3 + 1) _ _
      unfold lpX6_divide_169
      rw [nI_m1neg (by omega)]
      refine ⟨fun h0 => ?_, fun h0 => ?_⟩
      · subst h0
        rw [Nat.zero_add, Nat.pow_zero, Nat.mul_one] at hlt
        rw [Nat.zero_add, Nat.sub_zero, Nat.pow_zero, Nat.one_mul, Nat.add_zero] at hsum
        obtain ⟨hQ, hR⟩ := dl_end hzp hVV.symm hsum hlt
        refine m_trim (r := 16) hM (by decide) (by omega) Wk (fun σ90 g90 R90 => ?_)
        obtain ⟨F90, W90, B90, cq, oq, vq, -⟩ := R90
        have C90 : σ90 (G.2.1 h 2) = κ (G.2.1 h 2) := g90 _ (ntg (T := U) (by omega)) (ntg (T := U) (by omega))
        refine m_trim (r := 18) hM (by decide) (by omega) W90 (fun σ92 g92 R92 => ?_)
        obtain ⟨F92, W92, -, cr, or, vr, -⟩ := R92
        refine m_shiftDown (d := 17) (a := 18) hM (by decide) (by decide) (by decide) W92 or (by omega) (fun σ94 R94 => ?_)
        obtain ⟨F94, W94, B94, c94, o94, v94, -⟩ := R94
        obtain ⟨oq92, vq92⟩ := rOk_same (F92.same (r := 16) (by decide)) oq
        obtain ⟨oq94, vq94⟩ := rOk_same (F94.same (r := 16) (by decide)) oq92
        refine k σ94 (Dk.trans ((F90.dF (by decide) (by decide)).trans ((F92.dF (by decide) (by decide)).trans (F94.dF (by decide) (by decide))))) W94 ⟨cq, oq94, ?_⟩ ?_ ⟨c94, o94, ?_⟩ ?_
        · rw [vq94, vq92, vq]
          exact hQ
        · rw [(F94.2.2 16 (by decide)).2, (F92.2.2 16 (by decide)).2]
          exact B90 Bk16
        · rw [v94, vr, mO_congr (σ := σ90) (σ' := κ) (a' := (G.2.1 h 2)) (p' := 520 * 18) (fun t _ => by rw [C90])]
          have : mO κ (G.2.1 h 2) (520 * 18) cV = NA % NB * 2 ^ z := hR
          rw [this]
          exact Nat.mul_div_cancel _ hzp
        · refine B94 ?_
          rw [(F92.2.2 17 (by decide)).2, (F90.2.2 17 (by decide)).2]
          exact Bk17
      · obtain ⟨i', rfl⟩ : ∃ i', i = i' + 1 := ⟨i - 1, by omega⟩
        have e93 : (9360 : Int32) + nI i' = nI (9360 + i') := nI_add 9360 i'
        rw [nI_pred, e93, nI_add, nI_m1 (by omega), nI_clamp (by omega), nI_clamp (by omega)]
        have hPi : 0 < 65536 ^ i' := Nat.pow_pos (by decide)
        have hsplit : mO κ (G.2.1 h 2) 9360 (i' + 1 + cV) = mO κ (G.2.1 h 2) 9360 i' + 65536 ^ i' * mO κ (G.2.1 h 2) (9360 + i') (cV + 1) := by
          rw [show i' + 1 + cV = i' + (cV + 1) by omega, mO_add]
        have hlowi : mO κ (G.2.1 h 2) 9360 i' < 65536 ^ i' := nv_lt (by decide) (fun j _ => Wk.1 _)
        rw [hsplit] at hsum hlt
        have hTlt : mO κ (G.2.1 h 2) (9360 + i') (cV + 1) < V * 65536 := by
          have e1 : 65536 ^ i' * mO κ (G.2.1 h 2) (9360 + i') (cV + 1) < 65536 ^ i' * (V * 65536) := by
            have : V * 65536 ^ (i' + 1) = 65536 ^ i' * (V * 65536) := by rw [Nat.pow_succ, Nat.mul_left_comm]
            omega
          exact Nat.lt_of_mul_lt_mul_left e1
        have hTs : mO κ (G.2.1 h 2) (9360 + i') (cV + 1) = mO κ (G.2.1 h 2) (9360 + i') cV + uI (κ (G.2.1 h 2) (9360 + i' + cV)) * 65536 ^ cV := rfl
        have hTs2 : mO κ (G.2.1 h 2) (9360 + i') cV = mO κ (G.2.1 h 2) (9360 + i') c + uI (κ (G.2.1 h 2) (9360 + i' + c)) * 65536 ^ c := by rw [hc]; rfl
        have hTl : mO κ (G.2.1 h 2) (9360 + i') c < 65536 ^ c := nv_lt (by decide) (fun j _ => Wk.1 _)
        have hdm := Nat.div_add_mod (mO κ (G.2.1 h 2) (9360 + i') (cV + 1)) V
        have hml := Nat.mod_lt (mO κ (G.2.1 h 2) (9360 + i') (cV + 1)) hVpos
        have hqB : mO κ (G.2.1 h 2) (9360 + i') (cV + 1) / V < 65536 := Nat.div_lt_of_lt_mul hTlt
        rw [show 9360 + i' + cV - 1 = 9360 + i' + c by omega]
        have w2 := Wk.1 (9360 + i' + cV)
        have w1 := Wk.1 (9360 + i' + c)
        generalize hT : mO κ (G.2.1 h 2) (9360 + i') (cV + 1) = TT at *
        generalize hqd : TT / V = qd at *
        generalize hrd : TT % V = rd at *
        rw [Nat.mul_comm] at hdm
        generalize hu2 : uI (κ (G.2.1 h 2) (9360 + i' + cV)) = u2 at *
        generalize hu1 : uI (κ (G.2.1 h 2) (9360 + i' + c)) = u1 at *
        refine ⟨vC hM (by omega), vC hM (by omega), fun v42 e42 => ?_⟩
        have h42 : uL v42 = u2 * 65536 + u1 := by
          have q1 : uL (κ (G.2.1 h 2) (9360 + i' + cV)).toInt64 = u2 := by rw [uL_ext0, if_pos (by omega), hu2]
          have q2 : uL (κ (G.2.1 h 2) (9360 + i' + c)).toInt64 = u1 := by rw [uL_ext0, if_pos (by omega), hu1]
          have q3 : uL ((κ (G.2.1 h 2) (9360 + i' + cV)).toInt64 <<< ((16 : Int32).toInt64 &&& 63)) = u2 * 2 ^ 16 := by
            have := uL_slr (x := (κ (G.2.1 h 2) (9360 + i' + cV)).toInt64) (r := 16) (by decide) (by rw [q1]; omega)
            rw [q1] at this
            exact this
          rw [e42, uL_or, q3, q2]
          exact or_add (r := 16) w1
        have hx6 : ¬ v36 = 0 := fun q => by
          rw [uL_eq0, h36] at q
          omega
        refine ⟨hx6, fun v44 e44 => ?_⟩
        have h44 : uL v44 = (u2 * 65536 + u1) / tp := by
          rw [e44, uL_div (by omega) (by omega) (by omega), h42, h36]
        have hTR : TT = (u2 * 65536 + u1) * 65536 ^ c + mO κ (G.2.1 h 2) (9360 + i') c := by
          rw [hTs, hTs2, show (65536 : Nat) ^ cV = 65536 * 65536 ^ c by rw [hc, Nat.pow_succ, Nat.mul_comm], Nat.add_mul, Nat.mul_assoc]
          omega
        have hqle : qd * tp ≤ u2 * 65536 + u1 := gs_low (T := TT) (V := V) (R := 65536 ^ c) (by omega) (by rw [hTR, Nat.add_mul _ 1, Nat.one_mul]; omega) (by omega)
        have hqdiv : qd ≤ (u2 * 65536 + u1) / tp := by rw [Nat.le_div_iff_mul_le (by omega)]; exact hqle
        have hT2 : TT < (qd + 1) * V := by rw [Nat.add_mul, Nat.one_mul]; omega
        have go : ∀ (s0 : Int64) (g : Nat), uL s0 = g → qd ≤ g → g < 65536 → bkX6_divide_236 G h (nI z) (nI cV) (nI (ca + 1)) v36 (nI i') s0 post (lpX6_divide_169 G h (nI z) (nI cV) (nI (ca + 1)) v36 post (fun (σ89 : qS) => wpX6_trim G h 16 (nI (mm + 1)) σ89 (fun (σ90 : qS) => wpX6_trim G h 18 (nI cV) σ90 (fun (σ92 : qS) => wpX6_shiftDown G h 17 18 (nI z) σ92 (fun (σ94 : qS) => post σ94)))) f3) κ := by
          intro s0 g hg hgq hg2
          unfold bkX6_divide_236
          rw [e93, nI_add, nI_clamp (by omega)]
          intro v46 e46 v47 e47
          refine m_take (g := g) hM Wk hg hg2 (by omega) e46 e47 (fun w57 σ58 bw p1 p2 p3 p4 p5 p6 p7 p8 => ⟨vC hM (by omega), fun v61 e61 => ?_⟩)
          rw [hVκ] at p8
          have e58 : σ58 (G.2.1 h 2) (9360 + i' + cV) = κ (G.2.1 h 2) (9360 + i' + cV) := by
            rw [show 9360 + i' + cV = 9360 + (i' + cV) by omega]
            exact p5 _ (by omega)
          rw [e58] at e61
          have hcell : (κ (G.2.1 h 2) (9360 + i' + cV)).toInt64.toInt = (u2 : Int) := by rw [l_cell (by omega), hu2]
          have h61 : v61.toInt = (u2 : Int) - (bw : Int) := by rw [e61, l_sub (by rw [hcell, p1]; omega) (by rw [hcell, p1]; omega), hcell, p1]
          refine m_fix (T := TT) (V := V) (q := qd) (τ := κ) hM (by omega) hVκ hVhi (by omega) hT2 (fun w79 w80 ρ s1 s2 s3 s4 s5 s6 s7 s8 => ?_) hg hgq hg2 h61 (by omega) (by omega) p3 p4 p5 p6 p7 ?_
          · rw [nI_add]
            refine m_put (r := 18) hM (by decide) (by omega) (fun σ82 e82 => m_put (r := 16) hM (by decide) (by omega) (fun σ84 e84 v86 e86 => ?_))
            have u80 : uI w80.toInt32 = 0 := by
              have := uL_lt w80
              rw [l_int] at s2
              rw [uI_low]
              split at s2 <;> omega
            have u79 : uI w79.toInt32 = qd := by rw [uI_low, s1]; omega
            have e82' : σ82 = q_st ρ (G.2.1 h 2) (9360 + (i' + cV)) w80.toInt32 := e82
            have e84' : σ84 = q_st σ82 (G.2.1 h 2) (8320 + i') w79.toInt32 := e84
            have hcell84 : ∀ t, t ≠ 9360 + (i' + cV) → t ≠ 8320 + i' → σ84 (G.2.1 h 2) t = ρ (G.2.1 h 2) t := fun t q1 q2 => by rw [e84', q_st_ne _ _ (by omega), e82', q_st_ne _ _ (by omega)]
            have F84 : rF G h 16 σ82 σ84 := rF_put hM (by omega) e84
            have F82 : rF G h 18 ρ σ82 := rF_put hM (by omega) e82
            have hlow84 : mO σ84 (G.2.1 h 2) 9360 i' = mO κ (G.2.1 h 2) 9360 i' := mO_congr (fun t ht => by rw [hcell84 _ (by omega) (by omega)]; exact s5 t (by omega))
            have hhi84 : mO σ84 (G.2.1 h 2) (9360 + i') cV = rd := by
              rw [mO_congr (σ := σ84) (σ' := ρ) (a' := (G.2.1 h 2)) (p' := 9360 + i') (fun t ht => hcell84 _ (by omega) (by omega))]
              omega
            have hw84 : mO σ84 (G.2.1 h 2) 9360 (i' + cV) = mO κ (G.2.1 h 2) 9360 i' + 65536 ^ i' * rd := by rw [mO_add, hlow84, hhi84]
            have hq84 : uI (σ84 (G.2.1 h 2) (8320 + i')) = qd := by rw [e84', q_st_self, u79]
            have hqu : mO σ84 (G.2.1 h 2) (8320 + (i' + 1)) (mm + 1 - (i' + 1)) = mO κ (G.2.1 h 2) (8320 + (i' + 1)) (mm + 1 - (i' + 1)) := mO_congr (fun t ht => by rw [hcell84 _ (by omega) (by omega)]; exact s3.2.1 _ (by omega))
            have hlo : mO σ84 (G.2.1 h 2) (8320 + i') (mm + 1 - (i' + 1) + 1) = qd + 65536 * mO κ (G.2.1 h 2) (8320 + (i' + 1)) (mm + 1 - (i' + 1)) := by
              rw [← hqu, ← hq84]
              unfold mO
              rw [nv_low]
              congr 2
              exact nv_congr (fun t _ => by rw [show 8320 + i' + (t + 1) = 8320 + (i' + 1) + t by omega])
            have B84 : ∀ r, σ84 (G.2.1 h 4) r = κ (G.2.1 h 4) r := fun r => by rw [e84, q_st_a _ _ (ntg (T := U) (by omega)), e82, q_st_a _ _ (ntg (T := U) (by omega)), s7]
            refine ih3 v86 σ84 ⟨i', by omega, by rw [e86, i32_m1], Dk.trans ((s3.dF (by decide) (by decide)).trans ((F82.dF (by decide) (by decide)).trans (F84.dF (by decide) (by decide)))), mW_put hM (mW_put hM s4 (by rw [u80]; decide) e82) (by omega) e84, by rw [B84]; exact Bk16, by rw [B84]; exact Bk17, fun t ht => ?_, ?_, ?_⟩ ?_
            · rw [hcell84 _ (by omega) (by omega), ← hVk t ht]
              exact (s3.same (r := 19) (by decide)).1 t ht
            · rw [hw84, show mm + 1 - i' = mm + 1 - (i' + 1) + 1 by omega, hlo, ← hsum, ← hdm, Nat.pow_succ]
              generalize mO κ (G.2.1 h 2) (8320 + (i' + 1)) (mm + 1 - (i' + 1)) = Qu
              generalize 65536 ^ i' = P
              have z1 : (qd + 65536 * Qu) * (P * V) = P * (qd * V) + Qu * (P * 65536 * V) := by
                rw [Nat.add_mul, Nat.mul_left_comm qd P V, Nat.mul_right_comm P 65536 V, Nat.mul_comm (P * V) 65536, Nat.mul_left_comm Qu 65536, ← Nat.mul_assoc 65536]
              rw [z1, Nat.mul_add P]
              omega
            · rw [hw84]
              have z2 : 65536 ^ i' * (rd + 1) ≤ 65536 ^ i' * V := Nat.mul_le_mul_left _ hml
              rw [Nat.mul_add, Nat.mul_one] at z2
              rw [Nat.mul_comm V]
              omega
            · show (v86 + 1).toNatClampNeg < (nI (i' + 1) - 1 + 1).toNatClampNeg
              rw [e86, i32_m1, i32_mp, i32_mp, nI_clamp (by omega), nI_clamp (by omega)]
              omega
          · rw [hTs]
            rw [Int.sub_mul, ← Int.natCast_mul, ← Int.natCast_mul]
            omega
        have c65 : (65535 : Int64) < v44 ↔ 65535 < (u2 * 65536 + u1) / tp := by
          have hd : (u2 * 65536 + u1) / tp ≤ u2 * 65536 + u1 := Nat.div_le_self _ _
          rw [uL_lti _ _ (by decide) (by omega), h44]
          rfl
        rw [lc_le, c65]
        refine ⟨fun hs => go v44 _ h44 hqdiv (by omega), fun hs => go 65535 65535 rfl (by omega) (by decide)⟩
    · rw [e30, q_st_ne _ _ (by omega)]; exact sZ t ht
    · rcases Nat.lt_or_ge t i2 with h2 | h2
      · rw [e30, q_st_ne _ _ (by omega)]; exact zZ t q1 h2
      · rw [e30, show 9360 + t = 520 * 18 + i2 by omega, q_st_self]; rfl
    · show ca + 1 - v32.toNatClampNeg < ca + 1 - (nI i2).toNatClampNeg
      rw [e32, nI_1, nI_clamp (by omega), nI_clamp (by omega)]
      omega
  · have hlt : NA < NB := by
      rcases hr with ⟨h1, -⟩ | ⟨-, h2⟩ | ⟨-, h2⟩
      · exact h1
      · rw [h2] at hr0; exact absurd (by decide) hr0
      · rw [h2] at hr0; exact absurd (by decide) hr0
    refine ⟨vL (r := 16) hM (by decide), fun σ101 e101 => ?_⟩
    have C101 : σ101 (G.2.1 h 2) = σ5 (G.2.1 h 2) := by rw [e101, q_st_a _ _ (ntg (T := U) (by omega))]
    have B101 : σ101 (G.2.1 h 4) = σ5 (G.2.1 h 4) := by rw [e101, q_st_a _ _ (ntg (T := U) (by omega))]
    have F101 : rF G h 16 σ5 σ101 := ⟨fun x _ x2 _ => by rw [e101, q_st_a _ _ x2], fun j _ => by rw [C101], fun t ht => ⟨by rw [e101, q_st_ne _ _ (by omega)], by rw [B101]⟩⟩
    have W101 : mW G σ101 h := ⟨fun j => by rw [C101]; exact W5.1 j, fun t => by rw [B101]; exact W5.2 t⟩
    obtain ⟨oa101, va101⟩ := rOk_same (F101.same (r := a) (by omega)) oa5
    refine m_move (d := 17) hM (by decide) ha2 (by omega) W101 oa101 (fun σ102 F102 W102 o102 v102 _ => ⟨vB (r := 17) hM (by decide), fun σ105 e105 => ?_⟩)
    obtain ⟨F105, W105, B105, C105, L105⟩ := mB_0 hM W102 e105
    refine k σ105 (D5.trans ((F101.dF (by decide) (by decide)).trans ((F102.dF (by decide) (by decide)).trans (F105.dF (by decide) (by decide))))) W105 ⟨0, ⟨?_, by omega, fun j hj => absurd hj (by omega)⟩, ?_⟩ ?_ ⟨ca, ⟨by rw [L105]; exact o102.1, o102.2.1, fun j hj => by rw [C105]; exact o102.2.2 j hj⟩, ?_⟩ B105
    · rw [L105, (F102.2.2 16 (by decide)).1, e101, q_st_self]
      rfl
    · rw [Nat.div_eq_of_lt hlt]
      rfl
    · rw [(F105.2.2 16 (by decide)).2, (F102.2.2 16 (by decide)).2, B101, B516]
    · rw [Nat.mod_eq_of_lt hlt]
      show mO σ105 (G.2.1 h 2) (520 * 17) ca = NA
      rw [mO_congr (σ := σ105) (σ' := σ102) (a' := (G.2.1 h 2)) (p' := 520 * 17) (fun t _ => by rw [C105])]
      have : mO σ102 (G.2.1 h 2) (520 * 17) ca = rV G σ101 h a ca := v102
      rw [this, va101, va5]

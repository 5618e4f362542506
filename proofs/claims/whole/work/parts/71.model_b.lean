/-! Pure level: the reference's sums, differences, products. -/
theorem m_and (v : Int32) : v &&& 65535 = nI (uI v % 65536) := pk_and v 16 (by decide)
theorem m_shr16 {s : Nat} (h : s < 2 ^ 31) : nI s >>> ((16 : Int32) &&& 31) = nI (s / 65536) := pk_shrN h _ 16 (by decide)
theorem uI_n {n : Nat} (h : n < 4294967296) : uI (nI n) = n := by rw [uI_nI, Nat.mod_eq_of_lt h]
/-- a row of which one cell has been set -/
theorem mO_put {σ σ' : qS} {a p i n : Nat} {v : Int32} (e : σ' = q_st σ a (p + i) v) (h : n ≤ i) : mO σ' a p n = mO σ a p n := mO_congr (fun j hj => by rw [e, q_st_ne _ _ (by omega)])
theorem mdg_same {G : qG} {h r c k : Nat} {σ σ' : qS} (s : rSame G h r σ σ') (hc : c ≤ 520) : mdg G σ' h r c k = mdg G σ h r c k := by
  unfold mdg
  by_cases hk : k < c
  · rw [if_pos hk, if_pos hk, s.1 k (by omega)]
  · rw [if_neg hk, if_neg hk]
theorem m_plus {G : qG} {σ : qS} {h d a b ca cb : Nat} {U : Nat → Nat} {post : qS → Prop} (hM : mS G h U) (hd : d < 24) (ha : a < 24) (hb : b < 24) (hda : d ≠ a) (hdb : d ≠ b) (hW : mW G σ h) (oa : rOk G σ h a ca) (ob : rOk G σ h b cb) (la : ca ≤ 519) (lb : cb ≤ 519)
    (k : ∀ σ', rR G h d σ σ' (rV G σ h a ca + rV G σ h b cb) → post σ') : wpX6_plus G h (nI d) (nI a) (nI b) σ post := by
  obtain ⟨a1, a2, a3⟩ := oa
  obtain ⟨b1, b2, b3⟩ := ob
  have go : ∀ n, n ≤ 519 → ca ≤ n → cb ≤ n → bkX6_plus_30 G h (nI d) (nI a) (nI b) (nI n) post σ := by
    intro n hn hca hcb
    have MT := hM
    obtain ⟨⟨gH, gC, gL, gB, gT, gP⟩, kC, kL, kB, kT, kP⟩ := id hM
    unfold bkX6_plus_30
    intro v6 e6 v7 e7
    refine lp3 (W := fun f x5 x6 τ => lpX6_plus_38 G h (nI d) (nI a) (nI b) (nI n) post _ f x5 x6 τ) (I := fun x5 x6 τ => ∃ i cy, i ≤ n ∧ cy ≤ 1 ∧ x6 = nI i ∧ x5 = nI cy ∧ rF G h d σ τ ∧ mW G τ h ∧ τ (G.2.1 h 4) d = σ (G.2.1 h 4) d ∧ mO τ (G.2.1 h 2) (520 * d) i + cy * 65536 ^ i = nv 65536 (mdg G σ h a ca) i + nv 65536 (mdg G σ h b cb) i) (μ := fun _ x6 _ => n - x6.toNatClampNeg) ?_ v6 v7 σ ⟨0, 0, by omega, by omega, e7, e6, rF.refl, hW, rfl, rfl⟩
    intro f x5 x6 τ hI ih
    obtain ⟨i, cy, hi, hcy, rfl, rfl, hF, hWt, hB, hv⟩ := hI
    have sa := hF.same (Ne.symm hda)
    have sb := hF.same (Ne.symm hdb)
    show lpX6_plus_38 G h (nI d) (nI a) (nI b) (nI n) post _ (f + 1) _ _ _
    unfold lpX6_plus_38
    rw [nI_leI (by omega) (by omega)]
    refine ⟨fun h1 => ?_, fun h1 => ?_⟩
    · have : i = n := by omega
      subst this
      refine m_put hM hd (by omega) (fun σ20 e20 => ?_)
      rw [nI_1]
      have hc1 : uI (nI cy) = cy := uI_n (by omega)
      have hW20 : mW G σ20 h := mW_put hM hWt (by omega) e20
      refine m_trim hM hd (by omega) hW20 (fun σ22 g1 g2 => k σ22 ?_)
      obtain ⟨r1, r2, r3, c, r4, r5, r6⟩ := g2
      have hB20 : σ20 (G.2.1 h 4) d = σ (G.2.1 h 4) d := by rw [e20, q_st_a _ _ (ntg (T := U) (by omega)), hB]
      refine ⟨(hF.trans (rF_put hM (by omega) e20)).trans r1, r2, fun q => r3 (by rw [hB20]; exact q), c, r4, ?_, r6⟩
      rw [r5, mO_s, mO_put e20 (Nat.le_refl _), e20, q_st_self, hc1, hv, nv_mdg G σ h a ca hca, nv_mdg G σ h b cb hcb]
    · refine m_digit hM ha (by omega) (by rw [sa.2.1]; exact a1) a2 (m_digit hM hb (by omega) (by rw [sb.2.1]; exact b1) b2 ?_)
      have ea : mdg G τ h a ca i = mdg G σ h a ca i := mdg_same sa a2
      have eb : mdg G τ h b cb i = mdg G σ h b cb i := mdg_same sb b2
      have wa := mdg_lt (r := a) (c := ca) (k := i) hW
      have wb := mdg_lt (r := b) (c := cb) (k := i) hW
      rw [ea, eb]
      intro v13 e13
      rw [nI_add, nI_add] at e13
      have u13 : uI v13 = mdg G σ h a ca i + mdg G σ h b cb i + cy := by rw [e13, uI_n (by omega)]
      refine m_put hM hd (by omega) (fun σ14 e14 v16 e16 v17 e17 => ?_)
      rw [m_and, u13] at e14
      rw [e13, m_shr16 (by omega)] at e16
      refine ih v16 v17 σ14 ⟨i + 1, _, by omega, by omega, by rw [e17, nI_1], e16, hF.trans (rF_put hM (by omega) e14), mW_put hM hWt (by rw [uI_n (by omega)]; omega) e14, by rw [e14, q_st_a _ _ (ntg (T := U) (by omega)), hB], ?_⟩ ?_
      · rw [mO_s, mO_put e14 (Nat.le_refl _), e14, q_st_self, uI_n (by omega), nv_s, nv_s]
        have hcs := carry_step 65536 (mdg G σ h a ca i + mdg G σ h b cb i + cy) (65536 ^ i)
        rw [← Nat.pow_succ] at hcs
        rw [Nat.add_assoc, hcs, Nat.add_mul, Nat.add_mul]
        omega
      · show n - v17.toNatClampNeg < n - (nI i).toNatClampNeg
        rw [e17, nI_1, nI_clamp (by omega), nI_clamp (by omega)]
        omega
  unfold wpX6_plus
  rw [nI_clamp (n := a) (by omega), nI_clamp (n := b) (by omega), a1, b1, nI_leI (by omega) (by omega)]
  exact ⟨vL hM ha, vL hM hb, fun h1 => ⟨vL hM hb, go cb lb h1 (Nat.le_refl _)⟩, fun h1 => ⟨vL hM ha, go ca la (Nat.le_refl _) (by omega)⟩⟩
theorem borrow_step {A B x y bw B0 P X : Nat} (hB : 0 < B0) (h : X + B = A + bw * P) (d : Nat) (bw' : Nat) (hd : d + y + bw = x + bw' * B0) : X + d * P + (B + y * P) = A + x * P + bw' * (P * B0) := by
  have h1 : d * P + y * P + bw * P = x * P + bw' * (P * B0) := by
    rw [← Nat.add_mul, ← Nat.add_mul, hd, Nat.add_mul, Nat.mul_assoc, Nat.mul_comm B0 P]
  omega
theorem m_minus {G : qG} {σ : qS} {h d a b ca cb : Nat} {U : Nat → Nat} {post : qS → Prop} (hM : mS G h U) (hd : d < 24) (ha : a < 24) (hb : b < 24) (hda : d ≠ a) (hdb : d ≠ b) (hW : mW G σ h) (oa : rOk G σ h a ca) (ob : rOk G σ h b cb) (hle : rV G σ h b cb ≤ rV G σ h a ca)
    (k : ∀ σ', rR G h d σ σ' (rV G σ h a ca - rV G σ h b cb) → post σ') : wpX6_minus G h (nI d) (nI a) (nI b) σ post := by
  have hcnt : cb ≤ ca := (rOk_count hW ob).mpr (Nat.lt_of_le_of_lt hle (rV_lt hW))
  obtain ⟨a1, a2, a3⟩ := oa
  obtain ⟨b1, b2, b3⟩ := ob
  obtain ⟨⟨gH, gC, gL, gB, gT, gP⟩, kC, kL, kB, kT, kP⟩ := id hM
  unfold wpX6_minus
  rw [nI_clamp (n := a) (by omega)]
  refine ⟨vL hM ha, fun v3 e3 v4 e4 v5 e5 => ?_⟩
  rw [a1] at e3
  subst e3
  refine lp3 (W := fun f x5 x6 τ => lpX6_minus_14 G h (nI d) (nI a) (nI b) (nI ca) post _ f x5 x6 τ) (I := fun x5 x6 τ => ∃ i bw, i ≤ ca ∧ bw ≤ 1 ∧ x6 = nI i ∧ x5 = nI bw ∧ rF G h d σ τ ∧ mW G τ h ∧ τ (G.2.1 h 4) d = σ (G.2.1 h 4) d ∧ mO τ (G.2.1 h 2) (520 * d) i + nv 65536 (mdg G σ h b cb) i = nv 65536 (mdg G σ h a ca) i + bw * 65536 ^ i) (μ := fun _ x6 _ => ca - x6.toNatClampNeg) ?_ v4 v5 σ ⟨0, 0, by omega, by omega, e5, e4, rF.refl, hW, rfl, rfl⟩
  intro f x5 x6 τ hI ih
  obtain ⟨i, bw, hi, hbw, rfl, rfl, hF, hWt, hB, hv⟩ := hI
  have sa := hF.same (Ne.symm hda)
  have sb := hF.same (Ne.symm hdb)
  show lpX6_minus_14 G h (nI d) (nI a) (nI b) (nI ca) post _ (f + 1) _ _ _
  unfold lpX6_minus_14
  rw [nI_leI (by omega) (by omega)]
  refine ⟨fun h1 => ?_, fun h1 => ?_⟩
  · have : i = ca := by omega
    subst this
    refine m_trim hM hd a2 hWt (fun σ22 g1 g2 => k σ22 ?_)
    obtain ⟨r1, r2, r3, c, r4, r5, r6⟩ := g2
    refine ⟨hF.trans r1, r2, fun q => r3 (by rw [hB]; exact q), c, r4, ?_, r6⟩
    rw [nv_mdg G σ h a i (Nat.le_refl _), nv_mdg G σ h b cb hcnt] at hv
    rw [r5]
    have hlt : mO τ (G.2.1 h 2) (520 * d) i < 65536 ^ i := nv_lt (by decide) (fun j _ => hWt.1 _)
    have hla : rV G σ h a i < 65536 ^ i := rV_lt hW
    rcases Nat.eq_zero_or_pos bw with h0 | h0
    · subst h0; omega
    · have : bw = 1 := by omega
      subst this
      omega
  · refine m_digit hM ha (by omega) (by rw [sa.2.1]; exact a1) a2 (m_digit hM hb (by omega) (by rw [sb.2.1]; exact b1) b2 ?_)
    have ea : mdg G τ h a ca i = mdg G σ h a ca i := mdg_same sa a2
    have eb : mdg G τ h b cb i = mdg G σ h b cb i := mdg_same sb b2
    have wa := mdg_lt (r := a) (c := ca) (k := i) hW
    have wb := mdg_lt (r := b) (c := cb) (k := i) hW
    rw [ea, eb]
    intro v11 e11
    have u11 : uI v11 = if mdg G σ h b cb i + bw ≤ mdg G σ h a ca i then mdg G σ h a ca i - (mdg G σ h b cb i + bw) else 4294967296 + mdg G σ h a ca i - (mdg G σ h b cb i + bw) := by
      rw [e11, uI_sub, uI_sub, uI_n (by omega), uI_n (by omega), uI_n (by omega)]
      split <;> omega
    refine m_put hM hd (by omega) (fun σ12 e12 => ?_)
    rw [m_and] at e12
    have step : ∀ bw' : Nat, bw' ≤ 1 → uI v11 % 65536 + mdg G σ h b cb i + bw = mdg G σ h a ca i + bw' * 65536 → bkX6_minus_63 G h (nI d) (nI a) (nI b) (nI ca) (nI i) (nI bw') post (lpX6_minus_14 G h (nI d) (nI a) (nI b) (nI ca) post (fun (σ16 : qS) => wpX6_trim G h (nI d) (nI ca) σ16 (fun (σ17 : qS) => post σ17)) f) σ12 := by
      intro bw' hbw' hst v15 e15
      refine ih (nI bw') v15 σ12 ⟨i + 1, bw', by omega, hbw', by rw [e15, nI_1], rfl, hF.trans (rF_put hM (by omega) e12), mW_put hM hWt (by rw [uI_n (by omega)]; omega) e12, by rw [e12, q_st_a _ _ (ntg (T := U) (by omega)), hB], ?_⟩ ?_
      · rw [mO_s, mO_put e12 (Nat.le_refl _), e12, q_st_self, uI_n (by omega), nv_s, nv_s, Nat.pow_succ]
        exact borrow_step (by decide) hv _ _ hst
      · show ca - v15.toNatClampNeg < ca - (nI i).toNatClampNeg
        rw [e15, nI_1, nI_clamp (by omega), nI_clamp (by omega)]
        omega
    refine ⟨fun h2 => step 0 (by omega) ?_, fun h2 => step 1 (by omega) ?_⟩
    · have h3 : ¬ v11 < 0 := Int32.not_lt.mpr h2
      rw [uI_neg, u11] at h3
      rw [u11]
      split at h3
      · rename_i h4
        rw [if_pos h4]; omega
      · omega
    · have h3 : v11 < 0 := Int32.not_le.mp h2
      rw [uI_neg, u11] at h3
      rw [u11]
      split at h3
      · omega
      · rename_i h4
        rw [if_neg h4]; omega
theorem m_times {G : qG} {σ : qS} {h d a b ca cb : Nat} {U : Nat → Nat} {post : qS → Prop} (hM : mS G h U) (hd : d < 24) (ha : a < 24) (hb : b < 24) (hda : d ≠ a) (hdb : d ≠ b) (hW : mW G σ h) (oa : rOk G σ h a ca) (ob : rOk G σ h b cb) (hr : ca + cb ≤ 519)
    (k : ∀ σ', rF G h d σ σ' → mW G σ' h → rM G σ' h d (rV G σ h a ca * rV G σ h b cb) → σ' (G.2.1 h 4) d = 0 → post σ') : wpX6_times G h (nI d) (nI a) (nI b) σ post := by
  obtain ⟨a1, a2, a3⟩ := oa
  obtain ⟨b1, b2, b3⟩ := ob
  obtain ⟨⟨gH, gC, gL, gB, gT, gP⟩, kC, kL, kB, kT, kP⟩ := id hM
  unfold wpX6_times
  rw [nI_clamp (n := a) (by omega), nI_clamp (n := b) (by omega), nI_clamp (n := d) (by omega), a1, b1, nI_add]
  refine ⟨vL hM ha, vL hM hb, fun v4 e4 v5 e5 => ?_⟩
  subst e4
  -- zeros first
  refine lp2 (W := fun f x5 τ => lpX6_times_18 G h (nI d) (nI a) (nI b) (nI (ca + cb)) post _ f x5 τ) (I := fun x5 τ => ∃ i, i ≤ ca + cb ∧ x5 = nI i ∧ rF G h d σ τ ∧ mW G τ h ∧ ∀ j, j < i → uI (τ (G.2.1 h 2) (520 * d + j)) = 0) (μ := fun x5 _ => ca + cb - x5.toNatClampNeg) ?_ v5 σ ⟨0, by omega, e5, rF.refl, hW, fun j hj => absurd hj (by omega)⟩
  intro f x5 τ hI ih
  obtain ⟨i, hi, rfl, hF, hWt, hz⟩ := hI
  show lpX6_times_18 G h (nI d) (nI a) (nI b) (nI (ca + cb)) post _ (f + 1) _ _
  unfold lpX6_times_18
  rw [nI_leI (by omega) (by omega)]
  refine ⟨fun h1 => ?_, fun h1 => m_put hM hd (by omega) (fun σ7 e7 v9 e9 => ih v9 σ7 ⟨i + 1, by omega, by rw [e9, nI_1], hF.trans (rF_put hM (by omega) e7), mW_put hM hWt (by decide) e7, fun j hj => ?_⟩ ?_)⟩
  · clear ih
    have : i = ca + cb := by omega
    subst this
    intro v11 e11
    refine lp2 (W := fun f x5 ρ => lpX6_times_42 G h (nI d) (nI a) (nI b) (nI (ca + cb)) post _ f x5 ρ) (I := fun x5 ρ => ∃ j, j ≤ ca ∧ x5 = nI j ∧ rF G h d σ ρ ∧ mW G ρ h ∧ (∀ t, cb + j ≤ t → t < ca + cb → uI (ρ (G.2.1 h 2) (520 * d + t)) = 0) ∧ mO ρ (G.2.1 h 2) (520 * d) (cb + j) = mO σ (G.2.1 h 2) (520 * b) cb * mO σ (G.2.1 h 2) (520 * a) j) (μ := fun x5 _ => ca - x5.toNatClampNeg) ?_ v11 τ ⟨0, by omega, e11, hF, hWt, fun t _ t2 => hz t t2, ?_⟩
    · intro f2 x5 ρ hI2 ih2
      obtain ⟨j, hj, rfl, hF2, hW2, hz2, hv2⟩ := hI2
      have sa := hF2.same (Ne.symm hda)
      have sb := hF2.same (Ne.symm hdb)
      show lpX6_times_42 G h (nI d) (nI a) (nI b) (nI (ca + cb)) post _ (f2 + 1) _ _
      unfold lpX6_times_42
      rw [nI_clamp (n := a) (by omega), nI_clamp (n := b) (by omega), sa.2.1, a1, nI_leI (by omega) (by omega)]
      refine ⟨vL hM ha, fun h2 => ?_, fun h2 v15 e15 => ?_⟩
      · have : j = ca := by omega
        subst this
        refine ⟨vB hM hd, fun σ42 e42 => ?_⟩
        have hC : σ42 (G.2.1 h 2) = ρ (G.2.1 h 2) := by rw [e42, q_st_a _ _ (ntg (T := U) (by omega))]
        have hW42 : mW G σ42 h := ⟨fun t => by rw [hC]; exact hW2.1 t, fun t => by
          by_cases ht : t = d
          · rw [e42, ht, q_st_self]; exact Or.inl rfl
          · rw [e42, q_st_ne _ _ (by omega)]; exact hW2.2 t⟩
        refine m_trim hM hd (by omega) hW42 (fun σ43 g1 g2 => ?_)
        obtain ⟨r1, r2, r3, c, r4, r5, r6⟩ := g2
        refine k σ43 (hF2.trans (rF.trans ⟨fun b b1 b2 b3 => by rw [e42, q_st_a _ _ b3], fun t _ => by rw [hC], fun t ht => ⟨by rw [e42, q_st_a _ _ (ntg (T := U) (by omega))], by rw [e42, q_st_ne _ _ (by omega)]⟩⟩ r1)) r2 ⟨c, r4, ?_⟩ (r3 (by rw [e42, q_st_self]))
        rw [r5, mO_congr (σ := σ42) (σ' := ρ) (a' := (G.2.1 h 2)) (p' := 520 * d) (fun t _ => by rw [hC]), Nat.add_comm j cb, hv2, Nat.mul_comm]
      · refine m_digit hM ha (by omega) (by rw [sa.2.1]; exact a1) a2 ?_
        have ea : mdg G ρ h a ca j = uI (σ (G.2.1 h 2) (520 * a + j)) := by unfold mdg; rw [if_pos (by omega), sa.1 j (by omega)]
        rw [ea]
        intro v18 e18 v19 e19
        have w0 := hW.1 (520 * a + j)
        generalize hfa : uI (σ (G.2.1 h 2) (520 * a + j)) = fa at *
        have h18 : uL v18 = fa := by rw [e18, uL_nI (by omega)]
        refine lp3 (W := fun f x6 x10 κ => lpX6_times_69 G h (nI d) (nI a) (nI b) (nI (ca + cb)) (nI j) v18 post _ f x6 x10 κ) (I := fun x6 x10 κ => ∃ i, i ≤ cb ∧ x10 = nI i ∧ rF G h d σ κ ∧ mW G κ h ∧ (∀ t, (t < j ∨ j + i ≤ t) → κ (G.2.1 h 2) (520 * d + t) = ρ (G.2.1 h 2) (520 * d + t)) ∧ uL x6 < 65536 ∧ mO κ (G.2.1 h 2) (520 * d + j) i + uL x6 * 65536 ^ i = mO ρ (G.2.1 h 2) (520 * d + j) i + mO σ (G.2.1 h 2) (520 * b) i * fa) (μ := fun _ x10 _ => cb - x10.toNatClampNeg) ?_ v15 v19 ρ ⟨0, by omega, e19, hF2, hW2, fun _ _ => rfl, by rw [e15]; decide, by rw [e15]; show 0 + 0 * _ = 0 + 0 * _; omega⟩
        intro f3 x6 x10 κ hI3 ih3
        obtain ⟨i, hi, rfl, hF3, hW3, hun, hx6, hv3⟩ := hI3
        have sb3 := hF3.same (Ne.symm hdb)
        show lpX6_times_69 G h (nI d) (nI a) (nI b) (nI (ca + cb)) (nI j) v18 post _ (f3 + 1) _ _ _
        unfold lpX6_times_69
        rw [nI_clamp (n := b) (by omega), sb3.2.1, b1, nI_leI (by omega) (by omega)]
        refine ⟨vL hM hb, fun h3 => ?_, fun h3 => ?_⟩
        · have : i = cb := by omega
          subst this
          show vp_in _ _ ∧ _
          rw [nI_add]
          refine ⟨vL hM hb, m_put hM hd (by omega) (fun σ35 e35 v37 e37 => ?_)⟩
          have hl : uI x6.toInt32 = uL x6 := by rw [uI_low]; omega
          refine ih2 v37 σ35 ⟨j + 1, by omega, by rw [e37, nI_1], hF3.trans (rF_put hM (by omega) e35), mW_put hM hW3 (by omega) e35, fun t t1 t2 => by rw [e35, q_st_ne _ _ (by omega), hun t (by omega)]; exact hz2 t (by omega) t2, ?_⟩ ?_
          · have z1 : mO σ35 (G.2.1 h 2) (520 * d) (i + (j + 1)) = mO σ35 (G.2.1 h 2) (520 * d) j + 65536 ^ j * mO σ35 (G.2.1 h 2) (520 * d + j) (i + 1) := by rw [show i + (j + 1) = j + (i + 1) by omega, mO_add]
            have z2 : mO σ35 (G.2.1 h 2) (520 * d) j = mO ρ (G.2.1 h 2) (520 * d) j := mO_congr (fun t ht => by rw [e35, q_st_ne _ _ (by omega), hun _ (by omega)])
            have z3 : mO σ35 (G.2.1 h 2) (520 * d + j) (i + 1) = mO ρ (G.2.1 h 2) (520 * d + j) i + mO σ (G.2.1 h 2) (520 * b) i * fa := by
              rw [mO_s, mO_congr (σ := σ35) (σ' := κ) (a' := (G.2.1 h 2)) (p' := 520 * d + j) (fun t ht => by rw [e35, q_st_ne _ _ (by omega)]), show 520 * d + j + i = 520 * d + (j + i) by omega, e35, q_st_self, hl]
              exact hv3
            have z4 : mO ρ (G.2.1 h 2) (520 * d) (i + j) = mO ρ (G.2.1 h 2) (520 * d) j + 65536 ^ j * mO ρ (G.2.1 h 2) (520 * d + j) i := by rw [Nat.add_comm i j, mO_add]
            have z5 : 65536 ^ j * (mO σ (G.2.1 h 2) (520 * b) i * fa) = mO σ (G.2.1 h 2) (520 * b) i * (fa * 65536 ^ j) := by rw [Nat.mul_left_comm, Nat.mul_comm (65536 ^ j) fa]
            rw [z1, z2, z3, Nat.mul_add, z5, mO_s, hfa, Nat.mul_add, ← hv2, z4]
            omega
          · show ca - v37.toNatClampNeg < ca - (nI j).toNatClampNeg
            rw [e37, nI_1, nI_clamp (by omega), nI_clamp (by omega)]
            omega
        · rw [m_ix, nI_add, nI_clamp (by omega)]
          refine ⟨vC hM (by omega), m_digit hM hb (by omega) (by rw [sb3.2.1]; exact b1) b2 ?_⟩
          have eb : mdg G κ h b cb i = uI (σ (G.2.1 h 2) (520 * b + i)) := by unfold mdg; rw [if_pos (by omega), sb3.1 i (by omega)]
          rw [eb]
          intro v27 e27
          have w1 := hW.1 (520 * b + i)
          have w2 := hW2.1 (520 * d + (j + i))
          rw [show 520 * d + j + i = 520 * d + (j + i) by omega, hun (j + i) (by omega)] at e27
          have hpr : fa * uI (σ (G.2.1 h 2) (520 * b + i)) ≤ 65535 * 65535 := Nat.mul_le_mul (by omega) (by omega)
          have hs : uL v27 = uI (ρ (G.2.1 h 2) (520 * d + (j + i))) + fa * uI (σ (G.2.1 h 2) (520 * b + i)) + uL x6 := by
            have q1 : uL (ρ (G.2.1 h 2) (520 * d + (j + i))).toInt64 = uI (ρ (G.2.1 h 2) (520 * d + (j + i))) := by rw [uL_ext0, if_pos (by omega)]
            rw [e27, uL_add, uL_add, uL_mul, q1, h18, uL_nI (by omega)]
            omega
          rw [nI_add]
          refine m_put hM hd (by omega) (fun σ28 e28 v30 e30 v31 e31 => ?_)
          have hdig : uI (v27 &&& 65535).toInt32 = uL v27 % 65536 := by rw [uI_low, uL_lo16]; omega
          have h30 : uL v30 = uL v27 / 65536 := by rw [e30, uL_s16]
          refine ih3 v30 v31 σ28 ⟨i + 1, by omega, by rw [e31, nI_1], hF3.trans (rF_put hM (by omega) e28), mW_put hM hW3 (by rw [hdig]; omega) e28, fun t ht => by rw [e28, q_st_ne _ _ (by omega)]; exact hun t (by omega), by rw [h30]; omega, ?_⟩ ?_
          · rw [h30, mO_s, mO_s, mO_s, mO_congr (σ := σ28) (σ' := κ) (a' := (G.2.1 h 2)) (p' := 520 * d + j) (fun t ht => by rw [e28, q_st_ne _ _ (by omega)])]
            have hlast : uI (σ28 (G.2.1 h 2) (520 * d + j + i)) = uL v27 % 65536 := by rw [show 520 * d + j + i = 520 * d + (j + i) by omega, e28, q_st_self, hdig]
            have hcs := carry_step 65536 (uL v27) (65536 ^ i)
            rw [← Nat.pow_succ] at hcs
            rw [hlast, Nat.add_assoc, hcs, hs, Nat.add_mul, Nat.add_mul, Nat.add_mul, show 520 * d + j + i = 520 * d + (j + i) by omega, Nat.mul_right_comm (uI (σ (G.2.1 h 2) (520 * b + i))) (65536 ^ i) fa, Nat.mul_comm fa (uI _)]
            omega
          · show cb - v31.toNatClampNeg < cb - (nI i).toNatClampNeg
            rw [e31, nI_1, nI_clamp (by omega), nI_clamp (by omega)]
            omega
    · show mO τ (G.2.1 h 2) (520 * d) (cb + 0) = _ * 0
      rw [Nat.mul_zero, Nat.add_zero]
      exact nv_zero (fun i hi => hz i (by omega))
  · rcases Nat.lt_or_ge j i with h2 | h2
    · rw [e7, q_st_ne _ _ (by omega)]; exact hz j h2
    · rw [e7, show j = i by omega, q_st_self]; rfl
  · show ca + cb - v9.toNatClampNeg < ca + cb - (nI i).toNatClampNeg
    rw [e9, nI_1, nI_clamp (by omega), nI_clamp (by omega)]
    omega

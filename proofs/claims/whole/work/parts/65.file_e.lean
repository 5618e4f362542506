/-! Pure level: powers, roots. -/
theorem f5_powMod {G : qG} {σ : qS} {h n w : Nat} {T : Nat → Nat} {S : qSt} {x1 x2 x3 x4 : Int32} {post : Int32 → qS → Prop} (hS : fS G h n w T) (hI : I5 G σ h n w S) (k : K5 G h n w T σ post (spPowMod n S x1 x2 x3 x4)) : wpX5_powMod G h x1 x2 x3 x4 σ post := by
  unfold wpX5_powMod
  unfold spPowMod at k
  refine f5_isNone hS (fun j hj e hr => ⟨fun _ => ?_, fun h => absurd rfl h⟩) (fun hr => ⟨fun h => absurd h (by decide), fun _ => K5_same (by rw [spIf_f (fun q => hr q.1)] at k; exact k) hI⟩)
  refine f5_isNone hS (fun j2 hj2 e2 hr2 => ⟨fun _ => ?_, fun h => absurd rfl h⟩) (fun hr => ⟨fun h => absurd h (by decide), fun _ => K5_same (by rw [spIf_f (fun q => hr q.2.1)] at k; exact k) hI⟩)
  refine f5_isNone hS (fun j3 hj3 e3 hr3 => ⟨fun _ => ?_, fun h => absurd rfl h⟩) (fun hr => ⟨fun h => absurd h (by decide), fun _ => K5_same (by rw [spIf_f (fun q => hr q.2.2.1)] at k; exact k) hI⟩)
  refine f5_isNone hS (fun j4 hj4 e4 hr4 => ⟨fun _ => ?_, fun h => absurd rfl h⟩) (fun hr => ⟨fun h => absurd h (by decide), fun _ => K5_same (by rw [spIf_f (fun q => hr q.2.2.2)] at k; exact k) hI⟩)
  have hw3 := wF hS hj3
  have hw4 := wF hS hj4
  have hwA := wA1 hS
  have hwB := wA2 hS
  obtain ⟨c, o, hc, z, N, sg, z0⟩ := f5_reg hS hI hj3
  obtain ⟨c', o', hc', z', N', sg', z0'⟩ := f5_reg hS hI hj4
  have hS' := hS
  obtain ⟨⟨tH, tFA, tRS, tlRS, tA1, tlA1, tA2, tlA2, tPR, tPW, tDV, tQ, tlQ, tR, tlR, tOV, tUN, tTX, tTXB, tTP, tTPB⟩, tF, ⟨cFA, cRS, cA1, cA2, cQ, cR, cOV, cUN, cTXB, cTPB⟩, pn0, pn, pw0, pw⟩ := hS
  obtain ⟨d1, d2, d3⟩ := tF j hj
  obtain ⟨m1, m2, m3⟩ := tF j2 hj2
  obtain ⟨p1, p2, p3⟩ := tF j3 hj3
  obtain ⟨q1, q2, q3⟩ := tF j4 hj4
  rw [spIf_t ⟨hr, hr2, hr3, hr4⟩] at k
  subst e e2 e3 e4
  rw [ixo_nI (by omega), ixo_nI (by omega), ixo_nI (by omega), ixo_nI (by omega)] at k
  rw [nI_clamp (n := j2) (by omega), nI_clamp (n := j3) (by omega), nI_clamp (n := j4) (by omega)]
  have v2 : vp_in (nI j2) (G.2.2 (G.2.1 h 1)) := vp_in_nI (by omega) (by omega)
  have v3 : vp_in (nI j3) (G.2.2 (G.2.1 h 1)) := vp_in_nI (by omega) (by omega)
  have v4 : vp_in (nI j4) (G.2.2 (G.2.1 h 1)) := vp_in_nI (by omega) (by omega)
  have no : ¬ (0 < S.1 j4 ∧ 0 ≤ S.1 j3 ∧ (S.1 j3).natAbs < 4294967296 ^ 2) → post (-2) σ := fun q => K5_same (by rw [spIf_f q] at k; exact k) hI
  have e2c : (2 : Int32) = nI 2 := by decide
  refine ⟨v4, fun hs4 => ⟨v4, wl_isZero hw4 o' (fun hz => ⟨fun h => absurd h (by decide), fun _ => no (fun q => ?_)⟩) (fun hp => ⟨fun _ => ⟨v3, fun hs3 => ⟨v3, ?_⟩, fun hs3 => no (fun q => ?_)⟩, fun h => absurd rfl h⟩)⟩, fun hs4 => no (fun q => ?_)⟩
  · have := z0'.mp hz
    omega
  · have hM : 0 < S.1 j4 := by
      have h1 : ¬ S.1 j4 < 0 := fun q => absurd (hs4.symm.trans (sg'.mpr q)) (by decide)
      have h2 : S.1 j4 ≠ 0 := fun q => absurd (z0'.mpr q) (by omega)
      omega
    have hE : 0 ≤ S.1 j3 := Int.not_lt.mp (fun q => absurd (hs3.symm.trans (sg.mpr q)) (by decide))
    rw [o.1, e2c, nI_leI (by omega) (by decide)]
    have hcnt := wOk_count (w := 2) o
    rw [N] at hcnt
    refine ⟨fun h2 => ⟨v2, v4, ?_⟩, fun h2 => no (fun q => h2 (hcnt.mpr q.2.2))⟩
    rw [spIf_t ⟨hM, hE, hcnt.mp h2⟩] at k
    refine f5_reduceToFirst hS' hI hj2 hj4 hM (fun σ1 f1 hA => ⟨v4, ?_⟩)
    have hSF1 : SF T σ σ1 := fun a ha => f1 a (by omega)
    refine f5_oneToSecond hS' (I5_SF hS' hI hSF1) hj4 hM (fun σ2 f2 hB => ⟨v3, ?_⟩)
    have hSF2 : SF T σ σ2 := hSF1.trans (fun a ha => f2 a (by omega))
    obtain ⟨o3, n3, -⟩ := wOk_keep (σ' := σ2) o (hSF2 _ (by omega)) (hSF2 _ (by omega))
    have hZA := hZ_keep (σ' := σ2) hA (f2 _ (by omega)) (f2 _ (by omega))
    refine wl_bits hw3 o3 (fun b hb1 hb2 v42 e42 => ?_)
    rw [n3, N] at hb2
    have hAnn : 0 ≤ S.1 j2 % S.1 j4 := Int.emod_nonneg _ (by omega)
    refine lp2 (W := fun f x τ => lpX5_powMod_130 G h (nI j) (nI j3) (nI j4) post _ f x τ) (I := fun x τ => ∃ i s, x = nI i - 1 ∧ i ≤ b ∧ SF T σ τ ∧ hZ G τ (G.2.1 h 3) (S.1 j2 % S.1 j4) ∧ hZ G τ (G.2.1 h 4) s ∧ s = (S.1 j2 % S.1 j4) ^ ((S.1 j3).natAbs / 2 ^ i) % S.1 j4) (μ := fun x _ => (x + 1).toNatClampNeg) ?_ v42 σ2 ⟨b, _, e42, Nat.le_refl _, hSF2, hZA, hB, ?_⟩
    · intro f x τ hInv ih
      obtain ⟨i, s, rfl, hi, hSF, hA, hB, hs⟩ := hInv
      have hIt := I5_SF hS' hI hSF
      show lpX5_powMod_130 G h (nI j) (nI j3) (nI j4) post _ (f + 1) _ _
      unfold lpX5_powMod_130
      rw [nI_m1neg (by omega)]
      refine ⟨fun h0 => ?_, fun h0 => ⟨v4, ?_⟩⟩
      · subst h0
        obtain ⟨cb, ob, zb⟩ := hB
        have := ob.2.1
        rw [nI_clamp (by omega)]
        refine ⟨vp_in_nI (by omega) (by omega), f5_give hS' hIt (fun a ha => hSF a (by omega)) hj hwB ob (by omega) zb (by omega) (fun σ' g1 _ g3 => k σ' g1 ?_)⟩
        rw [hs, Nat.pow_zero, Nat.div_one, pow_emod] at g3
        exact g3
      · obtain ⟨t, rfl⟩ : ∃ t, i = t + 1 := ⟨i - 1, by omega⟩
        have hs0 : 0 ≤ s := by rw [hs]; exact Int.emod_nonneg _ (by omega)
        rw [nI_pred, nI_clamp (n := j4) (by omega), nI_clamp (n := j3) (by omega)]
        refine f5_mulSecond hS' hIt hj4 hM hwB (Or.inr tA2) (Or.inr tlA2) cA2 hB hB hs0 hs0 (fun σ48 f48 hB48 => ⟨v3, ?_⟩)
        have hSF48 : SF T σ σ48 := hSF.trans (fun a ha => f48 a (by omega))
        obtain ⟨o48, n48, -⟩ := wOk_keep (σ' := σ48) o (hSF48 _ (by omega)) (hSF48 _ (by omega))
        have hA48 := hZ_keep (σ' := σ48) hA (f48 _ (by omega)) (f48 _ (by omega))
        have hsq : (s * s) % S.1 j4 = (S.1 j2 % S.1 j4) ^ (2 * ((S.1 j3).natAbs / 2 ^ (t + 1))) % S.1 j4 := by
          rw [hs, ← Int.mul_emod, Nat.two_mul, Int.pow_add]
        have hE2 : (S.1 j3).natAbs / 2 ^ t = 2 * ((S.1 j3).natAbs / 2 ^ (t + 1)) + (S.1 j3).natAbs / 2 ^ t % 2 := by
          rw [Nat.pow_succ, ← Nat.div_div_eq_div_mul]
          omega
        have hmu : ∀ v : Int32, v = nI t + (-1) → (v + 1).toNatClampNeg < (nI (t + 1) - 1 + 1).toNatClampNeg := by
          intro v e
          rw [e, i32_m1, i32_mp, i32_mp, nI_clamp (by omega), nI_clamp (by omega)]
          omega
        have htb : wN G σ48 (G.2.1 (G.2.1 h 1) j3) c = (S.1 j3).natAbs := by rw [n48, N]
        refine wl_hasBit hw3 o48 (by omega) (fun hb0 => ⟨fun _ v55 e55 => ?_, fun h => absurd rfl h⟩) (fun hb1 => ⟨fun h => absurd h (by decide), fun _ => ⟨v4, ?_⟩⟩)
        · rw [htb, Nat.testBit_eq_decide_div_mod_eq, decide_eq_false_iff_not] at hb0
          refine ih v55 σ48 ⟨t, _, by rw [e55, i32_m1], by omega, hSF48, hA48, hB48, ?_⟩ (hmu v55 e55)
          rw [hsq, hE2, show (S.1 j3).natAbs / 2 ^ t % 2 = 0 by omega] <;> rfl
        · rw [htb, Nat.testBit_eq_decide_div_mod_eq, decide_eq_true_iff] at hb1
          refine f5_mulSecond hS' (I5_SF hS' hI hSF48) hj4 hM hwA (Or.inl tA1) (Or.inl tlA1) cA1 hB48 hA48 (Int.emod_nonneg _ (by omega)) hAnn (fun σ59 f59 hB59 v61 e61 => ?_)
          refine ih v61 σ59 ⟨t, _, by rw [e61, i32_m1], by omega, hSF48.trans (fun a ha => f59 a (by omega)), hZ_keep (σ' := σ59) hA48 (f59 _ (by omega)) (f59 _ (by omega)), hB59, ?_⟩ (hmu v61 e61)
          rw [hsq, hE2, hb1, Int.pow_succ, Int.mul_emod, Int.emod_emod, ← Int.mul_emod]
    · have hlt : (S.1 j3).natAbs < 2 ^ b := (isBits_le hb2).mp (Nat.le_refl _)
      rw [Nat.div_eq_of_lt hlt, Int.pow_zero]
  · have := sg.mp (o.2.2.1.resolve_left hs3)
    omega
  · have := sg'.mp (o'.2.2.1.resolve_left hs4)
    omega
/-! Newton's step. -/
theorem nw_amgm {k X s : Nat} (h : k + X = 2 * s) : k * X ≤ s * s := by
  rcases Nat.le_total X s with h1 | h1
  · obtain ⟨d, rfl⟩ := Nat.exists_eq_add_of_le h1
    have : k = X + 2 * d := by omega
    subst this
    simp only [Nat.add_mul, Nat.mul_add]
    have e1 : 2 * d * X = 2 * (X * d) := by rw [Nat.mul_assoc, Nat.mul_comm d X]
    have e2 : d * X = X * d := Nat.mul_comm _ _
    omega
  · obtain ⟨d, rfl⟩ := Nat.exists_eq_add_of_le h1
    obtain ⟨g, rfl⟩ : ∃ g, s = g + d := ⟨s - d, by omega⟩
    have : k = g := by omega
    subst this
    simp only [Nat.add_mul, Nat.mul_add]
    have e2 : d * k = k * d := Nat.mul_comm _ _
    omega
theorem nw_low {N X s : Nat} (hX : 0 < X) (hs : s * s ≤ N) : s ≤ (X + N / X) / 2 := by
  rcases Nat.lt_or_ge ((X + N / X) / 2) s with h | h
  · exfalso
    have h00 := Nat.zero_le (N / X)
    have h1 : X + N / X + 1 ≤ 2 * s := by omega
    obtain ⟨k, hk⟩ : ∃ k, k + X = 2 * s := ⟨2 * s - X, by omega⟩
    have h2 : N / X < k := by omega
    rw [Nat.div_lt_iff_lt_mul hX] at h2
    have h3 := nw_amgm hk
    omega
  · exact h
theorem nw_stop {N X : Nat} (hX : 0 < X) (h : X ≤ (X + N / X) / 2) : X * X ≤ N := by
  have h1 : X ≤ N / X := by omega
  rw [Nat.le_div_iff_mul_le hX] at h1
  exact h1
theorem nw_fall {N X s : Nat} (hN : N < (s + 1) * (s + 1)) (h : s < X) : (X + N / X) / 2 - s ≤ (X - s) / 2 := by
  have h1 : N / X < s + 1 := by
    rw [Nat.div_lt_iff_lt_mul (by omega)]
    exact Nat.lt_of_lt_of_le hN (Nat.mul_le_mul_left _ (by omega))
  omega
theorem nw_div {N X s : Nat} (hN : N < (s + 1) * (s + 1)) (hs : 0 < s) (h : s ≤ X) : N / X ≤ s + 2 := by
  have h1 : N / X ≤ N / s := Nat.div_le_div_left h hs
  have h2 : N / s < s + 3 := by
    rw [Nat.div_lt_iff_lt_mul hs]
    have h3 : (s + 3) * s = s * s + 3 * s := by rw [Nat.add_mul]
    have h4 : (s + 1) * (s + 1) = s * s + s + s + 1 := by rw [Nat.add_mul, Nat.mul_add]; omega
    omega
  omega
theorem nw_half {e e' i P : Nat} (h1 : e * 2 ^ i < P) (h2 : e' ≤ e / 2) : e' * 2 ^ (i + 1) < P := by
  have h3 : e' * 2 ≤ e := by omega
  have h4 : e' * 2 * 2 ^ i ≤ e * 2 ^ i := Nat.mul_le_mul_right _ h3
  rw [Nat.pow_succ, Nat.mul_comm (2 ^ i) 2, ← Nat.mul_assoc]
  omega
theorem f5_rootToFirst {G : qG} {σ : qS} {h n w j : Nat} {T : Nat → Nat} {S : qSt} {post : qS → Prop} (hS : fS G h n w T) (hI : I5 G σ h n w S) (hj : j < n) (hnn : 0 ≤ S.1 j)
    (k : ∀ τ, SF T σ τ → hZ G τ (G.2.1 h 3) ((sqr (S.1 j).natAbs : Nat) : Int) → post τ) : wpX5_rootToFirst G h (G.2.1 (G.2.1 h 1) j) σ post := by
  obtain ⟨c, o, hc, z, N, sg, z0⟩ := f5_reg hS hI hj
  have hw := wF hS hj
  have hwA := wA1 hS
  have hwB := wA2 hS
  have hwS := wRS hS
  have hwQ := wQ hS
  have hS' := hS
  obtain ⟨⟨tH, tFA, tRS, tlRS, tA1, tlA1, tA2, tlA2, tPR, tPW, tDV, tQ, tlQ, tR, tlR, tOV, tUN, tTX, tTXB, tTP, tTPB⟩, tF, ⟨cFA, cRS, cA1, cA2, cQ, cR, cOV, cUN, cTXB, cTPB⟩, pn0, pn, pw0, pw⟩ := hS
  obtain ⟨d1, d2, d3⟩ := tF j hj
  unfold wpX5_rootToFirst
  refine wl_isZero hw o (fun hz => ⟨fun h => absurd h (by decide), fun _ => wl_becomeInt hwA (by omega) (fun c1 σ1 f1 o1 z1 => k σ1 (fun a ha => f1 a (ntg (T := T) (by omega)) (ntg (T := T) (by omega))) ⟨c1, o1, ?_⟩)⟩) (fun hp => ⟨fun _ => wl_bits hw o (fun b hb1 hb2 => ?_), fun h => absurd rfl h⟩)
  · rw [z1, z0.mp hz]
    rfl
  · rw [N] at hb2
    have hN0 : 0 < (S.1 j).natAbs := by rw [← N]; exact vU_pos hp o.2.2.2.2
    have hNw : (S.1 j).natAbs < 4294967296 ^ w := by rw [← N]; exact (wOk_count o).mp hc
    generalize hNe : (S.1 j).natAbs = NN at *
    obtain ⟨s1, s2⟩ := sqr_spec NN
    generalize hse : sqr NN = s at *
    have hb32 : b ≤ 32 * w := by omega
    have hs0 : 0 < s := by
      rcases Nat.eq_zero_or_pos s with h0 | h0
      · subst h0; omega
      · exact h0
    obtain ⟨P, hP⟩ : ∃ P : Nat, P = 2 ^ (16 * w) := ⟨_, rfl⟩
    have hPP : 4294967296 ^ w = P * P := by rw [pow32, hP, ← Nat.pow_add]; congr 1; omega
    have hP16 : 65536 ≤ P := by
      rw [hP]
      have : 2 ^ 16 ≤ 2 ^ (16 * w) := Nat.pow_le_pow_right (by decide) (by omega)
      exact this
    have hsP : s < P := by
      rcases Nat.lt_or_ge s P with h1 | h1
      · exact h1
      · have := Nat.mul_le_mul h1 h1
        omega
    have ediv : (nI b + 1) / 2 = nI ((b + 1) / 2) := by rw [nI_1]; exact pk_div (a := b + 1) (d := 2) (by omega) (by decide) (by decide)
    rw [ediv]
    refine wl_becomePowerOfTwo hwA (by omega) (by omega) (fun c1 σ1 f1 o1 n1 z1 v9 e9 => ?_)
    have hX0 : s ≤ 2 ^ ((b + 1) / 2) := by
      rcases Nat.lt_or_ge (2 ^ ((b + 1) / 2)) s with h1 | h1
      · exfalso
        have h2 := Nat.mul_le_mul (Nat.le_of_lt h1) (Nat.le_of_lt h1)
        rw [← Nat.pow_add] at h2
        have h3 : NN < 2 ^ b := (isBits_le hb2).mp (Nat.le_refl _)
        have h4 : 2 ^ b ≤ 2 ^ ((b + 1) / 2 + (b + 1) / 2) := Nat.pow_le_pow_right (by decide) (by omega)
        omega
      · exact h1
    have hXP : 2 ^ ((b + 1) / 2) ≤ P := by rw [hP]; exact Nat.pow_le_pow_right (by decide) (by omega)
    obtain ⟨K, hK⟩ : ∃ K : Nat, K = 1921 := ⟨_, rfl⟩
    have hPK : P < 2 ^ K := by
      rw [hP]
      exact Nat.lt_of_lt_of_le (Nat.pow_lt_pow_right (by decide) (show 16 * w < 16 * w + 1 by omega)) (Nat.pow_le_pow_right (by decide) (by omega))
    refine lp2 (W := fun f x τ => lpX5_rootToFirst_33 G h (G.2.1 (G.2.1 h 1) j) post _ _ f x τ) (I := fun x τ => ∃ i X : Nat, x = nI i ∧ i ≤ K + 1 ∧ SF T σ τ ∧ hZ G τ (G.2.1 h 3) (X : Int) ∧ s ≤ X ∧ X ≤ P ∧ (X - s) * 2 ^ i < 2 ^ K) (μ := fun x _ => K + 2 - x.toNatClampNeg) ?_ v9 σ1 ⟨0, 2 ^ ((b + 1) / 2), e9, by omega, fun a ha => f1 a (ntg (T := T) (by omega)) (ntg (T := T) (by omega)), ⟨c1, o1, by rw [z1]; exact (Int.natCast_pow 2 _).symm⟩, hX0, hXP, by omega⟩
    intro f x τ hInv ih
    obtain ⟨i, X, rfl, hi, hSF, ⟨ca, oa, za⟩, hsX, hXle, hgap⟩ := hInv
    show lpX5_rootToFirst_33 G h (G.2.1 (G.2.1 h 1) j) post _ _ (f + 1) _ _
    unfold lpX5_rootToFirst_33
    have eM : (1000000 : Int32) ≤ nI i ↔ 1000000 ≤ i := nI_leI (a := 1000000) (by decide) (by omega)
    rw [eM]
    refine ⟨fun h1 => absurd h1 (by omega), fun _ => ?_⟩
    obtain ⟨oj, -, zj⟩ := wOk_keep (σ' := τ) o (hSF _ (by omega)) (hSF _ (by omega))
    have hca := oa.2.1
    have hcap : 0 < ca := Nat.pos_of_ne_zero (fun q => by
      have := (wZ_pos oa).1.mp q
      omega)
    refine f5_divide hS' hw hwA (by omega) (by omega) (by omega) (by omega) oj oa hcap (by omega) (by omega) (fun cq cr σ3 f3 oq zq or zr => ?_)
    have hq : dq (S.1 j) (X : Int) = ((NN / X : Nat) : Int) := by
      unfold dq
      rw [if_pos (by omega), hNe]
      rfl
    rw [zj, z, za, hq] at zq
    obtain ⟨oa3, -, za3⟩ := wOk_keep (σ' := σ3) oa (f3 _ (by omega)) (f3 _ (by omega))
    have hqs : NN / X ≤ s + 2 := nw_div s2 hs0 hsX
    have hcq : cq ≤ w := (wOk_count oq).mpr (by
      rw [wN_abs, zq, Int.natAbs_natCast, hPP]
      have : P * 65536 ≤ P * P := Nat.mul_le_mul_left _ hP16
      omega)
    refine wl_becomeSum hwS hwA hwQ oa3 oq (Or.inl rfl) (ntg (T := T) (by omega)) (ntg (T := T) (by omega)) (ntg (T := T) (by omega)) (ntg (T := T) (by omega)) (by omega) (fun _ => by omega) (fun c4 σ4 f4 o4 z4 => ?_)
    rw [za3, za, if_neg (by decide), wN_abs, zq, Int.natAbs_natCast, ← Int.natCast_add] at z4
    have hc4 : c4 ≤ w := (wOk_count o4).mpr (by
      rw [wN_abs, z4, Int.natAbs_natCast, hPP]
      have : P * 65536 ≤ P * P := Nat.mul_le_mul_left _ hP16
      omega)
    refine wl_becomeShiftedDown (n := 1) hwB hwS o4 (by decide) (by omega) (fun q => ?_) (ntg (T := T) (by omega)) (ntg (T := T) (by omega)) (ntg (T := T) (by omega)) (ntg (T := T) (by omega)) (fun c5 σ5 f5 o5 z5 => ?_)
    · have := (wZ_pos o4).2.mp q
      rw [z4] at this
      exact absurd this (Int.not_lt.mpr (Int.natCast_nonneg _))
    have hY : wZ G σ5 (G.2.1 h 4) c5 = (((X + NN / X) / 2 : Nat) : Int) := by
      rw [z5, z4]
      rfl
    obtain ⟨oa4, -, za4⟩ := wOk_keep (σ' := σ4) oa3 (f4 _ (ntg (T := T) (by omega)) (ntg (T := T) (by omega))) (f4 _ (ntg (T := T) (by omega)) (ntg (T := T) (by omega)))
    obtain ⟨oa5, na5, za5⟩ := wOk_keep (σ' := σ5) oa4 (f5 _ (ntg (T := T) (by omega)) (ntg (T := T) (by omega))) (f5 _ (ntg (T := T) (by omega)) (ntg (T := T) (by omega)))
    have zX : wZ G σ5 (G.2.1 h 3) ca = (X : Int) := by rw [za5, za4, za3, za]
    have hSF5 : SF T σ σ5 := fun a ha => by rw [f5 a (ntg (T := T) (by omega)) (ntg (T := T) (by omega)), f4 a (ntg (T := T) (by omega)) (ntg (T := T) (by omega)), f3 a (by omega), hSF a ha]
    have hX0' : 0 < X := by omega
    refine wl_compareSize hwB hwA o5 oa5 (fun r hr => ?_)
    rw [wN_abs, wN_abs, hY, zX, Int.natAbs_natCast, Int.natAbs_natCast] at hr
    refine ⟨fun hneg => ?_, fun hneg => ?_⟩
    · have hlt : (X + NN / X) / 2 < X := by
        rcases hr with ⟨h1, -⟩ | ⟨-, h2⟩ | ⟨-, h2⟩
        · exact h1
        · rw [h2] at hneg; exact absurd hneg (by decide)
        · rw [h2] at hneg; exact absurd hneg (by decide)
      have hlow : s ≤ (X + NN / X) / 2 := nw_low hX0' s1
      have hfall := nw_fall s2 (show s < X by omega)
      have hi1 : i < K := by
        have h1 : 1 * 2 ^ i ≤ (X - s) * 2 ^ i := Nat.mul_le_mul_right _ (by omega)
        exact (Nat.pow_lt_pow_iff_right (a := 2) (by decide)).mp (by omega)
      have hc5 := o5.2.1
      refine wl_become hwA hwB o5 (by omega) (ntg (T := T) (by omega)) (fun σ6 f6 o6 _ z6 v27 e27 => ih v27 σ6 ⟨i + 1, (X + NN / X) / 2, by rw [e27, nI_1], by omega, hSF5.trans (fun a ha => f6 a (ntg (T := T) (by omega)) (ntg (T := T) (by omega))), ⟨c5, o6, by rw [z6, hY]⟩, hlow, by omega, nw_half hgap hfall⟩ ?_)
      show K + 2 - v27.toNatClampNeg < K + 2 - (nI i).toNatClampNeg
      rw [e27, nI_1, nI_clamp (by omega), nI_clamp (by omega)]
      omega
    · have hge : X ≤ (X + NN / X) / 2 := by
        rcases hr with ⟨-, h2⟩ | ⟨h1, -⟩ | ⟨h1, -⟩
        · rw [h2] at hneg; exact absurd (by decide) hneg
        · omega
        · omega
      have hXX := nw_stop hX0' hge
      have hXs : X = s := by
        rcases Nat.lt_or_ge s X with h1 | h1
        · have := Nat.mul_le_mul (show s + 1 ≤ X from h1) (show s + 1 ≤ X from h1)
          omega
        · omega
      exact k σ5 hSF5 ⟨ca, oa5, by rw [zX, hXs]⟩
theorem f5_root {G : qG} {σ : qS} {h n w : Nat} {T : Nat → Nat} {S : qSt} {x1 x2 : Int32} {post : Int32 → qS → Prop} (hS : fS G h n w T) (hI : I5 G σ h n w S) (k : K5 G h n w T σ post (spRoot n S x1 x2)) : wpX5_root G h x1 x2 σ post := by
  unfold wpX5_root
  unfold spRoot at k
  refine f5_isNone hS (fun j hj e hr => ⟨fun _ => ?_, fun h => absurd rfl h⟩) (fun hr => ⟨fun h => absurd h (by decide), fun _ => K5_same (by rw [spIf_f (fun q => hr q.1)] at k; exact k) hI⟩)
  refine f5_isNone hS (fun j2 hj2 e2 hr2 => ⟨fun _ => ?_, fun h => absurd rfl h⟩) (fun hr => ⟨fun h => absurd h (by decide), fun _ => K5_same (by rw [spIf_f (fun q => hr q.2)] at k; exact k) hI⟩)
  have hwA := wA1 hS
  obtain ⟨c, o, hc, z, N, sg, z0⟩ := f5_reg hS hI hj2
  have hS' := hS
  obtain ⟨⟨tH, tFA, tRS, tlRS, tA1, tlA1, tA2, tlA2, tPR, tPW, tDV, tQ, tlQ, tR, tlR, tOV, tUN, tTX, tTXB, tTP, tTPB⟩, tF, ⟨cFA, cRS, cA1, cA2, cQ, cR, cOV, cUN, cTXB, cTPB⟩, pn0, pn, pw0, pw⟩ := hS
  obtain ⟨d1, d2, d3⟩ := tF j hj
  obtain ⟨p1, p2, p3⟩ := tF j2 hj2
  subst e e2
  rw [spIf_t ⟨hr, hr2⟩, ixo_nI (by omega), ixo_nI (by omega)] at k
  rw [nI_clamp (n := j2) (by omega), nI_clamp (n := j) (by omega)]
  refine ⟨vp_in_nI (by omega) (by omega), fun h0 => ⟨vp_in_nI (by omega) (by omega), ?_⟩, fun h0 => ?_⟩
  · have hnn : ¬ S.1 j2 < 0 := fun q => absurd (h0.symm.trans (sg.mpr q)) (by decide)
    rw [spIf_t hnn] at k
    refine f5_rootToFirst hS' hI hj2 (by omega) (fun τ hSF ⟨ca, oa, za⟩ => ⟨vp_in_nI (by omega) (by omega), ?_⟩)
    have hca := oa.2.1
    exact f5_give hS' (I5_SF hS' hI hSF) (fun a ha => hSF a (by omega)) hj hwA oa (by omega) za (by omega) (fun σ' g1 _ g3 => k σ' g1 g3)
  · rw [spIf_f (fun q => q (sg.mp (o.2.2.1.resolve_left h0)))] at k
    exact K5_same k hI

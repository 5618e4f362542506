/-! Pure level: calls of the reference: powers, roots. -/
/-- what the row of the power becomes: its product with a row, less whole parts -/
theorem m_timesRest {G : qG} {τ : qS} {h w row A B M : Nat} {U : Nat → Nat} {post : qS → Prop} (hM : mS G h U) (hw : w ≤ 120) (hr : row = 12 ∨ row = 21) (W : mW G τ h) (mA : rM G τ h 20 A) (mB_ : rM G τ h row B) (mM : rM G τ h 22 M) (lA : A < M) (lB : B < M) (lM : M < 4294967296 ^ w)
    (k : ∀ σ', gF G h τ σ' → (∀ r, (r = 12 ∨ r = 13 ∨ 20 < r) → rSame G h r τ σ') → mW G σ' h → rM G σ' h 20 (A * B % M) → σ' (G.2.1 h 4) 20 = 0 → post σ') : wpX6_timesRest G h (nI row) τ post := by
  obtain ⟨ca, oa, va⟩ := mA
  obtain ⟨cb, ob, vb⟩ := mB_
  have hca : ca ≤ 2 * w := (rOk_count W oa).mpr (by rw [va, p16_32]; omega)
  have hcb : cb ≤ 2 * w := (rOk_count W ob).mpr (by rw [vb, p16_32]; omega)
  unfold wpX6_timesRest
  refine m_times (d := 15) (a := 20) hM (by decide) (by decide) (by omega) (by decide) (by omega) W oa ob (by omega) (fun σ1 F1 W1 M1 _ => ?_)
  rw [va, vb] at M1
  obtain ⟨c1, o1, v1⟩ := M1
  obtain ⟨cm, om, vm⟩ := rM_same (F1.same (r := 22) (by decide)) mM
  have hm0 : 0 < cm := Nat.pos_of_ne_zero (fun q => by have := (rOk_zero W1 om).mp q; omega)
  have hc1 : c1 ≤ 519 := by
    have : c1 ≤ 4 * w := (rOk_count W1 o1).mpr (by
      rw [v1]
      have h1 := Nat.mul_lt_mul'' (show A < 4294967296 ^ w by omega) (show B < 4294967296 ^ w by omega)
      rw [← p16_32, ← Nat.pow_add, show 2 * w + 2 * w = 4 * w by omega] at h1
      exact h1)
    omega
  refine m_divide (a := 15) (b := 22) hM (by decide) (by decide) (by decide) (by decide) W1 o1 om hm0 hc1 (fun σ3 D3 W3 _ _ M17 B17 => ?_)
  rw [v1, vm] at M17
  obtain ⟨cr, or, vr⟩ := M17
  refine m_move (d := 20) (a := 17) hM (by decide) (by decide) (by decide) W3 or (fun σ5 F5 W5 o5 v5 b5 => k σ5 ((F1.gF (by decide)).trans (D3.gF.trans (F5.gF (by decide)))) (fun r hr => (F1.same (by omega)).trans ((D3.same (by omega)).trans (F5.same (by omega)))) W5 ⟨cr, o5, by rw [v5, vr]⟩ (by rw [b5, B17]))
theorem shr_bit {x r : Nat} (hx : x < 65536) (hr : r < 16) : nI x >>> (nI r &&& 31) &&& 1 = 1 ↔ x / 2 ^ r % 2 = 1 := by
  have h1 : x / 2 ^ r ≤ x := Nat.div_le_self _ _
  rw [pk_shrN (by omega) _ r (ms_k r hr)]
  have h2 : nI (x / 2 ^ r) &&& 1 = nI (x / 2 ^ r % 2) := pk_andN (by omega) 1 (by decide)
  rw [h2]
  exact nI_eq (b := 1) (by omega) (by decide)
theorem m6_powMod {G : qG} {σ : qS} {h n w : Nat} {U : Nat → Nat} {S : qSt} {x1 x2 x3 x4 : Int32} {post : Int32 → qS → Prop} (hM : mS G h U) (hn : nw n w) (hI : I6 G σ h n w S) (k : K6 G h n w U σ post (spPowMod n S x1 x2 x3 x4)) : wpX6_powMod G h x1 x2 x3 x4 σ post := by
  unfold wpX6_powMod
  unfold spPowMod at k
  refine m6_is hn hI (fun j hj e hr => ⟨fun h => absurd h (by decide), fun _ => ?_⟩) (fun hr => ⟨fun _ => K6_same (by rw [spIf_f (fun q => hr q.1)] at k; exact k) hI, fun h => absurd rfl h⟩)
  refine m6_is hn hI (fun j2 hj2 e2 hr2 => ⟨fun h => absurd h (by decide), fun _ => ?_⟩) (fun hr => ⟨fun _ => K6_same (by rw [spIf_f (fun q => hr q.2.1)] at k; exact k) hI, fun h => absurd rfl h⟩)
  refine m6_is hn hI (fun j3 hj3 e3 hr3 => ⟨fun h => absurd h (by decide), fun _ => ?_⟩) (fun hr => ⟨fun _ => K6_same (by rw [spIf_f (fun q => hr q.2.2.1)] at k; exact k) hI, fun h => absurd rfl h⟩)
  refine m6_is hn hI (fun j4 hj4 e4 hr4 => ⟨fun h => absurd h (by decide), fun _ => ?_⟩) (fun hr => ⟨fun _ => K6_same (by rw [spIf_f (fun q => hr q.2.2.2)] at k; exact k) hI, fun h => absurd rfl h⟩)
  have hn' := hn
  obtain ⟨ca, oa, hca, va, sga, z0a, hza, hfa⟩ := m6_reg hI hj2
  obtain ⟨ce, oe, hce, ve, sge, z0e, hze, hfe⟩ := m6_reg hI hj3
  obtain ⟨cm, om, hcm, vm, sgm, z0m, hzm, hfm⟩ := m6_reg hI hj4
  obtain ⟨n1, n2, n3, n4⟩ := hn
  have hW := hI.2.2.1
  have c17 : (17 : Int32).toNatClampNeg = 17 := by decide
  have c21 : (21 : Int32).toNatClampNeg = 21 := by decide
  rw [spIf_t ⟨hr, hr2, hr3, hr4⟩] at k
  subst e e2 e3 e4
  rw [ixo_nI (by omega), ixo_nI (by omega), ixo_nI (by omega), ixo_nI (by omega)] at k
  have no : ¬ (0 < S.1 j4 ∧ 0 ≤ S.1 j3 ∧ (S.1 j3).natAbs < 4294967296 ^ 2) → post (-2) σ := fun q => K6_same (by rw [spIf_f q] at k; exact k) hI
  have ezm : nI cm = 0 ↔ cm = 0 := nI_eq (b := 0) (by omega) (by decide)
  have e4c : nI ce ≤ (4 : Int32) ↔ ce ≤ 4 := nI_leI (b := 4) (by omega) (by decide)
  have hcnt := rOk_count (k := 4) hW oe
  have p4 : (65536 : Nat) ^ 4 = 4294967296 ^ 2 := by decide
  rw [ve, p4] at hcnt
  rw [nI_clamp (n := j2) (by omega), nI_clamp (n := j3) (by omega), nI_clamp (n := j4) (by omega), om.1, ezm, oe.1, e4c, c17]
  refine ⟨vL hM (by omega), fun h1 => no (fun q => by have := z0m.mp h1; omega), fun h1 => ⟨vB hM (by omega), fun h2 => ⟨vB hM (by omega), fun h3 => ⟨vL hM (by omega), fun h4 => ?_, fun h4 => no (fun q => h4 (hcnt.mpr q.2.2))⟩, fun h3 => no (fun q => by have := sge.mp ((hW.2 j3).resolve_left h3); omega)⟩, fun h2 => no (fun q => by have := sgm.mp ((hW.2 j4).resolve_left h2); omega)⟩⟩
  have hMp : 0 < S.1 j4 := by
    have q1 : ¬ S.1 j4 < 0 := fun q => absurd (h2.symm.trans (sgm.mpr q)) (by decide)
    have q2 : S.1 j4 ≠ 0 := fun q => h1 (z0m.mpr q)
    omega
  have hEn : 0 ≤ S.1 j3 := Int.not_lt.mp (fun q => absurd (h3.symm.trans (sge.mpr q)) (by decide))
  rw [spIf_t ⟨hMp, hEn, hcnt.mp h4⟩] at k
  have lM : (S.1 j4).natAbs < 4294967296 ^ w := by rw [← vm, ← p16_32]; exact (rOk_count hW om).mp hcm
  -- the base, reduced
  have hAn : 0 ≤ S.1 j2 % S.1 j4 := Int.emod_nonneg _ (by omega)
  have hAl : S.1 j2 % S.1 j4 < S.1 j4 := Int.emod_lt_of_pos _ hMp
  have hfit : ∀ E : Nat, (S.1 j2 ^ E % S.1 j4).natAbs < 4294967296 ^ w := fun E => by
    have q1 : 0 ≤ S.1 j2 ^ E % S.1 j4 := Int.emod_nonneg _ (by omega)
    have q2 : S.1 j2 ^ E % S.1 j4 < S.1 j4 := Int.emod_lt_of_pos _ hMp
    omega
  rw [← spPut_fit (w := w) (S := S) (d := j) (hfit _)] at k
  refine m_move (d := 22) hM (by decide) (by omega) (by omega) hW om (fun σ23 F23 W23 o23 v23 _ => ?_)
  rw [vm] at v23
  obtain ⟨oa23, va23⟩ := rOk_same (F23.same (r := j2) (by omega)) oa
  have hcm0 : 0 < cm := by omega
  refine m_divide (b := 22) hM (by omega) (by omega) (by decide) (by decide) W23 oa23 o23 hcm0 (by omega) (fun σ25 D25 W25 _ _ M17 B17 => ?_)
  rw [va23, va, v23] at M17
  obtain ⟨cr, or, vr⟩ := M17
  refine m_move (d := 21) (a := 17) hM (by decide) (by decide) (by decide) W25 or (fun σ27 F27 W27 o27 v27 b27 => ?_)
  have g27 : gF G h σ σ27 := (F23.gF (by decide)).trans (D25.gF.trans (F27.gF (by decide)))
  have m22 : rM G σ27 h 22 (S.1 j4).natAbs := rM_same (F27.same (r := 22) (by decide)) (rM_same (D25.same (r := 22) (by decide)) ⟨cm, o23, v23⟩)
  have r17 : rOk G σ27 h 17 cr ∧ rV G σ27 h 17 cr = rV G σ25 h 17 cr := rOk_same (F27.same (r := 17) (by decide)) or
  have hBa : σ27 (G.2.1 h 4) j2 = σ (G.2.1 h 4) j2 := (g27.2.2 j2 (by omega)).2
  rw [hBa]
  have hdr := dr_abs (S.1 j2) (S.1 j4)
  -- from here on
  have rest : ∀ (τ : qS), gF G h σ τ → mW G τ h → rM G τ h 21 (S.1 j2 % S.1 j4).natAbs → rM G τ h 22 (S.1 j4).natAbs → bkX6_powMod_129 G h (nI j) (nI j3) post τ := by
    intro τ g W m21 m22
    unfold bkX6_powMod_129
    rw [c21]
    refine ⟨vB (r := 21) hM (by decide), fun σ33 e33 => ?_⟩
    obtain ⟨F33, W33, B33, C33, L33⟩ := mB_0 hM W e33
    have m21' : rM G σ33 h 21 (S.1 j2 % S.1 j4).natAbs := by
      obtain ⟨c, o, v⟩ := m21
      exact ⟨c, ⟨by rw [L33]; exact o.1, o.2.1, fun i hi => by rw [C33]; exact o.2.2 i hi⟩, by rw [← v]; exact mO_congr (fun i _ => by rw [C33])⟩
    have m22' := rM_same (F33.same (r := 22) (by decide)) m22
    have g33 : gF G h σ σ33 := g.trans (F33.gF (by decide))
    obtain ⟨oe33, ve33⟩ := rOk_same (g33.same (r := j3) (by omega)) oe
    refine m_bitsOf hM (by omega) W33 oe33 ?_
    rw [ve33, ve]
    refine m_move (d := 13) hM (by decide) (by omega) (by omega) W33 oe33 (fun σ36 F36 W36 o36 v36 _ => ?_)
    rw [ve33, ve] at v36
    refine m_small (r := 12) hM (by decide) W36 (fun σ38 F38 W38 M38 _ => ?_)
    have u1 : uL (1 : Int64) = 1 := rfl
    rw [u1] at M38
    obtain ⟨c12, o12, v12⟩ := M38
    obtain ⟨c22, o22, v22⟩ := rM_same (F38.same (r := 22) (by decide)) (rM_same (F36.same (r := 22) (by decide)) m22')
    have hc12 : c12 ≤ 1 := (rOk_count W38 o12).mpr (by rw [v12]; decide)
    have hc22 : 0 < c22 := Nat.pos_of_ne_zero (fun q => by have := (rOk_zero W38 o22).mp q; omega)
    refine m_divide (a := 12) (b := 22) hM (by decide) (by decide) (by decide) (by decide) W38 o12 o22 hc22 (by omega) (fun σ40 D40 W40 _ _ M40 B40 => ?_)
    rw [v12, v22] at M40
    obtain ⟨cx, ox, vx⟩ := M40
    refine m_move (d := 20) (a := 17) hM (by decide) (by decide) (by decide) W40 ox (fun σ42 F42 W42 o42 v42 b42 v44 e44 => ?_)
    have g42 : gF G h σ σ42 := g33.trans ((F36.gF (by decide)).trans ((F38.gF (by decide)).trans (D40.gF.trans (F42.gF (by decide)))))
    have sm : ∀ r, (r = 21 ∨ r = 22) → rSame G h r σ33 σ42 := fun r hr => (F36.same (by omega)).trans ((F38.same (by omega)).trans ((D40.same (by omega)).trans (F42.same (by omega))))
    have s13 : rSame G h 13 σ36 σ42 := (F38.same (by decide)).trans ((D40.same (by decide)).trans (F42.same (by decide)))
    have m13 : rM G σ42 h 13 (S.1 j3).natAbs := rM_same s13 ⟨ce, o36, v36⟩
    have hb2 := bl_is (S.1 j3).natAbs
    have hb64 : bl (S.1 j3).natAbs ≤ 64 := by
      rw [isBits_le hb2]
      have := hcnt.mp h4
      have e64 : 4294967296 ^ 2 = 2 ^ 64 := by decide
      omega
    generalize hbe : bl (S.1 j3).natAbs = b at *
    generalize hEe : (S.1 j3).natAbs = E at *
    refine lp2 (W := fun f x κ => lpX6_powMod_180 G h (nI j) post _ f x κ) (I := fun x κ => ∃ (i s : Nat), x = nI i - 1 ∧ i ≤ b ∧ gF G h σ κ ∧ mW G κ h ∧ rM G κ h 13 E ∧ rM G κ h 21 (S.1 j2 % S.1 j4).natAbs ∧ rM G κ h 22 (S.1 j4).natAbs ∧ rM G κ h 20 s ∧ κ (G.2.1 h 4) 20 = 0 ∧ (s : Int) = (S.1 j2 % S.1 j4) ^ (E / 2 ^ i) % S.1 j4) (μ := fun x _ => (x + 1).toNatClampNeg) ?_ v44 σ42 ⟨b, 1 % (S.1 j4).natAbs, e44, Nat.le_refl _, g42, W42, m13, rM_same (sm 21 (by omega)) m21', rM_same (sm 22 (by omega)) m22', ⟨cx, o42, by rw [v42, vx]⟩, by rw [b42, B40], ?_⟩
    · intro f x κ hInv ih
      obtain ⟨i, s, rfl, hi, gk, Wk, m13, m21, m22, m20, b20, hs⟩ := hInv
      have hs_lt : s < (S.1 j4).natAbs := by
        have : (s : Int) < S.1 j4 := by rw [hs]; exact Int.emod_lt_of_pos _ hMp
        omega
      show lpX6_powMod_180 G h (nI j) post _ (f + 1) _ _
      unfold lpX6_powMod_180
      rw [nI_m1neg (by omega)]
      refine ⟨fun h0 => ?_, fun h0 => ?_⟩
      · subst h0
        obtain ⟨cs, os, vs⟩ := m20
        refine m_keep (row := 20) hM hn' (I6_gF hM hn' hI gk Wk) (gk.out hM) hj (by decide) (by decide) os (fun _ => b20) ?_ k
        unfold rZ
        rw [b20, if_neg (by decide), vs, hs, Nat.pow_zero, Nat.div_one, pow_emod]
      · obtain ⟨t, rfl⟩ : ∃ t, i = t + 1 := ⟨i - 1, by omega⟩
        rw [nI_pred]
        obtain ⟨c20, o20, v20⟩ := m20
        refine m_move (d := 12) (a := 20) hM (by decide) (by decide) (by decide) Wk o20 (fun σ46 F46 W46 o46 v46 _ => ?_)
        have s46 : ∀ r, r ≠ 12 → rSame G h r κ σ46 := fun r hr => F46.same hr
        refine m_timesRest (row := 12) hM n4 (Or.inl rfl) W46 (rM_same (s46 20 (by decide)) ⟨c20, o20, v20⟩) ⟨c20, o46, by rw [v46, v20]⟩ (rM_same (s46 22 (by decide)) m22) hs_lt hs_lt lM (fun σ48 g48 s48 W48 m48 b48 => ?_)
        have e4 : nI t >>> ((4 : Int32) &&& 31) = nI (t / 16) := pk_shrN (by omega) _ 4 (by decide)
        have e15 : nI t &&& 15 = nI (t % 16) := pk_andN (by omega) 4 (by decide)
        rw [e4, e15]
        have m13' := rM_same (s48 13 (by omega)) (rM_same (s46 13 (by decide)) m13)
        have m21' := rM_same (s48 21 (by omega)) (rM_same (s46 21 (by decide)) m21)
        have m22' := rM_same (s48 22 (by omega)) (rM_same (s46 22 (by decide)) m22)
        obtain ⟨c13, o13, v13⟩ := id m13'
        refine m_digit (r := 13) hM (by decide) (by omega) o13.1 o13.2.1 ?_
        have dl := mdg_lt (r := 13) (c := c13) (k := t / 16) W48
        have hdig : mdg G σ48 h 13 c13 (t / 16) = E / 65536 ^ (t / 16) % 65536 := by
          unfold mdg
          by_cases ht : t / 16 < c13
          · rw [if_pos ht, ← v13]
            exact (nv_digit (B := 65536) (d := fun t => uI (σ48 (G.2.1 h 2) (520 * 13 + t))) (n := c13) (i := t / 16) (by decide) (fun t _ => W48.1 _) ht).symm
          · have : E < 65536 ^ (t / 16) := by
              rw [← v13]
              exact (rOk_count W48 o13).mp (by omega)
            rw [if_neg ht, Nat.div_eq_of_lt this]
        have hbit : mdg G σ48 h 13 c13 (t / 16) / 2 ^ (t % 16) % 2 = E / 2 ^ t % 2 := by
          rw [hdig]
          have e16 : (65536 : Nat) ^ (t / 16) = 2 ^ (16 * (t / 16)) := by rw [Nat.pow_mul]
          have e3 : (65536 : Nat) = 2 ^ (t % 16) * (2 * 2 ^ (15 - t % 16)) := by
            rw [← Nat.mul_assoc, ← Nat.pow_succ, ← Nat.pow_add, show t % 16 + 1 + (15 - t % 16) = 16 by omega]
          generalize hq : E / 65536 ^ (t / 16) = q
          have e4 : E / 2 ^ t = q / 2 ^ (t % 16) := by
            rw [← hq, e16, Nat.div_div_eq_div_mul, ← Nat.pow_add, show 16 * (t / 16) + t % 16 = t by omega]
          rw [e4]
          have e5 : q % 65536 / 2 ^ (t % 16) = q / 2 ^ (t % 16) % (2 * 2 ^ (15 - t % 16)) := by
            rw [← Nat.mod_mul_right_div_self, ← e3]
          rw [e5, Nat.mod_mul_right_mod]
        rw [shr_bit dl (by omega), hbit]
        have hsq : ((s * s % (S.1 j4).natAbs : Nat) : Int) = (S.1 j2 % S.1 j4) ^ (2 * (E / 2 ^ (t + 1))) % S.1 j4 := by
          rw [Int.natCast_emod, Int.natCast_mul, show ((S.1 j4).natAbs : Int) = S.1 j4 by omega, hs, ← Int.mul_emod, Nat.two_mul, Int.pow_add]
        have hE2 : E / 2 ^ t = 2 * (E / 2 ^ (t + 1)) + E / 2 ^ t % 2 := by
          rw [Nat.pow_succ, ← Nat.div_div_eq_div_mul]
          omega
        have hmu : ∀ v : Int32, v = nI t + (-1) → (v + 1).toNatClampNeg < (nI (t + 1) - 1 + 1).toNatClampNeg := by
          intro v e
          rw [e, i32_m1, i32_mp, i32_mp, nI_clamp (by omega), nI_clamp (by omega)]
          omega
        have hsq_lt : s * s % (S.1 j4).natAbs < (S.1 j4).natAbs := Nat.mod_lt _ (by omega)
        have g48' : gF G h σ σ48 := gk.trans ((F46.gF (by decide)).trans g48)
        refine ⟨fun hb1 => ?_, fun hb0 v53 e53 => ?_⟩
        · refine m_timesRest (row := 21) hM n4 (Or.inr rfl) W48 m48 m21' m22' hsq_lt (by omega) lM (fun σ54 g54 s54 W54 m54 b54 v56 e56 => ?_)
          refine ih v56 σ54 ⟨t, _, by rw [e56, i32_m1], by omega, g48'.trans g54, W54, rM_same (s54 13 (by omega)) m13', rM_same (s54 21 (by omega)) m21', rM_same (s54 22 (by omega)) m22', m54, b54, ?_⟩ (hmu v56 e56)
          rw [Int.natCast_emod, Int.natCast_mul, show ((S.1 j4).natAbs : Int) = S.1 j4 by omega, show ((S.1 j2 % S.1 j4).natAbs : Int) = S.1 j2 % S.1 j4 by omega, hsq, hE2, hb1, Int.pow_succ, Int.mul_emod, Int.emod_emod, ← Int.mul_emod]
        · refine ih v53 σ48 ⟨t, _, by rw [e53, i32_m1], by omega, g48', W48, m13', m21', m22', m48, b48, ?_⟩ (hmu v53 e53)
          rw [hsq, hE2, show E / 2 ^ t % 2 = 0 by omega] <;> rfl
    · have hlt : E < 2 ^ b := (isBits_le hb2).mp (Nat.le_refl _)
      rw [Nat.div_eq_of_lt hlt, Int.pow_zero, Int.natCast_emod, show ((S.1 j4).natAbs : Int) = S.1 j4 by omega]
      rfl
  refine ⟨vB hM (by omega), fun h5 => ?_, fun h5 => ⟨vL (r := 17) hM (by decide), ?_⟩⟩
  · have hnn : ¬ S.1 j2 < 0 := fun q => absurd (h5.symm.trans (sga.mpr q)) (by decide)
    refine rest σ27 g27 W27 ⟨cr, o27, ?_⟩ m22
    rw [v27, vr, ← dr_pos (by omega) hMp, hdr]
  · have hneg : S.1 j2 < 0 := sga.mp ((hW.2 j2).resolve_left h5)
    have hcr520 := or.2.1
    obtain ⟨d0, d1⟩ := dr_neg hneg hMp
    rw [r17.1.1, nI_le0 (by omega)]
    refine ⟨fun h6 => rest σ27 g27 W27 ⟨cr, o27, ?_⟩ m22, fun h6 => ?_⟩
    · have hz0 := (rOk_zero W25 or).mp h6
      rw [vr] at hz0
      have : dr (S.1 j2) (S.1 j4) = 0 := by rw [← hdr] at hz0; omega
      rw [v27, vr, hz0, d0 this]
      rfl
    · have hz0 : (S.1 j2).natAbs % (S.1 j4).natAbs ≠ 0 := fun q => h6 ((rOk_zero W25 or).mpr (by rw [vr]; exact q))
      obtain ⟨c22, o22, v22⟩ := id m22
      have hml : (S.1 j2).natAbs % (S.1 j4).natAbs < (S.1 j4).natAbs := Nat.mod_lt _ (by omega)
      refine m_minus (d := 21) (a := 22) (b := 17) hM (by decide) (by decide) (by decide) (by decide) (by decide) W27 o22 r17.1 (by rw [r17.2, vr, v22]; omega) (fun σ63 R => ?_)
      rw [r17.2, vr, v22] at R
      obtain ⟨F63, W63, -, c63, o63, v63, -⟩ := R
      refine rest σ63 (g27.trans (F63.gF (by decide))) W63 ⟨c63, o63, ?_⟩ (rM_same (F63.same (r := 22) (by decide)) m22)
      have hdn : dr (S.1 j2) (S.1 j4) ≤ 0 := by unfold dr; rw [if_pos hneg]; omega
      rw [v63, d1 (by omega)]
      omega

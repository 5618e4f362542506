/-! Pure level: the reference's root. -/
theorem rt_step {Ni two r X N' : Nat} (ht : two < 4) (hX : X + r * r = Ni) (hlo : r * r ≤ Ni) (hhi : Ni < (r + 1) * (r + 1)) (hN : N' = 4 * Ni + two) : (4 * r + 1 ≤ 4 * X + two → (2 * r + 1) * (2 * r + 1) + (4 * X + two - (4 * r + 1)) = N' ∧ N' < (2 * r + 1 + 1) * (2 * r + 1 + 1)) ∧ (¬ 4 * r + 1 ≤ 4 * X + two → 2 * r * (2 * r) + (4 * X + two) = N' ∧ N' < (2 * r + 1) * (2 * r + 1)) := by
  have e1 : 2 * r * (2 * r) = 4 * (r * r) := by rw [Nat.mul_mul_mul_comm]
  have e2 : (2 * r + 1) * (2 * r + 1) = 4 * (r * r) + 4 * r + 1 := by rw [Nat.add_mul, Nat.mul_add, e1]; omega
  have e3 : (2 * r + 1 + 1) * (2 * r + 1 + 1) = 4 * (r * r) + 8 * r + 4 := by
    rw [Nat.add_mul (2 * r + 1) 1, Nat.mul_add (2 * r + 1), e2]; omega
  have e4 : (r + 1) * (r + 1) = r * r + 2 * r + 1 := by rw [Nat.add_mul, Nat.mul_add]; omega
  rw [e1, e2, e3]
  rw [e4] at hhi
  constructor
  · intro h; omega
  · intro h; omega
theorem m_two {x r : Nat} (hx : x < 65536) (hr : r < 8) : (nI x >>> (((2 : Int32) * nI r) &&& 31)) &&& 3 = nI (x / 4 ^ r % 4) := by
  have e1 : (2 : Int32) * nI r = nI (2 * r) := pk_mul 2 r
  have h1 : x / 2 ^ (2 * r) ≤ x := Nat.div_le_self _ _
  have h2 : nI (x / 2 ^ (2 * r)) &&& 3 = nI (x / 2 ^ (2 * r) % 4) := pk_andN (by omega) 2 (by decide)
  rw [e1, pk_shrN (by omega) _ (2 * r) (ms_k (2 * r) (by omega)), h2, Nat.pow_mul]
theorem m6_root {G : qG} {σ : qS} {h n w : Nat} {U : Nat → Nat} {S : qSt} {x1 x2 : Int32} {post : Int32 → qS → Prop} (hM : mS G h U) (hn : nw n w) (hI : I6 G σ h n w S) (k : K6 G h n w U σ post (spRoot n S x1 x2)) : wpX6_root G h x1 x2 σ post := by
  unfold wpX6_root
  unfold spRoot at k
  refine m6_is hn hI (fun j hj e hr => ⟨fun h => absurd h (by decide), fun _ => ?_⟩) (fun hr => ⟨fun _ => K6_same (by rw [spIf_f (fun q => hr q.1)] at k; exact k) hI, fun h => absurd rfl h⟩)
  refine m6_is hn hI (fun j2 hj2 e2 hr2 => ⟨fun h => absurd h (by decide), fun _ => ?_⟩) (fun hr => ⟨fun _ => K6_same (by rw [spIf_f (fun q => hr q.2)] at k; exact k) hI, fun h => absurd rfl h⟩)
  have hn' := hn
  obtain ⟨c, o, hc, v, sg, z0, hz, hf⟩ := m6_reg hI hj2
  obtain ⟨n1, n2, n3, n4⟩ := hn
  have hW := hI.2.2.1
  have c14 : (14 : Int32).toNatClampNeg = 14 := by decide
  have c20 : (20 : Int32).toNatClampNeg = 20 := by decide
  have c21 : (21 : Int32).toNatClampNeg = 21 := by decide
  subst e e2
  rw [spIf_t ⟨hr, hr2⟩, ixo_nI (by omega), ixo_nI (by omega)] at k
  rw [nI_clamp (n := j2) (by omega), c14, c20, c21]
  refine ⟨vB hM (by omega), fun h1 => ⟨vL (r := 20) hM (by decide), fun σ12 e12 => ⟨vL (r := 21) hM (by decide), fun σ14 e14 => ⟨vB (r := 20) hM (by decide), fun σ16 e16 => ⟨vB (r := 21) hM (by decide), fun σ18 e18 => ?_⟩⟩⟩⟩, fun h1 => ?_⟩
  · have hnn : ¬ S.1 j2 < 0 := fun q => absurd (h1.symm.trans (sg.mpr q)) (by decide)
    rw [spIf_t hnn] at k
    have hMM := hM
    obtain ⟨⟨gH, gC, gL, gB, gT, gP⟩, kC, kL, kB, kT, kP⟩ := id hM
    have hC : σ18 (G.2.1 h 2) = σ (G.2.1 h 2) := by rw [e18, q_st_a _ _ (ntg (T := U) (by omega)), e16, q_st_a _ _ (ntg (T := U) (by omega)), e14, q_st_a _ _ (ntg (T := U) (by omega)), e12, q_st_a _ _ (ntg (T := U) (by omega))]
    have hL14 : ∀ r, σ18 (G.2.1 h 3) r = σ14 (G.2.1 h 3) r := fun r => by rw [e18, q_st_a _ _ (ntg (T := U) (by omega)), e16, q_st_a _ _ (ntg (T := U) (by omega))]
    have hB14 : σ14 (G.2.1 h 4) = σ (G.2.1 h 4) := by rw [e14, q_st_a _ _ (ntg (T := U) (by omega)), e12, q_st_a _ _ (ntg (T := U) (by omega))]
    have g18 : gF G h σ σ18 := by
      refine ⟨fun x q1 q2 q3 => by rw [e18, q_st_a _ _ q3, e16, q_st_a _ _ q3, e14, q_st_a _ _ q2, e12, q_st_a _ _ q2], fun i _ => by rw [hC], fun r hr => ⟨by rw [hL14, e14, q_st_ne _ _ (by omega), e12, q_st_ne _ _ (by omega)], by rw [e18, q_st_ne _ _ (by omega), e16, q_st_ne _ _ (by omega), hB14]⟩⟩
    have W18 : mW G σ18 h := by
      refine ⟨fun i => by rw [hC]; exact hW.1 i, fun r => ?_⟩
      by_cases q1 : r = 21
      · rw [e18, q1, q_st_self]; exact Or.inl rfl
      · rw [e18, q_st_ne _ _ (by omega)]
        by_cases q2 : r = 20
        · rw [e16, q2, q_st_self]; exact Or.inl rfl
        · rw [e16, q_st_ne _ _ (by omega), hB14]; exact hW.2 r
    have m20 : rM G σ18 h 20 0 := ⟨0, ⟨by rw [hL14, e14, q_st_ne _ _ (by omega), e12, q_st_self]; rfl, by omega, fun i hi => absurd hi (by omega)⟩, rfl⟩
    have m21 : rM G σ18 h 21 0 := ⟨0, ⟨by rw [hL14, e14, q_st_self]; rfl, by omega, fun i hi => absurd hi (by omega)⟩, rfl⟩
    obtain ⟨o18, v18⟩ := rOk_same (g18.same (r := j2) (by omega)) o
    refine m_bitsOf hMM (by omega) W18 o18 ?_
    rw [v18, v]
    have hb := bl_is (S.1 j2).natAbs
    have hNlt : (S.1 j2).natAbs < 4294967296 ^ w := by rw [← v, ← p16_32]; exact (rOk_count hW o).mp hc
    have hb32 : bl (S.1 j2).natAbs ≤ 32 * w := by rw [isBits_le hb, ← pow32]; exact hNlt
    generalize hbe : bl (S.1 j2).natAbs = b at *
    generalize hNe : (S.1 j2).natAbs = N at *
    intro v21 e21
    have ediv : (nI b + 1) / 2 = nI ((b + 1) / 2) := by rw [nI_1]; exact pk_div (a := b + 1) (d := 2) (by omega) (by decide) (by decide)
    rw [ediv] at e21
    have hBd : 1 ≤ 4294967296 ^ w := Nat.pow_pos (by decide)
    have h65 : 65536 ^ (2 * w + 1) = 65536 * 4294967296 ^ w := by rw [Nat.pow_succ, p16_32, Nat.mul_comm]
    have hN4 : N / 4 ^ ((b + 1) / 2) = 0 := by
      refine Nat.div_eq_of_lt ?_
      have q1 : N < 2 ^ b := (isBits_le hb).mp (Nat.le_refl _)
      have q2 : (4 : Nat) ^ ((b + 1) / 2) = 2 ^ (2 * ((b + 1) / 2)) := by rw [Nat.pow_mul]
      rw [q2]
      exact Nat.lt_of_lt_of_le q1 (Nat.pow_le_pow_right (by decide) (by omega))
    refine lp2 (W := fun f x τ => lpX6_root_74 G h (nI j) (nI j2) post _ f x τ) (I := fun x τ => ∃ i X r : Nat, x = nI i - 1 ∧ i ≤ (b + 1) / 2 ∧ gF G h σ τ ∧ mW G τ h ∧ rM G τ h 20 X ∧ rM G τ h 21 (2 * r) ∧ X + r * r = N / 4 ^ i ∧ N / 4 ^ i < (r + 1) * (r + 1)) (μ := fun x _ => (x + 1).toNatClampNeg) ?_ v21 σ18 ⟨(b + 1) / 2, 0, 0, e21, Nat.le_refl _, g18, W18, m20, m21, by rw [hN4], by rw [hN4]; decide⟩
    intro f x τ hInv ih
    obtain ⟨i, X, r, rfl, hi, g, W, mX, mY, hX, hhi⟩ := hInv
    show lpX6_root_74 G h (nI j) (nI j2) post _ (f + 1) _ _
    unfold lpX6_root_74
    rw [nI_m1neg (by omega)]
    have hrN : r * r ≤ N := Nat.le_trans (by omega) (Nat.div_le_self N (4 ^ i))
    have hr_lt : r < 4294967296 ^ w := by
      rcases Nat.lt_or_ge r (4294967296 ^ w) with q | q
      · exact q
      · exfalso
        have q1 : 4294967296 ^ w * 1 ≤ r * r := Nat.mul_le_mul q (by omega)
        omega
    have e4r : (r + 1) * (r + 1) = r * r + 2 * r + 1 := by rw [Nat.add_mul, Nat.mul_add]; omega
    have hXr : X ≤ 2 * r := by omega
    obtain ⟨cX, oX, vX⟩ := mX
    obtain ⟨cY, oY, vY⟩ := mY
    refine ⟨fun h0 => ?_, fun h0 => ?_⟩
    · subst h0
      rw [Nat.pow_zero, Nat.div_one] at hX hhi
      refine m_shiftDown (d := 14) (a := 21) (m := 1) hMM (by decide) (by decide) (by decide) W oY (by decide) (fun σ54 R => ⟨vB (r := 14) hMM (by decide), fun σ57 e57 => ?_⟩)
      rw [vY] at R
      obtain ⟨F, W54, -, c54, o54, v54, -⟩ := R
      have g54 := g.trans (F.gF (by decide))
      have hsq : r = sqr N := sqr_unique (by omega) hhi
      have hfit : ((sqr N : Nat) : Int).natAbs < 4294967296 ^ w := by rw [Int.natAbs_natCast, ← hsq]; exact hr_lt
      rw [← spPut_fit (w := w) (S := S) (d := j) hfit] at k
      refine m_done (row := 14) (neg := False) hMM hn' (I6_gF hMM hn' hI g54 W54) (g54.out hMM) hj (by decide) (by decide) o54 (Or.inl rfl) ⟨fun q => absurd q (by decide), fun q => q.1.elim⟩ (fun q => q.elim) (fun _ => ?_) k e57
      rw [v54, ← hsq]
      congr 1
      omega
    · obtain ⟨t, rfl⟩ : ∃ t, i = t + 1 := ⟨i - 1, by omega⟩
      rw [nI_pred]
      have e3 : nI t >>> ((3 : Int32) &&& 31) = nI (t / 8) := pk_shrN (by omega) _ 3 (by decide)
      have e7 : nI t &&& 7 = nI (t % 8) := pk_andN (by omega) 3 (by decide)
      rw [e3, e7]
      obtain ⟨oa, va⟩ := rOk_same (g.same (r := j2) (by omega)) o
      refine m_digit hMM (by omega) (by omega) oa.1 oa.2.1 ?_
      have dl := mdg_lt (r := j2) (c := c) (k := t / 8) W
      have hdig : mdg G τ h j2 c (t / 8) = N / 65536 ^ (t / 8) % 65536 := by
        unfold mdg
        by_cases ht : t / 8 < c
        · rw [if_pos ht, ← v, ← va]
          exact (nv_digit (B := 65536) (d := fun t => uI (τ (G.2.1 h 2) (520 * j2 + t))) (n := c) (i := t / 8) (by decide) (fun t _ => W.1 _) ht).symm
        · have : N < 65536 ^ (t / 8) := by
            rw [← v]
            exact (rOk_count hW o).mp (by omega)
          rw [if_neg ht, Nat.div_eq_of_lt this]
      have htwo : mdg G τ h j2 c (t / 8) / 4 ^ (t % 8) % 4 = N / 4 ^ t % 4 := by
        rw [hdig]
        have e16 : (65536 : Nat) ^ (t / 8) = 4 ^ (8 * (t / 8)) := by rw [Nat.pow_mul]
        have e5 : (65536 : Nat) = 4 ^ (t % 8) * (4 * 4 ^ (7 - t % 8)) := by
          rw [← Nat.mul_assoc, ← Nat.pow_succ, ← Nat.pow_add, show t % 8 + 1 + (7 - t % 8) = 8 by omega]
        generalize hq : N / 65536 ^ (t / 8) = q
        have e6 : N / 4 ^ t = q / 4 ^ (t % 8) := by
          rw [← hq, e16, Nat.div_div_eq_div_mul, ← Nat.pow_add, show 8 * (t / 8) + t % 8 = t by omega]
        rw [e6]
        have e7 : q % 65536 / 4 ^ (t % 8) = q / 4 ^ (t % 8) % (4 * 4 ^ (7 - t % 8)) := by
          rw [← Nat.mod_mul_right_div_self, ← e5]
        rw [e7, Nat.mod_mul_right_mod]
      rw [m_two dl (by omega), htwo]
      have hN' : N / 4 ^ t = 4 * (N / 4 ^ (t + 1)) + N / 4 ^ t % 4 := by
        rw [Nat.pow_succ, ← Nat.div_div_eq_div_mul]
        omega
      have ht4 : N / 4 ^ t % 4 < 4 := Nat.mod_lt _ (by decide)
      generalize htw : N / 4 ^ t % 4 = two at *
      obtain ⟨st1, st2⟩ := rt_step ht4 hX (by omega) hhi hN'
      intro v25 e25
      have h25 : uL v25.toInt64 = two := by rw [e25, uL_nI (by omega)]
      have hcX : cX ≤ 2 * w + 1 := (rOk_count W oX).mpr (by rw [vX, h65]; omega)
      have hcY : cY ≤ 2 * w + 1 := (rOk_count W oY).mpr (by rw [vY, h65]; omega)
      refine m_shiftUp (d := 12) (a := 20) (m := 2) hMM (by decide) (by decide) (by decide) W oX (by decide) (by omega) (fun σ26 R26 => ?_)
      rw [vX] at R26
      obtain ⟨F26, W26, -, c26, o26, v26, -⟩ := R26
      refine m_small (r := 13) hMM (by decide) W26 (fun σ28 F28 W28 M28 _ => ?_)
      rw [h25] at M28
      obtain ⟨c28, o28, v28⟩ := M28
      obtain ⟨o26', v26'⟩ := rOk_same (F28.same (r := 12) (by decide)) o26
      have hc26 : c26 ≤ 519 := by
        have : c26 ≤ 2 * w + 1 := (rOk_count W26 o26).mpr (by rw [v26, h65]; omega)
        omega
      have hc28 : c28 ≤ 519 := by
        have : c28 ≤ 1 := (rOk_count W28 o28).mpr (by rw [v28]; omega)
        omega
      refine m_plus (d := 20) (a := 12) (b := 13) hMM (by decide) (by decide) (by decide) (by decide) (by decide) W28 o26' o28 hc26 hc28 (fun σ30 R30 => ?_)
      rw [v26', v26, v28, show X * 2 ^ 2 + two = 4 * X + two by omega] at R30
      obtain ⟨F30, W30, -, c30, o30, v30, -⟩ := R30
      have sY : rSame G h 21 τ σ30 := (F26.same (by decide)).trans ((F28.same (by decide)).trans (F30.same (by decide)))
      obtain ⟨oY', vY'⟩ := rOk_same sY oY
      refine m_shiftUp (d := 12) (a := 21) (m := 1) hMM (by decide) (by decide) (by decide) W30 oY' (by decide) (by omega) (fun σ32 R32 => ?_)
      rw [vY', vY, show 2 * r * 2 ^ 1 = 4 * r by omega] at R32
      obtain ⟨F32, W32, -, c32, o32, v32, -⟩ := R32
      refine m_small (r := 13) hMM (by decide) W32 (fun σ34 F34 W34 M34 _ => ?_)
      have u1 : uL (1 : Int64) = 1 := rfl
      rw [u1] at M34
      obtain ⟨c34, o34, v34⟩ := M34
      obtain ⟨o32', v32'⟩ := rOk_same (F34.same (r := 12) (by decide)) o32
      have hc32 : c32 ≤ 519 := by
        have : c32 ≤ 2 * w + 1 := (rOk_count W32 o32).mpr (by rw [v32, h65]; omega)
        omega
      have hc34 : c34 ≤ 519 := by
        have : c34 ≤ 1 := (rOk_count W34 o34).mpr (by rw [v34]; decide)
        omega
      refine m_plus (d := 14) (a := 12) (b := 13) hMM (by decide) (by decide) (by decide) (by decide) (by decide) W34 o32' o34 hc32 hc34 (fun σ36 R36 => ?_)
      rw [v32', v32, v34] at R36
      obtain ⟨F36, W36, -, c36, o36, v36, -⟩ := R36
      have s20 : rSame G h 20 σ30 σ36 := (F32.same (by decide)).trans ((F34.same (by decide)).trans (F36.same (by decide)))
      obtain ⟨o30', v30'⟩ := rOk_same s20 o30
      obtain ⟨o12, v12⟩ := rOk_same (F36.same (r := 12) (by decide)) o32'
      have g36 : gF G h σ σ36 := g.trans ((F26.gF (by decide)).trans ((F28.gF (by decide)).trans ((F30.gF (by decide)).trans ((F32.gF (by decide)).trans ((F34.gF (by decide)).trans (F36.gF (by decide)))))))
      have hmu : ∀ v : Int32, v = nI t + (-1) → (v + 1).toNatClampNeg < (nI (t + 1) - 1 + 1).toNatClampNeg := by
        intro v e
        rw [e, i32_m1, i32_mp, i32_mp, nI_clamp (by omega), nI_clamp (by omega)]
        omega
      refine m_order (a := 14) (b := 20) hMM (by decide) (by decide) W36 o36 o30' (fun u39 hu => ?_)
      rw [v36, v30', v30] at hu
      refine ⟨fun hpos => ?_, fun hpos => ?_⟩
      · have hgt : ¬ 4 * r + 1 ≤ 4 * X + two := by
          rcases hu with ⟨-, q⟩ | ⟨-, q⟩ | ⟨q, -⟩
          · rw [q] at hpos; exact absurd hpos (by decide)
          · rw [q] at hpos; exact absurd hpos (by decide)
          · omega
        obtain ⟨q1, q2⟩ := st2 hgt
        refine m_move (d := 21) (a := 12) hMM (by decide) (by decide) (by decide) W36 o12 (fun σ41 F41 W41 o41 v41 _ v43 e43 => ih v43 σ41 ⟨t, 4 * X + two, 2 * r, by rw [e43, i32_m1], by omega, g36.trans (F41.gF (by decide)), W41, rM_same (F41.same (r := 20) (by decide)) ⟨c30, o30', by rw [v30', v30]⟩, ⟨c32, o41, ?_⟩, by omega, by omega⟩ (hmu v43 e43))
        rw [v41, v12, v32', v32]
        omega
      · have hle : 4 * r + 1 ≤ 4 * X + two := by
          rcases hu with ⟨q, -⟩ | ⟨q, -⟩ | ⟨-, q⟩
          · omega
          · omega
          · rw [q] at hpos; exact absurd (by decide) hpos
        obtain ⟨q1, q2⟩ := st1 hle
        refine m_minus (d := 15) (a := 20) (b := 14) hMM (by decide) (by decide) (by decide) (by decide) (by decide) W36 o30' o36 (by rw [v36, v30', v30]; omega) (fun σ44 R44 => ?_)
        rw [v36, v30', v30] at R44
        obtain ⟨F44, W44, -, c44, o44, v44, -⟩ := R44
        refine m_move (d := 20) (a := 15) hMM (by decide) (by decide) (by decide) W44 o44 (fun σ46 F46 W46 o46 v46 _ => ?_)
        refine m_small (r := 13) hMM (by decide) W46 (fun σ48 F48 W48 M48 _ => ?_)
        have u2 : uL (2 : Int64) = 2 := rfl
        rw [u2] at M48
        obtain ⟨c48, o48, v48⟩ := M48
        have s12 : rSame G h 12 σ36 σ48 := (F44.same (by decide)).trans ((F46.same (by decide)).trans (F48.same (by decide)))
        obtain ⟨o12', v12'⟩ := rOk_same s12 o12
        have hc48 : c48 ≤ 519 := by
          have : c48 ≤ 1 := (rOk_count W48 o48).mpr (by rw [v48]; decide)
          omega
        refine m_plus (d := 21) (a := 12) (b := 13) hMM (by decide) (by decide) (by decide) (by decide) (by decide) W48 o12' o48 hc32 hc48 (fun σ50 R50 v52 e52 => ?_)
        rw [v12', v12, v32', v32, v48] at R50
        obtain ⟨F50, W50, -, c50, o50, v50, -⟩ := R50
        refine ih v52 σ50 ⟨t, 4 * X + two - (4 * r + 1), 2 * r + 1, by rw [e52, i32_m1], by omega, g36.trans ((F44.gF (by decide)).trans ((F46.gF (by decide)).trans ((F48.gF (by decide)).trans (F50.gF (by decide))))), W50, rM_same ((F48.same (r := 20) (by decide)).trans (F50.same (r := 20) (by decide))) ⟨c44, o46, by rw [v46, v44]⟩, ⟨c50, o50, by rw [v50]; omega⟩, by omega, q2⟩ (hmu v52 e52)
  · have hneg := sg.mp ((hW.2 j2).resolve_left h1)
    rw [spIf_f (fun q => q hneg)] at k
    exact K6_same k hI

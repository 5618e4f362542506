/-! Pure level: calls of the reference: sums, products, quotients, shifts, questions. -/
theorem m_flag {G : qG} {τ σ' : qS} {h row c : Nat} {U : Nat → Nat} {z : Int} {s : Int32} {neg : Prop} (hM : mS G h U) (hW : mW G τ h) (o : rOk G τ h row c) (hs : s = 0 ∨ s = 1) (hsn : s = 1 ↔ neg ∧ c ≠ 0) (hz1 : neg → z = -(rV G τ h row c : Int)) (hz2 : ¬ neg → z = (rV G τ h row c : Int)) (e : σ' = q_st τ (G.2.1 h 4) row s) : rF G h row τ σ' ∧ mW G σ' h ∧ rOk G σ' h row c ∧ (c = 0 → σ' (G.2.1 h 4) row = 0) ∧ rZ G σ' h row c = z ∧ rV G σ' h row c = rV G τ h row c := by
  have hz := rOk_zero hW o
  obtain ⟨⟨gH, gC, gL, gB, gT, gP⟩, kC, kL, kB, kT, kP⟩ := id hM
  have hC : σ' (G.2.1 h 2) = τ (G.2.1 h 2) := by rw [e, q_st_a _ _ (ntg (T := U) (by omega))]
  have hL : σ' (G.2.1 h 3) = τ (G.2.1 h 3) := by rw [e, q_st_a _ _ (ntg (T := U) (by omega))]
  have hB : σ' (G.2.1 h 4) row = s := by rw [e, q_st_self]
  have F : rF G h row τ σ' := ⟨fun b _ _ b3 => by rw [e, q_st_a _ _ b3], fun j _ => by rw [hC], fun t ht => ⟨by rw [hL], by rw [e, q_st_ne _ _ (by omega)]⟩⟩
  have W' : mW G σ' h := ⟨fun j => by rw [hC]; exact hW.1 j, fun t => by
    by_cases ht : t = row
    · rw [ht, hB]; exact hs
    · rw [e, q_st_ne _ _ (by omega)]; exact hW.2 t⟩
  have o' : rOk G σ' h row c := ⟨by rw [hL]; exact o.1, o.2.1, fun j hj => by rw [hC]; exact o.2.2 j hj⟩
  have v' : rV G σ' h row c = rV G τ h row c := mO_congr (fun j _ => by rw [hC])
  have s0 : s ≠ 1 → s = 0 := fun q => hs.resolve_right q
  refine ⟨F, W', o', fun q => by rw [hB]; exact s0 (fun q2 => (hsn.mp q2).2 q), ?_, v'⟩
  unfold rZ
  rw [hB, v']
  by_cases hneg : neg
  · rw [hz1 hneg]
    by_cases hc : c = 0
    · rw [if_neg (fun q => (hsn.mp q).2 hc), hz.mp hc]
      rfl
    · rw [if_pos (hsn.mpr ⟨hneg, hc⟩)]
  · rw [hz2 hneg, if_neg (fun q => hneg (hsn.mp q).1)]
theorem m_sum15 {G : qG} {σ : qS} {h n w a b : Nat} {U : Nat → Nat} {S : qSt} {s0 : Int32} {post : qS → Prop} (hM : mS G h U) (hn : nw n w) (hI : I6 G σ h n w S) (ha : a < n) (hb : b < n) (hs0 : s0 = 0 ∨ s0 = 1)
    (k : ∀ (c : Nat) σ', gF G h σ σ' → mW G σ' h → rOk G σ' h 14 c → (c = 0 → σ' (G.2.1 h 4) 14 = 0) → rZ G σ' h 14 c = S.1 a + (if s0 = 1 then -((S.1 b).natAbs : Int) else ((S.1 b).natAbs : Int)) → post σ') : bkX6_sum_15 G h (nI a) (nI b) s0 post σ := by
  obtain ⟨ca, oa, hca, va, sga, z0a, hza, hfa⟩ := m6_reg hI ha
  obtain ⟨cb, ob, hcb, vb, sgb, z0b, hzb, hfb⟩ := m6_reg hI hb
  obtain ⟨n1, n2, n3, n4⟩ := hn
  have hW := hI.2.2.1
  have c14 : (14 : Int32).toNatClampNeg = 14 := by decide
  -- the sign
  have fin : ∀ (c : Nat) (τ : qS) (neg : Prop) (z : Int) (s : Int32), gF G h σ τ → mW G τ h → rOk G τ h 14 c → (s = 0 ∨ s = 1) → (s = 1 ↔ neg ∧ c ≠ 0) → (neg → z = -(rV G τ h 14 c : Int)) → (¬ neg → z = (rV G τ h 14 c : Int)) → z = S.1 a + (if s0 = 1 then -((S.1 b).natAbs : Int) else ((S.1 b).natAbs : Int)) → ∀ σ', σ' = q_st τ (G.2.1 h 4) 14 s → post σ' := by
    intro c τ neg z s g W o hs hsn hz1 hz2 hz σ' e
    obtain ⟨F, W', o', f', z', -⟩ := m_flag hM W o hs hsn hz1 hz2 e
    exact k c σ' (g.trans (F.gF (by decide))) W' o' f' (z'.trans hz)
  unfold bkX6_sum_15 bkX6_sum_61 bkX6_sum_62 bkX6_sum_150 bkX6_sum_112 bkX6_sum_113
  rw [c14, nI_clamp (n := a) (by omega)]
  have v14 := vB (r := 14) hM (by decide)
  have l14 := vL (r := 14) hM (by decide)
  refine ⟨vB hM (by omega), fun heq => ?_, fun hne => ?_⟩
  · refine m_plus (d := 14) hM (by decide) (by omega) (by omega) (by omega) (by omega) hW oa ob (by omega) (by omega) (fun σ30 R => ?_)
    obtain ⟨F, W, -, c, o, v, -⟩ := R
    rw [va, vb] at v
    have hc520 := o.2.1
    have hz : (s0 = 1 → S.1 a + (if s0 = 1 then -((S.1 b).natAbs : Int) else ((S.1 b).natAbs : Int)) = -(rV G σ30 h 14 c : Int)) ∧ (¬ s0 = 1 → S.1 a + (if s0 = 1 then -((S.1 b).natAbs : Int) else ((S.1 b).natAbs : Int)) = (rV G σ30 h 14 c : Int)) := by
      rw [v]
      constructor
      · intro q
        have := sga.mp (heq.trans q)
        rw [if_pos q]
        omega
      · intro q
        have : ¬ S.1 a < 0 := fun q2 => q (heq.symm.trans (sga.mpr q2))
        rw [if_neg q]
        omega
    rw [o.1, nI_le0 (by omega)]
    refine ⟨fun h1 => ⟨v14, Or.inl rfl, fin c σ30 (s0 = 1) _ 0 (F.gF (by decide)) W o (Or.inl rfl) ⟨fun q => absurd q (by decide), fun q => absurd (h1.symm.trans q.1) (by decide)⟩ hz.1 hz.2 rfl⟩, fun h1 => ⟨l14, fun h2 => ⟨v14, Or.inl rfl, fin c σ30 (s0 = 1) _ 0 (F.gF (by decide)) W o (Or.inl rfl) ⟨fun q => absurd q (by decide), fun q => absurd h2 q.2⟩ hz.1 hz.2 rfl⟩, fun h2 => ⟨v14, Or.inr rfl, fin c σ30 (s0 = 1) _ 1 (F.gF (by decide)) W o (Or.inr rfl) ⟨fun _ => ⟨hs0.resolve_left h1, h2⟩, fun _ => rfl⟩ hz.1 hz.2 rfl⟩⟩⟩
  · have hab : σ (G.2.1 h 4) a = 1 ↔ ¬ s0 = 1 := by
      rcases hW.2 a with q1 | q1 <;> rcases hs0 with q2 | q2
      · exact absurd (q1.trans q2.symm) hne
      · rw [q1, q2]; decide
      · rw [q1, q2]; decide
      · exact absurd (q1.trans q2.symm) hne
    refine m_order hM (by omega) (by omega) hW oa ob (fun r hr => ?_)
    rw [va, vb] at hr
    refine ⟨fun hneg => ?_, fun hneg => ?_⟩
    · have hlt : (S.1 a).natAbs < (S.1 b).natAbs := by
        rcases hr with ⟨h1, -⟩ | ⟨-, h2⟩ | ⟨-, h2⟩
        · exact h1
        · rw [h2] at hneg; exact absurd hneg (by decide)
        · rw [h2] at hneg; exact absurd hneg (by decide)
      refine m_minus (d := 14) hM (by decide) (by omega) (by omega) (by omega) (by omega) hW ob oa (by rw [va, vb]; omega) (fun σ10 R => ?_)
      obtain ⟨F, W, -, c, o, v, -⟩ := R
      rw [va, vb] at v
      have hc520 := o.2.1
      have hz : (s0 = 1 → S.1 a + (if s0 = 1 then -((S.1 b).natAbs : Int) else ((S.1 b).natAbs : Int)) = -(rV G σ10 h 14 c : Int)) ∧ (¬ s0 = 1 → S.1 a + (if s0 = 1 then -((S.1 b).natAbs : Int) else ((S.1 b).natAbs : Int)) = (rV G σ10 h 14 c : Int)) := by
        rw [v]
        constructor
        · intro q
          have : ¬ S.1 a < 0 := fun q2 => hab.mp (sga.mpr q2) q
          rw [if_pos q]
          omega
        · intro q
          have := sga.mp (hab.mpr q)
          rw [if_neg q]
          omega
      rw [o.1, nI_le0 (by omega)]
      refine ⟨fun h1 => ⟨v14, fin c σ10 (s0 = 1) _ 0 (F.gF (by decide)) W o (Or.inl rfl) ⟨fun q => absurd q (by decide), fun q => absurd (h1.symm.trans q.1) (by decide)⟩ hz.1 hz.2 rfl⟩, fun h1 => ⟨l14, fun h2 => ⟨v14, fin c σ10 (s0 = 1) _ 0 (F.gF (by decide)) W o (Or.inl rfl) ⟨fun q => absurd q (by decide), fun q => absurd h2 q.2⟩ hz.1 hz.2 rfl⟩, fun h2 => ⟨v14, fin c σ10 (s0 = 1) _ 1 (F.gF (by decide)) W o (Or.inr rfl) ⟨fun _ => ⟨hs0.resolve_left h1, h2⟩, fun _ => rfl⟩ hz.1 hz.2 rfl⟩⟩⟩
    · have hle : (S.1 b).natAbs ≤ (S.1 a).natAbs := by
        rcases hr with ⟨-, h2⟩ | ⟨h1, -⟩ | ⟨h1, -⟩
        · rw [h2] at hneg; exact absurd (by decide) hneg
        · omega
        · omega
      refine m_minus (d := 14) hM (by decide) (by omega) (by omega) (by omega) (by omega) hW oa ob (by rw [va, vb]; omega) (fun σ20 R => ?_)
      obtain ⟨F, W, -, c, o, v, -⟩ := R
      rw [va, vb] at v
      have hc520 := o.2.1
      have hBa : σ20 (G.2.1 h 4) a = σ (G.2.1 h 4) a := (F.2.2 a (by omega)).2
      have hz : (S.1 a < 0 → S.1 a + (if s0 = 1 then -((S.1 b).natAbs : Int) else ((S.1 b).natAbs : Int)) = -(rV G σ20 h 14 c : Int)) ∧ (¬ S.1 a < 0 → S.1 a + (if s0 = 1 then -((S.1 b).natAbs : Int) else ((S.1 b).natAbs : Int)) = (rV G σ20 h 14 c : Int)) := by
        rw [v]
        constructor
        · intro q
          rw [if_neg (hab.mp (sga.mpr q))]
          omega
        · intro q
          have : s0 = 1 := Decidable.byContradiction (fun q2 => q (sga.mp (hab.mpr q2)))
          rw [if_pos this]
          omega
      rw [hBa, o.1, nI_le0 (by omega)]
      refine ⟨vB hM (by omega), fun h1 => ⟨v14, Or.inl rfl, fin c σ20 (S.1 a < 0) _ 0 (F.gF (by decide)) W o (Or.inl rfl) ⟨fun q => absurd q (by decide), fun q => absurd (h1.symm.trans (sga.mpr q.1)) (by decide)⟩ hz.1 hz.2 rfl⟩, fun h1 => ⟨l14, fun h2 => ⟨v14, Or.inl rfl, fin c σ20 (S.1 a < 0) _ 0 (F.gF (by decide)) W o (Or.inl rfl) ⟨fun q => absurd q (by decide), fun q => absurd h2 q.2⟩ hz.1 hz.2 rfl⟩, fun h2 => ⟨v14, Or.inr rfl, fin c σ20 (S.1 a < 0) _ 1 (F.gF (by decide)) W o (Or.inr rfl) ⟨fun _ => ⟨sga.mp ((hW.2 a).resolve_left h1), h2⟩, fun _ => rfl⟩ hz.1 hz.2 rfl⟩⟩⟩
theorem m6_add {G : qG} {σ : qS} {h n w : Nat} {U : Nat → Nat} {S : qSt} {x1 x2 x3 : Int32} {post : Int32 → qS → Prop} (hM : mS G h U) (hn : nw n w) (hI : I6 G σ h n w S) (k : K6 G h n w U σ post (spAdd n w S x1 x2 x3)) : wpX6_add G h x1 x2 x3 σ post := by
  unfold wpX6_add
  unfold spAdd at k
  refine m6_is hn hI (fun j hj e hr => ⟨fun h => absurd h (by decide), fun _ => ?_⟩) (fun hr => ⟨fun _ => K6_same (by rw [spIf_f (fun q => hr q.1)] at k; exact k) hI, fun h => absurd rfl h⟩)
  refine m6_is hn hI (fun j2 hj2 e2 hr2 => ⟨fun h => absurd h (by decide), fun _ => ?_⟩) (fun hr => ⟨fun _ => K6_same (by rw [spIf_f (fun q => hr q.2.1)] at k; exact k) hI, fun h => absurd rfl h⟩)
  refine m6_is hn hI (fun j3 hj3 e3 hr3 => ⟨fun h => absurd h (by decide), fun _ => ?_⟩) (fun hr => ⟨fun _ => K6_same (by rw [spIf_f (fun q => hr q.2.2)] at k; exact k) hI, fun h => absurd rfl h⟩)
  have hn' := hn
  obtain ⟨c', o', hc', v', sg', z0', hz', hf'⟩ := m6_reg hI hj3
  obtain ⟨n1, n2, n3, n4⟩ := hn
  subst e e2 e3
  rw [spIf_t ⟨hr, hr2, hr3⟩, ixo_nI (by omega), ixo_nI (by omega), ixo_nI (by omega)] at k
  unfold wpX6_sum
  rw [nI_clamp (n := j3) (by omega)]
  refine ⟨vB hM (by omega), fun h1 => m_sum15 hM hn' hI hj2 hj3 (Or.inl rfl) (fun c τ g W o f z => m_keep (row := 14) hM hn' (I6_gF hM hn' hI g W) (g.out hM) hj (by decide) (by decide) o f (z.trans ?_) k), fun h1 => m_sum15 hM hn' hI hj2 hj3 (Or.inr rfl) (fun c τ g W o f z => m_keep (row := 14) hM hn' (I6_gF hM hn' hI g W) (g.out hM) hj (by decide) (by decide) o f (z.trans ?_) k)⟩
  · have : ¬ S.1 j3 < 0 := fun q => absurd (h1.symm.trans (sg'.mpr q)) (by decide)
    rw [if_neg (by decide)]
    omega
  · have := sg'.mp ((hI.2.2.1.2 j3).resolve_left h1)
    rw [if_pos rfl]
    omega
theorem m6_sub {G : qG} {σ : qS} {h n w : Nat} {U : Nat → Nat} {S : qSt} {x1 x2 x3 : Int32} {post : Int32 → qS → Prop} (hM : mS G h U) (hn : nw n w) (hI : I6 G σ h n w S) (k : K6 G h n w U σ post (spSub n w S x1 x2 x3)) : wpX6_sub G h x1 x2 x3 σ post := by
  unfold wpX6_sub
  unfold spSub at k
  refine m6_is hn hI (fun j hj e hr => ⟨fun h => absurd h (by decide), fun _ => ?_⟩) (fun hr => ⟨fun _ => K6_same (by rw [spIf_f (fun q => hr q.1)] at k; exact k) hI, fun h => absurd rfl h⟩)
  refine m6_is hn hI (fun j2 hj2 e2 hr2 => ⟨fun h => absurd h (by decide), fun _ => ?_⟩) (fun hr => ⟨fun _ => K6_same (by rw [spIf_f (fun q => hr q.2.1)] at k; exact k) hI, fun h => absurd rfl h⟩)
  refine m6_is hn hI (fun j3 hj3 e3 hr3 => ⟨fun h => absurd h (by decide), fun _ => ?_⟩) (fun hr => ⟨fun _ => K6_same (by rw [spIf_f (fun q => hr q.2.2)] at k; exact k) hI, fun h => absurd rfl h⟩)
  have hn' := hn
  obtain ⟨c', o', hc', v', sg', z0', hz', hf'⟩ := m6_reg hI hj3
  obtain ⟨n1, n2, n3, n4⟩ := hn
  subst e e2 e3
  rw [spIf_t ⟨hr, hr2, hr3⟩, ixo_nI (by omega), ixo_nI (by omega), ixo_nI (by omega)] at k
  unfold wpX6_sum
  rw [nI_clamp (n := j3) (by omega)]
  refine ⟨vB hM (by omega), fun h1 => m_sum15 hM hn' hI hj2 hj3 (Or.inl rfl) (fun c τ g W o f z => m_keep (row := 14) hM hn' (I6_gF hM hn' hI g W) (g.out hM) hj (by decide) (by decide) o f (z.trans ?_) k), fun h1 => m_sum15 hM hn' hI hj2 hj3 (Or.inr rfl) (fun c τ g W o f z => m_keep (row := 14) hM hn' (I6_gF hM hn' hI g W) (g.out hM) hj (by decide) (by decide) o f (z.trans ?_) k)⟩
  · have := sg'.mp h1
    rw [if_neg (by decide)]
    omega
  · have : ¬ S.1 j3 < 0 := fun q => h1 (sg'.mpr q)
    rw [if_pos rfl]
    omega
theorem m6_mul {G : qG} {σ : qS} {h n w : Nat} {U : Nat → Nat} {S : qSt} {x1 x2 x3 : Int32} {post : Int32 → qS → Prop} (hM : mS G h U) (hn : nw n w) (hI : I6 G σ h n w S) (k : K6 G h n w U σ post (spMul n w S x1 x2 x3)) : wpX6_mul G h x1 x2 x3 σ post := by
  unfold wpX6_mul
  unfold spMul at k
  refine m6_is hn hI (fun j hj e hr => ⟨fun h => absurd h (by decide), fun _ => ?_⟩) (fun hr => ⟨fun _ => K6_same (by rw [spIf_f (fun q => hr q.1)] at k; exact k) hI, fun h => absurd rfl h⟩)
  refine m6_is hn hI (fun j2 hj2 e2 hr2 => ⟨fun h => absurd h (by decide), fun _ => ?_⟩) (fun hr => ⟨fun _ => K6_same (by rw [spIf_f (fun q => hr q.2.1)] at k; exact k) hI, fun h => absurd rfl h⟩)
  refine m6_is hn hI (fun j3 hj3 e3 hr3 => ⟨fun h => absurd h (by decide), fun _ => ?_⟩) (fun hr => ⟨fun _ => K6_same (by rw [spIf_f (fun q => hr q.2.2)] at k; exact k) hI, fun h => absurd rfl h⟩)
  have hn' := hn
  obtain ⟨c, o, hc, v, sg, z0, hz, hf⟩ := m6_reg hI hj2
  obtain ⟨c', o', hc', v', sg', z0', hz', hf'⟩ := m6_reg hI hj3
  obtain ⟨n1, n2, n3, n4⟩ := hn
  subst e e2 e3
  rw [spIf_t ⟨hr, hr2, hr3⟩, ixo_nI (by omega), ixo_nI (by omega), ixo_nI (by omega)] at k
  have hW := hI.2.2.1
  have c14 : (14 : Int32).toNatClampNeg = 14 := by decide
  unfold bkX6_mul_69 bkX6_mul_70
  rw [c14, nI_clamp (n := j2) (by omega), nI_clamp (n := j3) (by omega)]
  refine m_times (d := 14) hM (by decide) (by omega) (by omega) (by omega) (by omega) hW o o' (by omega) (fun σ10 F W M _ => ?_)
  obtain ⟨c1, o1, v1⟩ := M
  rw [v, v'] at v1
  have g := F.gF (by decide)
  have b2 : σ10 (G.2.1 h 4) j2 = σ (G.2.1 h 4) j2 := (g.2.2 j2 (by omega)).2
  have b3 : σ10 (G.2.1 h 4) j3 = σ (G.2.1 h 4) j3 := (g.2.2 j3 (by omega)).2
  have hI10 := I6_gF hM hn' hI g W
  have hc520 := o1.2.1
  have w2 := hW.2 j2
  have w3 := hW.2 j3
  have habs : (S.1 j2 * S.1 j3).natAbs = (S.1 j2).natAbs * (S.1 j3).natAbs := Int.natAbs_mul _ _
  have hz1 : ¬ (σ (G.2.1 h 4) j2 = σ (G.2.1 h 4) j3) → S.1 j2 * S.1 j3 = -(rV G σ10 h 14 c1 : Int) := by
    intro q
    rw [v1, ← habs]
    have : S.1 j2 * S.1 j3 ≤ 0 := by
      rcases w2 with q1 | q1 <;> rcases w3 with q2 | q2
      · exact absurd (q1.trans q2.symm) q
      · exact Int.mul_nonpos_of_nonneg_of_nonpos (Int.not_lt.mp (fun q3 => absurd (q1.symm.trans (sg.mpr q3)) (by decide))) (Int.le_of_lt (sg'.mp q2))
      · exact Int.mul_nonpos_of_nonpos_of_nonneg (Int.le_of_lt (sg.mp q1)) (Int.not_lt.mp (fun q3 => absurd (q2.symm.trans (sg'.mpr q3)) (by decide)))
      · exact absurd (q1.trans q2.symm) q
    omega
  have hz2 : ¬ ¬ (σ (G.2.1 h 4) j2 = σ (G.2.1 h 4) j3) → S.1 j2 * S.1 j3 = (rV G σ10 h 14 c1 : Int) := by
    intro q
    rw [v1, ← habs]
    have : 0 ≤ S.1 j2 * S.1 j3 := by
      rcases w2 with q1 | q1 <;> rcases w3 with q2 | q2
      · exact Int.mul_nonneg (Int.not_lt.mp (fun q3 => absurd (q1.symm.trans (sg.mpr q3)) (by decide))) (Int.not_lt.mp (fun q3 => absurd (q2.symm.trans (sg'.mpr q3)) (by decide)))
      · exact absurd (fun q3 => by rw [q1, q2] at q3; exact absurd q3 (by decide)) q
      · exact absurd (fun q3 => by rw [q1, q2] at q3; exact absurd q3 (by decide)) q
      · exact Int.mul_nonneg_of_nonpos_of_nonpos (Int.le_of_lt (sg.mp q1)) (Int.le_of_lt (sg'.mp q2))
    omega
  have fin : ∀ s : Int32, (s = 0 ∨ s = 1) → (s = 1 ↔ ¬ (σ (G.2.1 h 4) j2 = σ (G.2.1 h 4) j3) ∧ c1 ≠ 0) → ∀ σ18, σ18 = q_st σ10 (G.2.1 h 4) 14 s → wpX6_keep G h (nI j) 14 σ18 (fun (u20 : Int32) (σ19 : qS) => post u20 σ19) := fun s hs hsn σ18 e18 => m_done (row := 14) (neg := ¬ (σ (G.2.1 h 4) j2 = σ (G.2.1 h 4) j3)) hM hn' hI10 (g.out hM) hj (by decide) (by decide) o1 hs hsn hz1 hz2 k e18
  have v14 := vB (r := 14) hM (by decide)
  rw [b2, b3, o1.1, nI_le0 (by omega)]
  exact ⟨vB hM (by omega), vB hM (by omega), fun h1 => ⟨v14, Or.inl rfl, fin 0 (Or.inl rfl) ⟨fun q => absurd q (by decide), fun q => absurd h1 q.1⟩⟩, fun h1 => ⟨vL (r := 14) hM (by decide), fun h2 => ⟨v14, Or.inl rfl, fin 0 (Or.inl rfl) ⟨fun q => absurd q (by decide), fun q => absurd h2 q.2⟩⟩, fun h2 => ⟨v14, Or.inr rfl, fin 1 (Or.inr rfl) ⟨fun _ => ⟨h1, h2⟩, fun _ => rfl⟩⟩⟩⟩
theorem m6_divMod {G : qG} {σ : qS} {h n w : Nat} {U : Nat → Nat} {S : qSt} {x1 x2 x3 x4 : Int32} {post : Int32 → qS → Prop} (hM : mS G h U) (hn : nw n w) (hI : I6 G σ h n w S) (k : K6 G h n w U σ post (spDivMod n S x1 x2 x3 x4)) : wpX6_divMod G h x1 x2 x3 x4 σ post := by
  unfold wpX6_divMod
  unfold spDivMod at k
  refine m6_is hn hI (fun j hj e hr => ⟨fun h => absurd h (by decide), fun _ => ?_⟩) (fun hr => ⟨fun _ => K6_same (by rw [spIf_f (fun q => hr q.1)] at k; exact k) hI, fun h => absurd rfl h⟩)
  refine m6_is hn hI (fun j2 hj2 e2 hr2 => ⟨fun h => absurd h (by decide), fun _ => ?_⟩) (fun hr => ⟨fun _ => K6_same (by rw [spIf_f (fun q => hr q.2.1)] at k; exact k) hI, fun h => absurd rfl h⟩)
  refine m6_is hn hI (fun j3 hj3 e3 hr3 => ⟨fun h => absurd h (by decide), fun _ => ?_⟩) (fun hr => ⟨fun _ => K6_same (by rw [spIf_f (fun q => hr q.2.2.1)] at k; exact k) hI, fun h => absurd rfl h⟩)
  refine m6_is hn hI (fun j4 hj4 e4 hr4 => ⟨fun h => absurd h (by decide), fun _ => ?_⟩) (fun hr => ⟨fun _ => K6_same (by rw [spIf_f (fun q => hr q.2.2.2)] at k; exact k) hI, fun h => absurd rfl h⟩)
  have hn' := hn
  obtain ⟨c, o, hc, v, sg, z0, hz, hf⟩ := m6_reg hI hj3
  obtain ⟨c', o', hc', v', sg', z0', hz', hf'⟩ := m6_reg hI hj4
  obtain ⟨n1, n2, n3, n4⟩ := hn
  have hW := hI.2.2.1
  have c16 : (16 : Int32).toNatClampNeg = 16 := by decide
  have c17 : (17 : Int32).toNatClampNeg = 17 := by decide
  rw [spIf_t ⟨hr, hr2, hr3, hr4⟩] at k
  subst e3 e4
  rw [ixo_nI (j := j3) (by omega), ixo_nI (j := j4) (by omega)] at k
  have ez : nI c' = 0 ↔ c' = 0 := nI_eq (b := 0) (by omega) (by decide)
  rw [nI_clamp (n := j3) (by omega), nI_clamp (n := j4) (by omega), o'.1, ez]
  refine ⟨vL hM (by omega), fun h1 => ?_, fun h1 => ⟨fun h2 => ?_, fun h2 => ⟨vB hM (by omega), fun v19 e19 => ⟨vB hM (by omega), vB hM (by omega), ?_⟩⟩⟩⟩
  · rw [spIf_f (fun q => q (Or.inl (z0'.mp h1)))] at k
    exact K6_same k hI
  · rw [spIf_f (fun q => q (Or.inr h2))] at k
    exact K6_same k hI
  rw [spIf_t (fun q => q.elim (fun q => h1 (z0'.mpr q)) h2)] at k
  subst e e2
  rw [ixo_nI (j := j) (by omega), ixo_nI (j := j2) (by omega)] at k
  have hne : j ≠ j2 := fun q => h2 (by rw [q])
  have w2 := hW.2 j3
  have w3 := hW.2 j4
  have go : ∀ s0 : Int32, (s0 = 0 ∨ s0 = 1) → (s0 = 1 ↔ ¬ (S.1 j3 < 0 ↔ S.1 j4 < 0)) → bkX6_divMod_82 G h (nI j) (nI j2) (nI j3) (nI j4) v19 s0 post σ := by
    intro s0 hs0 hs1
    unfold bkX6_divMod_82
    refine m_divide hM (by omega) (by omega) (by omega) (by omega) hW o o' (by omega) (by omega) (fun σ23 D23 W23 M16 B16 M17 B17 => ?_)
    obtain ⟨cq, oq, vq⟩ := M16
    rw [v, v'] at vq M17
    have hcq520 := oq.2.1
    -- both signs set, both moved
    have last : ∀ (σ29 σ34 : qS) (s s' : Int32), (s = 0 ∨ s = 1) → (s = 1 ↔ ¬ (S.1 j3 < 0 ↔ S.1 j4 < 0) ∧ cq ≠ 0) → σ29 = q_st σ23 (G.2.1 h 4) 16 s → (s' = 0 ∨ s' = 1) → (∀ cr, rOk G σ29 h 17 cr → (s' = 1 ↔ S.1 j3 < 0 ∧ cr ≠ 0)) → σ34 = q_st σ29 (G.2.1 h 4) 17 s' → wpX6_move G h (nI j) 16 σ34 (fun (σ35 : qS) => wpX6_move G h (nI j2) 17 σ35 (fun (σ37 : qS) => post 0 σ37)) := by
      intro σ29 σ34 s s' hs hsn e29 hs' hsn' e34
      obtain ⟨F29, W29, o29, f29, z29, v29⟩ := m_flag (z := dq (S.1 j3) (S.1 j4)) (neg := ¬ (S.1 j3 < 0 ↔ S.1 j4 < 0)) hM W23 oq hs hsn (fun q => by rw [vq]; unfold dq; rw [if_neg q]) (fun q => by rw [vq]; unfold dq; rw [if_pos (Decidable.not_not.mp q)]) e29
      obtain ⟨cr, or, vr⟩ := rM_same (F29.same (r := 17) (by decide)) M17
      obtain ⟨F34, W34, o34, f34, z34, v34⟩ := m_flag (z := dr (S.1 j3) (S.1 j4)) (neg := S.1 j3 < 0) hM W29 or hs' (hsn' cr or) (fun q => by rw [vr]; unfold dr; rw [if_pos q]) (fun q => by rw [vr]; unfold dr; rw [if_neg q]) e34
      have s34 := F34.same (r := 16) (by decide)
      have oq34 := (rOk_same s34 o29).1
      have zq34 := (rZ_same s34 o29).trans z29
      have g34 : gF G h σ σ34 := D23.gF.trans ((F29.gF (by decide)).trans (F34.gF (by decide)))
      have hI34 := I6_gF hM hn' hI g34 W34
      have hcq : cq ≤ 2 * w := (rOk_count W34 oq34).mpr (by
        rw [(rOk_same s34 o29).2, v29, vq, p16_32]
        refine Nat.lt_of_le_of_lt (Nat.div_le_self _ _) ?_
        rw [← v, ← p16_32]
        exact (rOk_count hW o).mp hc)
      refine m_move (a := 16) hM (by omega) (by decide) (by omega) W34 oq34 (fun σ35 F35 W35 o35 v35 b35 => ?_)
      have z35 : rZ G σ35 h j cq = dq (S.1 j3) (S.1 j4) := by rw [← zq34]; unfold rZ; rw [b35, v35]
      have hI35 := I6_up hM hI34 F35 W35 o35 hcq (fun q => by rw [b35, s34.2.2]; exact f29 q) z35
      have s35 := F35.same (r := 17) (by omega)
      have or35 := (rOk_same s35 o34).1
      have zr35 := (rZ_same s35 o34).trans z34
      have hcr : cr ≤ 2 * w := (rOk_count W35 or35).mpr (by
        rw [(rOk_same s35 o34).2, v34, vr, p16_32]
        have h5 : 0 < (S.1 j4).natAbs := Nat.pos_of_ne_zero (fun q => h1 (z0'.mpr (by omega)))
        refine Nat.lt_of_lt_of_le (Nat.mod_lt _ h5) ?_
        rw [← v', ← p16_32]
        exact Nat.le_of_lt ((rOk_count hW o').mp hc'))
      refine m_move (a := 17) hM (by omega) (by decide) (by omega) W35 or35 (fun σ37 F37 W37 o37 v37 b37 => ?_)
      have z37 : rZ G σ37 h j2 cr = dr (S.1 j3) (S.1 j4) := by rw [← zr35]; unfold rZ; rw [b37, v37]
      refine k σ37 (fun a ha => ?_) (I6_up hM hI35 F37 W37 o37 hcr (fun q => by rw [b37, s35.2.2]; exact f34 q) z37)
      obtain ⟨⟨gH, gC, gL, gB, gT, gP⟩, kC, kL, kB, kT, kP⟩ := id hM
      rw [F37.1 a (ntg (T := U) (by omega)) (ntg (T := U) (by omega)) (ntg (T := U) (by omega)), F35.1 a (ntg (T := U) (by omega)) (ntg (T := U) (by omega)) (ntg (T := U) (by omega)), g34.out hM a ha]
    have v16 := vB (r := 16) hM (by decide)
    have v17 := vB (r := 17) hM (by decide)
    have mid : ∀ s : Int32, (s = 0 ∨ s = 1) → (s = 1 ↔ ¬ (S.1 j3 < 0 ↔ S.1 j4 < 0) ∧ cq ≠ 0) → bkX6_divMod_117 G h (nI j) (nI j2) v19 (G.2.1 h 4) 16 s post σ23 := by
      intro s hs hsn
      unfold bkX6_divMod_117 bkX6_divMod_143 bkX6_divMod_144
      rw [c16, c17]
      refine ⟨v16, hs, fun σ29 e29 => ?_⟩
      refine ⟨fun h5 => ⟨v17, Or.inl rfl, fun σ34 e34 => last σ29 σ34 s 0 hs hsn e29 (Or.inl rfl) (fun cr or => ⟨fun q => absurd q (by decide), fun q => ?_⟩) e34⟩, fun h5 => ⟨vL (r := 17) hM (by decide), fun h6 => ⟨v17, Or.inl rfl, fun σ34 e34 => last σ29 σ34 s 0 hs hsn e29 (Or.inl rfl) (fun cr or => ⟨fun q => absurd q (by decide), fun q => ?_⟩) e34⟩, fun h6 => ⟨v17, Or.inr rfl, fun σ34 e34 => last σ29 σ34 s 1 hs hsn e29 (Or.inr rfl) (fun cr or => ⟨fun _ => ⟨?_, ?_⟩, fun _ => rfl⟩) e34⟩⟩⟩
      · rw [e19] at h5
        exact absurd (h5.symm.trans (sg.mpr q.1)) (by decide)
      · rw [or.1, nI_le0 (by have := or.2.1; omega)] at h6
        exact absurd h6 q.2
      · rw [e19] at h5
        exact sg.mp (w2.resolve_left h5)
      · rw [or.1, nI_le0 (by have := or.2.1; omega)] at h6
        exact h6
    unfold bkX6_divMod_116
    rw [c16, oq.1, nI_le0 (by omega)]
    exact ⟨fun h5 => mid 0 (Or.inl rfl) ⟨fun q => absurd q (by decide), fun q => absurd (h5.symm.trans (hs1.mpr q.1)) (by decide)⟩, fun h5 => ⟨vL (r := 16) hM (by decide), fun h6 => mid 0 (Or.inl rfl) ⟨fun q => absurd q (by decide), fun q => absurd h6 q.2⟩, fun h6 => mid 1 (Or.inr rfl) ⟨fun _ => ⟨hs1.mp (hs0.resolve_left h5), h6⟩, fun _ => rfl⟩⟩⟩
  refine ⟨fun h5 => go 0 (Or.inl rfl) ⟨fun q => absurd q (by decide), fun q => absurd ?_ q⟩, fun h5 => go 1 (Or.inr rfl) ⟨fun _ q => h5 ?_, fun _ => rfl⟩⟩
  · rw [← sg, ← sg', h5]
  · rw [← sg, ← sg'] at q
    rcases w2 with q1 | q1 <;> rcases w3 with q2 | q2
    · rw [q1, q2]
    · exact absurd (q.mpr q2) (by rw [q1]; decide)
    · exact absurd (q.mp q1) (by rw [q2]; decide)
    · rw [q1, q2]

/-! Pure level: calls of the reference: shifts, questions, divisors. -/
theorem m6_shl {G : qG} {σ : qS} {h n w : Nat} {U : Nat → Nat} {S : qSt} {x1 x2 x3 : Int32} {post : Int32 → qS → Prop} (hM : mS G h U) (hn : nw n w) (hI : I6 G σ h n w S) (k : K6 G h n w U σ post (spShl n w S x1 x2 x3)) : wpX6_shl G h x1 x2 x3 σ post := by
  unfold wpX6_shl
  unfold spShl at k
  refine m6_is hn hI (fun j hj e hr => ⟨fun h => absurd h (by decide), fun _ => ?_⟩) (fun hr => ⟨fun _ => K6_same (by rw [spIf_f (fun q => hr q.1)] at k; exact k) hI, fun h => absurd rfl h⟩)
  refine m6_is hn hI (fun j2 hj2 e2 hr2 => ⟨fun h => absurd h (by decide), fun _ => ?_⟩) (fun hr => ⟨fun _ => K6_same (by rw [spIf_f (fun q => hr q.2)] at k; exact k) hI, fun h => absurd rfl h⟩)
  rw [spIf_t ⟨hr, hr2⟩] at k
  refine ⟨fun h3 => ?_, fun h3 => K6_same (by rw [spIf_f (fun q => h3 (Int32.not_lt.mp q))] at k; exact k) hI⟩
  have hn3 : ¬ x3 < 0 := Int32.not_lt.mpr h3
  rw [spIf_t hn3] at k
  obtain ⟨m, hm, rfl⟩ := nI_of hn3
  have hn' := hn
  obtain ⟨c, o, hc, v, sg, z0, hz, hf⟩ := m6_reg hI hj2
  obtain ⟨n1, n2, n3, n4⟩ := hn
  subst e e2
  rw [ixo_nI (by omega), ixo_nI (by omega), ixo_nI (by omega)] at k
  have hW := hI.2.2.1
  have c14 : (14 : Int32).toNatClampNeg = 14 := by decide
  have v14 := vB (r := 14) hM (by decide)
  have hc0 := rOk_zero hW o
  -- the sign, and kept
  have fin : ∀ (τ : qS), gF G h σ τ → mW G τ h → rM G τ h 14 ((S.1 j2).natAbs * 2 ^ m) → bkX6_shl_95 G h (nI j) (σ (G.2.1 h 4) j2) post τ := by
    intro τ g W M
    obtain ⟨c1, o1, v1⟩ := M
    have hI1 := I6_gF hM hn' hI g W
    have hc520 := o1.2.1
    have keep : ∀ s : Int32, (s = 0 ∨ s = 1) → (s = 1 ↔ S.1 j2 < 0 ∧ c1 ≠ 0) → ∀ σ23, σ23 = q_st τ (G.2.1 h 4) 14 s → wpX6_keep G h (nI j) 14 σ23 (fun (u25 : Int32) (σ24 : qS) => post u25 σ24) := by
      intro s hs hsn σ23 e23
      refine m_done (row := 14) (neg := S.1 j2 < 0) hM hn' hI1 (g.out hM) hj (by decide) (by decide) o1 hs hsn (fun q => ?_) (fun q => ?_) k e23
      · rw [v1, Int.natCast_mul, ← Int.neg_mul, Int.natCast_pow, show -((S.1 j2).natAbs : Int) = S.1 j2 by omega]; rfl
      · rw [v1, Int.natCast_mul, Int.natCast_pow, show ((S.1 j2).natAbs : Int) = S.1 j2 by omega]; rfl
    unfold bkX6_shl_95 bkX6_shl_120 bkX6_shl_121
    rw [c14, o1.1, nI_le0 (by omega)]
    exact ⟨fun h1 => ⟨v14, Or.inl rfl, keep 0 (Or.inl rfl) ⟨fun q => absurd q (by decide), fun q => absurd (h1.symm.trans (sg.mpr q.1)) (by decide)⟩⟩, fun h1 => ⟨vL (r := 14) hM (by decide), fun h2 => ⟨v14, Or.inl rfl, keep 0 (Or.inl rfl) ⟨fun q => absurd q (by decide), fun q => absurd h2 q.2⟩⟩, fun h2 => ⟨v14, Or.inr rfl, keep 1 (Or.inr rfl) ⟨fun _ => ⟨sg.mp ((hW.2 j2).resolve_left h1), h2⟩, fun _ => rfl⟩⟩⟩⟩
  have ez : nI c = 0 ↔ c = 0 := nI_eq (b := 0) (by omega) (by decide)
  have mid : (c ≠ 0 → c + m / 16 + 1 ≤ 520) → bkX6_shl_59 G h (nI j) (nI j2) (nI m) post σ := by
    intro hroom
    unfold bkX6_shl_59
    rw [c14, nI_clamp (n := j2) (by omega), o.1, ez]
    refine ⟨vB hM (by omega), fun v13 e13 => ⟨vL hM (by omega), fun h1 => ⟨vL (r := 14) hM (by decide), fun σ30 e30 => ?_⟩, fun h1 => m_shiftUp (d := 14) hM (by decide) (by omega) (by omega) hW o hm (hroom h1) (fun σ17 R => ?_)⟩⟩
    · rw [e13]
      obtain ⟨⟨gH, gC, gL, gB, gT, gP⟩, kC, kL, kB, kT, kP⟩ := id hM
      have hC : σ30 (G.2.1 h 2) = σ (G.2.1 h 2) := by rw [e30, q_st_a _ _ (ntg (T := U) (by omega))]
      have hB : σ30 (G.2.1 h 4) = σ (G.2.1 h 4) := by rw [e30, q_st_a _ _ (ntg (T := U) (by omega))]
      refine fin σ30 (rF.gF (d := 14) ⟨fun x _ x2 _ => by rw [e30, q_st_a _ _ x2], fun i _ => by rw [hC], fun t ht => ⟨by rw [e30, q_st_ne _ _ (by omega)], by rw [hB]⟩⟩ (by decide)) ⟨fun i => by rw [hC]; exact hW.1 i, fun t => by rw [hB]; exact hW.2 t⟩ ⟨0, ⟨by rw [e30, q_st_self]; rfl, by omega, fun i hi => absurd hi (by omega)⟩, ?_⟩
      rw [z0.mp h1, Int.natAbs_zero, Nat.zero_mul]
      rfl
    · rw [e13]
      obtain ⟨F, W, -, c1, o1, v1, -⟩ := R
      rw [v] at v1
      exact fin σ17 (F.gF (by decide)) W ⟨c1, o1, v1⟩
  rw [nI_clamp (n := j2) (by omega), o.1, nI_le0 (by omega)]
  refine ⟨vL hM (by omega), fun h1 => mid (fun q => absurd h1 q), fun h1 => m_bitsOf hM (by omega) hW o ?_⟩
  have hN0 : 0 < rV G σ h j2 c := Nat.pos_of_ne_zero (fun q => h1 (hc0.mpr q))
  have hb := bl_is (rV G σ h j2 c)
  have hbc : ¬ bl (rV G σ h j2 c) ≤ 16 * (c - 1) := fun q => by
    rw [isBits_le hb] at q
    have e16 : (65536 : Nat) ^ (c - 1) = 2 ^ (16 * (c - 1)) := by rw [Nat.pow_mul]
    rw [← e16] at q
    have := (rOk_count (k := c - 1) hW o).mpr q
    omega
  have hbc2 : bl (rV G σ h j2 c) ≤ 16 * c := by
    rw [isBits_le hb]
    have e16 : (65536 : Nat) ^ c = 2 ^ (16 * c) := by rw [Nat.pow_mul]
    rw [← e16]
    exact rV_lt hW
  have hbm := isBits_mul m hb hN0
  have hle := isBits_le (n := 32 * w) hbm
  rw [← pow32, v, ← two_abs] at hle
  rw [v] at hbc hbc2 ⊢
  generalize bl (S.1 j2).natAbs = b at *
  have e1 : uL ((nI b).toInt64 + (nI m).toInt64) = b + m := by
    rw [uL_add, uL_nI (by omega), uL_nI (by omega), Nat.mod_eq_of_lt (by omega)]
  have e2 : uL ((16 : Int64) * (nI (2 * w)).toInt64) = 16 * (2 * w) := by
    rw [uL_mul, uL_nI (by omega), show uL 16 = 16 from rfl, Nat.mod_eq_of_lt (by omega)]
  rw [hI.2.1, lc_le, uL_lti _ _ (by omega) (by omega), e1, e2]
  exact ⟨fun hfit => mid (fun _ => by omega), fun hfull => K6_same (by rw [spPut_full (fun q => hfull (by have := hle.mpr q; omega))] at k; exact k) hI⟩
/-- the low bits, one digit more -/
theorem low_step {N p m d : Nat} (hd : N / 2 ^ p % 65536 = d) (h1 : p < m) : (N % 2 ^ (if m - p < 16 then m else p + 16) ≠ 0) ↔ (N % 2 ^ p ≠ 0 ∨ d % 2 ^ (if m - p < 16 then m - p else 16) ≠ 0) := by
  have key : ∀ r, r ≤ 16 → (N % 2 ^ (p + r) ≠ 0 ↔ (N % 2 ^ p ≠ 0 ∨ d % 2 ^ r ≠ 0)) := by
    intro r hr
    have e1 : N % 2 ^ (p + r) = N % 2 ^ p + 2 ^ p * (N / 2 ^ p % 2 ^ r) := by rw [Nat.pow_add]; exact Nat.mod_mul
    have e2 : N / 2 ^ p % 2 ^ r = d % 2 ^ r := by
      rw [← hd, show (65536 : Nat) = 2 ^ r * 2 ^ (16 - r) by rw [← Nat.pow_add, show r + (16 - r) = 16 by omega], Nat.mod_mul_right_mod]
    rw [e1, e2]
    have hp := Nat.two_pow_pos p
    constructor
    · intro q
      by_cases q1 : N % 2 ^ p = 0
      · right
        intro q2
        rw [q1, q2] at q
        exact q rfl
      · exact Or.inl q1
    · intro q
      rcases q with q | q
      · omega
      · have := Nat.mul_pos hp (Nat.pos_of_ne_zero q)
        omega
  by_cases h2 : m - p < 16
  · rw [if_pos h2, if_pos h2]
    have := key (m - p) (by omega)
    rw [show p + (m - p) = m by omega] at this
    exact this
  · rw [if_neg h2, if_neg h2]
    exact key 16 (Nat.le_refl _)
theorem m6_shr {G : qG} {σ : qS} {h n w : Nat} {U : Nat → Nat} {S : qSt} {x1 x2 x3 : Int32} {post : Int32 → qS → Prop} (hM : mS G h U) (hn : nw n w) (hI : I6 G σ h n w S) (k : K6 G h n w U σ post (spShr n w S x1 x2 x3)) : wpX6_shr G h x1 x2 x3 σ post := by
  unfold wpX6_shr
  unfold spShr at k
  refine m6_is hn hI (fun j hj e hr => ⟨fun h => absurd h (by decide), fun _ => ?_⟩) (fun hr => ⟨fun _ => K6_same (by rw [spIf_f (fun q => hr q.1)] at k; exact k) hI, fun h => absurd rfl h⟩)
  refine m6_is hn hI (fun j2 hj2 e2 hr2 => ⟨fun h => absurd h (by decide), fun _ => ?_⟩) (fun hr => ⟨fun _ => K6_same (by rw [spIf_f (fun q => hr q.2)] at k; exact k) hI, fun h => absurd rfl h⟩)
  rw [spIf_t ⟨hr, hr2⟩] at k
  refine ⟨fun h3 => ?_, fun h3 => K6_same (by rw [spIf_f (fun q => h3 (Int32.not_lt.mp q))] at k; exact k) hI⟩
  have hn3 : ¬ x3 < 0 := Int32.not_lt.mpr h3
  rw [spIf_t hn3] at k
  obtain ⟨m, hm, rfl⟩ := nI_of hn3
  have hn' := hn
  obtain ⟨c, o, hc, v, sg, z0, hz, hf⟩ := m6_reg hI hj2
  obtain ⟨n1, n2, n3, n4⟩ := hn
  subst e e2
  rw [ixo_nI (by omega), ixo_nI (by omega), ixo_nI (by omega)] at k
  have hW := hI.2.2.1
  have c14 : (14 : Int32).toNatClampNeg = 14 := by decide
  have v14 := vB (r := 14) hM (by decide)
  have hPm := Nat.two_pow_pos m
  -- the sign, and kept
  have fin : ∀ (τ : qS) (N : Nat), gF G h σ τ → mW G τ h → rM G τ h 14 N → (S.1 j2 < 0 → S.1 j2 / 2 ^ m = -(N : Int)) → (¬ S.1 j2 < 0 → S.1 j2 / 2 ^ m = (N : Int)) → bkX6_shr_175 G h (nI j) (σ (G.2.1 h 4) j2) post τ := by
    intro τ N g W M hz1 hz2
    obtain ⟨c1, o1, v1⟩ := M
    have hI1 := I6_gF hM hn' hI g W
    have hc520 := o1.2.1
    have keep : ∀ s : Int32, (s = 0 ∨ s = 1) → (s = 1 ↔ S.1 j2 < 0 ∧ c1 ≠ 0) → ∀ σ23, σ23 = q_st τ (G.2.1 h 4) 14 s → wpX6_keep G h (nI j) 14 σ23 (fun (u25 : Int32) (σ24 : qS) => post u25 σ24) := by
      intro s hs hsn σ23 e23
      exact m_done (row := 14) (neg := S.1 j2 < 0) hM hn' hI1 (g.out hM) hj (by decide) (by decide) o1 hs hsn (fun q => by rw [v1]; exact hz1 q) (fun q => by rw [v1]; exact hz2 q) k e23
    unfold bkX6_shr_175 bkX6_shr_200 bkX6_shr_201
    rw [c14, o1.1, nI_le0 (by omega)]
    exact ⟨fun h1 => ⟨v14, Or.inl rfl, keep 0 (Or.inl rfl) ⟨fun q => absurd q (by decide), fun q => absurd (h1.symm.trans (sg.mpr q.1)) (by decide)⟩⟩, fun h1 => ⟨vL (r := 14) hM (by decide), fun h2 => ⟨v14, Or.inl rfl, keep 0 (Or.inl rfl) ⟨fun q => absurd q (by decide), fun q => absurd h2 q.2⟩⟩, fun h2 => ⟨v14, Or.inr rfl, keep 1 (Or.inr rfl) ⟨fun _ => ⟨sg.mp ((hW.2 j2).resolve_left h1), h2⟩, fun _ => rfl⟩⟩⟩⟩
  -- behind the loop
  have behind : ∀ x4 : Int32, (x4 = 0 ↔ (S.1 j2).natAbs % 2 ^ m = 0) → bkX6_shr_116 G h (nI j) (nI j2) (nI m) x4 post σ := by
    intro x4 hx4
    unfold bkX6_shr_116
    rw [c14, nI_clamp (n := j2) (by omega)]
    refine ⟨vB hM (by omega), fun v24 e24 => ⟨v14, fun σ26 e26 => ?_⟩⟩
    obtain ⟨F26, W26, B26, C26, L26⟩ := mB_0 hM hW e26
    obtain ⟨o26, v26⟩ := rOk_same (F26.same (r := j2) (by omega)) o
    refine m_shiftDown (d := 14) hM (by decide) (by omega) (by omega) W26 o26 hm (fun σ27 R => ?_)
    rw [v26, v] at R
    obtain ⟨F27, W27, -, c27, o27, v27, -⟩ := R
    have g27 : gF G h σ σ27 := (F26.gF (by decide)).trans (F27.gF (by decide))
    rw [e24]
    have hP : ((2 ^ m : Nat) : Int) = (2 : Int) ^ m := Int.natCast_pow 2 m
    have hzneg : S.1 j2 < 0 → S.1 j2 / 2 ^ m = if (S.1 j2).natAbs % 2 ^ m = 0 then -(((S.1 j2).natAbs / 2 ^ m : Nat) : Int) else -(((S.1 j2).natAbs / 2 ^ m + 1 : Nat) : Int) := by
      intro q
      rw [← neg_fdiv _ _ hPm, hP, show -((S.1 j2).natAbs : Int) = S.1 j2 by omega]
    have hzpos : ¬ S.1 j2 < 0 → S.1 j2 / 2 ^ m = (((S.1 j2).natAbs / 2 ^ m : Nat) : Int) := by
      intro q
      rw [Int.natCast_ediv, hP, show ((S.1 j2).natAbs : Int) = S.1 j2 by omega]
    have neg1 : ¬ σ (G.2.1 h 4) j2 = 0 → S.1 j2 < 0 := fun q => sg.mp ((hW.2 j2).resolve_left q)
    have pos1 : σ (G.2.1 h 4) j2 = 0 → ¬ S.1 j2 < 0 := fun q q2 => absurd (q.symm.trans (sg.mpr q2)) (by decide)
    refine ⟨fun h1 => fin σ27 _ g27 W27 ⟨c27, o27, v27⟩ (fun q => absurd q (pos1 h1)) hzpos, fun h1 => ⟨fun h2 => fin σ27 _ g27 W27 ⟨c27, o27, v27⟩ (fun q => by rw [hzneg q, if_pos (hx4.mp h2)]) hzpos, fun h2 => ?_⟩⟩
    have hl : ¬ (S.1 j2).natAbs % 2 ^ m = 0 := fun q => h2 (hx4.mpr q)
    refine m_small (r := 13) hM (by decide) W27 (fun σ41 F41 W41 M41 B41 => ?_)
    obtain ⟨o41, v41⟩ := rOk_same (F41.same (r := 14) (by decide)) o27
    obtain ⟨cb, ob, vb⟩ := M41
    have u1 : uL (1 : Int64) = 1 := rfl
    rw [u1] at vb
    have hcb : cb ≤ 519 := (rOk_count W41 ob).mpr (by
      rw [vb]
      have h2 : 65536 ^ 1 ≤ 65536 ^ 519 := Nat.pow_le_pow_right (by decide) (by decide)
      omega)
    have hc27 : c27 ≤ 519 := (rOk_count W27 o27).mpr (by
      rw [v27]
      refine Nat.lt_of_le_of_lt (Nat.div_le_self _ _) ?_
      rw [← v]
      exact (rOk_count hW o).mp (by omega))
    refine m_plus (d := 15) (a := 14) (b := 13) hM (by decide) (by decide) (by decide) (by decide) (by decide) W41 o41 ob hc27 hcb (fun σ43 R43 => ?_)
    rw [v41, v27, vb] at R43
    obtain ⟨F43, W43, -, c43, o43, v43, -⟩ := R43
    refine m_move (d := 14) (a := 15) hM (by decide) (by decide) (by decide) W43 o43 (fun σ45 F45 W45 o45 v45 _ => ?_)
    refine fin σ45 _ (g27.trans ((F41.gF (by decide)).trans ((F43.gF (by decide)).trans (F45.gF (by decide))))) W45 ⟨c43, o45, v45.trans v43⟩ (fun q => by rw [hzneg q, if_neg hl]) (fun q => absurd (neg1 h1) q)
  intro v8 e8 v9 e9
  refine lp3 (W := fun f x4 x5 τ => lpX6_shr_31 G h (nI j) (nI j2) (nI m) post _ f x4 x5 τ) (I := fun x4 x5 τ => τ = σ ∧ ∃ i, i ≤ c ∧ x5 = nI i ∧ (x4 = 0 ∨ x4 = 1) ∧ (x4 = 0 ↔ (S.1 j2).natAbs % 2 ^ (if m < 16 * i then m else 16 * i) = 0)) (μ := fun _ x5 _ => c - x5.toNatClampNeg) ?_ v8 v9 σ ⟨rfl, 0, by omega, e9, Or.inl e8, ⟨fun _ => by rw [if_neg (by omega), Nat.mul_zero, Nat.pow_zero, Nat.mod_one], fun _ => e8⟩⟩
  intro f x4 x5 τ hInv ih
  obtain ⟨rfl, i, hi, rfl, hx4, hlost⟩ := hInv
  show lpX6_shr_31 G h (nI j) (nI j2) (nI m) post _ (f + 1) _ _ _
  unfold lpX6_shr_31
  have hNlt : (S.1 j2).natAbs < 65536 ^ c := by rw [← v]; exact rV_lt hW
  have e16c : ∀ t : Nat, (65536 : Nat) ^ t = 2 ^ (16 * t) := fun t => by rw [Nat.pow_mul]
  have el : uL ((16 : Int64) * (nI i).toInt64) = 16 * i := by
    rw [uL_mul, uL_nI (by omega), show uL 16 = 16 from rfl, Nat.mod_eq_of_lt (by omega)]
  have el2 : uL (nI m).toInt64 = m := uL_nI (by omega)
  have e16i : (16 : Int32) * nI i = nI (16 * i) := pk_mul 16 i
  rw [nI_clamp (n := j2) (by omega), o.1, nI_leI (by omega) (by omega), lc_ge, uL_lti _ _ (by omega) (by omega), el, el2, e16i]
  refine ⟨vL hM (by omega), fun h1 => behind x4 ?_, fun h1 => ⟨fun h2 => behind x4 ?_, fun h2 => ?_⟩⟩
  · have : i = c := by omega
    subst this
    rw [hlost]
    by_cases h4 : m < 16 * i
    · rw [if_pos h4]
    · rw [if_neg h4, ← e16c, Nat.mod_eq_of_lt hNlt, Nat.mod_eq_of_lt (Nat.lt_of_lt_of_le hNlt (by rw [e16c]; exact Nat.pow_le_pow_right (by decide) (by omega)))]
  · rw [hlost]
    by_cases h4 : m < 16 * i
    · rw [if_pos h4]
    · rw [if_neg h4, show 16 * i = m by omega]
  · have hlt : 16 * i < m := Decidable.not_not.mp h2
    have e16' : (16 : Int32) = nI 16 := by decide
    rw [pk_sub (by omega)]
    have c16 : nI (m - 16 * i) < (16 : Int32) ↔ m - 16 * i < 16 := by rw [e16']; exact nI_ltI (by omega) (by decide)
    rw [c16]
    have hdig : (S.1 j2).natAbs / 2 ^ (16 * i) % 65536 = uI (τ (G.2.1 h 2) (520 * j2 + i)) := by
      rw [← v, ← e16c]
      exact nv_digit (B := 65536) (d := fun t => uI (τ (G.2.1 h 2) (520 * j2 + t))) (n := c) (i := i) (by decide) (fun t _ => hW.1 _) (by omega)
    have hls := low_step (m := m) hdig hlt
    rw [if_neg (by omega)] at hlost
    have wd := hW.1 (520 * j2 + i)
    -- one digit
    have step : ∀ (s0 : Int32) (r : Nat), r ≤ 16 → s0.toBitVec.toNat = 2 ^ r - 1 → r = (if m - 16 * i < 16 then m - 16 * i else 16) → bkX6_shr_83 G h (nI j) (nI j2) (nI m) x4 (nI i) s0 post (lpX6_shr_31 G h (nI j) (nI j2) (nI m) post (fun (w20 : Int32) (σ21 : qS) => bkX6_shr_116 G h (nI j) (nI j2) (nI m) w20 post σ21) f) τ := by
      intro s0 r hr hs0 hre
      rw [← hre] at hls
      have hnext : (if m < 16 * (i + 1) then m else 16 * (i + 1)) = (if m - 16 * i < 16 then m else 16 * i + 16) := by
        by_cases q : m - 16 * i < 16
        · rw [if_pos q, if_pos (by omega)]
        · rw [if_neg q]
          by_cases q2 : m < 16 * (i + 1)
          · omega
          · rw [if_neg q2]; omega
      have nxt : ∀ (y4 : Int32), (y4 = 0 ∨ y4 = 1) → (y4 = 0 ↔ ¬ ((S.1 j2).natAbs % 2 ^ (16 * i) ≠ 0 ∨ uI (τ (G.2.1 h 2) (520 * j2 + i)) % 2 ^ r ≠ 0)) → bkX6_shr_108 G h (nI j) (nI j2) (nI m) (nI i) y4 post (lpX6_shr_31 G h (nI j) (nI j2) (nI m) post (fun (w20 : Int32) (σ21 : qS) => bkX6_shr_116 G h (nI j) (nI j2) (nI m) w20 post σ21) f) τ := by
        intro y4 hy hy2 v16 e16
        refine ih y4 v16 τ ⟨rfl, i + 1, by omega, by rw [e16, nI_1], hy, ?_⟩ ?_
        · rw [hnext, hy2, ← hls, Decidable.not_not]
        · show c - v16.toNatClampNeg < c - (nI i).toNatClampNeg
          rw [e16, nI_1, nI_clamp (by omega), nI_clamp (by omega)]
          omega
      unfold bkX6_shr_83 bkX6_shr_103
      refine ⟨fun h5 => m_digit hM (by omega) (by omega) o.1 o.2.1 ?_, fun h5 => nxt 1 (Or.inr rfl) ⟨fun q => absurd q (by decide), fun q => absurd (Or.inl (fun q2 => h5 (hlost.mpr q2))) q⟩⟩
      have ed : mdg G τ h j2 c i = uI (τ (G.2.1 h 2) (520 * j2 + i)) := by unfold mdg; rw [if_pos (by omega)]
      have hand : nI (uI (τ (G.2.1 h 2) (520 * j2 + i))) &&& s0 = nI (uI (τ (G.2.1 h 2) (520 * j2 + i)) % 2 ^ r) := pk_andN (by omega) r hs0
      have hml : uI (τ (G.2.1 h 2) (520 * j2 + i)) % 2 ^ r ≤ uI (τ (G.2.1 h 2) (520 * j2 + i)) := Nat.mod_le _ _
      have ez : nI (uI (τ (G.2.1 h 2) (520 * j2 + i)) % 2 ^ r) = 0 ↔ uI (τ (G.2.1 h 2) (520 * j2 + i)) % 2 ^ r = 0 := nI_eq (b := 0) (by omega) (by decide)
      rw [ed, hand, ez]
      refine ⟨fun h6 => nxt 0 (Or.inl rfl) ⟨fun _ q => q.elim (fun q2 => q2 (hlost.mp h5)) (fun q2 => q2 h6), fun _ => rfl⟩, fun h6 => nxt 1 (Or.inr rfl) ⟨fun q => absurd q (by decide), fun q => absurd (Or.inr h6) q⟩⟩
    refine ⟨fun h5 => step _ (m - 16 * i) (by omega) (mask_k (m - 16 * i) (by omega)) (by rw [if_pos h5]), fun h5 => step 65535 16 (by omega) (by decide) (by rw [if_neg h5])⟩
theorem m6_cmp {G : qG} {σ : qS} {h n w : Nat} {U : Nat → Nat} {S : qSt} {x1 x2 : Int32} {post : Int32 → qS → Prop} (hM : mS G h U) (hn : nw n w) (hI : I6 G σ h n w S) (k : K6 G h n w U σ post (spCmp n S x1 x2)) : wpX6_cmp G h x1 x2 σ post := by
  unfold wpX6_cmp
  unfold spCmp at k
  refine m6_is hn hI (fun j hj e hr => ⟨fun h => absurd h (by decide), fun _ => ?_⟩) (fun hr => ⟨fun _ => K6_same (by rw [spIf_f (fun q => hr q.1)] at k; exact k) hI, fun h => absurd rfl h⟩)
  refine m6_is hn hI (fun j2 hj2 e2 hr2 => ⟨fun h => absurd h (by decide), fun _ => ?_⟩) (fun hr => ⟨fun _ => K6_same (by rw [spIf_f (fun q => hr q.2)] at k; exact k) hI, fun h => absurd rfl h⟩)
  obtain ⟨c, o, hc, v, sg, z0, hz, hf⟩ := m6_reg hI hj
  obtain ⟨c', o', hc', v', sg', z0', hz', hf'⟩ := m6_reg hI hj2
  obtain ⟨n1, n2, n3, n4⟩ := hn
  subst e e2
  rw [spIf_t ⟨hr, hr2⟩, ixo_nI (by omega), ixo_nI (by omega)] at k
  have hW := hI.2.2.1
  have w1 := hW.2 j
  have w2 := hW.2 j2
  have out : ∀ r : Int32, ((S.1 j < S.1 j2 ∧ r = -1) ∨ (S.1 j = S.1 j2 ∧ r = 0) ∨ (S.1 j2 < S.1 j ∧ r = 1)) → post r σ := by
    intro r hr
    rw [cmpZ_of hr]
    exact K6_same k hI
  rw [nI_clamp (n := j) (by omega), nI_clamp (n := j2) (by omega)]
  refine ⟨vB hM (by omega), vB hM (by omega), fun h1 => ⟨vB hM (by omega), fun h2 => ?_, fun h2 => ?_⟩, fun h1 => ⟨vB hM (by omega), fun h2 => ?_, fun h2 => ?_⟩⟩
  · refine m_order hM (by omega) (by omega) hW o o' (fun r hr => out r ?_)
    rw [v, v'] at hr
    have p1 : ¬ S.1 j < 0 := fun q => absurd (h2.symm.trans (sg.mpr q)) (by decide)
    have p2 : ¬ S.1 j2 < 0 := fun q => absurd ((h1.symm.trans h2).symm.trans (sg'.mpr q)) (by decide)
    rcases hr with ⟨a, b⟩ | ⟨a, b⟩ | ⟨a, b⟩
    · exact Or.inl ⟨by omega, b⟩
    · exact Or.inr (Or.inl ⟨by omega, b⟩)
    · exact Or.inr (Or.inr ⟨by omega, b⟩)
  · refine m_order hM (by omega) (by omega) hW o' o (fun r hr => out r ?_)
    rw [v, v'] at hr
    have p1 : S.1 j < 0 := sg.mp (w1.resolve_left h2)
    have p2 : S.1 j2 < 0 := sg'.mp (w2.resolve_left (fun q => h2 (h1.trans q)))
    rcases hr with ⟨a, b⟩ | ⟨a, b⟩ | ⟨a, b⟩
    · exact Or.inl ⟨by omega, b⟩
    · exact Or.inr (Or.inl ⟨by omega, b⟩)
    · exact Or.inr (Or.inr ⟨by omega, b⟩)
  · have p1 : ¬ S.1 j < 0 := fun q => absurd (h2.symm.trans (sg.mpr q)) (by decide)
    have p2 : S.1 j2 < 0 := sg'.mp (w2.resolve_left (fun q => h1 (h2.trans q.symm)))
    exact out 1 (Or.inr (Or.inr ⟨by omega, rfl⟩))
  · have p1 : S.1 j < 0 := sg.mp (w1.resolve_left h2)
    have p2 : ¬ S.1 j2 < 0 := fun q => h1 ((w1.resolve_left h2).trans (sg'.mpr q).symm)
    exact out (-1) (Or.inl ⟨by omega, rfl⟩)
theorem m6_sign {G : qG} {σ : qS} {h n w : Nat} {U : Nat → Nat} {S : qSt} {x1 : Int32} {post : Int32 → qS → Prop} (hM : mS G h U) (hn : nw n w) (hI : I6 G σ h n w S) (k : K6 G h n w U σ post (spSign n S x1)) : wpX6_sign G h x1 σ post := by
  unfold wpX6_sign
  unfold spSign at k
  refine m6_is hn hI (fun j hj e hr => ⟨fun h => absurd h (by decide), fun _ => ?_⟩) (fun hr => ⟨fun _ => K6_same (by rw [spIf_f hr] at k; exact k) hI, fun h => absurd rfl h⟩)
  obtain ⟨c, o, hc, v, sg, z0, hz, hf⟩ := m6_reg hI hj
  obtain ⟨n1, n2, n3, n4⟩ := hn
  subst e
  rw [spIf_t hr, ixo_nI (by omega)] at k
  have w1 := hI.2.2.1.2 j
  have out : ∀ r : Int32, ((S.1 j < 0 ∧ r = -1) ∨ (S.1 j = 0 ∧ r = 0) ∨ (0 < S.1 j ∧ r = 1)) → post r σ := by
    intro r hr
    rw [cmpZ_of hr]
    exact K6_same k hI
  have ez : nI c = 0 ↔ c = 0 := nI_eq (b := 0) (by omega) (by decide)
  rw [nI_clamp (n := j) (by omega), o.1, ez]
  refine ⟨vB hM (by omega), fun h1 => ⟨vL hM (by omega), fun h2 => out 0 (Or.inr (Or.inl ⟨z0.mp h2, rfl⟩)), fun h2 => out 1 (Or.inr (Or.inr ⟨?_, rfl⟩))⟩, fun h1 => out (-1) (Or.inl ⟨sg.mp (w1.resolve_left h1), rfl⟩)⟩
  have p1 : ¬ S.1 j < 0 := fun q => absurd (h1.symm.trans (sg.mpr q)) (by decide)
  have p2 : S.1 j ≠ 0 := fun q => h2 (z0.mpr q)
  omega
theorem m6_length {G : qG} {σ : qS} {h n w : Nat} {U : Nat → Nat} {S : qSt} {x1 x2 : Int32} {post : Int32 → qS → Prop} (hM : mS G h U) (hn : nw n w) (hI : I6 G σ h n w S) (k : K6 G h n w U σ post (spLength n S x1 x2)) : wpX6_length G h x1 x2 σ post := by
  unfold wpX6_length
  unfold spLength at k
  refine m6_is hn hI (fun j hj e hr => ⟨fun h => absurd h (by decide), fun _ => ⟨fun h2 => K6_same (by rw [spIf_f (fun q => q.2.1 h2)] at k; exact k) hI, fun h2 => ⟨fun h3 => ?_, fun h3 => K6_same (by rw [spIf_f (fun q => h3 q.2.2)] at k; exact k) hI⟩⟩⟩) (fun hr => ⟨fun _ => K6_same (by rw [spIf_f (fun q => hr q.1)] at k; exact k) hI, fun h => absurd rfl h⟩)
  obtain ⟨c, o, hc, v, sg, z0, hz, hf⟩ := m6_reg hI hj
  obtain ⟨n1, n2, n3, n4⟩ := hn
  subst e
  rw [spIf_t ⟨hr, h2, h3⟩, ixo_nI (by omega)] at k
  have hW := hI.2.2.1
  rw [nI_clamp (n := j) (by omega), o.1]
  refine ⟨fun h4 => ⟨vL hM (by omega), ?_⟩, fun h4 => m_bitsOf hM (by omega) hW o ?_⟩
  · have ediv : (nI c + 1) / 2 = nI ((c + 1) / 2) := by rw [nI_1]; exact pk_div (a := c + 1) (d := 2) (by omega) (by decide) (by decide)
    have hb := bl_is (S.1 j).natAbs
    have h1 : ∀ t, c ≤ t ↔ bl (S.1 j).natAbs ≤ 16 * t := fun t => by
      have e16 : (65536 : Nat) ^ t = 2 ^ (16 * t) := by rw [Nat.pow_mul]
      rw [rOk_count hW o, isBits_le hb, v, e16]
    have q2 := (h1 c).mp (Nat.le_refl _)
    have q3 := (h1 ((bl (S.1 j).natAbs + 15) / 16)).mpr (by omega)
    have hcc : (c + 1) / 2 = (bl (S.1 j).natAbs + 31) / 32 := by omega
    rw [if_pos h4, ← hcc] at k
    rw [ediv]
    exact K6_same k hI
  · rw [if_neg h4] at k
    rw [v]
    exact K6_same k hI
theorem m6_limb {G : qG} {σ : qS} {h n w : Nat} {U : Nat → Nat} {S : qSt} {x1 x2 : Int32} {post : Int32 → qS → Prop} (hM : mS G h U) (hn : nw n w) (hI : I6 G σ h n w S) (k : K6 G h n w U σ post (spLimb n S x1 x2)) : wpX6_limb G h x1 x2 σ post := by
  unfold wpX6_limb
  unfold spLimb at k
  refine m6_is hn hI (fun j hj e hr => ⟨fun h => absurd h (by decide), fun _ => ⟨fun h2 => K6_same (by rw [spIf_f (fun q => q.2 h2)] at k; exact k) hI, fun h2 => ?_⟩⟩) (fun hr => ⟨fun _ => K6_same (by rw [spIf_f (fun q => hr q.1)] at k; exact k) hI, fun h => absurd rfl h⟩)
  obtain ⟨c, o, hc, v, sg, z0, hz, hf⟩ := m6_reg hI hj
  obtain ⟨n1, n2, n3, n4⟩ := hn
  subst e
  rw [spIf_t ⟨hr, h2⟩, ixo_nI (by omega)] at k
  obtain ⟨i, hi, rfl⟩ := nI_of h2
  rw [ixo_nI hi] at k
  have hW := hI.2.2.1
  have e1000 : nI i ≤ (1000 : Int32) ↔ i ≤ 1000 := nI_leI (b := 1000) hi (by decide)
  rw [e1000]
  refine ⟨fun h3 => ?_, fun h3 => ?_⟩
  · have e1 : (2 : Int32) * nI i + 1 = nI (2 * i + 1) := by
      have : (2 : Int32) * nI i = nI (2 * i) := pk_mul 2 i
      rw [this, nI_1]
    have e2 : (2 : Int32) * nI i = nI (2 * i) := pk_mul 2 i
    rw [e1, e2]
    refine m_digit hM (by omega) (by omega) o.1 o.2.1 (m_digit hM (by omega) (by omega) o.1 o.2.1 ?_)
    have hd : ∀ t, mdg G σ h j c t = (S.1 j).natAbs / 65536 ^ t % 65536 := fun t => by
      unfold mdg
      by_cases ht : t < c
      · rw [if_pos ht, ← v]
        exact (nv_digit (B := 65536) (d := fun t => uI (σ (G.2.1 h 2) (520 * j + t))) (n := c) (i := t) (by decide) (fun t _ => hW.1 _) ht).symm
      · have : (S.1 j).natAbs < 65536 ^ t := by
          rw [← v]
          exact (rOk_count hW o).mp (by omega)
        rw [if_neg ht, Nat.div_eq_of_lt this]
    have d1 := mdg_lt (r := j) (c := c) (k := 2 * i + 1) hW
    have d0 := mdg_lt (r := j) (c := c) (k := 2 * i) hW
    have hval : uI (nI (mdg G σ h j c (2 * i + 1)) <<< ((16 : Int32) &&& 31) ||| nI (mdg G σ h j c (2 * i))) = mdg G σ h j c (2 * i + 1) * 65536 + mdg G σ h j c (2 * i) := by
      have h2 : uI (nI (mdg G σ h j c (2 * i + 1)) <<< ((16 : Int32) &&& 31)) = uI (nI (mdg G σ h j c (2 * i + 1))) * 2 ^ 16 % 2 ^ 32 := pk_shl _ _ 16 (by decide)
      rw [uI_or, h2, uI_n (by omega), uI_n (by omega), Nat.mod_eq_of_lt (by omega)]
      exact or_add (r := 16) d0
    have hfin : mdg G σ h j c (2 * i + 1) * 65536 + mdg G σ h j c (2 * i) = (S.1 j).natAbs / 4294967296 ^ i % 4294967296 := by
      rw [hd, hd, Nat.pow_succ, ← Nat.div_div_eq_div_mul, p16_32]
      generalize (S.1 j).natAbs / 4294967296 ^ i = q
      omega
    have : nI (mdg G σ h j c (2 * i + 1)) <<< ((16 : Int32) &&& 31) ||| nI (mdg G σ h j c (2 * i)) = nI ((S.1 j).natAbs / 4294967296 ^ i % 4294967296) := by
      rw [nI_uI' (nI (mdg G σ h j c (2 * i + 1)) <<< ((16 : Int32) &&& 31) ||| nI (mdg G σ h j c (2 * i))), hval, hfin]
    rw [this]
    exact K6_same k hI
  · have hlt : (S.1 j).natAbs < 4294967296 ^ i := by
      rw [← v, ← p16_32]
      exact (rOk_count hW o).mp (by omega)
    rw [Nat.div_eq_of_lt hlt] at k
    exact K6_same k hI
theorem m6_gcd {G : qG} {σ : qS} {h n w : Nat} {U : Nat → Nat} {S : qSt} {x1 x2 x3 : Int32} {post : Int32 → qS → Prop} (hM : mS G h U) (hn : nw n w) (hI : I6 G σ h n w S) (k : K6 G h n w U σ post (spGcd n S x1 x2 x3)) : wpX6_gcd G h x1 x2 x3 σ post := by
  unfold wpX6_gcd
  unfold spGcd at k
  refine m6_is hn hI (fun j hj e hr => ⟨fun h => absurd h (by decide), fun _ => ?_⟩) (fun hr => ⟨fun _ => K6_same (by rw [spIf_f (fun q => hr q.1)] at k; exact k) hI, fun h => absurd rfl h⟩)
  refine m6_is hn hI (fun j2 hj2 e2 hr2 => ⟨fun h => absurd h (by decide), fun _ => ?_⟩) (fun hr => ⟨fun _ => K6_same (by rw [spIf_f (fun q => hr q.2.1)] at k; exact k) hI, fun h => absurd rfl h⟩)
  refine m6_is hn hI (fun j3 hj3 e3 hr3 => ⟨fun h => absurd h (by decide), fun _ => ?_⟩) (fun hr => ⟨fun _ => K6_same (by rw [spIf_f (fun q => hr q.2.2)] at k; exact k) hI, fun h => absurd rfl h⟩)
  have hn' := hn
  obtain ⟨c, o, hc, v, sg, z0, hz, hf⟩ := m6_reg hI hj2
  obtain ⟨c', o', hc', v', sg', z0', hz', hf'⟩ := m6_reg hI hj3
  obtain ⟨n1, n2, n3, n4⟩ := hn
  subst e e2 e3
  rw [spIf_t ⟨hr, hr2, hr3⟩, ixo_nI (by omega), ixo_nI (by omega), ixo_nI (by omega)] at k
  have hW := hI.2.2.1
  have c20 : (20 : Int32).toNatClampNeg = 20 := by decide
  have c21 : (21 : Int32).toNatClampNeg = 21 := by decide
  have hA : (S.1 j2).natAbs < 4294967296 ^ w := by rw [← v, ← p16_32]; exact (rOk_count hW o).mp hc
  have hB : (S.1 j3).natAbs < 4294967296 ^ w := by rw [← v', ← p16_32]; exact (rOk_count hW o').mp hc'
  refine m_move (d := 20) hM (by decide) (by omega) (by omega) hW o (fun σ10 F10 W10 o10 v10 _ => ?_)
  obtain ⟨o3, v3⟩ := rOk_same (F10.same (r := j3) (by omega)) o'
  refine m_move (d := 21) hM (by decide) (by omega) (by omega) W10 o3 (fun σ12 F12 W12 o12 v12 _ => ?_)
  have m20 : rM G σ12 h 20 (S.1 j2).natAbs := rM_same (F12.same (r := 20) (by decide)) ⟨c, o10, by rw [v10, v]⟩
  rw [c20]
  refine lp1 (W := fun f τ => lpX6_gcd_40 G h (nI j) post _ f τ) (I := fun τ => ∃ A B : Nat, gF G h σ τ ∧ mW G τ h ∧ rM G τ h 20 A ∧ rM G τ h 21 B ∧ A < 4294967296 ^ w ∧ B < 4294967296 ^ w ∧ Nat.gcd A B = Nat.gcd (S.1 j2).natAbs (S.1 j3).natAbs) (μ := fun τ => (mO τ (G.2.1 h 2) (520 * 21) (τ (G.2.1 h 3) 21).toNatClampNeg)) ?_ σ12 ⟨_, _, (F10.gF (by decide)).trans (F12.gF (by decide)), W12, m20, ⟨c', o12, by rw [v12, v3, v']⟩, hA, hB, rfl⟩
  intro f τ hInv ih
  obtain ⟨A, B, g, W, ⟨ca, oa, va⟩, ⟨cb, ob, vb⟩, lA, lB, hg⟩ := hInv
  have hcb520 := ob.2.1
  have hb0 := rOk_zero W ob
  have hca : ca ≤ 2 * w := (rOk_count W oa).mpr (by rw [va, p16_32]; exact lA)
  show lpX6_gcd_40 G h (nI j) post _ (f + 1) _
  unfold lpX6_gcd_40
  rw [c21, ob.1, nI_le0 (by omega)]
  refine ⟨vL (r := 21) hM (by decide), fun h1 => ?_, fun h1 => ?_⟩
  · have hB0 : B = 0 := by rw [← vb]; exact hb0.mp h1
    subst hB0
    refine ⟨vB (r := 20) hM (by decide), fun σ26 e26 => ?_⟩
    have hfit : ((Nat.gcd (S.1 j2).natAbs (S.1 j3).natAbs : Nat) : Int).natAbs < 4294967296 ^ w := by
      rw [Int.natAbs_natCast, ← hg, Nat.gcd_zero_right]
      exact lA
    rw [← spPut_fit (w := w) (S := S) (d := j) hfit] at k
    refine m_done (row := 20) (neg := False) hM hn' (I6_gF hM hn' hI g W) (g.out hM) hj (by decide) (by decide) oa (Or.inl rfl) ⟨fun q => absurd q (by decide), fun q => q.1.elim⟩ (fun q => q.elim) (fun _ => ?_) k e26
    rw [va, ← hg, Nat.gcd_zero_right]
  · have hBp : 0 < B := Nat.pos_of_ne_zero (fun q => h1 (hb0.mpr (by rw [vb, q])))
    refine m_divide (a := 20) (b := 21) hM (by decide) (by decide) (by decide) (by decide) W oa ob (by omega) (by omega) (fun σ17 D17 W17 _ _ M17 _ => ?_)
    rw [va, vb] at M17
    obtain ⟨ob17, vb17⟩ := rOk_same (D17.same (r := 21) (by decide)) ob
    refine m_move (d := 20) (a := 21) hM (by decide) (by decide) (by decide) W17 ob17 (fun σ19 F19 W19 o19 v19 _ => ?_)
    obtain ⟨cr, or, vr⟩ := rM_same (F19.same (r := 17) (by decide)) M17
    refine m_move (d := 21) (a := 17) hM (by decide) (by decide) (by decide) W19 or (fun σ21 F21 W21 o21 v21 _ => ?_)
    have hml : A % B < B := Nat.mod_lt _ hBp
    refine ih σ21 ⟨B, A % B, g.trans (D17.gF.trans ((F19.gF (by decide)).trans (F21.gF (by decide)))), W21, rM_same (F21.same (r := 20) (by decide)) ⟨cb, o19, by rw [v19, vb17, vb]⟩, ⟨cr, o21, by rw [v21, vr]⟩, lB, by omega, ?_⟩ ?_
    · rw [← hg, Nat.gcd_comm B, ← Nat.gcd_rec, Nat.gcd_comm]
    · show mO σ21 (G.2.1 h 2) (520 * 21) (σ21 (G.2.1 h 3) 21).toNatClampNeg < mO τ (G.2.1 h 2) (520 * 21) (τ (G.2.1 h 3) 21).toNatClampNeg
      have hcr520 := or.2.1
      rw [o21.1, ob.1, nI_clamp (by omega), nI_clamp (by omega)]
      have q1 : mO σ21 (G.2.1 h 2) (520 * 21) cr = A % B := v21.trans vr
      have q2 : mO τ (G.2.1 h 2) (520 * 21) cb = B := vb
      omega

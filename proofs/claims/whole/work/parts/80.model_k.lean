/-! Pure level: the reference's texts. -/
theorem m_tenth {G : qG} {σ : qS} {h c : Nat} {U : Nat → Nat} {x1 x2 y3 y4 : Int32} {post : Int32 → qS → Prop} {kx : Int32 → qS → Prop} (hM : mS G h U) (hW : mW G σ h) (o : rOk G σ h 20 c) (e3 : y3 = 0) (e4 : y4 = nI c - 1)
    (kk : ∀ (ρ : qS), rF G h 20 σ ρ → mW G ρ h → ρ (G.2.1 h 3) = σ (G.2.1 h 3) → ρ (G.2.1 h 4) = σ (G.2.1 h 4) → mO ρ (G.2.1 h 2) (520 * 20) c = rV G σ h 20 c / 10 → kx (nI (rV G σ h 20 c % 10)) ρ) : ∃ f, lpX6_write_42 G h x1 x2 post kx f y3 y4 σ := by
  obtain ⟨o1, o2, o3⟩ := o
  obtain ⟨⟨gH, gC, gL, gB, gT, gP⟩, kC, kL, kB, kT, kP⟩ := id hM
  refine lp3 (W := fun f x3 x4 ρ => lpX6_write_42 G h x1 x2 post kx f x3 x4 ρ) (I := fun x3 x4 ρ => ∃ i r : Nat, i ≤ c ∧ r < 10 ∧ x3 = nI r ∧ x4 = nI i - 1 ∧ rF G h 20 σ ρ ∧ mW G ρ h ∧ ρ (G.2.1 h 3) = σ (G.2.1 h 3) ∧ ρ (G.2.1 h 4) = σ (G.2.1 h 4) ∧ (∀ t, t < i → ρ (G.2.1 h 2) (10400 + t) = σ (G.2.1 h 2) (10400 + t)) ∧ mO σ (G.2.1 h 2) (10400 + i) (c - i) = 10 * mO ρ (G.2.1 h 2) (10400 + i) (c - i) + r) (μ := fun _ x4 _ => (x4 + 1).toNatClampNeg) ?_ y3 y4 σ ⟨c, 0, Nat.le_refl _, by decide, e3, e4, rF.refl, hW, rfl, rfl, fun _ _ => rfl, by rw [Nat.sub_self]; rfl⟩
  intro f x3 x4 ρ hI ih
  obtain ⟨i, r, hi, hr, rfl, rfl, hF, hWr, hL, hB, hs, hv⟩ := hI
  show lpX6_write_42 G h x1 x2 post kx (f + 1) _ _ _
  unfold lpX6_write_42
  rw [nI_m1neg (by omega)]
  refine ⟨fun h0 => ?_, fun h0 => ?_⟩
  · subst h0
    rw [Nat.sub_zero, Nat.add_zero] at hv
    have hv' : rV G σ h 20 c = 10 * mO ρ (G.2.1 h 2) (520 * 20) c + r := hv
    have q1 : rV G σ h 20 c % 10 = r := by omega
    have q2 : mO ρ (G.2.1 h 2) (520 * 20) c = rV G σ h 20 c / 10 := by omega
    have := kk ρ hF hWr hL hB q2
    rw [q1] at this
    exact this
  · obtain ⟨t, rfl⟩ : ∃ t, i = t + 1 := ⟨i - 1, by omega⟩
    rw [nI_pred]
    refine m_digit (r := 20) (c := c) hM (by decide) (by omega) (by rw [hL]; exact o1) o2 ?_
    have ed : mdg G ρ h 20 c t = uI (σ (G.2.1 h 2) (10400 + t)) := by
      unfold mdg
      rw [if_pos (by omega)]
      exact congrArg uI (hs t (by omega))
    have wd := hW.1 (10400 + t)
    rw [ed]
    generalize hd : uI (σ (G.2.1 h 2) (10400 + t)) = d at *
    intro v16 e16
    have hv16 : v16 = nI (r * 65536 + d) := by
      have q1 : nI r <<< ((16 : Int32) &&& 31) = nI (r * 2 ^ 16) := pk_shlN _ 16 (by decide) (by omega)
      rw [e16, q1, nI_uI' (nI (r * 2 ^ 16) ||| nI d), uI_or, uI_n (by omega), uI_n (by omega)]
      congr 1
      exact or_add (r := 16) wd
    have ediv : v16 / 10 = nI ((r * 65536 + d) / 10) := by rw [hv16]; exact pk_div (a := r * 65536 + d) (d := 10) (by omega) (by decide) (by decide)
    have erem : v16 - v16 / 10 * 10 = nI ((r * 65536 + d) % 10) := by rw [hv16]; exact pk_rem (a := r * 65536 + d) (d := 10) (by omega) (by decide) (by decide)
    rw [erem, ediv]
    refine m_put (r := 20) hM (by decide) (by omega) (fun σ17 e17 v19 e19 v20 e20 => ?_)
    have e17' : σ17 = q_st ρ (G.2.1 h 2) (10400 + t) (nI ((r * 65536 + d) / 10)) := e17
    have e19' : v19 = nI ((r * 65536 + d) % 10) := e19
    have hq : (r * 65536 + d) / 10 < 65536 := by omega
    refine ih v19 v20 σ17 ⟨t, _, by omega, Nat.mod_lt _ (by decide), e19', by rw [e20, i32_m1], hF.trans (rF_put hM (by omega) e17), mW_put hM hWr (by rw [uI_n (by omega)]; exact hq) e17, by rw [e17, q_st_a _ _ (ntg (T := U) (by omega)), hL], by rw [e17, q_st_a _ _ (ntg (T := U) (by omega)), hB], fun s hs' => by rw [e17', q_st_ne _ _ (by omega)]; exact hs s (by omega), ?_⟩ ?_
    · have low : ∀ (κ : qS), mO κ (G.2.1 h 2) (10400 + t) (c - t) = uI (κ (G.2.1 h 2) (10400 + t)) + 65536 * mO κ (G.2.1 h 2) (10400 + (t + 1)) (c - (t + 1)) := fun κ => by
        rw [show c - t = c - (t + 1) + 1 by omega]
        unfold mO
        rw [nv_low]
        congr 2
        exact nv_congr (fun s _ => by rw [show 10400 + t + (s + 1) = 10400 + (t + 1) + s by omega])
      rw [low σ, low σ17, hv, hd, e17', q_st_self, uI_n (by omega), ← e17', mO_congr (σ := σ17) (σ' := ρ) (a' := (G.2.1 h 2)) (p' := 10400 + (t + 1)) (fun s _ => by rw [e17', q_st_ne _ _ (by omega)])]
      generalize mO ρ (G.2.1 h 2) (10400 + (t + 1)) (c - (t + 1)) = Q
      omega
    · show (v20 + 1).toNatClampNeg < (nI (t + 1) - 1 + 1).toNatClampNeg
      rw [e20, i32_m1, i32_mp, i32_mp, nI_clamp (by omega), nI_clamp (by omega)]
      omega
/-- the characters turned round; the count noted -/
theorem m_turn {G : qG} {τ : qS} {h n : Nat} {f : Nat → Nat} {U : Nat → Nat} {post : Int32 → qS → Prop} (hM : mS G h U) (hn0 : 0 < n) (hn : n ≤ 1400) (ht : ∀ i, i < n → τ (G.2.1 h 5) i = nI (f i))
    (k : ∀ σ', (∀ b, b ≠ (G.2.1 h 5) → b ≠ h → σ' b = τ b) → (∀ j, j ≠ 6 → σ' h j = τ h j) → σ' h 6 = nI n → (∀ i, i < n → σ' (G.2.1 h 5) i = nI (f (n - 1 - i))) → post (nI n) σ') : bkX6_write_151 G h (nI n) post τ := by
  obtain ⟨⟨gH, gC, gL, gB, gT, gP⟩, kC, kL, kB, kT, kP⟩ := id hM
  unfold bkX6_write_151
  intro v37 e37 v38 e38
  rw [nI_m1 hn0] at e38
  refine lp3 (W := fun w x3 x4 ρ => lpX6_write_158 G h (nI n) post _ w x3 x4 ρ) (I := fun x3 x4 ρ => ∃ a, 2 * a ≤ n ∧ x3 = nI a ∧ x4 = nI (n - 1 - a) ∧ (∀ b, b ≠ (G.2.1 h 5) → ρ b = τ b) ∧ ∀ i, i < n → ρ (G.2.1 h 5) i = nI (f (if i < a ∨ n - 1 - i < a then n - 1 - i else i))) (μ := fun x3 _ _ => n - x3.toNatClampNeg) ?_ v37 v38 τ ⟨0, by omega, e37, e38, fun _ _ => rfl, fun i hi => by rw [if_neg (by omega)]; exact ht i hi⟩
  intro w x3 x4 ρ hI ih
  obtain ⟨a, ha, rfl, rfl, hfr, hc⟩ := hI
  show lpX6_write_158 G h (nI n) post _ (w + 1) _ _ _
  unfold lpX6_write_158
  rw [nI_leI (by omega) (by omega), nI_clamp (by omega), nI_clamp (by omega)]
  refine ⟨fun h1 σ51 e51 => k σ51 (fun b b1 b2 => by rw [e51, q_st_a _ _ b2, hfr b b1]) (fun j hj => by rw [e51, q_st_ne _ _ (by omega), hfr h (ntg (T := U) (by omega))]) (by rw [e51, q_st_self]) (fun i hi => ?_), fun h1 => ?_⟩
  · rw [e51, q_st_a _ _ (ntg (T := U) (by omega)), hc i hi]
    by_cases q : i < a ∨ n - 1 - i < a
    · rw [if_pos q]
    · rw [if_neg q, show n - 1 - i = i by omega]
  · refine ⟨vp_in_nI (by omega) (by omega), fun v42 e42 => ⟨vp_in_nI (by omega) (by omega), vp_in_nI (by omega) (by omega), fun σ45 e45 => ⟨vp_in_nI (by omega) (by omega), fun σ47 e47 v48 e48 v49 e49 => ih v48 v49 σ47 ⟨a + 1, by omega, by rw [e48, nI_1], by rw [e49, i32_m1, nI_m1 (by omega)]; congr 1, fun b hb => by rw [e47, q_st_a _ _ hb, e45, q_st_a _ _ hb, hfr b hb], fun i hi => ?_⟩ ?_⟩⟩⟩
    · by_cases q1 : i = n - 1 - a
      · rw [e47, q1, q_st_self, e42, hc a (by omega), if_neg (by omega), if_pos (by omega)]
        congr 2
        omega
      · rw [e47, q_st_ne _ _ (by omega)]
        by_cases q2 : i = a
        · rw [e45, q2, q_st_self, hc _ (by omega), if_neg (by omega), if_pos (by omega)]
        · rw [e45, q_st_ne _ _ (by omega), hc i hi]
          by_cases q : i < a ∨ n - 1 - i < a
          · rw [if_pos q, if_pos (by omega)]
          · rw [if_neg q, if_neg (by omega)]
    · show n - v48.toNatClampNeg < n - (nI a).toNatClampNeg
      rw [e48, nI_1, nI_clamp (by omega), nI_clamp (by omega)]
      omega
theorem m6_write {G : qG} {σ : qS} {h n w : Nat} {U : Nat → Nat} {S : qSt} {x1 : Int32} {post : Int32 → qS → Prop} (hM : mS G h U) (hn : nw n w) (hI : I6 G σ h n w S) (k : K6 G h n w U σ post (spWrite n S x1)) : wpX6_write G h x1 σ post := by
  unfold wpX6_write
  unfold spWrite at k
  refine m6_is hn hI (fun j hj e hr => ⟨fun h => absurd h (by decide), fun _ => ?_⟩) (fun hr => ⟨fun _ => K6_same (by rw [spIf_f hr] at k; exact k) hI, fun h => absurd rfl h⟩)
  have hn' := hn
  obtain ⟨c, o, hc, v, sg, z0, hz, hf⟩ := m6_reg hI hj
  obtain ⟨n1, n2, n3, n4⟩ := hn
  subst e
  rw [spIf_t hr, ixo_nI (by omega)] at k
  have hW := hI.2.2.1
  have c20 : (20 : Int32).toNatClampNeg = 20 := by decide
  have hNlt : (S.1 j).natAbs < 4294967296 ^ w := by rw [← v, ← p16_32]; exact (rOk_count hW o).mp hc
  have h10 := pow10_32 w
  have hdg := ndig_is (S.1 j).natAbs
  have hmw : ndig (S.1 j).natAbs ≤ 10 * w := isDig_le (by omega) hdg (by omega)
  have hMM := hM
  obtain ⟨⟨gH, gC, gL, gB, gT, gP⟩, kC, kL, kB, kT, kP⟩ := id hM
  refine m_move (d := 20) hMM (by decide) (by omega) (by omega) hW o (fun σ4 F4 W4 o4 v4 _ v6 e6 => ?_)
  rw [v] at v4
  generalize hNe : (S.1 j).natAbs = N at *
  generalize hme : ndig N = m at *
  -- the end
  have fin : ∀ (τ : qS), (∀ b, b ≠ (G.2.1 h 2) → b ≠ (G.2.1 h 3) → b ≠ (G.2.1 h 4) → b ≠ (G.2.1 h 5) → τ b = σ b) → (∀ r, r < 12 → rSame G h r σ τ) → mW G τ h → (∀ i, i < m → τ (G.2.1 h 5) i = nI (tch N m i)) → bkX6_write_131 G h (nI j) (nI m) post τ := by
    intro τ fr sr W hch
    have hm0 := hdg.1
    have last : ∀ (κ : qS) (t : Nat), t = (txOf (S.1 j)).1 → (∀ b, b ≠ (G.2.1 h 5) → κ b = τ b) → (∀ i, i < t → κ (G.2.1 h 5) i = nI (tch N m i)) → t ≤ 1400 → 0 < t → bkX6_write_151 G h (nI t) post κ := by
      intro κ t ht hκ hc2 ht2 ht0
      refine m_turn hMM ht0 ht2 hc2 (fun σ' q1 q2 q3 q4 => ?_)
      rw [ht]
      have hall : ∀ b, b ≠ (G.2.1 h 2) → b ≠ (G.2.1 h 3) → b ≠ (G.2.1 h 4) → b ≠ (G.2.1 h 5) → b ≠ h → σ' b = σ b := fun b b1 b2 b3 b4 b5 => by rw [q1 b b4 b5, hκ b b4, fr b b1 b2 b3 b4]
      have keep : ∀ b, b ≠ (G.2.1 h 5) → b ≠ h → σ' b = τ b := fun b b1 b2 => by rw [q1 b b1 b2, hκ b b1]
      have hh : ∀ t, t ≠ 6 → σ' h t = σ h t := fun t ht => by rw [q2 t ht, hκ h (ntg (T := U) (by omega)), fr h (ntg (T := U) (by omega)) (ntg (T := U) (by omega)) (ntg (T := U) (by omega)) (ntg (T := U) (by omega))]
      have hC : σ' (G.2.1 h 2) = τ (G.2.1 h 2) := keep _ (ntg (T := U) (by omega)) (ntg (T := U) (by omega))
      have hL : σ' (G.2.1 h 3) = τ (G.2.1 h 3) := keep _ (ntg (T := U) (by omega)) (ntg (T := U) (by omega))
      have hB : σ' (G.2.1 h 4) = τ (G.2.1 h 4) := keep _ (ntg (T := U) (by omega)) (ntg (T := U) (by omega))
      have hP : σ' (G.2.1 h 7) = σ (G.2.1 h 7) := hall _ (ntg (T := U) (by omega)) (ntg (T := U) (by omega)) (ntg (T := U) (by omega)) (ntg (T := U) (by omega)) (ntg (T := U) (by omega))
      obtain ⟨i1, i2, i3, i4, -, ⟨p1, p2, p3⟩⟩ := hI
      refine k σ' (fun a ha => hall a (ntg (T := U) (by omega)) (ntg (T := U) (by omega)) (ntg (T := U) (by omega)) (ntg (T := U) (by omega)) (ntg (T := U) (by omega))) ⟨by rw [hh 0 (by decide)]; exact i1, by rw [hh 1 (by decide)]; exact i2, ⟨fun i => by rw [hC]; exact W.1 i, fun r => by rw [hB]; exact W.2 r⟩, fun r hr => ?_, ⟨by rw [← ht]; exact ht2, by rw [q3, ht], fun i hi => ?_⟩, ⟨p1, by rw [hh 8 (by decide)]; exact p2, fun i hi => by rw [hP]; exact p3 i hi⟩⟩
      · obtain ⟨c', o', hc', f', v'⟩ := i4 r hr
        have s : rSame G h r σ σ' := (sr r (by omega)).trans ⟨fun i _ => by rw [hC], by rw [hL], by rw [hB]⟩
        exact ⟨c', (rOk_same s o').1, hc', fun q => by rw [s.2.2]; exact f' q, by rw [rZ_same s o']; exact v'⟩
      · have hi' : i < t := by rw [ht]; exact hi
        rw [q4 i hi', ht]
        show _ = nI ((txOf (S.1 j)).2 ((txOf (S.1 j)).1 - 1 - i))
        unfold txOf
        rw [hNe, hme]
    unfold bkX6_write_131
    rw [nI_clamp (n := j) (by omega), (sr j (by omega)).2.2]
    have htx : (txOf (S.1 j)).1 = m + (if S.1 j < 0 then 1 else 0) := by unfold txOf; rw [hNe, hme]
    refine ⟨vB hMM (by omega), fun h1 => last τ m ?_ (fun _ _ => rfl) hch (by omega) hm0, fun h1 => ?_⟩
    · have : ¬ S.1 j < 0 := fun q => absurd (h1.symm.trans (sg.mpr q)) (by decide)
      rw [htx, if_neg this]
      rfl
    · have hneg : S.1 j < 0 := sg.mp ((hW.2 j).resolve_left h1)
      rw [nI_clamp (by omega)]
      refine ⟨vp_in_nI (by omega) (by omega), fun σ55 e55 v56 e56 => ?_⟩
      rw [e56, nI_1]
      refine last σ55 (m + 1) (by rw [htx, if_pos hneg]) (fun b hb => by rw [e55, q_st_a _ _ hb]) (fun i hi => ?_) (by omega) (by omega)
      by_cases q : i = m
      · rw [e55, q, q_st_self]
        unfold tch
        rw [if_neg (by omega)]
        rfl
      · rw [e55, q_st_ne _ _ (by omega)]
        exact hch i (by omega)
  have hsame4 : ∀ r, r < 12 → rSame G h r σ σ4 := fun r hr => F4.same (by omega)
  refine lp2 (W := fun f x2 τ => lpX6_write_19 G h (nI j) post _ f x2 τ) (I := fun x2 τ => ∃ i, i ≤ m ∧ x2 = nI i ∧ (∀ b, b ≠ (G.2.1 h 2) → b ≠ (G.2.1 h 3) → b ≠ (G.2.1 h 4) → b ≠ (G.2.1 h 5) → τ b = σ b) ∧ (∀ r, r < 12 → rSame G h r σ τ) ∧ mW G τ h ∧ rM G τ h 20 (N / 10 ^ i) ∧ (∀ t, t < i → τ (G.2.1 h 5) t = nI (48 + N / 10 ^ t % 10)) ∧ (i ≠ 0 → N / 10 ^ (i - 1) ≠ 0)) (μ := fun x2 _ => 1300 - x2.toNatClampNeg) ?_ v6 σ4 ⟨0, by omega, e6, fun b b1 b2 b3 _ => F4.1 b b1 b2 b3, hsame4, W4, ⟨c, o4, by rw [v4, Nat.pow_zero, Nat.div_one]⟩, fun t ht => absurd ht (by omega), fun q => absurd rfl q⟩
  intro f x2 τ hInv ih
  obtain ⟨i, hi, rfl, fr, sr, W, ⟨ct, ot, vt⟩, hch, hlast⟩ := hInv
  have hct520 := ot.2.1
  have hz0 := rOk_zero W ot
  show lpX6_write_19 G h (nI j) post _ (f + 1) _ _
  unfold lpX6_write_19
  rw [c20, ot.1, nI_le0 (by omega)]
  refine ⟨vL (r := 20) hMM (by decide), fun h1 => ?_, fun h1 v10 e10 => ⟨vL (r := 20) hMM (by decide), fun v12 e12 => ?_⟩⟩
  · have hq0 : N / 10 ^ i = 0 := by rw [← vt]; exact hz0.mp h1
    have ezi : nI i = 0 ↔ i = 0 := nI_eq (b := 0) (by omega) (by decide)
    have hNi : N < 10 ^ i := by
      rcases Nat.div_eq_zero_iff.mp hq0 with q | q
      · have := Nat.pow_pos (a := 10) (n := i) (by decide); omega
      · exact q
    rw [ezi]
    refine ⟨fun h2 => ?_, fun h2 => ?_⟩
    · subst h2
      have hN0 : N = 0 := by rw [Nat.pow_zero] at hNi; omega
      have hm1 : m = 1 := isDig_unique hdg (by rw [hN0]; exact ⟨by decide, by decide, Or.inl rfl⟩)
      rw [nI_clamp (by omega)]
      refine ⟨vp_in_nI (by omega) (by omega), fun σ59 e59 v60 e60 => ?_⟩
      rw [e60, nI_1, show 0 + 1 = m by omega]
      have hC : σ59 (G.2.1 h 2) = τ (G.2.1 h 2) := by rw [e59, q_st_a _ _ (ntg (T := U) (by omega))]
      have hL : σ59 (G.2.1 h 3) = τ (G.2.1 h 3) := by rw [e59, q_st_a _ _ (ntg (T := U) (by omega))]
      have hB : σ59 (G.2.1 h 4) = τ (G.2.1 h 4) := by rw [e59, q_st_a _ _ (ntg (T := U) (by omega))]
      refine fin σ59 (fun b b1 b2 b3 b4 => by rw [e59, q_st_a _ _ b4, fr b b1 b2 b3 b4]) (fun r hr => (sr r hr).trans ⟨fun i _ => by rw [hC], by rw [hL], by rw [hB]⟩) ⟨fun i => by rw [hC]; exact W.1 i, fun r => by rw [hB]; exact W.2 r⟩ (fun i hi => ?_)
      have : i = 0 := by omega
      subst this
      rw [e59, q_st_self, hN0]
      unfold tch
      rw [if_pos (by omega)]
      rfl
    · have him : i = m := isDig_unique ⟨Nat.pos_of_ne_zero h2, hNi, Or.inr (by
        have q := hlast h2
        rcases Nat.lt_or_ge N (10 ^ (i - 1)) with q2 | q2
        · exact absurd (Nat.div_eq_of_lt q2) q
        · exact q2)⟩ hdg
      rw [him]
      refine fin τ fr sr W (fun t ht => ?_)
      rw [hch t (by omega)]
      unfold tch
      rw [if_pos ht]
  · have hNi : 10 ^ i ≤ N := by
      rcases Nat.lt_or_ge N (10 ^ i) with q | q
      · exact absurd (hz0.mpr (by rw [vt]; exact Nat.div_eq_of_lt q)) h1
      · exact q
    have him : i < m := by
      rcases Nat.lt_or_ge i m with q | q
      · exact q
      · have q1 : 10 ^ m ≤ 10 ^ i := Nat.pow_le_pow_right (by decide) q
        have := hdg.2.1
        omega
    refine m_tenth hMM W ot e10 e12 (fun ρ F W' L' B' v' => ⟨vL (r := 20) hMM (by decide), ?_⟩)
    rw [L', ot.1]
    refine m_trim (r := 20) hMM (by decide) hct520 W' (fun σ24 g24 R24 => ?_)
    rw [v', vt] at R24
    obtain ⟨F24, W24, -, c24, o24, v24, -⟩ := R24
    rw [vt, nI_clamp (n := i) (by omega)]
    refine ⟨vp_in_nI (by omega) (by omega), fun σ28 e28 v29 e29 => ?_⟩
    have e48 : (48 : Int32) + nI (N / 10 ^ i % 10) = nI (48 + N / 10 ^ i % 10) := nI_add 48 _
    rw [e48] at e28
    have hC : σ28 (G.2.1 h 2) = σ24 (G.2.1 h 2) := by rw [e28, q_st_a _ _ (ntg (T := U) (by omega))]
    have hL : σ28 (G.2.1 h 3) = σ24 (G.2.1 h 3) := by rw [e28, q_st_a _ _ (ntg (T := U) (by omega))]
    have hB : σ28 (G.2.1 h 4) = σ24 (G.2.1 h 4) := by rw [e28, q_st_a _ _ (ntg (T := U) (by omega))]
    have s28 : ∀ r, rSame G h r σ24 σ28 := fun r => ⟨fun i _ => by rw [hC], by rw [hL], by rw [hB]⟩
    have hT24 : σ24 (G.2.1 h 5) = τ (G.2.1 h 5) := by rw [F24.1 _ (ntg (T := U) (by omega)) (ntg (T := U) (by omega)) (ntg (T := U) (by omega)), F.1 _ (ntg (T := U) (by omega)) (ntg (T := U) (by omega)) (ntg (T := U) (by omega))]
    refine ih v29 σ28 ⟨i + 1, by omega, by rw [e29, nI_1], fun b b1 b2 b3 b4 => by rw [e28, q_st_a _ _ b4, F24.1 b b1 b2 b3, F.1 b b1 b2 b3, fr b b1 b2 b3 b4], fun r hr => (sr r hr).trans ((F.same (by omega)).trans ((F24.same (by omega)).trans (s28 r))), ⟨fun i => by rw [hC]; exact W24.1 i, fun r => by rw [hB]; exact W24.2 r⟩, rM_same (s28 20) ⟨c24, o24, by rw [v24, Nat.pow_succ, Nat.div_div_eq_div_mul]⟩, fun t ht => ?_, fun _ => ?_⟩ ?_
    · by_cases q : t = i
      · rw [e28, q, q_st_self]
      · rw [e28, q_st_ne _ _ (by omega), hT24]
        exact hch t (by omega)
    · rw [Nat.add_sub_cancel]
      intro q
      exact h1 (hz0.mpr (by rw [vt]; exact q))
    · show 1300 - v29.toNatClampNeg < 1300 - (nI i).toNatClampNeg
      rw [e29, nI_1, nI_clamp (by omega), nI_clamp (by omega)]
      omega
theorem m6_written {G : qG} {σ : qS} {h n w : Nat} {U : Nat → Nat} {S : qSt} {x1 : Int32} {post : Int32 → qS → Prop} (hM : mS G h U) (hI : I6 G σ h n w S) (k : K6 G h n w U σ post (spWritten S x1)) : wpX6_written G h x1 σ post := by
  unfold wpX6_written bkX6_written_12
  unfold spWritten at k
  obtain ⟨t1, t2, t3⟩ := hI.2.2.2.2.1
  obtain ⟨⟨gH, gC, gL, gB, gT, gP⟩, kC, kL, kB, kT, kP⟩ := id hM
  rw [t2]
  refine ⟨fun h1 => K6_same (by rw [spIf_f (fun q => q.1 h1)] at k; exact k) hI, fun h1 => ⟨fun h2 => ?_, fun h2 => K6_same (by rw [spIf_f (fun q => h2 q.2)] at k; exact k) hI⟩⟩
  rw [spIf_t ⟨h1, h2⟩] at k
  obtain ⟨i, hi, rfl⟩ := rg_of (n := S.2.1.1) (by omega) ⟨h1, h2⟩
  rw [ixo_nI (by omega)] at k
  rw [nI_clamp (by omega), t3 i hi]
  exact ⟨vp_in_nI (by omega) (by omega), K6_same k hI⟩
theorem m6_type {G : qG} {σ : qS} {h n w : Nat} {U : Nat → Nat} {S : qSt} {x1 : Int64} {x3 : Int32} {post : Int32 → qS → Prop} (hM : mS G h U) (hI : I6 G σ h n w S) (k : K6 G h n w U σ post (spType S x1 x3)) : wpX6_type G h x1 x3 σ post := by
  unfold wpX6_type
  unfold spType at k
  obtain ⟨t1, t2, t3⟩ := hI.2.2.2.2.2
  obtain ⟨⟨gH, gC, gL, gB, gT, gP⟩, kC, kL, kB, kT, kP⟩ := id hM
  refine ⟨fun h1 => K6_same (by rw [spIf_f (fun q => q.1 h1)] at k; exact k) hI, fun h1 => ⟨fun h2 => ?_, fun h2 => K6_same (by rw [spIf_f (fun q => h2 q.2)] at k; exact k) hI⟩⟩
  rw [spIf_t ⟨h1, h2⟩] at k
  have h1' : ¬ x3 < 0 := fun q => h1 (Int32.lt_trans q (by decide))
  obtain ⟨m, hm, rfl⟩ := nI_of h1'
  have hm8 : m ≤ 8 := (nI_leI (b := 8) hm (by decide)).mp h2
  rw [ixo_nI hm] at k
  generalize hne : S.2.2.1 = nt at *
  generalize hbe : S.2.2.2 = b at *
  have e13 : nI (nt + m) ≤ (1300 : Int32) ↔ nt + m ≤ 1300 := nI_leI (b := 1300) (by omega) (by decide)
  rw [t2, nI_add, e13]
  refine ⟨fun h3 v4 e4 => ?_, fun h3 => K6_same (by rw [spIf_f h3] at k; exact k) hI⟩
  rw [spIf_t h3] at k
  refine lp2 (W := fun f x4 τ => lpX6_type_33 G h x1 post _ f x4 τ) (I := fun x4 τ => ∃ i, i ≤ m ∧ x4 = nI i - 1 ∧ (∀ a, a ≠ h → a ≠ (G.2.1 h 7) → τ a = σ a) ∧ (∀ t, t ≠ 8 → τ h t = σ h t) ∧ τ h 8 = nI (nt + (m - i)) ∧ ∀ t, t < nt + (m - i) → tpApp b nt (uL x1) m t < 256 ∧ τ (G.2.1 h 7) t = nI (tpApp b nt (uL x1) m t)) (μ := fun x4 _ => (x4 + 1).toNatClampNeg) ?_ v4 σ ⟨m, Nat.le_refl _, e4, fun _ _ _ => rfl, fun _ _ => rfl, by rw [Nat.sub_self, Nat.add_zero]; exact t2, fun t ht => by rw [Nat.sub_self, Nat.add_zero] at ht; unfold tpApp; rw [if_pos ht]; exact t3 t ht⟩
  intro f x4 τ hInv ih
  obtain ⟨i, hi, rfl, hfr, hh, h8, hc⟩ := hInv
  show lpX6_type_33 G h x1 post _ (f + 1) _ _
  unfold lpX6_type_33
  rw [nI_m1neg (by omega)]
  refine ⟨fun h0 => ?_, fun h0 => ?_⟩
  · subst h0
    rw [Nat.sub_zero] at h8 hc
    rw [h8]
    obtain ⟨i1, i2, i3, i4, ⟨q1, q2, q3⟩, -⟩ := hI
    have hC : τ (G.2.1 h 2) = σ (G.2.1 h 2) := hfr _ (ntg (T := U) (by omega)) (ntg (T := U) (by omega))
    have hL : τ (G.2.1 h 3) = σ (G.2.1 h 3) := hfr _ (ntg (T := U) (by omega)) (ntg (T := U) (by omega))
    have hB : τ (G.2.1 h 4) = σ (G.2.1 h 4) := hfr _ (ntg (T := U) (by omega)) (ntg (T := U) (by omega))
    have hT : τ (G.2.1 h 5) = σ (G.2.1 h 5) := hfr _ (ntg (T := U) (by omega)) (ntg (T := U) (by omega))
    refine k τ (fun a ha => hfr a (ntg (T := U) (by omega)) (ntg (T := U) (by omega))) ⟨by rw [hh 0 (by decide)]; exact i1, by rw [hh 1 (by decide)]; exact i2, ⟨fun t => by rw [hC]; exact i3.1 t, fun t => by rw [hB]; exact i3.2 t⟩, fun r hr => ?_, ⟨q1, by rw [hh 6 (by decide)]; exact q2, fun t ht => by rw [hT]; exact q3 t ht⟩, ⟨h3, h8, hc⟩⟩
    obtain ⟨c', o', hc', f', v'⟩ := i4 r hr
    have s : rSame G h r σ τ := ⟨fun t _ => by rw [hC], by rw [hL], by rw [hB]⟩
    exact ⟨c', (rOk_same s o').1, hc', fun q => by rw [s.2.2]; exact f' q, by rw [rZ_same s o']; exact v'⟩
  · obtain ⟨j, rfl⟩ : ∃ j, i = j + 1 := ⟨i - 1, by omega⟩
    rw [h8, nI_pred, nI_clamp (by omega)]
    refine ⟨vp_in_nI (by omega) (by omega), fun σ8 e8 σ9 e9 v10 e10 => ?_⟩
    have e8j : (8 : Int32) * nI j = nI (8 * j) := pk_mul 8 j
    have hbyte : ∀ y : Int32, y &&& 255 = nI (uI y % 256) := fun y => pk_and y 8 (by decide)
    rw [hbyte, uI_low, e8j, uL_srr x1 (by omega)] at e8
    have e88 : σ8 h 8 = nI (nt + (m - (j + 1))) := by rw [e8, q_st_a _ _ (ntg (T := U) (by omega)), h8]
    rw [e88, nI_1] at e9
    have e8h : ∀ t, σ8 h t = τ h t := fun t => by rw [e8, q_st_a _ _ (ntg (T := U) (by omega))]
    refine ih v10 σ9 ⟨j, by omega, by rw [e10, i32_m1], fun a a1 a2 => by rw [e9, q_st_a _ _ a1, e8, q_st_a _ _ a2, hfr a a1 a2], fun t ht => by rw [e9, q_st_ne _ _ (by omega), e8h, hh t ht], by rw [e9, q_st_self]; congr 1; omega, fun t ht => ?_⟩ ?_
    · rw [e9, q_st_a _ _ (ntg (T := U) (by omega))]
      rcases Nat.lt_or_ge t (nt + (m - (j + 1))) with q | q
      · rw [e8, q_st_ne _ _ (by omega)]
        exact hc t q
      · have : t = nt + (m - (j + 1)) := by omega
        subst this
        rw [e8, q_st_self]
        unfold tpApp
        rw [if_neg (by omega), show m - 1 - (nt + (m - (j + 1)) - nt) = j by omega]
        refine ⟨Nat.mod_lt _ (by decide), ?_⟩
        congr 1
        omega
    · show (v10 + 1).toNatClampNeg < (nI (j + 1) - 1 + 1).toNatClampNeg
      rw [e10, i32_m1, i32_mp, i32_mp, nI_clamp (by omega), nI_clamp (by omega)]
      omega
theorem dv_lt {b : Nat → Nat} {f : Nat} : ∀ {n : Nat}, (∀ j, j < n → isD (b (f + j))) → dv b f n < 10 ^ n
  | 0, _ => by show 0 < 1; decide
  | n + 1, h => by
    have h1 := dv_lt (b := b) (f := f) (n := n) (fun j hj => h j (by omega))
    have h2 := h n (by omega)
    rw [Nat.pow_succ]
    show dv b f n * 10 + (b (f + n) - 48) < _
    omega
set_option maxHeartbeats 1000000 in
theorem m6_read {G : qG} {σ : qS} {h n w : Nat} {U : Nat → Nat} {S : qSt} {x1 : Int32} {post : Int32 → qS → Prop} (hM : mS G h U) (hn : nw n w) (hI : I6 G σ h n w S) (k : K6 G h n w U σ post (spRead n w S x1)) : wpX6_read G h x1 σ post := by
  unfold wpX6_read
  unfold spRead at k
  refine m6_is hn hI (fun j hj e hr => ⟨fun h => absurd h (by decide), fun _ => ?_⟩) (fun hr => ⟨fun _ => K6_same (by rw [spIf_f hr] at k; exact k) hI, fun h => absurd rfl h⟩)
  rw [spIf_t hr] at k
  have hn' := hn
  obtain ⟨n1, n2, n3, n4⟩ := hn
  obtain ⟨t1, t2, t3⟩ := hI.2.2.2.2.2
  have hMM := hM
  obtain ⟨⟨gH, gC, gL, gB, gT, gP⟩, kC, kL, kB, kT, kP⟩ := id hM
  subst e
  rw [ixo_nI (by omega)] at k
  have hdF := dFrom_le S.2.2.2 S.2.2.1
  have c20 : (20 : Int32).toNatClampNeg = 20 := by decide
  intro v4 e4 σ5 e5
  rw [t2] at e4
  subst e4
  -- the tape emptied
  have hf5 : ∀ a, a ≠ h → σ5 a = σ a := fun a ha => by rw [e5, q_st_a _ _ ha]
  have hh5 : ∀ t, t ≠ 8 → σ5 h t = σ h t := fun t ht => by rw [e5, q_st_ne _ _ (by omega)]
  have hI5 : I6 G σ5 h n w (S.1, S.2.1, (0, S.2.2.2)) := by
    obtain ⟨i1, i2, i3, i4, ⟨q1, q2, q3⟩, -⟩ := hI
    have hC : σ5 (G.2.1 h 2) = σ (G.2.1 h 2) := hf5 _ (ntg (T := U) (by omega))
    have hL : σ5 (G.2.1 h 3) = σ (G.2.1 h 3) := hf5 _ (ntg (T := U) (by omega))
    have hB : σ5 (G.2.1 h 4) = σ (G.2.1 h 4) := hf5 _ (ntg (T := U) (by omega))
    have hT : σ5 (G.2.1 h 5) = σ (G.2.1 h 5) := hf5 _ (ntg (T := U) (by omega))
    refine ⟨by rw [hh5 0 (by decide)]; exact i1, by rw [hh5 1 (by decide)]; exact i2, ⟨fun t => by rw [hC]; exact i3.1 t, fun t => by rw [hB]; exact i3.2 t⟩, fun r hr => ?_, ⟨q1, by rw [hh5 6 (by decide)]; exact q2, fun t ht => by rw [hT]; exact q3 t ht⟩, ⟨by show 0 ≤ 1300; omega, by rw [e5, q_st_self]; rfl, fun t ht => absurd ht (Nat.not_lt_zero _)⟩⟩
    obtain ⟨c', o', hc', f', v'⟩ := i4 r hr
    have s : rSame G h r σ σ5 := ⟨fun t _ => by rw [hC], by rw [hL], by rw [hB]⟩
    exact ⟨c', (rOk_same s o').1, hc', fun q => by rw [s.2.2]; exact f' q, by rw [rZ_same s o']; exact v'⟩
  have hfU : ∀ a, U a = 0 → σ5 a = σ a := fun a ha => hf5 a (ntg (T := U) (by omega))
  have hP5 : σ5 (G.2.1 h 7) = σ (G.2.1 h 7) := hf5 _ (ntg (T := U) (by omega))
  generalize hSe : ((S.1, S.2.1, (0, S.2.2.2)) : qSt) = S' at *
  generalize hne : S.2.2.1 = nt at *
  generalize hbe : S.2.2.2 = b at *
  have cell : ∀ τ : qS, τ (G.2.1 h 7) = σ (G.2.1 h 7) → ∀ i, i < nt → τ (G.2.1 h 7) i = nI (b i) := fun τ hτ i hi => by rw [hτ]; exact (t3 i hi).2
  have lt48 : ∀ i, i < nt → (nI (b i) < (48 : Int32) ↔ b i < 48) := fun i hi => nI_ltI (b := 48) (by have := (t3 i hi).1; omega) (by decide)
  have le57 : ∀ i, i < nt → (nI (b i) ≤ (57 : Int32) ↔ b i ≤ 57) := fun i hi => nI_leI (b := 57) (by have := (t3 i hi).1; omega) (by decide)
  have go : bkX6_read_51 G h (nI j) (nI nt) (nI (dFrom b nt)) post σ5 := by
    unfold bkX6_read_51
    generalize hfe : dFrom b nt = fr at *
    refine lp2 (W := fun f x4 τ => lpX6_read_55 G h (nI j) (nI nt) (nI fr) post _ _ f x4 τ) (I := fun x4 τ => τ = σ5 ∧ ∃ i, fr ≤ i ∧ i ≤ nt ∧ x4 = nI i ∧ ∀ t, fr ≤ t → t < i → isD (b t)) (μ := fun x4 _ => nt - x4.toNatClampNeg) ?_ (nI fr) σ5 ⟨rfl, fr, Nat.le_refl _, hdF, rfl, fun t h1 h2 => absurd h1 (by omega)⟩
    intro f x4 τ hInv ih
    obtain ⟨rfl, i, hi1, hi2, rfl, hd⟩ := hInv
    show lpX6_read_55 G h (nI j) (nI nt) (nI fr) post _ _ (f + 1) _ _
    unfold lpX6_read_55
    rw [nI_leI (by omega) (by omega), nI_clamp (by omega)]
    refine ⟨fun h1 => ?_, fun h1 => ?_⟩
    · clear ih
      have : i = nt := by omega
      subst this
      have hfw : fw b fr (i - fr) = i := by
        rw [fw_all _ _ _ (fun t q1 q2 => hd t q1 (by omega))]
        omega
      rw [nI_eq (by omega) (by omega), c20]
      refine ⟨fun h2 => ?_, fun h2 => ⟨vL (r := 20) hMM (by decide), fun σ20 e20 => ⟨vB (r := 20) hMM (by decide), fun σ23 e23 => ?_⟩⟩⟩
      · rw [spIf_f (by omega), hfw] at k
        exact k τ hfU hI5
      · rw [spIf_t ⟨hfw, by omega⟩] at k
        have hW5 := hI5.2.2.1
        have hC : σ23 (G.2.1 h 2) = τ (G.2.1 h 2) := by rw [e23, q_st_a _ _ (ntg (T := U) (by omega)), e20, q_st_a _ _ (ntg (T := U) (by omega))]
        have hL : ∀ r, σ23 (G.2.1 h 3) r = σ20 (G.2.1 h 3) r := fun r => by rw [e23, q_st_a _ _ (ntg (T := U) (by omega))]
        have hB20 : σ20 (G.2.1 h 4) = τ (G.2.1 h 4) := by rw [e20, q_st_a _ _ (ntg (T := U) (by omega))]
        have F23 : rF G h 20 τ σ23 := ⟨fun x q1 q2 q3 => by rw [e23, q_st_a _ _ q3, e20, q_st_a _ _ q2], fun t _ => by rw [hC], fun r hr => ⟨by rw [hL, e20, q_st_ne _ _ (by omega)], by rw [e23, q_st_ne _ _ (by omega), hB20]⟩⟩
        have W23 : mW G σ23 h := ⟨fun t => by rw [hC]; exact hW5.1 t, fun r => by
          by_cases q : r = 20
          · rw [e23, q, q_st_self]; exact Or.inl rfl
          · rw [e23, q_st_ne _ _ (by omega), hB20]; exact hW5.2 r⟩
        have m20 : rM G σ23 h 20 0 := ⟨0, ⟨by rw [hL, e20, q_st_self]; rfl, by omega, fun t ht => absurd ht (by omega)⟩, rfl⟩
        refine m_small (r := 23) hMM (by decide) W23 (fun σ24 F24 W24 M24 _ => ?_)
        have u10 : uL (10 : Int64) = 10 := rfl
        rw [u10] at M24
        have p16 : ∀ t, t ≤ 1300 → 10 ^ t ≤ 65536 ^ 325 := fun t ht => by
          have q1 : 10 ^ t ≤ 16 ^ t := Nat.pow_le_pow_left (by decide) t
          have q2 : 16 ^ t ≤ 16 ^ 1300 := Nat.pow_le_pow_right (by decide) ht
          have q3 : (16 : Nat) ^ 1300 = 65536 ^ 325 := by
            rw [show (65536 : Nat) = 16 ^ 4 by decide, ← Nat.pow_mul]
          rw [← q3]
          exact Nat.le_trans q1 q2
        refine lp2 (W := fun f x4 κ => lpX6_read_135 G h (nI j) (nI i) (nI fr) post _ f x4 κ) (I := fun x4 κ => ∃ t, fr ≤ t ∧ t ≤ i ∧ x4 = nI t ∧ gF G h τ κ ∧ mW G κ h ∧ rM G κ h 23 10 ∧ rM G κ h 20 (dv b fr (t - fr))) (μ := fun x4 _ => i - x4.toNatClampNeg) ?_ (nI fr) σ24 ⟨fr, Nat.le_refl _, by omega, rfl, (F23.gF (by decide)).trans (F24.gF (by decide)), W24, M24, by rw [Nat.sub_self]; exact rM_same (F24.same (r := 20) (by decide)) m20⟩
        intro f2 x4 κ hInv2 ih2
        obtain ⟨t, q1, q2, rfl, gk, Wk, m23, m20⟩ := hInv2
        have hPκ : κ (G.2.1 h 7) = σ (G.2.1 h 7) := by rw [gk.1 _ (ntg (T := U) (by omega)) (ntg (T := U) (by omega)) (ntg (T := U) (by omega)), hP5]
        obtain ⟨cx, ox, vx⟩ := m20
        have hdvt : dv b fr (t - fr) < 10 ^ (t - fr) := dv_lt (fun s hs => hd (fr + s) (by omega) (by omega))
        have hcx : cx ≤ 325 := (rOk_count Wk ox).mpr (by rw [vx]; exact Nat.lt_of_lt_of_le hdvt (p16 _ (by omega)))
        show lpX6_read_135 G h (nI j) (nI i) (nI fr) post _ (f2 + 1) _ _
        unfold lpX6_read_135
        rw [nI_leI (by omega) (by omega), nI_clamp (n := t) (by omega)]
        refine ⟨fun h3 => ?_, fun h3 => ?_⟩
        · have : t = i := by omega
          subst this
          have hIκ := I6_gF hMM hn' hI5 gk Wk
          have hfκ : ∀ a, U a = 0 → κ a = σ a := fun a ha => by rw [gk.out hMM a ha, hfU a ha]
          have hneg1 : b 0 = 45 → tpZ b t = -(rV G κ h 20 cx : Int) := fun q => by unfold tpZ; rw [if_pos q, hfe, vx]
          have hneg2 : ¬ b 0 = 45 → tpZ b t = (rV G κ h 20 cx : Int) := fun q => by unfold tpZ; rw [if_neg q, hfe, vx]
          have fin : ∀ s : Int32, (s = 0 ∨ s = 1) → (s = 1 ↔ b 0 = 45 ∧ cx ≠ 0) → bkX6_read_221 G h (nI j) (G.2.1 h 4) 20 s post κ := by
            intro s hs hsn
            unfold bkX6_read_221
            rw [c20]
            exact ⟨vB (r := 20) hMM (by decide), hs, fun σ40 e40 => m_done (row := 20) (neg := b 0 = 45) hMM hn' hIκ hfκ hj (by decide) (by decide) ox hs hsn hneg1 hneg2 k e40⟩
          have f0 : (b 0 = 45 → cx = 0) → bkX6_read_220 G h (nI j) (G.2.1 h 4) 20 post κ := fun q => fin 0 (Or.inl rfl) ⟨fun q2 => absurd q2 (by decide), fun q2 => absurd (q q2.1) q2.2⟩
          have e1 : nI fr = (1 : Int32) ↔ fr = 1 := nI_eq (b := 1) (by omega) (by decide)
          have c0 : (0 : Int32).toNatClampNeg = 0 := by decide
          have h45 : nI (b 0) = (45 : Int32) ↔ b 0 = 45 := nI_eq (b := 45) (by have := (t3 0 (by omega)).1; omega) (by decide)
          show (nI fr = 1 → _) ∧ _
          rw [e1, c0, cell κ hPκ 0 (by omega), h45, ox.1, nI_le0 (by omega)]
          refine ⟨fun h4 => ⟨vp_in_nI (n := 0) (by omega) (by omega), fun h5 => ⟨vL (r := 20) hMM (by decide), fun h6 => f0 (fun _ => h6), fun h6 => fin 1 (Or.inr rfl) ⟨fun _ => ⟨h5, h6⟩, fun _ => rfl⟩⟩, fun h5 => f0 (fun q => absurd q h5)⟩, fun h4 => f0 (fun q => ?_)⟩
          exfalso
          have : dFrom b t = 1 := by unfold dFrom; rw [if_pos ⟨by omega, Or.inr q⟩]
          omega
        · obtain ⟨cz, oz, vz⟩ := id m23
          have hcz : cz ≤ 1 := (rOk_count Wk oz).mpr (by rw [vz]; decide)
          refine m_times (d := 12) (a := 20) (b := 23) hMM (by decide) (by decide) (by decide) (by decide) (by decide) Wk ox oz (by omega) (fun σ27 F27 W27 M27 _ => ⟨vp_in_nI (by omega) (by omega), ?_⟩)
          rw [vx, vz] at M27
          obtain ⟨c27, o27, v27⟩ := M27
          have hP27 : σ27 (G.2.1 h 7) = σ (G.2.1 h 7) := by rw [F27.1 _ (ntg (T := U) (by omega)) (ntg (T := U) (by omega)) (ntg (T := U) (by omega)), hPκ]
          obtain ⟨d1, d2⟩ := hd t q1 (by omega)
          have e48 : nI (b t) - (48 : Int32) = nI (b t - 48) := pk_sub (a := b t) (b := 48) d1
          rw [cell σ27 hP27 t (by omega), e48]
          refine m_small (r := 13) hMM (by decide) W27 (fun σ31 F31 W31 M31 _ => ?_)
          rw [uL_nI (by omega)] at M31
          obtain ⟨c31, o31, v31⟩ := M31
          obtain ⟨o27', v27'⟩ := rOk_same (F31.same (r := 12) (by decide)) o27
          have hp1 : dv b fr (t - fr) * 10 < 65536 ^ 326 := by
            have q3 := p16 (t - fr) (by omega)
            rw [Nat.pow_succ]
            omega
          have hc27 : c27 ≤ 326 := (rOk_count W27 o27).mpr (by rw [v27]; exact hp1)
          have hc31 : c31 ≤ 1 := (rOk_count W31 o31).mpr (by rw [v31]; omega)
          refine m_plus (d := 20) (a := 12) (b := 13) hMM (by decide) (by decide) (by decide) (by decide) (by decide) W31 o27' o31 (by omega) (by omega) (fun σ33 R v35 e35 => ?_)
          rw [v27', v27, v31] at R
          obtain ⟨F33, W33, -, c33, o33, v33, -⟩ := R
          refine ih2 v35 σ33 ⟨t + 1, by omega, by omega, by rw [e35, nI_1], gk.trans ((F27.gF (by decide)).trans ((F31.gF (by decide)).trans (F33.gF (by decide)))), W33, rM_same ((F27.same (r := 23) (by decide)).trans ((F31.same (r := 23) (by decide)).trans (F33.same (r := 23) (by decide)))) m23, ⟨c33, o33, ?_⟩⟩ ?_
          · rw [v33, show t + 1 - fr = t - fr + 1 by omega]
            show _ = dv b fr (t - fr) * 10 + (b (fr + (t - fr)) - 48)
            rw [show fr + (t - fr) = t by omega]
          · show i - v35.toNatClampNeg < i - (nI t).toNatClampNeg
            rw [e35, nI_1, nI_clamp (by omega), nI_clamp (by omega)]
            omega
    · have bad : ¬ isD (b i) → bkX6_read_85 G (nI i) post τ := by
        intro q
        have hfw : fw b fr (nt - fr) = i := fw_at _ i _ _ hi1 (by omega) hd q
        unfold bkX6_read_85
        rw [spIf_f (by omega), hfw] at k
        exact k τ hfU hI5
      rw [cell τ hP5 i (by omega), lt48 i (by omega), le57 i (by omega)]
      refine ⟨vp_in_nI (by omega) (by omega), fun h2 => bad (fun q => by have := q.1; omega), fun h2 => ⟨vp_in_nI (by omega) (by omega), fun h3 v13 e13 => ih v13 τ ⟨rfl, i + 1, by omega, by omega, by rw [e13, nI_1], fun t q1 q2 => ?_⟩ ?_, fun h3 => bad (fun q => h3 q.2)⟩⟩
      · rcases Nat.lt_or_ge t i with q | q
        · exact hd t q1 q
        · rw [show t = i by omega]; exact ⟨by omega, h3⟩
      · show nt - v13.toNatClampNeg < nt - (nI i).toNatClampNeg
        rw [e13, nI_1, nI_clamp (by omega), nI_clamp (by omega)]
        omega
  have c0 : (0 : Int32).toNatClampNeg = 0 := by decide
  unfold bkX6_read_50 bkX6_read_46
  rw [nI_le0 (by omega), c0]
  refine ⟨fun h1 => ?_, fun h1 => ⟨vp_in_nI (n := 0) (by omega) (by omega), ?_⟩⟩
  · have : dFrom b nt = 0 := by unfold dFrom; rw [if_neg (by omega)]
    rw [this] at go
    exact go
  · have hb0 := (t3 0 (by omega)).1
    have h43 : nI (b 0) = (43 : Int32) ↔ b 0 = 43 := nI_eq (b := 43) (by omega) (by decide)
    have h45 : nI (b 0) = (45 : Int32) ↔ b 0 = 45 := nI_eq (b := 45) (by omega) (by decide)
    rw [cell σ5 hP5 0 (by omega), h43, h45]
    refine ⟨fun h2 => ?_, fun h2 => ⟨vp_in_nI (n := 0) (by omega) (by omega), fun h3 => ?_, fun h3 => ?_⟩⟩
    · have : dFrom b nt = 1 := by unfold dFrom; rw [if_pos ⟨by omega, Or.inl h2⟩]
      rw [this] at go
      exact go
    · have : dFrom b nt = 1 := by unfold dFrom; rw [if_pos ⟨by omega, Or.inr h3⟩]
      rw [this] at go
      exact go
    · have : dFrom b nt = 0 := by unfold dFrom; rw [if_neg (fun q => q.2.elim h2 h3)]
      rw [this] at go
      exact go

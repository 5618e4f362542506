/-! Pure level: products in one row (G.2.1 h0 1): sums and differences in place, the long way. -/
theorem vO_add (σ : qS) (a p m n : Nat) : vO σ a p (m + n) = vO σ a p m + 4294967296 ^ m * vO σ a (p + m) n := by
  unfold vO
  rw [nv_add]
  congr 2
  exact nv_congr (fun i _ => by rw [Nat.add_assoc])
theorem uI_m1 : uI (-1) = 4294967295 := by decide
theorem wl_addAt {G : qG} {h0 p P f q : Nat} {σ : qS} {post : qS → Prop} (hc : G.2.2 (G.2.1 h0 1) < 100000) (hq : q ≤ P) (hp : p + P ≤ G.2.2 (G.2.1 h0 1)) (hf : f + q ≤ G.2.2 (G.2.1 h0 1)) (hd : f + q ≤ p ∨ p + P ≤ f)
    (k : ∀ (σ' : qS) (cy : Nat), (∀ b, b ≠ (G.2.1 h0 1) → σ' b = σ b) → (∀ t, (t < p ∨ p + P ≤ t) → σ' (G.2.1 h0 1) t = σ (G.2.1 h0 1) t) → vO σ' (G.2.1 h0 1) p P + cy * 4294967296 ^ P = vO σ (G.2.1 h0 1) p P + vO σ (G.2.1 h0 1) f q → post σ') : wpX1_addAt G h0 (nI p) (nI P) (nI f) (nI q) σ post := by
  unfold wpX1_addAt
  intro v1 e1 v2 e2
  refine lp3 (W := fun m x5 x7 τ => lpX1_addAt_6 G h0 (nI p) (nI P) (nI f) (nI q) post _ m x5 x7 τ) (I := fun x5 x7 τ => ∃ i, i ≤ q ∧ x7 = nI i ∧ (∀ b, b ≠ (G.2.1 h0 1) → τ b = σ b) ∧ (∀ t, (t < p ∨ p + i ≤ t) → τ (G.2.1 h0 1) t = σ (G.2.1 h0 1) t) ∧ uL x5 ≤ 1 ∧ vO τ (G.2.1 h0 1) p i + uL x5 * 4294967296 ^ i = vO σ (G.2.1 h0 1) p i + vO σ (G.2.1 h0 1) f i) (μ := fun _ x7 _ => q - x7.toNatClampNeg) ?_ v1 v2 σ ⟨0, Nat.zero_le _, by rw [e2]; rfl, fun _ _ => rfl, fun _ _ => rfl, by rw [e1]; decide, by rw [e1]; rfl⟩
  intro m x5 x7 τ hI ih
  obtain ⟨i, hi, rfl, hfr, hun, hx, hv⟩ := hI
  show lpX1_addAt_6 G h0 (nI p) (nI P) (nI f) (nI q) post _ (m + 1) _ _ _
  unfold lpX1_addAt_6
  rw [nI_leI (by omega) (by omega)]
  refine ⟨fun h => ?_, fun h => ?_⟩
  · have hiq : i = q := by omega
    subst hiq
    -- the carry goes on
    refine lp3 (W := fun m x5 x7 τ => lpX1_addAt_76 G h0 (nI p) (nI P) post _ m x5 x7 τ) (I := fun x5 x7 τ => ∃ t, i ≤ t ∧ t ≤ P ∧ x7 = nI t ∧ (∀ b, b ≠ (G.2.1 h0 1) → τ b = σ b) ∧ (∀ r, (r < p ∨ p + t ≤ r) → τ (G.2.1 h0 1) r = σ (G.2.1 h0 1) r) ∧ uL x5 ≤ 1 ∧ vO τ (G.2.1 h0 1) p t + uL x5 * 4294967296 ^ t = vO σ (G.2.1 h0 1) p t + vO σ (G.2.1 h0 1) f i) (μ := fun _ x7 _ => P - x7.toNatClampNeg) ?_ x5 (nI i) τ ⟨i, Nat.le_refl _, hq, rfl, hfr, hun, hx, hv⟩
    clear hfr hun hx hv ih
    intro m x5 x7 τ hI ih
    obtain ⟨t, ht0, ht, rfl, hfr, hun, hx, hv⟩ := hI
    show lpX1_addAt_76 G h0 (nI p) (nI P) post _ (m + 1) _ _ _
    unfold lpX1_addAt_76
    rw [nI_leI (by omega) (by omega), lc_eq, uL_eq0]
    have stop : uL x5 = 0 → post τ := fun hz => by
      refine k τ 0 hfr (fun r hr => hun r (by omega)) ?_
      obtain ⟨w, rfl⟩ := Nat.exists_eq_add_of_le ht
      rw [hz, Nat.zero_mul, Nat.add_zero] at hv
      rw [Nat.zero_mul, Nat.add_zero, vO_add, vO_add, hv, vO_congr (σ := τ) (σ' := σ) (a' := (G.2.1 h0 1)) (p' := p + t) (fun r hr => hun _ (by omega))]
      omega
    refine ⟨fun h2 => ?_, fun h2 => ⟨stop, fun hnz => ?_⟩⟩
    · have : t = P := by omega
      subst this
      exact k τ (uL x5) hfr (fun r hr => hun r (by omega)) hv
    · rw [nI_add, nI_clamp (by omega)]
      refine ⟨vp_in_nI (by omega) (by omega), vp_in_nI (by omega) (by omega), fun σ19 e19 => ⟨vp_in_nI (by omega) (by omega), ?_⟩⟩
      have hd19 : uI (σ19 (G.2.1 h0 1) (p + t)) = (uI (σ (G.2.1 h0 1) (p + t)) + 1) % 4294967296 := by rw [e19, q_st_self, uI_add, hun _ (by omega), uI_1]
      have hdl := uI_lt (σ (G.2.1 h0 1) (p + t))
      have go : ∀ s0 : Int64, uL s0 ≤ 1 → uI (σ19 (G.2.1 h0 1) (p + t)) + uL s0 * 4294967296 = uI (σ (G.2.1 h0 1) (p + t)) + 1 → bkX1_addAt_119 G h0 (nI p) (nI P) (nI t) s0 post (lpX1_addAt_76 G h0 (nI p) (nI P) post (fun (σ23 : qS) => post σ23) m) σ19 := by
        intro s0 hs0 heq v22 e22
        refine ih s0 v22 σ19 ⟨t + 1, by omega, by omega, by rw [e22, nI_1], fun b hb => by rw [e19, q_st_a _ _ hb, hfr b hb], fun r hr => by rw [e19, q_st_ne _ _ (by omega)]; exact hun r (by omega), hs0, ?_⟩ ?_
        · rw [vO_s, vO_s, vO_congr (σ := σ19) (σ' := τ) (a' := (G.2.1 h0 1)) (p' := p) (fun r hr => by rw [e19, q_st_ne _ _ (by omega)]), Nat.pow_succ]
          have hx1 : uL x5 = 1 := by omega
          have hm := congrArg (fun z => z * 4294967296 ^ t) heq
          simp only [Nat.add_mul, Nat.one_mul] at hm
          rw [hx1, Nat.one_mul] at hv
          rw [Nat.mul_comm (4294967296 ^ t) 4294967296, ← Nat.mul_assoc]
          omega
        · show P - v22.toNatClampNeg < P - (nI t).toNatClampNeg
          rw [e22, nI_1, nI_clamp (by omega), nI_clamp (by omega)]
          omega
      rw [uI_eq0]
      refine ⟨fun h3 => go 1 (by decide) ?_, fun h3 => go 0 (by decide) ?_⟩
      · show _ + 1 * 4294967296 = _
        omega
      · show _ + 0 * 4294967296 = _
        omega
  · rw [nI_add, nI_add, nI_clamp (by omega), nI_clamp (by omega)]
    refine ⟨vp_in_nI (by omega) (by omega), vp_in_nI (by omega) (by omega), fun v7 e7 => ⟨vp_in_nI (by omega) (by omega), fun σ9 e9 v10 e10 v11 e11 => ?_⟩⟩
    rw [hun _ (by omega), hun _ (by omega)] at e7
    have l1 := uI_lt (σ (G.2.1 h0 1) (p + i))
    have l2 := uI_lt (σ (G.2.1 h0 1) (f + i))
    have hs : uL v7 = uI (σ (G.2.1 h0 1) (p + i)) + uI (σ (G.2.1 h0 1) (f + i)) + uL x5 := by
      rw [e7, uL_add, uL_add, uL_ext, uL_ext]; omega
    refine ih v10 v11 σ9 ⟨i + 1, by omega, by rw [e11, nI_1], fun b hb => by rw [e9, q_st_a _ _ hb, hfr b hb], fun t ht => by rw [e9, q_st_ne _ _ (by omega)]; exact hun t (by omega), by rw [e10, uL_s32]; omega, ?_⟩ ?_
    · rw [e10, uL_s32, vO_s, vO_s, vO_s, vO_congr (σ := σ9) (σ' := τ) (a' := (G.2.1 h0 1)) (p' := p) (fun t ht => by rw [e9, q_st_ne _ _ (by omega)])]
      have hlast : uI (σ9 (G.2.1 h0 1) (p + i)) = uL v7 % 4294967296 := by rw [e9, q_st_self, uI_low]
      have hcs := carry_step 4294967296 (uL v7) (4294967296 ^ i)
      rw [← Nat.pow_succ] at hcs
      rw [hlast, Nat.add_assoc, hcs, hs, Nat.add_mul, Nat.add_mul]
      omega
    · show q - v11.toNatClampNeg < q - (nI i).toNatClampNeg
      rw [e11, nI_1, nI_clamp (by omega), nI_clamp (by omega)]
      omega
theorem wl_subtractAt {G : qG} {h0 p P f q : Nat} {σ : qS} {post : qS → Prop} (hc : G.2.2 (G.2.1 h0 1) < 100000) (hq : q ≤ P) (hp : p + P ≤ G.2.2 (G.2.1 h0 1)) (hf : f + q ≤ G.2.2 (G.2.1 h0 1)) (hd : f + q ≤ p ∨ p + P ≤ f)
    (k : ∀ (σ' : qS) (bw : Nat), (∀ b, b ≠ (G.2.1 h0 1) → σ' b = σ b) → (∀ t, (t < p ∨ p + P ≤ t) → σ' (G.2.1 h0 1) t = σ (G.2.1 h0 1) t) → vO σ' (G.2.1 h0 1) p P + vO σ (G.2.1 h0 1) f q = vO σ (G.2.1 h0 1) p P + bw * 4294967296 ^ P → post σ') : wpX1_subtractAt G h0 (nI p) (nI P) (nI f) (nI q) σ post := by
  unfold wpX1_subtractAt
  intro v1 e1 v2 e2
  refine lp3 (W := fun m x5 x7 τ => lpX1_subtractAt_6 G h0 (nI p) (nI P) (nI f) (nI q) post _ m x5 x7 τ) (I := fun x5 x7 τ => ∃ i, i ≤ q ∧ x7 = nI i ∧ (∀ b, b ≠ (G.2.1 h0 1) → τ b = σ b) ∧ (∀ t, (t < p ∨ p + i ≤ t) → τ (G.2.1 h0 1) t = σ (G.2.1 h0 1) t) ∧ uL x5 ≤ 1 ∧ vO τ (G.2.1 h0 1) p i + vO σ (G.2.1 h0 1) f i = vO σ (G.2.1 h0 1) p i + uL x5 * 4294967296 ^ i) (μ := fun _ x7 _ => q - x7.toNatClampNeg) ?_ v1 v2 σ ⟨0, Nat.zero_le _, by rw [e2]; rfl, fun _ _ => rfl, fun _ _ => rfl, by rw [e1]; decide, by rw [e1]; rfl⟩
  intro m x5 x7 τ hI ih
  obtain ⟨i, hi, rfl, hfr, hun, hx, hv⟩ := hI
  show lpX1_subtractAt_6 G h0 (nI p) (nI P) (nI f) (nI q) post _ (m + 1) _ _ _
  unfold lpX1_subtractAt_6
  rw [nI_leI (by omega) (by omega)]
  refine ⟨fun h => ?_, fun h => ?_⟩
  · have hiq : i = q := by omega
    subst hiq
    refine lp3 (W := fun m x5 x7 τ => lpX1_subtractAt_83 G h0 (nI p) (nI P) post _ m x5 x7 τ) (I := fun x5 x7 τ => ∃ t, i ≤ t ∧ t ≤ P ∧ x7 = nI t ∧ (∀ b, b ≠ (G.2.1 h0 1) → τ b = σ b) ∧ (∀ r, (r < p ∨ p + t ≤ r) → τ (G.2.1 h0 1) r = σ (G.2.1 h0 1) r) ∧ uL x5 ≤ 1 ∧ vO τ (G.2.1 h0 1) p t + vO σ (G.2.1 h0 1) f i = vO σ (G.2.1 h0 1) p t + uL x5 * 4294967296 ^ t) (μ := fun _ x7 _ => P - x7.toNatClampNeg) ?_ x5 (nI i) τ ⟨i, Nat.le_refl _, hq, rfl, hfr, hun, hx, hv⟩
    clear hfr hun hx hv ih
    intro m x5 x7 τ hI ih
    obtain ⟨t, ht0, ht, rfl, hfr, hun, hx, hv⟩ := hI
    show lpX1_subtractAt_83 G h0 (nI p) (nI P) post _ (m + 1) _ _ _
    unfold lpX1_subtractAt_83
    rw [nI_leI (by omega) (by omega), lc_eq, uL_eq0]
    have stop : uL x5 = 0 → post τ := fun hz => by
      refine k τ 0 hfr (fun r hr => hun r (by omega)) ?_
      obtain ⟨w, rfl⟩ := Nat.exists_eq_add_of_le ht
      rw [hz, Nat.zero_mul, Nat.add_zero] at hv
      rw [Nat.zero_mul, Nat.add_zero, vO_add, vO_add, vO_congr (σ := τ) (σ' := σ) (a' := (G.2.1 h0 1)) (p' := p + t) (fun r hr => hun _ (by omega))]
      omega
    refine ⟨fun h2 => ?_, fun h2 => ⟨stop, fun hnz => ?_⟩⟩
    · have : t = P := by omega
      subst this
      exact k τ (uL x5) hfr (fun r hr => hun r (by omega)) hv
    · rw [nI_add, nI_clamp (by omega)]
      refine ⟨vp_in_nI (by omega) (by omega), vp_in_nI (by omega) (by omega), fun σ19 e19 => ⟨vp_in_nI (by omega) (by omega), ?_⟩⟩
      have hd19 : uI (σ19 (G.2.1 h0 1) (p + t)) = (4294967296 - 1 + uI (σ (G.2.1 h0 1) (p + t))) % 4294967296 := by rw [e19, q_st_self, uI_sub, hun _ (by omega), uI_1]
      have hdl := uI_lt (σ (G.2.1 h0 1) (p + t))
      have go : ∀ s0 : Int64, uL s0 ≤ 1 → uI (σ19 (G.2.1 h0 1) (p + t)) + 1 = uI (σ (G.2.1 h0 1) (p + t)) + uL s0 * 4294967296 → bkX1_subtractAt_127 G h0 (nI p) (nI P) (nI t) s0 post (lpX1_subtractAt_83 G h0 (nI p) (nI P) post (fun (σ23 : qS) => post σ23) m) σ19 := by
        intro s0 hs0 heq v22 e22
        refine ih s0 v22 σ19 ⟨t + 1, by omega, by omega, by rw [e22, nI_1], fun b hb => by rw [e19, q_st_a _ _ hb, hfr b hb], fun r hr => by rw [e19, q_st_ne _ _ (by omega)]; exact hun r (by omega), hs0, ?_⟩ ?_
        · rw [vO_s, vO_s, vO_congr (σ := σ19) (σ' := τ) (a' := (G.2.1 h0 1)) (p' := p) (fun r hr => by rw [e19, q_st_ne _ _ (by omega)]), Nat.pow_succ]
          have hx1 : uL x5 = 1 := by omega
          have hm := congrArg (fun z => z * 4294967296 ^ t) heq
          simp only [Nat.add_mul, Nat.one_mul] at hm
          rw [hx1, Nat.one_mul] at hv
          rw [Nat.mul_comm (4294967296 ^ t) 4294967296, ← Nat.mul_assoc]
          omega
        · show P - v22.toNatClampNeg < P - (nI t).toNatClampNeg
          rw [e22, nI_1, nI_clamp (by omega), nI_clamp (by omega)]
          omega
      rw [uI_eq, uI_m1]
      refine ⟨fun h3 => go 1 (by decide) ?_, fun h3 => go 0 (by decide) ?_⟩
      · show _ = _ + 1 * 4294967296
        omega
      · show _ = _ + 0 * 4294967296
        omega
  · rw [nI_add, nI_add, nI_clamp (by omega), nI_clamp (by omega)]
    refine ⟨vp_in_nI (by omega) (by omega), vp_in_nI (by omega) (by omega), fun v7 e7 => ⟨vp_in_nI (by omega) (by omega), fun σ9 e9 => ?_⟩⟩
    rw [hun _ (by omega), hun _ (by omega)] at e7
    have l1 := uI_lt (σ (G.2.1 h0 1) (p + i))
    have l2 := uI_lt (σ (G.2.1 h0 1) (f + i))
    have hs : uL v7 = (18446744073709551616 + uI (σ (G.2.1 h0 1) (p + i)) - uI (σ (G.2.1 h0 1) (f + i)) - uL x5) % 18446744073709551616 := by
      rw [e7, uL_sub, uL_sub, uL_ext, uL_ext]; omega
    have go : ∀ s0 : Int64, uL s0 ≤ 1 → uL v7 % 4294967296 + uI (σ (G.2.1 h0 1) (f + i)) + uL x5 = uI (σ (G.2.1 h0 1) (p + i)) + uL s0 * 4294967296 → bkX1_subtractAt_71 G h0 (nI p) (nI P) (nI f) (nI q) (nI i) s0 post (lpX1_subtractAt_6 G h0 (nI p) (nI P) (nI f) (nI q) post (fun (w12 : Int64) (σ13 : qS) => ∃ n24 : Nat, lpX1_subtractAt_83 G h0 (nI p) (nI P) post (fun (σ23 : qS) => post σ23) n24 w12 (nI q) σ13) m) σ9 := by
      intro s0 hs0 heq v11 e11
      refine ih s0 v11 σ9 ⟨i + 1, by omega, by rw [e11, nI_1], fun b hb => by rw [e9, q_st_a _ _ hb, hfr b hb], fun t ht => by rw [e9, q_st_ne _ _ (by omega)]; exact hun t (by omega), hs0, ?_⟩ ?_
      · rw [vO_s, vO_s, vO_s, vO_congr (σ := σ9) (σ' := τ) (a' := (G.2.1 h0 1)) (p' := p) (fun t ht => by rw [e9, q_st_ne _ _ (by omega)])]
        have hlast : uI (σ9 (G.2.1 h0 1) (p + i)) = uL v7 % 4294967296 := by rw [e9, q_st_self, uI_low]
        rw [hlast, Nat.pow_succ, Nat.mul_comm (4294967296 ^ i) 4294967296, ← Nat.mul_assoc]
        have hm := congrArg (fun z => z * 4294967296 ^ i) heq
        simp only [Nat.add_mul] at hm
        omega
      · show q - v11.toNatClampNeg < q - (nI i).toNatClampNeg
        rw [e11, nI_1, nI_clamp (by omega), nI_clamp (by omega)]
        omega
    rw [lc_ge, uL_neg]
    refine ⟨fun h3 => go 0 (by decide) ?_, fun h3 => go 1 (by decide) ?_⟩
    · show _ = _ + 0 * 4294967296
      omega
    · show _ = _ + 1 * 4294967296
      omega
theorem wl_sumHalves {G : qG} {h0 p mn hf t : Nat} {σ : qS} {post : qS → Prop} (hc : G.2.2 (G.2.1 h0 1) < 100000) (hm : hf ≤ mn) (hm2 : mn - hf ≤ hf) (hp : p + mn ≤ t) (ht : t + hf + 1 ≤ G.2.2 (G.2.1 h0 1))
    (k : ∀ σ' : qS, (∀ b, b ≠ (G.2.1 h0 1) → σ' b = σ b) → (∀ r, (r < t ∨ t + (hf + 1) ≤ r) → σ' (G.2.1 h0 1) r = σ (G.2.1 h0 1) r) → vO σ' (G.2.1 h0 1) t (hf + 1) = vO σ (G.2.1 h0 1) p hf + vO σ (G.2.1 h0 1) (p + hf) (mn - hf) → post σ') : wpX1_sumHalves G h0 (nI p) (nI mn) (nI hf) (nI t) σ post := by
  unfold wpX1_sumHalves
  rw [nI_clamp (by omega), nI_clamp (by omega), nI_clamp (by omega)]
  refine ⟨nI_pos (by omega), nI_pos (by omega), nI_pos (by omega), by omega, by omega, fun σ2 e2 => ?_⟩
  rw [nI_add, nI_clamp (by omega)]
  refine ⟨vp_in_nI (by omega) (by omega), fun σ9 e9 => ?_⟩
  rw [nI_1, nI_add, pk_sub hm]
  have f9 : ∀ b, b ≠ (G.2.1 h0 1) → σ9 b = σ b := fun b hb => by rw [e9, q_st_a _ _ hb, e2]; simp only [q_cp, if_neg hb]
  have r9 : ∀ r, (r < t ∨ t + (hf + 1) ≤ r) → σ9 (G.2.1 h0 1) r = σ (G.2.1 h0 1) r := fun r hr => by
    rw [e9, q_st_ne _ _ (by omega), e2]
    simp only [q_cp, if_true]
    exact pk_cpy_out (by omega)
  have v9 : vO σ9 (G.2.1 h0 1) t (hf + 1) = vO σ (G.2.1 h0 1) p hf := by
    rw [vO_s, e9, q_st_self, uI_0, Nat.zero_mul, Nat.add_zero]
    refine vO_congr (fun j hj => ?_)
    rw [q_st_ne _ _ (by omega), e2]
    simp only [q_cp, if_true]
    rw [pk_cpy_in (by omega) (by omega)]
    congr 1; omega
  refine wl_addAt hc (by omega) (by omega) (by omega) (Or.inl (by omega)) (fun σ10 cy g1 g2 g3 => ?_)
  have v9b : vO σ9 (G.2.1 h0 1) (p + hf) (mn - hf) = vO σ (G.2.1 h0 1) (p + hf) (mn - hf) := vO_congr (fun j hj => r9 _ (by omega))
  rw [v9, v9b] at g3
  have b1 := vO_lt σ (G.2.1 h0 1) p hf
  have b2 := vO_lt σ (G.2.1 h0 1) (p + hf) (mn - hf)
  have b3 : 4294967296 ^ (mn - hf) ≤ 4294967296 ^ hf := Nat.pow_le_pow_right (by decide) hm2
  have b4 : 4294967296 ^ (hf + 1) = 4294967296 * 4294967296 ^ hf := by rw [Nat.pow_succ, Nat.mul_comm]
  have hcy : cy = 0 := by
    rcases Nat.eq_zero_or_pos cy with h | h
    · exact h
    · have := Nat.mul_le_mul_right (4294967296 ^ (hf + 1)) h
      omega
  rw [hcy, Nat.zero_mul, Nat.add_zero] at g3
  exact k σ10 (fun b hb => by rw [g1 b hb, f9 b hb]) (fun r hr => by rw [g2 r hr, r9 r hr]) g3

/-! Pure level: shifts, questions, texts. -/
theorem isBits_mul {N b : Nat} (k : Nat) (h : isBits N b) (hN : 0 < N) : isBits (N * 2 ^ k) (b + k) := by
  rcases h with ⟨h1, -⟩ | ⟨h1, h2, h3⟩
  · omega
  · refine Or.inr ⟨by omega, ?_, ?_⟩
    · rw [show b + k - 1 = b - 1 + k by omega, Nat.pow_add]
      exact Nat.mul_le_mul_right _ h2
    · rw [Nat.pow_add]
      exact Nat.mul_lt_mul_of_pos_right h3 (Nat.pow_pos (by decide))
theorem two_abs (z : Int) (k : Nat) : (z * 2 ^ k).natAbs = z.natAbs * 2 ^ k := by rw [Int.natAbs_mul, Int.natAbs_pow]; rfl
theorem f5_shl {G : qG} {σ : qS} {h n w : Nat} {T : Nat → Nat} {S : qSt} {x1 x2 x3 : Int32} {post : Int32 → qS → Prop} (hS : fS G h n w T) (hI : I5 G σ h n w S) (k : K5 G h n w T σ post (spShl n w S x1 x2 x3)) : wpX5_shl G h x1 x2 x3 σ post := by
  unfold wpX5_shl
  unfold spShl at k
  refine f5_isNone hS (fun j hj e hr => ⟨fun _ => ?_, fun h => absurd rfl h⟩) (fun hr => ⟨fun h => absurd h (by decide), fun _ => K5_same (by rw [spIf_f (fun q => hr q.1)] at k; exact k) hI⟩)
  refine f5_isNone hS (fun j2 hj2 e2 hr2 => ⟨fun _ => ?_, fun h => absurd rfl h⟩) (fun hr => ⟨fun h => absurd h (by decide), fun _ => K5_same (by rw [spIf_f (fun q => hr q.2)] at k; exact k) hI⟩)
  rw [spIf_t ⟨hr, hr2⟩] at k
  refine ⟨fun h3 => ?_, fun h3 => K5_same (by rw [spIf_f (fun q => h3 (Int32.not_lt.mp q))] at k; exact k) hI⟩
  have hn3 : ¬ x3 < 0 := Int32.not_lt.mpr h3
  rw [spIf_t hn3] at k
  obtain ⟨m, hm, rfl⟩ := nI_of hn3
  have hw := wF hS hj2
  have hwd := wF hS hj
  have hwR := wRS hS
  obtain ⟨c, o, hc, z, N, sg, z0⟩ := f5_reg hS hI hj2
  have hS' := hS
  obtain ⟨⟨tH, tFA, tRS, tlRS, tA1, tlA1, tA2, tlA2, tPR, tPW, tDV, tQ, tlQ, tR, tlR, tOV, tUN, tTX, tTXB, tTP, tTPB⟩, tF, ⟨cFA, cRS, cA1, cA2, cQ, cR, cOV, cUN, cTXB, cTPB⟩, pn0, pn, pw0, pw⟩ := hS
  obtain ⟨d1, d2, d3⟩ := tF j hj
  obtain ⟨p1, p2, p3⟩ := tF j2 hj2
  subst e e2
  rw [ixo_nI (by omega), ixo_nI (by omega), ixo_nI (by omega)] at k
  rw [nI_clamp (by omega), nI_clamp (by omega)]
  refine ⟨vp_in_nI (by omega) (by omega), wl_isZero hw o (fun hz => ⟨fun h => absurd h (by decide), fun _ => ⟨vp_in_nI (by omega) (by omega), ?_⟩⟩) (fun hp => ⟨fun _ => ⟨vp_in_nI (by omega) (by omega), wl_bits hw o (fun b hb1 hb2 => ?_)⟩, fun h => absurd rfl h⟩)⟩
  · rw [z0.mp hz, Int.zero_mul, spPut_fit (by exact Nat.pow_pos (by decide))] at k
    refine wl_becomeInt hwd (by omega) (fun c σ' f1 o1 z1 => k σ' (fun a ha => f1 a (ntg (T := T) (by omega)) (ntg (T := T) (by omega))) (I5_up hS' hI hj f1 ⟨c, o1, z1⟩))
  · have hN0 : 0 < wN G σ (G.2.1 (G.2.1 h 1) j2) c := vU_pos hp o.2.2.2.2
    have hbm := isBits_mul m hb2 hN0
    have hle := isBits_le (n := 32 * w) hbm
    rw [← pow32, N, ← two_abs] at hle
    have hbc : ¬ b ≤ 32 * (c - 1) := fun q => by
      rw [isBits_le hb2, ← pow32] at q
      have := (wOk_count (w := c - 1) o).mpr q
      omega
    have e1 : uL ((nI b).toInt64 + (nI m).toInt64) = b + m := by
      rw [uL_add, uL_nI (by omega), uL_nI (by omega), Nat.mod_eq_of_lt (by omega)]
    have e2 : uL ((nI w).toInt64 * 32) = w * 32 := by
      rw [uL_mul, uL_nI (by omega), show uL 32 = 32 from rfl, Nat.mod_eq_of_lt (by omega)]
    rw [hI.1, lc_le, uL_lti _ _ (by omega) (by omega), e1, e2]
    refine ⟨fun hfit => ⟨vp_in_nI (by omega) (by omega), ?_⟩, fun hfull => K5_same (by rw [spPut_full (fun q => hfull (by have := hle.mpr q; omega))] at k; exact k) hI⟩
    refine wl_becomeShiftedUp hwR hw o hm (by omega) (ntg (T := T) (by omega)) (ntg (T := T) (by omega)) (fun c1 σ1 f1 o1 _ z1 => ?_)
    exact f5_put hS' (I5_SF hS' hI (fun a ha => f1 a (ntg (T := T) (by omega)) (ntg (T := T) (by omega)))) (fun a ha => f1 a (ntg (T := T) (by omega)) (ntg (T := T) (by omega))) hj o1 (by rw [z1, z]) k
theorem f5_shr {G : qG} {σ : qS} {h n w : Nat} {T : Nat → Nat} {S : qSt} {x1 x2 x3 : Int32} {post : Int32 → qS → Prop} (hS : fS G h n w T) (hI : I5 G σ h n w S) (k : K5 G h n w T σ post (spShr n w S x1 x2 x3)) : wpX5_shr G h x1 x2 x3 σ post := by
  unfold wpX5_shr
  unfold spShr at k
  refine f5_isNone hS (fun j hj e hr => ⟨fun _ => ?_, fun h => absurd rfl h⟩) (fun hr => ⟨fun h => absurd h (by decide), fun _ => K5_same (by rw [spIf_f (fun q => hr q.1)] at k; exact k) hI⟩)
  refine f5_isNone hS (fun j2 hj2 e2 hr2 => ⟨fun _ => ?_, fun h => absurd rfl h⟩) (fun hr => ⟨fun h => absurd h (by decide), fun _ => K5_same (by rw [spIf_f (fun q => hr q.2)] at k; exact k) hI⟩)
  rw [spIf_t ⟨hr, hr2⟩] at k
  refine ⟨fun h3 => ?_, fun h3 => K5_same (by rw [spIf_f (fun q => h3 (Int32.not_lt.mp q))] at k; exact k) hI⟩
  have hn3 : ¬ x3 < 0 := Int32.not_lt.mpr h3
  rw [spIf_t hn3] at k
  obtain ⟨m, hm, rfl⟩ := nI_of hn3
  have hw := wF hS hj2
  have hwR := wRS hS
  obtain ⟨c, o, hc, z, N, sg, z0⟩ := f5_reg hS hI hj2
  have hS' := hS
  obtain ⟨⟨tH, tFA, tRS, tlRS, tA1, tlA1, tA2, tlA2, tPR, tPW, tDV, tQ, tlQ, tR, tlR, tOV, tUN, tTX, tTXB, tTP, tTPB⟩, tF, ⟨cFA, cRS, cA1, cA2, cQ, cR, cOV, cUN, cTXB, cTPB⟩, pn0, pn, pw0, pw⟩ := hS
  obtain ⟨d1, d2, d3⟩ := tF j hj
  obtain ⟨p1, p2, p3⟩ := tF j2 hj2
  subst e e2
  rw [ixo_nI (by omega), ixo_nI (by omega), ixo_nI (by omega)] at k
  rw [nI_clamp (by omega)]
  refine ⟨vp_in_nI (by omega) (by omega), wl_becomeShiftedDown hwR hw o hm (by omega) (fun _ => by omega) (ntg (T := T) (by omega)) (ntg (T := T) (by omega)) (ntg (T := T) (by omega)) (ntg (T := T) (by omega)) (fun c1 σ1 f1 o1 z1 => ?_)⟩
  exact f5_put hS' (I5_SF hS' hI (fun a ha => f1 a (ntg (T := T) (by omega)) (ntg (T := T) (by omega)))) (fun a ha => f1 a (ntg (T := T) (by omega)) (ntg (T := T) (by omega))) hj o1 (by rw [z1, z]) k
theorem cmpZ_of {a b : Int} {r : Int32} (h : (a < b ∧ r = -1) ∨ (a = b ∧ r = 0) ∨ (b < a ∧ r = 1)) : r = cmpZ a b := by
  unfold cmpZ
  rcases h with ⟨h, e⟩ | ⟨h, e⟩ | ⟨h, e⟩
  · rw [if_pos h, e]
  · rw [if_neg (by omega), if_pos h, e]
  · rw [if_neg (by omega), if_neg (by omega), e]
theorem f5_cmp {G : qG} {σ : qS} {h n w : Nat} {T : Nat → Nat} {S : qSt} {x1 x2 : Int32} {post : Int32 → qS → Prop} (hS : fS G h n w T) (hI : I5 G σ h n w S) (k : K5 G h n w T σ post (spCmp n S x1 x2)) : wpX5_cmp G h x1 x2 σ post := by
  unfold wpX5_cmp
  unfold spCmp at k
  refine f5_isNone hS (fun j hj e hr => ⟨fun _ => ?_, fun h => absurd rfl h⟩) (fun hr => ⟨fun h => absurd h (by decide), fun _ => K5_same (by rw [spIf_f (fun q => hr q.1)] at k; exact k) hI⟩)
  refine f5_isNone hS (fun j2 hj2 e2 hr2 => ⟨fun _ => ?_, fun h => absurd rfl h⟩) (fun hr => ⟨fun h => absurd h (by decide), fun _ => K5_same (by rw [spIf_f (fun q => hr q.2)] at k; exact k) hI⟩)
  have hw := wF hS hj
  have hw2 := wF hS hj2
  obtain ⟨c, o, hc, z, N, sg, z0⟩ := f5_reg hS hI hj
  obtain ⟨c', o', hc', z', N', sg', z0'⟩ := f5_reg hS hI hj2
  obtain ⟨⟨tH, tFA, tRS, tlRS, tA1, tlA1, tA2, tlA2, tPR, tPW, tDV, tQ, tlQ, tR, tlR, tOV, tUN, tTX, tTXB, tTP, tTPB⟩, tF, ⟨cFA, cRS, cA1, cA2, cQ, cR, cOV, cUN, cTXB, cTPB⟩, pn0, pn, pw0, pw⟩ := hS
  subst e e2
  rw [spIf_t ⟨hr, hr2⟩, ixo_nI (by omega), ixo_nI (by omega)] at k
  rw [nI_clamp (by omega), nI_clamp (by omega)]
  refine ⟨vp_in_nI (by omega) (by omega), vp_in_nI (by omega) (by omega), wl_compareValue hw hw2 o o' (fun r hr => ?_)⟩
  rw [z, z'] at hr
  rw [cmpZ_of hr]
  exact K5_same k hI
theorem f5_sign {G : qG} {σ : qS} {h n w : Nat} {T : Nat → Nat} {S : qSt} {x1 : Int32} {post : Int32 → qS → Prop} (hS : fS G h n w T) (hI : I5 G σ h n w S) (k : K5 G h n w T σ post (spSign n S x1)) : wpX5_sign G h x1 σ post := by
  unfold wpX5_sign
  unfold spSign at k
  refine f5_isNone hS (fun j hj e hr => ⟨fun _ => ?_, fun h => absurd rfl h⟩) (fun hr => ⟨fun h => absurd h (by decide), fun _ => K5_same (by rw [spIf_f hr] at k; exact k) hI⟩)
  have hw := wF hS hj
  obtain ⟨c, o, hc, z, N, sg, z0⟩ := f5_reg hS hI hj
  obtain ⟨⟨tH, tFA, tRS, tlRS, tA1, tlA1, tA2, tlA2, tPR, tPW, tDV, tQ, tlQ, tR, tlR, tOV, tUN, tTX, tTXB, tTP, tTPB⟩, tF, ⟨cFA, cRS, cA1, cA2, cQ, cR, cOV, cUN, cTXB, cTPB⟩, pn0, pn, pw0, pw⟩ := hS
  subst e
  rw [spIf_t hr, ixo_nI (by omega)] at k
  rw [nI_clamp (by omega)]
  refine ⟨vp_in_nI (by omega) (by omega), wl_side hw o (fun r hr => ?_)⟩
  rw [z] at hr
  rw [cmpZ_of hr]
  exact K5_same k hI
/-- so many limbs has a number of so many bits -/
theorem cnt_bl {G : qG} {σ : qS} {h c : Nat} (o : wOk G σ h c) : c = (bl (wN G σ h c) + 31) / 32 := by
  have hb := bl_is (wN G σ h c)
  have h1 : ∀ k, c ≤ k ↔ bl (wN G σ h c) ≤ 32 * k := fun k => by rw [wOk_count o, isBits_le hb, ← pow32]
  have h2 := (h1 c).mp (Nat.le_refl _)
  have h3 := (h1 ((bl (wN G σ h c) + 31) / 32)).mpr (by omega)
  omega
theorem f5_length {G : qG} {σ : qS} {h n w : Nat} {T : Nat → Nat} {S : qSt} {x1 x2 : Int32} {post : Int32 → qS → Prop} (hS : fS G h n w T) (hI : I5 G σ h n w S) (k : K5 G h n w T σ post (spLength n S x1 x2)) : wpX5_length G h x1 x2 σ post := by
  unfold wpX5_length
  unfold spLength at k
  refine f5_isNone hS (fun j hj e hr => ⟨fun _ => ⟨fun h2 => K5_same (by rw [spIf_f (fun q => q.2.1 h2)] at k; exact k) hI, fun h2 => ⟨fun h3 => ?_, fun h3 => K5_same (by rw [spIf_f (fun q => h3 q.2.2)] at k; exact k) hI⟩⟩, fun h => absurd rfl h⟩) (fun hr => ⟨fun h => absurd h (by decide), fun _ => K5_same (by rw [spIf_f (fun q => hr q.1)] at k; exact k) hI⟩)
  have hw := wF hS hj
  obtain ⟨c, o, hc, z, N, sg, z0⟩ := f5_reg hS hI hj
  obtain ⟨⟨tH, tFA, tRS, tlRS, tA1, tlA1, tA2, tlA2, tPR, tPW, tDV, tQ, tlQ, tR, tlR, tOV, tUN, tTX, tTXB, tTP, tTPB⟩, tF, ⟨cFA, cRS, cA1, cA2, cQ, cR, cOV, cUN, cTXB, cTPB⟩, pn0, pn, pw0, pw⟩ := hS
  subst e
  rw [spIf_t ⟨hr, h2, h3⟩, ixo_nI (by omega)] at k
  rw [nI_clamp (by omega)]
  refine ⟨fun h4 => ⟨vp_in_nI (by omega) (by omega), ?_⟩, fun h4 => ⟨vp_in_nI (by omega) (by omega), wl_bits hw o (fun b hb1 hb2 => ?_)⟩⟩
  · rw [if_pos h4, ← N, ← cnt_bl o] at k
    rw [o.1]
    exact K5_same k hI
  · rw [if_neg h4, ← N, ← isBits_unique hb2 (bl_is _)] at k
    exact K5_same k hI
theorem nI_uI' (x : Int32) : x = nI (uI x) := uI_inj (by rw [uI_nI, Nat.mod_eq_of_lt (uI_lt x)])
theorem f5_limb {G : qG} {σ : qS} {h n w : Nat} {T : Nat → Nat} {S : qSt} {x1 x2 : Int32} {post : Int32 → qS → Prop} (hS : fS G h n w T) (hI : I5 G σ h n w S) (k : K5 G h n w T σ post (spLimb n S x1 x2)) : wpX5_limb G h x1 x2 σ post := by
  unfold wpX5_limb
  unfold spLimb at k
  refine f5_isNone hS (fun j hj e hr => ⟨fun _ => ⟨fun h2 => K5_same (by rw [spIf_f (fun q => q.2 h2)] at k; exact k) hI, fun h2 => ?_⟩, fun h => absurd rfl h⟩) (fun hr => ⟨fun h => absurd h (by decide), fun _ => K5_same (by rw [spIf_f (fun q => hr q.1)] at k; exact k) hI⟩)
  have hw := wF hS hj
  obtain ⟨c, o, hc, z, N, sg, z0⟩ := f5_reg hS hI hj
  obtain ⟨⟨tH, tFA, tRS, tlRS, tA1, tlA1, tA2, tlA2, tPR, tPW, tDV, tQ, tlQ, tR, tlR, tOV, tUN, tTX, tTXB, tTP, tTPB⟩, tF, ⟨cFA, cRS, cA1, cA2, cQ, cR, cOV, cUN, cTXB, cTPB⟩, pn0, pn, pw0, pw⟩ := hS
  obtain ⟨d1, d2, d3⟩ := tF j hj
  subst e
  rw [spIf_t ⟨hr, h2⟩, ixo_nI (by omega)] at k
  obtain ⟨i, hi, rfl⟩ := nI_of h2
  rw [ixo_nI (by omega), ← N] at k
  rw [nI_clamp (by omega), o.1, nI_ltI (by omega) (by omega), nI_clamp (by omega)]
  refine ⟨vp_in_nI (by omega) (by omega), fun h3 => ⟨vp_in_nI (by omega) (by omega), vp_in_nI (by omega) (by omega), ?_⟩, fun h3 => ?_⟩
  · have hdig := nv_digit (B := 4294967296) (d := dg σ (G.2.1 (G.2.1 (G.2.1 h 1) j) 0)) (n := c) (i := i) (by decide) (fun j _ => dg_lt _ _ _) h3
    have e1 : wN G σ (G.2.1 (G.2.1 h 1) j) c / 4294967296 ^ i % 4294967296 = uI (σ (G.2.1 (G.2.1 (G.2.1 h 1) j) 0) i) := hdig
    rw [e1, ← nI_uI'] at k
    exact K5_same k hI
  · have hlt : wN G σ (G.2.1 (G.2.1 h 1) j) c < 4294967296 ^ i := (wOk_count o).mp (by omega)
    rw [Nat.div_eq_of_lt hlt] at k
    exact K5_same k hI
theorem f5_write {G : qG} {σ : qS} {h n w : Nat} {T : Nat → Nat} {S : qSt} {x1 : Int32} {post : Int32 → qS → Prop} (hS : fS G h n w T) (hI : I5 G σ h n w S) (k : K5 G h n w T σ post (spWrite n S x1)) : wpX5_write G h x1 σ post := by
  unfold wpX5_write
  unfold spWrite at k
  refine f5_isNone hS (fun j hj e hr => ⟨fun _ => ?_, fun h => absurd rfl h⟩) (fun hr => ⟨fun h => absurd h (by decide), fun _ => K5_same (by rw [spIf_f hr] at k; exact k) hI⟩)
  have hw := wF hS hj
  have hwR := wRS hS
  obtain ⟨c, o, hc, z, N, sg, z0⟩ := f5_reg hS hI hj
  have hS' := hS
  obtain ⟨⟨tH, tFA, tRS, tlRS, tA1, tlA1, tA2, tlA2, tPR, tPW, tDV, tQ, tlQ, tR, tlR, tOV, tUN, tTX, tTXB, tTP, tTPB⟩, tF, ⟨cFA, cRS, cA1, cA2, cQ, cR, cOV, cUN, cTXB, cTPB⟩, pn0, pn, pw0, pw⟩ := hS
  obtain ⟨d1, d2, d3⟩ := tF j hj
  subst e
  rw [spIf_t hr, ixo_nI (by omega)] at k
  rw [nI_clamp (by omega)]
  have hdg : isDig (wN G σ (G.2.1 (G.2.1 h 1) j) c) (ndig (S.1 j).natAbs) := by rw [N]; exact ndig_is _
  refine ⟨vp_in_nI (by omega) (by omega), wl_print (w := w) (ntg (T := T) (by omega)) hw hwR pw0 pw cTXB o hc (by omega) hdg (ntg (T := T) (by omega)) (ntg (T := T) (by omega)) (ntg (T := T) (by omega)) (ntg (T := T) (by omega)) (ntg (T := T) (by omega)) (ntg (T := T) (by omega)) (ntg (T := T) (by omega)) (ntg (T := T) (by omega)) (fun t σ' f1 ht tx => ?_)⟩
  rw [z] at ht
  rw [N] at tx
  have hcap := tx.1
  unfold wpX3_size
  rw [tx.2.1, pk_sub (by omega), show G.2.2 (G.2.1 (G.2.1 h 7) 0) - (G.2.2 (G.2.1 (G.2.1 h 7) 0) - t) = t by omega]
  have ht' : t = (txOf (S.1 j)).1 := ht
  rw [ht']
  have hf' : ∀ a, ¬ (3 ≤ T a ∧ T a ≤ 4) → ¬ (18 ≤ T a ∧ T a ≤ 19) → σ' a = σ a := fun a h1 h2 => f1 a (ntg (T := T) (by omega)) (ntg (T := T) (by omega)) (ntg (T := T) (by omega)) (ntg (T := T) (by omega))
  obtain ⟨a1, a2, a3, a4, a5⟩ := hI
  refine k σ' (fun a ha => hf' a (by omega) (by omega)) ⟨by rw [hf' h (by omega) (by omega)]; exact a1, pdOk_keep a2 (hf' _ (by omega) (by omega)), fun r hr => ?_, ?_, tpOk_keep a5 (hf' _ (by omega) (by omega)) (hf' _ (by omega) (by omega))⟩
  · obtain ⟨f1, f2, f3⟩ := tF r hr
    exact hZ_keep (a3 r hr) (hf' _ (by omega) (by omega)) (hf' _ (by omega) (by omega))
  · show txOk G σ' (G.2.1 h 7) (txOf (S.1 j)).1 (txOf (S.1 j)).2
    rw [← ht']
    exact tx
theorem f5_written {G : qG} {σ : qS} {h n w : Nat} {T : Nat → Nat} {S : qSt} {x1 : Int32} {post : Int32 → qS → Prop} (hS : fS G h n w T) (hI : I5 G σ h n w S) (k : K5 G h n w T σ post (spWritten S x1)) : wpX5_written G h x1 σ post := by
  unfold wpX5_written
  unfold spWritten at k
  have htx := hI.2.2.2.1
  obtain ⟨t1, t2, t3⟩ := htx
  obtain ⟨⟨tH, tFA, tRS, tlRS, tA1, tlA1, tA2, tlA2, tPR, tPW, tDV, tQ, tlQ, tR, tlR, tOV, tUN, tTX, tTXB, tTP, tTPB⟩, tF, ⟨cFA, cRS, cA1, cA2, cQ, cR, cOV, cUN, cTXB, cTPB⟩, pn0, pn, pw0, pw⟩ := hS
  refine ⟨fun h1 => K5_same (by rw [spIf_f (fun q => q.1 h1)] at k; exact k) hI, fun h1 => ?_⟩
  unfold wpX3_size wpX3_at
  rw [t2, pk_sub (by omega), show G.2.2 (G.2.1 (G.2.1 h 7) 0) - (G.2.2 (G.2.1 (G.2.1 h 7) 0) - S.2.1.1) = S.2.1.1 by omega]
  refine ⟨fun h2 => ?_, fun h2 => K5_same (by rw [spIf_f (fun q => h2 q.2)] at k; exact k) hI⟩
  rw [spIf_t ⟨h1, h2⟩] at k
  obtain ⟨i, hi, rfl⟩ := rg_of (n := S.2.1.1) (by omega) ⟨h1, h2⟩
  rw [ixo_nI (by omega)] at k
  rw [t2, nI_add, nI_clamp (by omega)]
  refine ⟨vp_in_nI (by omega) (by omega), ?_⟩
  have := t3 (S.2.1.1 - 1 - i) (by omega)
  rw [show G.2.2 (G.2.1 (G.2.1 h 7) 0) - 1 - (S.2.1.1 - 1 - i) = G.2.2 (G.2.1 (G.2.1 h 7) 0) - S.2.1.1 + i by omega] at this
  rw [this]
  exact K5_same k hI
theorem f5_type {G : qG} {σ : qS} {h n w : Nat} {T : Nat → Nat} {S : qSt} {x1 : Int64} {x3 : Int32} {post : Int32 → qS → Prop} (hS : fS G h n w T) (hI : I5 G σ h n w S) (k : K5 G h n w T σ post (spType S x1 x3)) : wpX5_type G h x1 x3 σ post := by
  unfold wpX5_type
  unfold spType at k
  have htp := hI.2.2.2.2
  obtain ⟨⟨tH, tFA, tRS, tlRS, tA1, tlA1, tA2, tlA2, tPR, tPW, tDV, tQ, tlQ, tR, tlR, tOV, tUN, tTX, tTXB, tTP, tTPB⟩, tF, ⟨cFA, cRS, cA1, cA2, cQ, cR, cOV, cUN, cTXB, cTPB⟩, pn0, pn, pw0, pw⟩ := hS
  refine ⟨fun h1 => K5_same (by rw [spIf_f (fun q => q.1 h1)] at k; exact k) hI, fun h1 => ⟨fun h2 => ?_, fun h2 => K5_same (by rw [spIf_f (fun q => h2 q.2)] at k; exact k) hI⟩⟩
  rw [spIf_t ⟨h1, h2⟩] at k
  have h1' : ¬ x3 < 0 := fun q => h1 (Int32.lt_trans q (by decide))
  obtain ⟨m, hm, rfl⟩ := nI_of h1'
  have hm8 : m ≤ 8 := (nI_leI (b := 8) hm (by decide)).mp h2
  rw [ixo_nI hm] at k
  refine wl_hasRoomFor htp hm8 (fun h3 => ⟨fun _ => K5_same (by rw [spIf_f (by omega)] at k; exact k) hI, fun h => absurd rfl h⟩) (fun h3 => ⟨fun h => absurd h (by decide), fun _ => ?_⟩)
  rw [spIf_t h3] at k
  refine wl_append (ntg (T := T) (by omega)) cTPB htp hm8 h3 (fun σ' f1 o1 => ?_)
  rw [o1.2.1]
  have hf' : ∀ a, ¬ (20 ≤ T a ∧ T a ≤ 21) → σ' a = σ a := fun a h1 => f1 a (ntg (T := T) (by omega)) (ntg (T := T) (by omega))
  obtain ⟨a1, a2, a3, a4, a5⟩ := hI
  refine k σ' (fun a ha => hf' a (by omega)) ⟨by rw [hf' h (by omega)]; exact a1, pdOk_keep a2 (hf' _ (by omega)), fun r hr => ?_, txOk_keep a4 (hf' _ (by omega)) (hf' _ (by omega)), o1⟩
  obtain ⟨f1, f2, f3⟩ := tF r hr
  exact hZ_keep (a3 r hr) (hf' _ (by omega)) (hf' _ (by omega))
/-- the tape emptied -/
theorem I5_tape0 {G : qG} {σ σ' : qS} {h n w : Nat} {T : Nat → Nat} {S : qSt} (hS : fS G h n w T) (hI : I5 G σ h n w S) (e : σ' = q_st σ (G.2.1 h 8) 1 0) : I5 G σ' h n w (S.1, S.2.1, (0, S.2.2.2)) ∧ ∀ a, T a ≠ 20 → σ' a = σ a := by
  obtain ⟨⟨tH, tFA, tRS, tlRS, tA1, tlA1, tA2, tlA2, tPR, tPW, tDV, tQ, tlQ, tR, tlR, tOV, tUN, tTX, tTXB, tTP, tTPB⟩, tF, ⟨cFA, cRS, cA1, cA2, cQ, cR, cOV, cUN, cTXB, cTPB⟩, pn0, pn, pw0, pw⟩ := hS
  have hf' : ∀ a, T a ≠ 20 → σ' a = σ a := fun a h1 => by rw [e, q_st_a _ _ (ntg (T := T) (by omega))]
  obtain ⟨a1, a2, a3, a4, a5⟩ := hI
  refine ⟨⟨by rw [hf' h (by omega)]; exact a1, pdOk_keep a2 (hf' _ (by omega)), fun r hr => ?_, txOk_keep a4 (hf' _ (by omega)) (hf' _ (by omega)), by show 0 ≤ 1300; omega, by rw [e, q_st_self]; rfl, fun i hi => absurd hi (Nat.not_lt_zero _)⟩, hf'⟩
  obtain ⟨f1, f2, f3⟩ := tF r hr
  exact hZ_keep (a3 r hr) (hf' _ (by omega)) (hf' _ (by omega))
theorem f5_read {G : qG} {σ : qS} {h n w : Nat} {T : Nat → Nat} {S : qSt} {x1 : Int32} {post : Int32 → qS → Prop} (hS : fS G h n w T) (hI : I5 G σ h n w S) (k : K5 G h n w T σ post (spRead n w S x1)) : wpX5_read G h x1 σ post := by
  unfold wpX5_read
  unfold spRead at k
  refine f5_isNone hS (fun j hj e hr => ⟨fun _ => ?_, fun h => absurd rfl h⟩) (fun hr => ⟨fun h => absurd h (by decide), fun _ => K5_same (by rw [spIf_f hr] at k; exact k) hI⟩)
  rw [spIf_t hr] at k
  have hwR := wRS hS
  have htp := hI.2.2.2.2
  have hdF := dFrom_le S.2.2.2 S.2.2.1
  have hm := htp.1
  have hS' := hS
  obtain ⟨⟨tH, tFA, tRS, tlRS, tA1, tlA1, tA2, tlA2, tPR, tPW, tDV, tQ, tlQ, tR, tlR, tOV, tUN, tTX, tTXB, tTP, tTPB⟩, tF, ⟨cFA, cRS, cA1, cA2, cQ, cR, cOV, cUN, cTXB, cTPB⟩, pn0, pn, pw0, pw⟩ := hS
  subst e
  rw [ixo_nI (by omega)] at k
  have bad : ∀ p, p ≤ S.2.2.1 → fw S.2.2.2 (dFrom S.2.2.2 S.2.2.1) (S.2.2.1 - dFrom S.2.2.2 S.2.2.1) = p → (p < S.2.2.1 ∨ dFrom S.2.2.2 S.2.2.1 = S.2.2.1) → bkX5_read_37 G h (nI j) (nI p) post σ := by
    intro p hp e1 e2 σ9 e9
    obtain ⟨i1, i2⟩ := I5_tape0 hS' hI e9
    rw [spIf_f (by omega), e1] at k
    exact ⟨fun _ => k σ9 (fun a ha => i2 a (by omega)) i1, fun h1 => absurd (nI_pos' (by omega)) h1⟩
  refine wl_firstWrongPlace cTPB htp (fun i i1 i2 i3 i4 => ⟨fun _ => bad i (by omega) (fw_at _ i _ _ i1 (by omega) i3 i4) (Or.inl i2), fun h => absurd (nI_pos' (by omega)) h⟩) (fun h1 => ⟨fun _ => bad _ (Nat.le_refl _) (by rw [h1, Nat.sub_self]; rfl) (Or.inr h1), fun h => absurd (nI_pos' (by omega)) h⟩) (fun h1 h2 => ⟨fun h => absurd h (by decide), fun _ => ?_⟩)
  have hfw : fw S.2.2.2 (dFrom S.2.2.2 S.2.2.1) (S.2.2.1 - dFrom S.2.2.2 S.2.2.1) = S.2.2.1 := by
    rw [fw_all _ _ _ (fun j j1 j2 => h2 j j1 (by omega))]
    omega
  rw [spIf_t ⟨hfw, h1⟩] at k
  rw [hI.1]
  refine wl_spell (ntg (T := T) (by omega)) cTPB hwR pw0 pw (by omega) htp h1 h2 (ntg (T := T) (by omega)) (ntg (T := T) (by omega)) (ntg (T := T) (by omega)) (ntg (T := T) (by omega)) (fun c σ1 f1 o1 z1 z2 σ9 e9 => ⟨fun h => absurd h (by decide), fun _ => ?_⟩)
  have hI1 := I5_SF hS' hI (σ' := σ1) (fun a ha => f1 a (ntg (T := T) (by omega)) (ntg (T := T) (by omega)))
  obtain ⟨i1, i2⟩ := I5_tape0 hS' hI1 e9
  have fr : ∀ a, T a = 0 → σ9 a = σ a := fun a ha => by rw [i2 a (by omega), f1 a (ntg (T := T) (by omega)) (ntg (T := T) (by omega))]
  obtain ⟨o9, -, z9⟩ := wOk_keep (σ' := σ9) o1 (i2 _ (by omega)) (i2 _ (by omega))
  rcases Nat.lt_or_ge w c with hc | hc
  · -- too great: the number has not been read to its end
    have hbig : ¬ (tpZ S.2.2.2 S.2.2.1).natAbs < 4294967296 ^ w := by
      have := z2 hc
      unfold tpZ
      split <;> omega
    rw [spPut_full hbig] at k
    unfold wpX5_put
    rw [o9.1, i1.1, nI_leI (by have := o9.2.1; omega) (by omega)]
    exact ⟨fun h => absurd h (by omega), fun _ => k σ9 fr i1⟩
  · exact f5_put hS' i1 fr hj o9 (by rw [z9]; exact z1 hc) k

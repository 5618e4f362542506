/-! Pure level: the calls of IntFile, but for divisors, powers, roots. -/
theorem ixo_nI {j : Nat} (h : j < 2 ^ 31) : ixo (nI j) = j := nI_clamp h
theorem K5_same {G : qG} {h n w : Nat} {T : Nat → Nat} {σ : qS} {post : Int32 → qS → Prop} {a : Int32} {S : qSt} (k : K5 G h n w T σ post (a, S)) (hI : I5 G σ h n w S) : post a σ := k σ (fun _ _ => rfl) hI
theorem f5_reg {G : qG} {σ : qS} {h n w j : Nat} {T : Nat → Nat} {S : qSt} (hS : fS G h n w T) (hI : I5 G σ h n w S) (hj : j < n) : ∃ c, wOk G σ (G.2.1 (G.2.1 h 1) j) c ∧ c ≤ w ∧ wZ G σ (G.2.1 (G.2.1 h 1) j) c = S.1 j ∧ wN G σ (G.2.1 (G.2.1 h 1) j) c = (S.1 j).natAbs ∧ (σ (G.2.1 (G.2.1 h 1) j) 2 = 1 ↔ S.1 j < 0) ∧ (c = 0 ↔ S.1 j = 0) := by
  obtain ⟨c, o, z⟩ := hI.2.2.1 j hj
  obtain ⟨-, tF, -⟩ := hS
  obtain ⟨-, -, f3⟩ := tF j hj
  obtain ⟨p1, p2⟩ := wZ_pos o
  exact ⟨c, o, by rw [← f3]; exact o.2.1, z, by rw [wN_abs, z], by rw [p2, z], by rw [p1, z]⟩
theorem f5_set {G : qG} {σ : qS} {h n w : Nat} {T : Nat → Nat} {S : qSt} {x1 x2 : Int32} {post : Int32 → qS → Prop} (hS : fS G h n w T) (hI : I5 G σ h n w S) (k : K5 G h n w T σ post (spSet n S x1 x2)) : wpX5_set G h x1 x2 σ post := by
  unfold wpX5_set
  unfold spSet at k
  refine f5_isNone hS (fun j hj e hr => ⟨fun _ => ?_, fun h => absurd rfl h⟩) (fun hr => ⟨fun h => absurd h (by decide), fun _ => ?_⟩)
  · have hw := wF hS hj
    have hS' := hS
    obtain ⟨⟨tH, tFA, tRS, tlRS, tA1, tlA1, tA2, tlA2, tPR, tPW, tDV, tQ, tlQ, tR, tlR, tOV, tUN, tTX, tTXB, tTP, tTPB⟩, tF, ⟨cFA, cRS, cA1, cA2, cQ, cR, cOV, cUN, cTXB, cTPB⟩, pn0, pn, pw0, pw⟩ := hS
    obtain ⟨d1, d2, d3⟩ := tF j hj
    subst e
    rw [spIf_t hr, ixo_nI (by omega)] at k
    rw [nI_clamp (by omega)]
    refine ⟨vp_in_nI (by omega) (by omega), wl_becomeInt hw (by omega) (fun c σ' f1 o1 z1 => k σ' (fun a ha => f1 a (ntg (T := T) (by omega)) (ntg (T := T) (by omega))) (I5_up hS' hI hj f1 ⟨c, o1, z1⟩))⟩
  · rw [spIf_f hr] at k
    exact K5_same k hI
theorem f5_push {G : qG} {σ : qS} {h n w : Nat} {T : Nat → Nat} {S : qSt} {x1 x2 : Int32} {post : Int32 → qS → Prop} (hS : fS G h n w T) (hI : I5 G σ h n w S) (k : K5 G h n w T σ post (spPush n w S x1 x2)) : wpX5_push G h x1 x2 σ post := by
  unfold wpX5_push
  unfold spPush at k
  refine f5_isNone hS (fun j hj e hr => ⟨fun _ => ?_, fun h => absurd rfl h⟩) (fun hr => ⟨fun h => absurd h (by decide), fun _ => ?_⟩)
  · have hw := wF hS hj
    have hw2 := wRS hS
    obtain ⟨c, o, hc, z, N, sg, z0⟩ := f5_reg hS hI hj
    have hS' := hS
    obtain ⟨⟨tH, tFA, tRS, tlRS, tA1, tlA1, tA2, tlA2, tPR, tPW, tDV, tQ, tlQ, tR, tlR, tOV, tUN, tTX, tTXB, tTP, tTPB⟩, tF, ⟨cFA, cRS, cA1, cA2, cQ, cR, cOV, cUN, cTXB, cTPB⟩, pn0, pn, pw0, pw⟩ := hS
    obtain ⟨d1, d2, d3⟩ := tF j hj
    subst e
    rw [spIf_t hr, ixo_nI (by omega)] at k
    rw [nI_clamp (by omega)]
    refine ⟨vp_in_nI (by omega) (by omega), wl_becomePushed hw2 hw o (by omega) (ntg (T := T) (by omega)) (ntg (T := T) (by omega)) (fun c' σ' f1 o1 z1 => ?_)⟩
    refine f5_put hS' (I5_SF hS' hI (fun a ha => f1 a (ntg (T := T) (by omega)) (ntg (T := T) (by omega)))) (fun a ha => f1 a (ntg (T := T) (by omega)) (ntg (T := T) (by omega))) hj o1 ?_ k
    rw [z1, N]
    unfold pushZ
    by_cases hz : S.1 j < 0
    · rw [if_pos (sg.mpr hz), if_pos hz]
      omega
    · rw [if_neg (fun q => hz (sg.mp q)), if_neg hz]
      omega
  · rw [spIf_f hr] at k
    exact K5_same k hI
theorem f5_copy {G : qG} {σ : qS} {h n w : Nat} {T : Nat → Nat} {S : qSt} {x1 x2 : Int32} {post : Int32 → qS → Prop} (hS : fS G h n w T) (hI : I5 G σ h n w S) (k : K5 G h n w T σ post (spCopy n S x1 x2)) : wpX5_copy G h x1 x2 σ post := by
  unfold wpX5_copy
  unfold spCopy at k
  refine f5_isNone hS (fun j hj e hr => ⟨fun _ => ?_, fun h => absurd rfl h⟩) (fun hr => ⟨fun h => absurd h (by decide), fun _ => K5_same (by rw [spIf_f (fun q => hr q.1)] at k; exact k) hI⟩)
  refine f5_isNone hS (fun j2 hj2 e2 hr2 => ⟨fun _ => ?_, fun h => absurd rfl h⟩) (fun hr => ⟨fun h => absurd h (by decide), fun _ => K5_same (by rw [spIf_f (fun q => hr q.2)] at k; exact k) hI⟩)
  have hw := wF hS hj2
  obtain ⟨c, o, hc, z, N, sg, z0⟩ := f5_reg hS hI hj2
  have hS' := hS
  obtain ⟨⟨tH, tFA, tRS, tlRS, tA1, tlA1, tA2, tlA2, tPR, tPW, tDV, tQ, tlQ, tR, tlR, tOV, tUN, tTX, tTXB, tTP, tTPB⟩, tF, ⟨cFA, cRS, cA1, cA2, cQ, cR, cOV, cUN, cTXB, cTPB⟩, pn0, pn, pw0, pw⟩ := hS
  obtain ⟨d1, d2, d3⟩ := tF j hj
  obtain ⟨e1, e2', e3⟩ := tF j2 hj2
  subst e e2
  rw [spIf_t ⟨hr, hr2⟩, ixo_nI (by omega), ixo_nI (by omega)] at k
  rw [nI_clamp (by omega), nI_clamp (by omega)]
  exact ⟨vp_in_nI (by omega) (by omega), vp_in_nI (by omega) (by omega), f5_give hS' hI (fun _ _ => rfl) hj hw o hc z (by omega) (fun σ' g1 _ g3 => k σ' g1 g3)⟩
theorem f5_neg {G : qG} {σ : qS} {h n w : Nat} {T : Nat → Nat} {S : qSt} {x1 : Int32} {post : Int32 → qS → Prop} (hS : fS G h n w T) (hI : I5 G σ h n w S) (k : K5 G h n w T σ post (spNeg n S x1)) : wpX5_neg G h x1 σ post := by
  unfold wpX5_neg
  unfold spNeg at k
  refine f5_isNone hS (fun j hj e hr => ⟨fun _ => ?_, fun h => absurd rfl h⟩) (fun hr => ⟨fun h => absurd h (by decide), fun _ => K5_same (by rw [spIf_f hr] at k; exact k) hI⟩)
  have hw := wF hS hj
  obtain ⟨c, o, hc, z, N, sg, z0⟩ := f5_reg hS hI hj
  have hS' := hS
  obtain ⟨⟨tH, tFA, tRS, tlRS, tA1, tlA1, tA2, tlA2, tPR, tPW, tDV, tQ, tlQ, tR, tlR, tOV, tUN, tTX, tTXB, tTP, tTPB⟩, tF, ⟨cFA, cRS, cA1, cA2, cQ, cR, cOV, cUN, cTXB, cTPB⟩, pn0, pn, pw0, pw⟩ := hS
  obtain ⟨d1, d2, d3⟩ := tF j hj
  subst e
  rw [spIf_t hr, ixo_nI (by omega)] at k
  rw [nI_clamp (by omega)]
  exact ⟨vp_in_nI (by omega) (by omega), wl_turnSign hw o (fun σ' f1 o1 z1 => k σ' (fun a ha => f1 a (ntg (T := T) (by omega))) (I5_up hS' hI hj (fun a h1 _ => f1 a h1) ⟨c, o1, by rw [z1, z]⟩))⟩
theorem f5_add {G : qG} {σ : qS} {h n w : Nat} {T : Nat → Nat} {S : qSt} {x1 x2 x3 : Int32} {post : Int32 → qS → Prop} (hS : fS G h n w T) (hI : I5 G σ h n w S) (k : K5 G h n w T σ post (spAdd n w S x1 x2 x3)) : wpX5_add G h x1 x2 x3 σ post := by
  unfold wpX5_add
  unfold spAdd at k
  refine f5_isNone hS (fun j hj e hr => ⟨fun _ => ?_, fun h => absurd rfl h⟩) (fun hr => ⟨fun h => absurd h (by decide), fun _ => K5_same (by rw [spIf_f (fun q => hr q.1)] at k; exact k) hI⟩)
  refine f5_isNone hS (fun j2 hj2 e2 hr2 => ⟨fun _ => ?_, fun h => absurd rfl h⟩) (fun hr => ⟨fun h => absurd h (by decide), fun _ => K5_same (by rw [spIf_f (fun q => hr q.2.1)] at k; exact k) hI⟩)
  refine f5_isNone hS (fun j3 hj3 e3 hr3 => ⟨fun _ => ?_, fun h => absurd rfl h⟩) (fun hr => ⟨fun h => absurd h (by decide), fun _ => K5_same (by rw [spIf_f (fun q => hr q.2.2)] at k; exact k) hI⟩)
  have hw := wF hS hj2
  have hw3 := wF hS hj3
  have hwR := wRS hS
  obtain ⟨c, o, hc, z, N, sg, z0⟩ := f5_reg hS hI hj2
  obtain ⟨c', o', hc', z', N', sg', z0'⟩ := f5_reg hS hI hj3
  have hS' := hS
  obtain ⟨⟨tH, tFA, tRS, tlRS, tA1, tlA1, tA2, tlA2, tPR, tPW, tDV, tQ, tlQ, tR, tlR, tOV, tUN, tTX, tTXB, tTP, tTPB⟩, tF, ⟨cFA, cRS, cA1, cA2, cQ, cR, cOV, cUN, cTXB, cTPB⟩, pn0, pn, pw0, pw⟩ := hS
  obtain ⟨d1, d2, d3⟩ := tF j hj
  obtain ⟨p1, p2, p3⟩ := tF j2 hj2
  obtain ⟨q1, q2, q3⟩ := tF j3 hj3
  subst e e2 e3
  rw [spIf_t ⟨hr, hr2, hr3⟩, ixo_nI (by omega), ixo_nI (by omega), ixo_nI (by omega)] at k
  rw [nI_clamp (by omega), nI_clamp (by omega)]
  refine ⟨vp_in_nI (by omega) (by omega), vp_in_nI (by omega) (by omega), vp_in_nI (by omega) (by omega), wl_becomeSum hwR hw hw3 o o' o'.2.2.1 (ntg (T := T) (by omega)) (ntg (T := T) (by omega)) (ntg (T := T) (by omega)) (ntg (T := T) (by omega)) (by omega) (fun _ => by omega) (fun c1 σ1 f1 o1 z1 => ?_)⟩
  refine f5_put hS' (I5_SF hS' hI (fun a ha => f1 a (ntg (T := T) (by omega)) (ntg (T := T) (by omega)))) (fun a ha => f1 a (ntg (T := T) (by omega)) (ntg (T := T) (by omega))) hj o1 ?_ k
  rw [z1, N', z]
  by_cases hz : S.1 j3 < 0
  · rw [if_pos (sg'.mpr hz)]
    omega
  · rw [if_neg (fun q => hz (sg'.mp q))]
    omega
theorem f5_sub {G : qG} {σ : qS} {h n w : Nat} {T : Nat → Nat} {S : qSt} {x1 x2 x3 : Int32} {post : Int32 → qS → Prop} (hS : fS G h n w T) (hI : I5 G σ h n w S) (k : K5 G h n w T σ post (spSub n w S x1 x2 x3)) : wpX5_sub G h x1 x2 x3 σ post := by
  unfold wpX5_sub
  unfold spSub at k
  refine f5_isNone hS (fun j hj e hr => ⟨fun _ => ?_, fun h => absurd rfl h⟩) (fun hr => ⟨fun h => absurd h (by decide), fun _ => K5_same (by rw [spIf_f (fun q => hr q.1)] at k; exact k) hI⟩)
  refine f5_isNone hS (fun j2 hj2 e2 hr2 => ⟨fun _ => ?_, fun h => absurd rfl h⟩) (fun hr => ⟨fun h => absurd h (by decide), fun _ => K5_same (by rw [spIf_f (fun q => hr q.2.1)] at k; exact k) hI⟩)
  refine f5_isNone hS (fun j3 hj3 e3 hr3 => ⟨fun _ => ?_, fun h => absurd rfl h⟩) (fun hr => ⟨fun h => absurd h (by decide), fun _ => K5_same (by rw [spIf_f (fun q => hr q.2.2)] at k; exact k) hI⟩)
  have hw := wF hS hj2
  have hw3 := wF hS hj3
  have hwR := wRS hS
  obtain ⟨c, o, hc, z, N, sg, z0⟩ := f5_reg hS hI hj2
  obtain ⟨c', o', hc', z', N', sg', z0'⟩ := f5_reg hS hI hj3
  have hS' := hS
  obtain ⟨⟨tH, tFA, tRS, tlRS, tA1, tlA1, tA2, tlA2, tPR, tPW, tDV, tQ, tlQ, tR, tlR, tOV, tUN, tTX, tTXB, tTP, tTPB⟩, tF, ⟨cFA, cRS, cA1, cA2, cQ, cR, cOV, cUN, cTXB, cTPB⟩, pn0, pn, pw0, pw⟩ := hS
  obtain ⟨d1, d2, d3⟩ := tF j hj
  obtain ⟨p1, p2, p3⟩ := tF j2 hj2
  obtain ⟨q1, q2, q3⟩ := tF j3 hj3
  subst e e2 e3
  rw [spIf_t ⟨hr, hr2, hr3⟩, ixo_nI (by omega), ixo_nI (by omega), ixo_nI (by omega)] at k
  rw [nI_clamp (by omega), nI_clamp (by omega)]
  have go : ∀ x : Int32, (x = 0 ∨ x = 1) → (x = 1 ↔ ¬ S.1 j3 < 0) → bkX5_sub_59 G h (nI j) (G.2.1 h 2) (G.2.1 (G.2.1 h 1) j2) (G.2.1 (G.2.1 h 1) j3) x post σ := by
    intro x hx hx1
    refine wl_becomeSum hwR hw hw3 o o' hx (ntg (T := T) (by omega)) (ntg (T := T) (by omega)) (ntg (T := T) (by omega)) (ntg (T := T) (by omega)) (by omega) (fun _ => by omega) (fun c1 σ1 f1 o1 z1 => ?_)
    refine f5_put hS' (I5_SF hS' hI (fun a ha => f1 a (ntg (T := T) (by omega)) (ntg (T := T) (by omega)))) (fun a ha => f1 a (ntg (T := T) (by omega)) (ntg (T := T) (by omega))) hj o1 ?_ k
    rw [z1, N', z]
    by_cases hz : S.1 j3 < 0
    · rw [if_neg (fun q => hx1.mp q hz)]
      omega
    · rw [if_pos (hx1.mpr hz)]
      omega
  refine ⟨vp_in_nI (by omega) (by omega), vp_in_nI (by omega) (by omega), vp_in_nI (by omega) (by omega), fun h1 => go 1 (Or.inr rfl) ⟨fun _ q => absurd (h1.symm.trans (sg'.mpr q)) (by decide), fun _ => rfl⟩, fun h1 => go 0 (Or.inl rfl) ⟨fun q => absurd q (by decide), fun q => absurd (sg'.mp (o'.2.2.1.resolve_left h1)) q⟩⟩
theorem f5_mul {G : qG} {σ : qS} {h n w : Nat} {T : Nat → Nat} {S : qSt} {x1 x2 x3 : Int32} {post : Int32 → qS → Prop} (hS : fS G h n w T) (hI : I5 G σ h n w S) (k : K5 G h n w T σ post (spMul n w S x1 x2 x3)) : wpX5_mul G h x1 x2 x3 σ post := by
  unfold wpX5_mul
  unfold spMul at k
  refine f5_isNone hS (fun j hj e hr => ⟨fun _ => ?_, fun h => absurd rfl h⟩) (fun hr => ⟨fun h => absurd h (by decide), fun _ => K5_same (by rw [spIf_f (fun q => hr q.1)] at k; exact k) hI⟩)
  refine f5_isNone hS (fun j2 hj2 e2 hr2 => ⟨fun _ => ?_, fun h => absurd rfl h⟩) (fun hr => ⟨fun h => absurd h (by decide), fun _ => K5_same (by rw [spIf_f (fun q => hr q.2.1)] at k; exact k) hI⟩)
  refine f5_isNone hS (fun j3 hj3 e3 hr3 => ⟨fun _ => ?_, fun h => absurd rfl h⟩) (fun hr => ⟨fun h => absurd h (by decide), fun _ => K5_same (by rw [spIf_f (fun q => hr q.2.2)] at k; exact k) hI⟩)
  have hw := wF hS hj2
  have hw3 := wF hS hj3
  have hwR := wRS hS
  obtain ⟨c, o, hc, z, N, sg, z0⟩ := f5_reg hS hI hj2
  obtain ⟨c', o', hc', z', N', sg', z0'⟩ := f5_reg hS hI hj3
  have hS' := hS
  obtain ⟨⟨tH, tFA, tRS, tlRS, tA1, tlA1, tA2, tlA2, tPR, tPW, tDV, tQ, tlQ, tR, tlR, tOV, tUN, tTX, tTXB, tTP, tTPB⟩, tF, ⟨cFA, cRS, cA1, cA2, cQ, cR, cOV, cUN, cTXB, cTPB⟩, pn0, pn, pw0, pw⟩ := hS
  obtain ⟨d1, d2, d3⟩ := tF j hj
  obtain ⟨p1, p2, p3⟩ := tF j2 hj2
  obtain ⟨q1, q2, q3⟩ := tF j3 hj3
  subst e e2 e3
  rw [spIf_t ⟨hr, hr2, hr3⟩, ixo_nI (by omega), ixo_nI (by omega), ixo_nI (by omega)] at k
  have go : bkX5_mul_81 G h (nI j) (nI j2) (nI j3) post σ := by
    unfold bkX5_mul_81
    rw [nI_clamp (by omega), nI_clamp (by omega)]
    refine ⟨vp_in_nI (by omega) (by omega), vp_in_nI (by omega) (by omega), wl_product hI.2.1 hwR hw hw3 o o' hc hc' (by omega) (ntg (T := T) (by omega)) (ntg (T := T) (by omega)) (ntg (T := T) (by omega)) (ntg (T := T) (by omega)) (ntg (T := T) (by omega)) (ntg (T := T) (by omega)) (ntg (T := T) (by omega)) (ntg (T := T) (by omega)) (fun c1 σ1 f1 o1 _ z1 => ?_)⟩
    refine f5_put hS' (I5_SF hS' hI (fun a ha => f1 a (ntg (T := T) (by omega)) (ntg (T := T) (by omega)) (ntg (T := T) (by omega)))) (fun a ha => f1 a (ntg (T := T) (by omega)) (ntg (T := T) (by omega)) (ntg (T := T) (by omega))) hj o1 ?_ k
    rw [z1, z, z']
  rw [nI_clamp (by omega), nI_clamp (by omega)]
  refine ⟨vp_in_nI (by omega) (by omega), wl_isZero hw o (fun _ => ⟨fun h => absurd h (by decide), fun _ => go⟩) (fun hc0 => ⟨fun _ => ⟨vp_in_nI (by omega) (by omega), wl_isZero hw3 o' (fun _ => ⟨fun h => absurd h (by decide), fun _ => go⟩) (fun hc0' => ⟨fun _ => ⟨vp_in_nI (by omega) (by omega), vp_in_nI (by omega) (by omega), ?_⟩, fun h => absurd rfl h⟩)⟩, fun h => absurd rfl h⟩)⟩
  rw [o.1, o'.1, hI.1, nI_add, nI_m1 (by omega), nI_leI (by omega) (by omega)]
  refine ⟨fun _ => go, fun hfull => ?_⟩
  have hb : 4294967296 ^ w ≤ (S.1 j2 * S.1 j3).natAbs := by
    have h1 : 4294967296 ^ (c - 1) ≤ wN G σ (G.2.1 (G.2.1 h 1) j2) c := Nat.not_lt.mp (fun q => absurd ((wOk_count (w := c - 1) o).mpr q) (by omega))
    have h2 : 4294967296 ^ (c' - 1) ≤ wN G σ (G.2.1 (G.2.1 h 1) j3) c' := Nat.not_lt.mp (fun q => absurd ((wOk_count (w := c' - 1) o').mpr q) (by omega))
    rw [Int.natAbs_mul, ← N, ← N']
    have h3 := Nat.mul_le_mul h1 h2
    rw [← Nat.pow_add] at h3
    exact Nat.le_trans (Nat.pow_le_pow_right (by decide) (by omega)) h3
  rw [spPut_full (by omega)] at k
  exact K5_same k hI
/-- a division of two Wholes that are no parts of the Division -/
theorem f5_divide {G : qG} {σ : qS} {h n w x y c1 c2 : Nat} {T : Nat → Nat} {post : qS → Prop} (hS : fS G h n w T) (hwx : wFix G x) (hwy : wFix G y) (tx : T x < 12 ∨ 17 < T x) (txl : T ((G.2.1 x 0)) < 12 ∨ 17 < T ((G.2.1 x 0))) (ty : T y < 12 ∨ 17 < T y) (tyl : T ((G.2.1 y 0)) < 12 ∨ 17 < T ((G.2.1 y 0))) (ho1 : wOk G σ x c1) (ho2 : wOk G σ y c2) (hp : 0 < c2) (h1 : c1 ≤ 2 * w) (h2 : c2 ≤ w)
    (k : ∀ cq cr σ', (∀ a, (T a < 12 ∨ 17 < T a) → σ' a = σ a) → wOk G σ' (G.2.1 (G.2.1 h 6) 0) cq → wZ G σ' (G.2.1 (G.2.1 h 6) 0) cq = dq (wZ G σ x c1) (wZ G σ y c2) → wOk G σ' (G.2.1 (G.2.1 h 6) 1) cr → wZ G σ' (G.2.1 (G.2.1 h 6) 1) cr = dr (wZ G σ x c1) (wZ G σ y c2) → post σ') : wpX0_divide G (G.2.1 h 6) x y σ post := by
  have hF := dvF hS
  have hS' := hS
  obtain ⟨⟨tH, tFA, tRS, tlRS, tA1, tlA1, tA2, tlA2, tPR, tPW, tDV, tQ, tlQ, tR, tlR, tOV, tUN, tTX, tTXB, tTP, tTPB⟩, tF, ⟨cFA, cRS, cA1, cA2, cQ, cR, cOV, cUN, cTXB, cTPB⟩, pn0, pn, pw0, pw⟩ := hS
  obtain ⟨-, s1⟩ := wZ_pos ho1
  obtain ⟨-, s2⟩ := wZ_pos ho2
  have b1 := ho1.2.2.1
  have b2 := ho2.2.2.1
  refine wl_divide hF hwx hwy (dvO hS' tx) (dvO hS' txl) (dvO hS' ty) (dvO hS' tyl) ho1 ho2 hp (by omega) (by omega) (by omega) (by omega) (by omega) (fun cq cr σ' f1 oq _ zq or _ zr => k cq cr σ' (fun a ha => f1 a (dvO hS' ha)) oq ?_ or ?_)
  · rw [zq, wN_abs, wN_abs]
    unfold dq
    rcases b1 with b1 | b1 <;> rcases b2 with b2 | b2
    · rw [b1, b2, if_pos rfl, if_pos (by rw [← s1, ← s2, b1, b2])]
    · rw [b1, b2, if_neg (by decide), if_neg (by rw [← s1, ← s2, b1, b2]; decide)]
    · rw [b1, b2, if_neg (by decide), if_neg (by rw [← s1, ← s2, b1, b2]; decide)]
    · rw [b1, b2, if_pos rfl, if_pos (by rw [← s1, ← s2, b1, b2])]
  · rw [zr, wN_abs, wN_abs]
    unfold dr
    by_cases hz : wZ G σ x c1 < 0
    · rw [if_pos hz, if_pos (s1.mpr hz)]
    · rw [if_neg hz, if_neg (fun q => hz (s1.mp q))]
theorem dq_abs (a b : Int) : (dq a b).natAbs = a.natAbs / b.natAbs := by unfold dq; generalize a.natAbs / b.natAbs = q; split <;> omega
theorem dr_abs (a b : Int) : (dr a b).natAbs = a.natAbs % b.natAbs := by unfold dr; split <;> omega
theorem f5_divMod {G : qG} {σ : qS} {h n w : Nat} {T : Nat → Nat} {S : qSt} {x1 x2 x3 x4 : Int32} {post : Int32 → qS → Prop} (hS : fS G h n w T) (hI : I5 G σ h n w S) (k : K5 G h n w T σ post (spDivMod n S x1 x2 x3 x4)) : wpX5_divMod G h x1 x2 x3 x4 σ post := by
  unfold wpX5_divMod
  unfold spDivMod at k
  refine f5_isNone hS (fun j hj e hr => ⟨fun _ => ?_, fun h => absurd rfl h⟩) (fun hr => ⟨fun h => absurd h (by decide), fun _ => K5_same (by rw [spIf_f (fun q => hr q.1)] at k; exact k) hI⟩)
  refine f5_isNone hS (fun j2 hj2 e2 hr2 => ⟨fun _ => ?_, fun h => absurd rfl h⟩) (fun hr => ⟨fun h => absurd h (by decide), fun _ => K5_same (by rw [spIf_f (fun q => hr q.2.1)] at k; exact k) hI⟩)
  refine f5_isNone hS (fun j3 hj3 e3 hr3 => ⟨fun _ => ?_, fun h => absurd rfl h⟩) (fun hr => ⟨fun h => absurd h (by decide), fun _ => K5_same (by rw [spIf_f (fun q => hr q.2.2.1)] at k; exact k) hI⟩)
  refine f5_isNone hS (fun j4 hj4 e4 hr4 => ⟨fun _ => ?_, fun h => absurd rfl h⟩) (fun hr => ⟨fun h => absurd h (by decide), fun _ => K5_same (by rw [spIf_f (fun q => hr q.2.2.2)] at k; exact k) hI⟩)
  have hw := wF hS hj3
  have hw3 := wF hS hj4
  have hwQ := wQ hS
  have hwR := wR hS
  obtain ⟨c, o, hc, z, N, sg, z0⟩ := f5_reg hS hI hj3
  obtain ⟨c', o', hc', z', N', sg', z0'⟩ := f5_reg hS hI hj4
  have hS' := hS
  obtain ⟨⟨tH, tFA, tRS, tlRS, tA1, tlA1, tA2, tlA2, tPR, tPW, tDV, tQ, tlQ, tR, tlR, tOV, tUN, tTX, tTXB, tTP, tTPB⟩, tF, ⟨cFA, cRS, cA1, cA2, cQ, cR, cOV, cUN, cTXB, cTPB⟩, pn0, pn, pw0, pw⟩ := hS
  obtain ⟨d1, d2, d3⟩ := tF j hj
  obtain ⟨m1, m2, m3⟩ := tF j2 hj2
  obtain ⟨p1, p2, p3⟩ := tF j3 hj3
  obtain ⟨q1, q2, q3⟩ := tF j4 hj4
  rw [spIf_t ⟨hr, hr2, hr3, hr4⟩] at k
  subst e3 e4
  have i3 : (nI j3).toNatClampNeg = j3 := nI_clamp (by omega)
  have i4 : (nI j4).toNatClampNeg = j4 := nI_clamp (by omega)
  rw [ixo_nI (j := j3) (by omega), ixo_nI (j := j4) (by omega)] at k
  rw [i3, i4]
  refine ⟨vp_in_nI (by omega) (by omega), wl_isZero hw3 o' (fun hz => ⟨fun h => absurd h (by decide), fun _ => ?_⟩) (fun hp => ⟨fun _ => ⟨fun he => ?_, fun he => ⟨vp_in_nI (by omega) (by omega), vp_in_nI (by omega) (by omega), ?_⟩⟩, fun h => absurd rfl h⟩)⟩
  · rw [spIf_f (fun q => q (Or.inl (z0'.mp hz)))] at k
    exact K5_same k hI
  · rw [spIf_f (fun q => q (Or.inr he))] at k
    exact K5_same k hI
  · rw [spIf_t (fun q => q.elim (fun q => absurd (z0'.mpr q) (by omega)) he)] at k
    subst e e2
    rw [ixo_nI (j := j) (by omega), ixo_nI (j := j2) (by omega)] at k
    rw [nI_clamp (n := j) (by omega), nI_clamp (n := j2) (by omega)]
    refine f5_divide hS' hw hw3 (by omega) (by omega) (by omega) (by omega) o o' hp (by omega) hc' (fun cq cr σ1 f1 oq zq or zr => ⟨vp_in_nI (by omega) (by omega), ?_⟩)
    rw [z, z'] at zq zr
    have hcq : cq ≤ w := (wOk_count oq).mpr (by
      rw [wN_abs, zq, dq_abs, ← N]
      exact Nat.lt_of_le_of_lt (Nat.div_le_self _ _) ((wOk_count o).mp hc))
    have hcr : cr ≤ w := by have := or.2.1; omega
    refine f5_give hS' (I5_SF hS' hI (fun a ha => f1 a (by omega))) (fun a ha => f1 a (by omega)) hj hwQ oq hcq zq (by omega) (fun σ2 g1 g2 g3 => ⟨vp_in_nI (by omega) (by omega), ?_⟩)
    obtain ⟨or2, -, zr2⟩ := wOk_keep (σ' := σ2) or (g2 _ (ntg (T := T) (by omega)) (ntg (T := T) (by omega))) (g2 _ (ntg (T := T) (by omega)) (ntg (T := T) (by omega)))
    exact f5_give hS' g3 g1 hj2 hwR or2 hcr (zr2.trans zr) (by omega) (fun σ3 l1 _ l3 => k σ3 l1 l3)

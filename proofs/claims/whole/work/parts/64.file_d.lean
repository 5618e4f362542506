/-! Pure level: divisors and powers. -/
theorem eu_half {A B : Nat} (hB : 0 < B) (h : B < A) : 2 * (A % B) ≤ A := by
  have h1 := Nat.mod_lt A hB
  have h2 := Nat.mod_add_div A B
  have h3 : 0 < A / B := Nat.div_pos (Nat.le_of_lt h) hB
  have h4 : B * 1 ≤ B * (A / B) := Nat.mul_le_mul_left _ h3
  omega
theorem eu_step {A B P i : Nat} (hB : 0 < B) (h1 : A * B * 2 ^ i < P) (h2 : B < A) : B * (A % B) * 2 ^ (i + 1) < P := by
  have h3 : B * (2 * (A % B)) * 2 ^ i ≤ B * A * 2 ^ i := Nat.mul_le_mul_right _ (Nat.mul_le_mul_left _ (eu_half hB h2))
  have h4 : B * (A % B) * 2 ^ (i + 1) = B * (2 * (A % B)) * 2 ^ i := by
    rw [Nat.pow_succ, Nat.mul_left_comm B 2, Nat.mul_comm 2, Nat.mul_comm (2 ^ i) 2, ← Nat.mul_assoc]
  rw [h4]
  rw [Nat.mul_comm A B] at h1
  omega
theorem eu_first {A B P Q : Nat} (h1 : A * B < Q) (h2 : 4 * Q ≤ P) : B * (A % B) * 2 ^ 1 < P := by
  have h3 : B * (A % B) ≤ B * A := Nat.mul_le_mul_left _ (Nat.mod_le _ _)
  rw [Nat.mul_comm A B] at h1
  omega
theorem eu_count {A B K i : Nat} (hB : 0 < B) (h2 : B < A) (h1 : A * B * 2 ^ i < 2 ^ K) : i < K := by
  have h3 : 1 * 2 ^ i ≤ A * B * 2 ^ i := Nat.mul_le_mul_right _ (Nat.mul_pos (by omega) hB)
  exact (Nat.pow_lt_pow_iff_right (a := 2) (by decide)).mp (by omega)
theorem f5_gcd {G : qG} {σ : qS} {h n w : Nat} {T : Nat → Nat} {S : qSt} {x1 x2 x3 : Int32} {post : Int32 → qS → Prop} (hS : fS G h n w T) (hI : I5 G σ h n w S) (k : K5 G h n w T σ post (spGcd n S x1 x2 x3)) : wpX5_gcd G h x1 x2 x3 σ post := by
  unfold wpX5_gcd
  unfold spGcd at k
  refine f5_isNone hS (fun j hj e hr => ⟨fun _ => ?_, fun h => absurd rfl h⟩) (fun hr => ⟨fun h => absurd h (by decide), fun _ => K5_same (by rw [spIf_f (fun q => hr q.1)] at k; exact k) hI⟩)
  refine f5_isNone hS (fun j2 hj2 e2 hr2 => ⟨fun _ => ?_, fun h => absurd rfl h⟩) (fun hr => ⟨fun h => absurd h (by decide), fun _ => K5_same (by rw [spIf_f (fun q => hr q.2.1)] at k; exact k) hI⟩)
  refine f5_isNone hS (fun j3 hj3 e3 hr3 => ⟨fun _ => ?_, fun h => absurd rfl h⟩) (fun hr => ⟨fun h => absurd h (by decide), fun _ => K5_same (by rw [spIf_f (fun q => hr q.2.2)] at k; exact k) hI⟩)
  have hw2 := wF hS hj2
  have hw3 := wF hS hj3
  have hwA := wA1 hS
  have hwB := wA2 hS
  have hwR := wR hS
  obtain ⟨c, o, hc, z, N, sg, z0⟩ := f5_reg hS hI hj2
  obtain ⟨c', o', hc', z', N', sg', z0'⟩ := f5_reg hS hI hj3
  have hS' := hS
  obtain ⟨⟨tH, tFA, tRS, tlRS, tA1, tlA1, tA2, tlA2, tPR, tPW, tDV, tQ, tlQ, tR, tlR, tOV, tUN, tTX, tTXB, tTP, tTPB⟩, tF, ⟨cFA, cRS, cA1, cA2, cQ, cR, cOV, cUN, cTXB, cTPB⟩, pn0, pn, pw0, pw⟩ := hS
  obtain ⟨d1, d2, d3⟩ := tF j hj
  obtain ⟨p1, p2, p3⟩ := tF j2 hj2
  obtain ⟨q1, q2, q3⟩ := tF j3 hj3
  subst e e2 e3
  rw [spIf_t ⟨hr, hr2, hr3⟩, ixo_nI (by omega), ixo_nI (by omega), ixo_nI (by omega)] at k
  rw [nI_clamp (by omega), nI_clamp (by omega)]
  refine ⟨vp_in_nI (by omega) (by omega), wl_become hwA hw2 o (by omega) (ntg (T := T) (by omega)) (fun σ1 f1 o1 _ z1 => ⟨vp_in_nI (by omega) (by omega), ?_⟩)⟩
  obtain ⟨o3, -, zz3⟩ := wOk_keep (σ' := σ1) o' (f1 _ (ntg (T := T) (by omega)) (ntg (T := T) (by omega))) (f1 _ (ntg (T := T) (by omega)) (ntg (T := T) (by omega)))
  refine wl_become hwB hw3 o3 (by omega) (ntg (T := T) (by omega)) (fun σ2 f2 o2 _ z2 v21 e21 => ?_)
  obtain ⟨o1', -, z1'⟩ := wOk_keep (σ' := σ2) o1 (f2 _ (ntg (T := T) (by omega)) (ntg (T := T) (by omega))) (f2 _ (ntg (T := T) (by omega)) (ntg (T := T) (by omega)))
  obtain ⟨K, hK⟩ : ∃ K : Nat, K = 7682 := ⟨_, rfl⟩
  have hab : (S.1 j2).natAbs * (S.1 j3).natAbs < 2 ^ (K - 2) := by
    have h1 : (S.1 j2).natAbs < 4294967296 ^ w := by rw [← N]; exact (wOk_count o).mp hc
    have h2 : (S.1 j3).natAbs < 4294967296 ^ w := by rw [← N']; exact (wOk_count o').mp hc'
    have h3 := Nat.mul_lt_mul'' h1 h2
    rw [← Nat.pow_add, pow32] at h3
    exact Nat.lt_of_lt_of_le h3 (Nat.pow_le_pow_right (by decide) (by omega))
  have h4K : 4 * 2 ^ (K - 2) ≤ 2 ^ K := by
    have : (4 : Nat) = 2 ^ 2 := rfl
    rw [this, ← Nat.pow_add, show 2 + (K - 2) = K by omega]
    exact Nat.le_refl _
  refine lp2 (W := fun f x τ => lpX5_gcd_55 G h (nI j) post _ f x τ) (I := fun x τ => ∃ i a b, x = nI i ∧ i ≤ K + 1 ∧ SF T σ τ ∧ hZ G τ (G.2.1 h 3) a ∧ hZ G τ (G.2.1 h 4) b ∧ Nat.gcd a.natAbs b.natAbs = Nat.gcd (S.1 j2).natAbs (S.1 j3).natAbs ∧ a.natAbs * b.natAbs * 2 ^ i < 2 ^ K ∧ (i = 0 → a.natAbs * b.natAbs < 2 ^ (K - 2)) ∧ (0 < i → b.natAbs < a.natAbs)) (μ := fun x _ => K + 2 - x.toNatClampNeg) ?_ v21 σ2 ⟨0, S.1 j2, S.1 j3, e21, by omega, fun a ha => by rw [f2 a (ntg (T := T) (by omega)) (ntg (T := T) (by omega)), f1 a (ntg (T := T) (by omega)) (ntg (T := T) (by omega))], ⟨c, o1', by rw [z1', z1, z]⟩, ⟨c', o2, by rw [z2, zz3, z']⟩, rfl, by omega, fun _ => hab, fun h => absurd h (by omega)⟩
  intro f x τ hInv ih
  obtain ⟨i, a, b, rfl, hi, hSF, ⟨ca, oa, za⟩, ⟨cb, ob, zb⟩, hg, hP, hP0, hP1⟩ := hInv
  have hIt := I5_SF hS' hI hSF
  have hca := oa.2.1
  have hcb := ob.2.1
  -- the end
  have fin : b = 0 → bkX5_gcd_118 G h (nI j) post τ := by
    intro hb
    subst hb
    unfold bkX5_gcd_118
    intro σ39 e39
    rw [nI_clamp (by omega)]
    refine ⟨vp_in_nI (by omega) (by omega), ?_⟩
    have f39 : ∀ b, T b ≠ 5 → σ39 b = τ b := fun b hb => by rw [e39, q_st_a _ _ (ntg (T := T) (by omega))]
    have hrow : σ39 (G.2.1 (G.2.1 h 3) 0) = τ (G.2.1 (G.2.1 h 3) 0) := f39 _ (by omega)
    have o39 : wOk G σ39 (G.2.1 h 3) ca := by
      obtain ⟨a1, a2, a3, a4, a5⟩ := oa
      exact ⟨by rw [e39, q_st_ne _ _ (by omega)]; exact a1, a2, by rw [e39, q_st_self]; exact Or.inl rfl, fun _ => by rw [e39, q_st_self], fun t ht => by rw [hrow]; exact a5 t ht⟩
    have z39 : wZ G σ39 (G.2.1 h 3) ca = ((Nat.gcd (S.1 j2).natAbs (S.1 j3).natAbs : Nat) : Int) := by
      have eN : wN G σ39 (G.2.1 h 3) ca = wN G τ (G.2.1 h 3) ca := by unfold wN vU dg; rw [hrow]
      unfold wZ
      rw [e39, q_st_self, if_neg (by decide), ← e39, eN, wN_abs, za, ← hg]
      exact congrArg Int.ofNat (Nat.gcd_zero_right _).symm
    exact f5_give hS' (I5_SF hS' hIt (fun b hb => f39 b (by omega))) (fun b hb => by rw [f39 b (by omega), hSF b (by omega)]) hj hwA o39 (by omega) z39 (by omega) (fun σ' g1 _ g3 => k σ' g1 g3)
  show lpX5_gcd_55 G h (nI j) post _ (f + 1) _ _
  unfold lpX5_gcd_55
  have eM : (1000000 : Int32) ≤ nI i ↔ 1000000 ≤ i := nI_leI (a := 1000000) (by decide) (by omega)
  rw [eM]
  obtain ⟨zb0, -⟩ := wZ_pos ob
  rw [zb] at zb0
  refine ⟨fun h1 => absurd h1 (by omega), fun _ => wl_isZero hwB ob (fun h0 => ⟨fun h => absurd h (by decide), fun _ => fin (zb0.mp h0)⟩) (fun hp => ⟨fun _ => ?_, fun h => absurd rfl h⟩)⟩
  have hb0 : 0 < b.natAbs := by
    have : b ≠ 0 := fun q => absurd (zb0.mpr q) (by omega)
    omega
  refine f5_divide hS' hwA hwB (by omega) (by omega) (by omega) (by omega) oa ob hp (by omega) (by omega) (fun cq cr σ3 f3 oq zq or zr => ?_)
  rw [za, zb] at zr
  obtain ⟨ob3, -, zb3⟩ := wOk_keep (σ' := σ3) ob (f3 _ (by omega)) (f3 _ (by omega))
  refine wl_become hwA hwB ob3 (by omega) (ntg (T := T) (by omega)) (fun σ4 f4 o4 _ z4 => ?_)
  obtain ⟨or4, -, zr4⟩ := wOk_keep (σ' := σ4) or (f4 _ (ntg (T := T) (by omega)) (ntg (T := T) (by omega))) (f4 _ (ntg (T := T) (by omega)) (ntg (T := T) (by omega)))
  have hcr := or.2.1
  refine wl_become hwB hwR or4 (by omega) (ntg (T := T) (by omega)) (fun σ5 f5 o5 _ z5 v36 e36 => ?_)
  obtain ⟨o6, -, z6⟩ := wOk_keep (σ' := σ5) o4 (f5 _ (ntg (T := T) (by omega)) (ntg (T := T) (by omega))) (f5 _ (ntg (T := T) (by omega)) (ntg (T := T) (by omega)))
  have hi1 : i < K := by
    rcases Nat.eq_zero_or_pos i with h0 | h0
    · omega
    · exact eu_count hb0 (hP1 h0) hP
  refine ih v36 σ5 ⟨i + 1, b, dr a b, by rw [e36, nI_1], by omega, fun t ht => by rw [f5 t (ntg (T := T) (by omega)) (ntg (T := T) (by omega)), f4 t (ntg (T := T) (by omega)) (ntg (T := T) (by omega)), f3 t (by omega), hSF t ht], ⟨cb, o6, by rw [z6, z4, zb3, zb]⟩, ⟨cr, o5, by rw [z5, zr4, zr]⟩, ?_, ?_, fun h0 => absurd h0 (by omega), fun _ => ?_⟩ ?_
  · rw [dr_abs, ← hg, Nat.gcd_comm b.natAbs, ← Nat.gcd_rec, Nat.gcd_comm]
  · rw [dr_abs]
    rcases Nat.eq_zero_or_pos i with h0 | h0
    · subst h0
      exact eu_first (hP0 rfl) h4K
    · exact eu_step hb0 hP (hP1 h0)
  · rw [dr_abs]
    exact Nat.mod_lt _ hb0
  · show K + 2 - v36.toNatClampNeg < K + 2 - (nI i).toNatClampNeg
    rw [e36, nI_1, nI_clamp (by omega), nI_clamp (by omega)]
    omega
theorem dr_pos {a m : Int} (ha : 0 ≤ a) (hm : 0 < m) : dr a m = a % m := by
  obtain ⟨x, rfl⟩ := Int.eq_ofNat_of_zero_le ha
  obtain ⟨y, rfl⟩ := Int.eq_ofNat_of_zero_le (Int.le_of_lt hm)
  unfold dr
  rw [if_neg (by omega)]
  rfl
theorem dr_neg {a m : Int} (ha : a < 0) (hm : 0 < m) : (dr a m = 0 → a % m = 0) ∧ (dr a m ≠ 0 → a % m = m + dr a m) := by
  obtain ⟨x, hx⟩ : ∃ x : Nat, a = -(x : Int) := ⟨a.natAbs, by omega⟩
  obtain ⟨y, hy⟩ : ∃ y : Nat, m = (y : Int) := ⟨m.natAbs, by omega⟩
  subst hx hy
  have hd : dr (-(x : Int)) (y : Int) = -((x % y : Nat) : Int) := by
    unfold dr
    rw [if_pos ha, Int.natAbs_neg, Int.natAbs_natCast, Int.natAbs_natCast]
  have h1 := Nat.mod_add_div x y
  have h2 := Nat.mod_lt x (show 0 < y by omega)
  have h3 : (x : Int) = ((x % y : Nat) : Int) + (y : Int) * ((x / y : Nat) : Int) := by rw [← Int.natCast_mul, ← Int.natCast_add, h1]
  rw [hd]
  constructor
  · intro h
    refine ((Int.ediv_emod_unique (a := -(x : Int)) (b := (y : Int)) (r := 0) (q := -((x / y : Nat) : Int)) hm).mpr ⟨?_, by omega, by omega⟩).2
    rw [Int.mul_neg]
    omega
  · intro h
    refine ((Int.ediv_emod_unique (a := -(x : Int)) (b := (y : Int)) (r := (y : Int) + -((x % y : Nat) : Int)) (q := -((x / y : Nat) : Int) - 1) hm).mpr ⟨?_, by omega, by omega⟩).2
    rw [Int.mul_sub, Int.mul_neg, Int.mul_one]
    omega
theorem pow_emod (a m : Int) : ∀ k : Nat, (a % m) ^ k % m = a ^ k % m
  | 0 => by rw [Int.pow_zero, Int.pow_zero]
  | k + 1 => by rw [Int.pow_succ, Int.pow_succ, Int.mul_emod, pow_emod a m k, Int.emod_emod, ← Int.mul_emod]
theorem f5_mulSecond {G : qG} {τ : qS} {h n w x j : Nat} {T : Nat → Nat} {S : qSt} {s t : Int} {post : qS → Prop} (hS : fS G h n w T) (hI : I5 G τ h n w S) (hj : j < n) (hM : 0 < S.1 j) (hwx : wFix G x) (tx : T x = 5 ∨ T x = 7) (txl : T ((G.2.1 x 0)) = 6 ∨ T ((G.2.1 x 0)) = 8) (cx : G.2.2 ((G.2.1 x 0)) = w) (h2 : hZ G τ (G.2.1 h 4) s) (hx : hZ G τ x t) (s0 : 0 ≤ s) (t0 : 0 ≤ t)
    (k : ∀ τ', (∀ a, (T a < 3 ∨ T a = 5 ∨ T a = 6 ∨ T a = 9 ∨ T a = 11 ∨ 17 < T a) → τ' a = τ a) → hZ G τ' (G.2.1 h 4) ((s * t) % S.1 j) → post τ') : wpX5_multiplySecond G h x (G.2.1 (G.2.1 h 1) j) τ post := by
  obtain ⟨c2, o2, z2⟩ := h2
  obtain ⟨cx', ox, zx⟩ := hx
  obtain ⟨cm, om, hcm, zm, Nm, sgm, z0m⟩ := f5_reg hS hI hj
  have hwB := wA2 hS
  have hwR := wR hS
  have hwS := wRS hS
  have hwj := wF hS hj
  have hS' := hS
  obtain ⟨⟨tH, tFA, tRS, tlRS, tA1, tlA1, tA2, tlA2, tPR, tPW, tDV, tQ, tlQ, tR, tlR, tOV, tUN, tTX, tTXB, tTP, tTPB⟩, tF, ⟨cFA, cRS, cA1, cA2, cQ, cR, cOV, cUN, cTXB, cTPB⟩, pn0, pn, pw0, pw⟩ := hS
  obtain ⟨d1, d2, d3⟩ := tF j hj
  have hc2 := o2.2.1
  have hcx := ox.2.1
  unfold wpX5_multiplySecond
  refine wl_product hI.2.1 hwS hwB hwx o2 ox (by omega) (by omega) (by omega) (ntg (T := T) (by omega)) (ntg (T := T) (by omega)) (ntg (T := T) (by omega)) (ntg (T := T) (by omega)) (ntg (T := T) (by omega)) (ntg (T := T) (by omega)) (ntg (T := T) (by omega)) (ntg (T := T) (by omega)) (fun c1 σ1 f1 o1 n1 z1 => ?_)
  rw [z2, zx] at z1
  have hc1 : c1 ≤ 2 * w := (wOk_count o1).mpr (by
    rw [n1]
    have h1 : wN G τ (G.2.1 h 4) c2 < 4294967296 ^ w := (wOk_count o2).mp (by omega)
    have h2 : wN G τ x cx' < 4294967296 ^ w := (wOk_count ox).mp (by omega)
    have h3 := Nat.mul_lt_mul'' h1 h2
    rw [← Nat.pow_add, ← Nat.two_mul] at h3
    exact h3)
  obtain ⟨om1, -, zm1⟩ := wOk_keep (σ' := σ1) om (f1 _ (ntg (T := T) (by omega)) (ntg (T := T) (by omega)) (ntg (T := T) (by omega))) (f1 _ (ntg (T := T) (by omega)) (ntg (T := T) (by omega)) (ntg (T := T) (by omega)))
  refine f5_divide hS' hwS hwj (by omega) (by omega) (by omega) (by omega) o1 om1 (Nat.pos_of_ne_zero (fun q => by have := z0m.mp q; omega)) hc1 hcm (fun cq cr σ3 f3 oq zq or zr => ?_)
  rw [z1, zm1, zm, dr_pos (Int.mul_nonneg s0 t0) hM] at zr
  have hcr := or.2.1
  refine wl_become hwB hwR or (by omega) (ntg (T := T) (by omega)) (fun σ5 f5 o5 _ z5 => k σ5 (fun a ha => ?_) ⟨cr, o5, by rw [z5, zr]⟩)
  rw [f5 a (ntg (T := T) (by omega)) (ntg (T := T) (by omega)), f3 a (by omega), f1 a (ntg (T := T) (by omega)) (ntg (T := T) (by omega)) (ntg (T := T) (by omega))]
theorem f5_oneToSecond {G : qG} {τ : qS} {h n w j : Nat} {T : Nat → Nat} {S : qSt} {post : qS → Prop} (hS : fS G h n w T) (hI : I5 G τ h n w S) (hj : j < n) (hM : 0 < S.1 j)
    (k : ∀ τ', (∀ a, (T a < 3 ∨ T a = 5 ∨ T a = 6 ∨ T a = 9 ∨ T a = 11 ∨ 17 < T a) → τ' a = τ a) → hZ G τ' (G.2.1 h 4) (1 % S.1 j) → post τ') : wpX5_oneToSecond G h (G.2.1 (G.2.1 h 1) j) τ post := by
  obtain ⟨cm, om, hcm, zm, Nm, sgm, z0m⟩ := f5_reg hS hI hj
  have hwB := wA2 hS
  have hwR := wR hS
  have hwj := wF hS hj
  have hS' := hS
  obtain ⟨⟨tH, tFA, tRS, tlRS, tA1, tlA1, tA2, tlA2, tPR, tPW, tDV, tQ, tlQ, tR, tlR, tOV, tUN, tTX, tTXB, tTP, tTPB⟩, tF, ⟨cFA, cRS, cA1, cA2, cQ, cR, cOV, cUN, cTXB, cTPB⟩, pn0, pn, pw0, pw⟩ := hS
  obtain ⟨d1, d2, d3⟩ := tF j hj
  unfold wpX5_oneToSecond
  refine wl_becomeInt hwB (by omega) (fun c1 σ1 f1 o1 z1 => ?_)
  have hc1 := o1.2.1
  obtain ⟨om1, -, zm1⟩ := wOk_keep (σ' := σ1) om (f1 _ (ntg (T := T) (by omega)) (ntg (T := T) (by omega))) (f1 _ (ntg (T := T) (by omega)) (ntg (T := T) (by omega)))
  refine f5_divide hS' hwB hwj (by omega) (by omega) (by omega) (by omega) o1 om1 (Nat.pos_of_ne_zero (fun q => by have := z0m.mp q; omega)) (by omega) hcm (fun cq cr σ3 f3 oq zq or zr => ?_)
  have e1 : (1 : Int32).toInt = 1 := by decide
  rw [z1, zm1, zm, e1, dr_pos (by decide) hM] at zr
  have hcr := or.2.1
  refine wl_become hwB hwR or (by omega) (ntg (T := T) (by omega)) (fun σ5 f5 o5 _ z5 => k σ5 (fun a ha => ?_) ⟨cr, o5, by rw [z5, zr]⟩)
  rw [f5 a (ntg (T := T) (by omega)) (ntg (T := T) (by omega)), f3 a (by omega), f1 a (ntg (T := T) (by omega)) (ntg (T := T) (by omega))]
theorem f5_reduceToFirst {G : qG} {τ : qS} {h n w i j : Nat} {T : Nat → Nat} {S : qSt} {post : qS → Prop} (hS : fS G h n w T) (hI : I5 G τ h n w S) (hi : i < n) (hj : j < n) (hM : 0 < S.1 j)
    (k : ∀ τ', (∀ a, (T a < 5 ∨ T a = 7 ∨ T a = 8 ∨ T a = 9 ∨ T a = 10 ∨ T a = 11 ∨ 17 < T a) → τ' a = τ a) → hZ G τ' (G.2.1 h 3) (S.1 i % S.1 j) → post τ') : wpX5_reduceToFirst G h (G.2.1 (G.2.1 h 1) i) (G.2.1 (G.2.1 h 1) j) τ post := by
  obtain ⟨cm, om, hcm, zm, Nm, sgm, z0m⟩ := f5_reg hS hI hj
  obtain ⟨ca, oa, hca, za, Na, sga, z0a⟩ := f5_reg hS hI hi
  have hwA := wA1 hS
  have hwR := wR hS
  have hwj := wF hS hj
  have hwi := wF hS hi
  have hS' := hS
  obtain ⟨⟨tH, tFA, tRS, tlRS, tA1, tlA1, tA2, tlA2, tPR, tPW, tDV, tQ, tlQ, tR, tlR, tOV, tUN, tTX, tTXB, tTP, tTPB⟩, tF, ⟨cFA, cRS, cA1, cA2, cQ, cR, cOV, cUN, cTXB, cTPB⟩, pn0, pn, pw0, pw⟩ := hS
  obtain ⟨d1, d2, d3⟩ := tF j hj
  obtain ⟨q1, q2, q3⟩ := tF i hi
  unfold wpX5_reduceToFirst
  refine f5_divide hS' hwi hwj (by omega) (by omega) (by omega) (by omega) oa om (Nat.pos_of_ne_zero (fun q => by have := z0m.mp q; omega)) (by omega) hcm (fun cq cr σ3 f3 oq zq or zr => ?_)
  rw [za, zm] at zr
  have hcr := or.2.1
  obtain ⟨zr0, zrs⟩ := wZ_pos or
  rw [zr] at zrs
  refine ⟨fun h0 => ?_, fun h0 => ?_⟩
  · have hnn : ¬ dr (S.1 i) (S.1 j) < 0 := fun q => absurd (h0.symm.trans (zrs.mpr q)) (by decide)
    refine wl_become hwA hwR or (by omega) (ntg (T := T) (by omega)) (fun σ5 f5 o5 _ z5 => k σ5 (fun a ha => ?_) ⟨cr, o5, ?_⟩)
    · rw [f5 a (ntg (T := T) (by omega)) (ntg (T := T) (by omega)), f3 a (by omega)]
    · rw [z5, zr]
      rcases Int.lt_or_le (S.1 i) 0 with hn | hn
      · have hd : dr (S.1 i) (S.1 j) = 0 := by
          have : dr (S.1 i) (S.1 j) ≤ 0 := by unfold dr; rw [if_pos hn]; omega
          omega
        rw [hd, (dr_neg hn hM).1 hd]
      · exact dr_pos hn hM
  · have hneg : dr (S.1 i) (S.1 j) < 0 := zrs.mp (or.2.2.1.resolve_left h0)
    obtain ⟨om3, -, zm3⟩ := wOk_keep (σ' := σ3) om (f3 _ (by omega)) (f3 _ (by omega))
    have hfl : σ3 (G.2.1 (G.2.1 h 1) j) 2 ≠ 1 := fun q => by
      have := ((wZ_pos om3).2).mp q
      rw [zm3, zm] at this
      omega
    refine wl_becomeSum hwA hwj hwR om3 or (Or.inr rfl) (ntg (T := T) (by omega)) (ntg (T := T) (by omega)) (ntg (T := T) (by omega)) (ntg (T := T) (by omega)) (by omega) (fun q => absurd q hfl) (fun c5 σ5 f5 o5 z5 => k σ5 (fun a ha => ?_) ⟨c5, o5, ?_⟩)
    · rw [f5 a (ntg (T := T) (by omega)) (ntg (T := T) (by omega)), f3 a (by omega)]
    · rw [z5, if_pos rfl, wN_abs, zr, zm3, zm]
      have hn : S.1 i < 0 := by
        rcases Int.lt_or_le (S.1 i) 0 with hn | hn
        · exact hn
        · rw [dr_pos hn hM] at hneg
          have := Int.emod_nonneg (S.1 i) (show S.1 j ≠ 0 by omega)
          omega
      rw [(dr_neg hn hM).2 (by omega)]
      omega

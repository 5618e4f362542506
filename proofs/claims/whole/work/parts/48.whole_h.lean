/-! Pure level: scaling, shifts down of whole numbers, division by a small number. -/
theorem uL_nI {n : Nat} (h : n < 2 ^ 31) : uL (nI n).toInt64 = n := by rw [nI_l h, uL_lN]; omega
theorem wl_scaleAndAdd {G : qG} {h0 c f g : Nat} {σ : qS} {post : qS → Prop} (hw : wFix G h0) (hc1 : σ h0 1 = nI c) (hcc : c ≤ G.2.2 ((G.2.1 h0 0))) (ht : ∀ j, c = j + 1 → σ ((G.2.1 h0 0)) j ≠ 0) (hf0 : 1 ≤ f) (hf : f < 2 ^ 31) (hg : g < 2 ^ 31) (hfit : vU σ ((G.2.1 h0 0)) c * f + g < 4294967296 ^ (G.2.2 ((G.2.1 h0 0))))
    (k : ∀ (c' : Nat) (σ' : qS), c' ≤ c + 1 → c' ≤ G.2.2 ((G.2.1 h0 0)) → (∀ b, b ≠ h0 → b ≠ (G.2.1 h0 0) → σ' b = σ b) → (∀ j, j ≠ 1 → σ' h0 j = σ h0 j) → σ' h0 1 = nI c' → vU σ' ((G.2.1 h0 0)) c' = vU σ ((G.2.1 h0 0)) c * f + g → (∀ j, c' = j + 1 → σ' ((G.2.1 h0 0)) j ≠ 0) → post σ') : wpX4_scaleAndAdd G h0 (nI f) (nI g) σ post := by
  have hcap := hw.2
  unfold wpX4_scaleAndAdd
  intro v1 e1 v2 e2
  refine lp3 (W := fun m x3 x5 τ => lpX4_scaleAndAdd_6 G h0 (nI f) post _ m x3 x5 τ) (I := fun x3 x5 τ => ∃ i, i ≤ c ∧ x5 = nI i ∧ (∀ b, b ≠ (G.2.1 h0 0) → τ b = σ b) ∧ (∀ j, i ≤ j → τ ((G.2.1 h0 0)) j = σ ((G.2.1 h0 0)) j) ∧ uL x3 < 2 ^ 31 ∧ vU τ ((G.2.1 h0 0)) i + uL x3 * 4294967296 ^ i = vU σ ((G.2.1 h0 0)) i * f + g) (μ := fun _ x5 _ => c - x5.toNatClampNeg) ?_ v1 v2 σ ⟨0, Nat.zero_le _, by rw [e2]; rfl, fun _ _ => rfl, fun _ _ => rfl, by rw [e1, uL_nI hg]; exact hg, by rw [e1, uL_nI hg]; show 0 + g * 1 = 0 * f + g; omega⟩
  intro m x3 x5 τ hI ih
  obtain ⟨i, hi, rfl, hfr, hun, hx, hv⟩ := hI
  show lpX4_scaleAndAdd_6 G h0 (nI f) post _ (m + 1) _ _ _
  unfold lpX4_scaleAndAdd_6
  have h01 : τ h0 = σ h0 := hfr _ (Ne.symm hw.1)
  rw [h01, hc1, nI_leI (by omega) (by omega)]
  refine ⟨fun hge => ?_, fun hlt => ⟨vp_lm (by omega) (by omega), fun v6 e6 => ⟨vp_lm (by omega) (by omega), fun σ8 e8 v9 e9 v10 e10 => ?_⟩⟩⟩
  · have : i = c := by omega
    subst this
    rw [lc_eq, uL_eq0, nI_leI (by omega) (by omega)]
    have hlo := vU_lt τ ((G.2.1 h0 0)) i
    refine ⟨fun hz => ?_, fun hz => ⟨fun hfull => ?_, fun hroom => ⟨vp_lm (by omega) (by omega), fun σ17 e17 σ18 e18 => ?_⟩⟩⟩
    · rw [hz, Nat.zero_mul, Nat.add_zero] at hv
      refine k i τ (by omega) (by omega) (fun b hb hb2 => hfr b hb2) (fun j _ => by rw [h01]) (by rw [h01]; exact hc1) hv (fun j hj hzero => ?_)
      -- the highest limb isn't 0: the number has not become smaller
      subst hj
      have h1 : 4294967296 ^ j ≤ vU σ ((G.2.1 h0 0)) (j + 1) := nv_ge (by
        have := ht j rfl
        rw [Ne, uI_eq0] at this
        exact Nat.pos_of_ne_zero this)
      have h2 : vU τ ((G.2.1 h0 0)) (j + 1) < 4294967296 ^ j := by
        rw [vU_s, hzero]
        have := vU_lt τ ((G.2.1 h0 0)) j
        show _ + 0 * _ < _
        omega
      have h3 : vU σ ((G.2.1 h0 0)) (j + 1) * 1 ≤ vU σ ((G.2.1 h0 0)) (j + 1) * f := Nat.mul_le_mul_left _ hf0
      omega
    · exfalso
      have hci : G.2.2 ((G.2.1 h0 0)) = i := by omega
      rw [hci] at hfit
      have h1 : 1 * 4294967296 ^ i ≤ uL x3 * 4294967296 ^ i := Nat.mul_le_mul_right _ (by omega)
      omega
    · rw [nI_clamp (by omega)] at e17
      have e171 : σ17 h0 1 = nI i := by rw [e17, q_st_a _ _ (Ne.symm hw.1), h01, hc1]
      rw [e171, nI_1] at e18
      have hl : uI x3.toInt32 = uL x3 := by rw [uI_low]; omega
      have hrow : ∀ j, σ18 ((G.2.1 h0 0)) j = q_st τ ((G.2.1 h0 0)) i x3.toInt32 ((G.2.1 h0 0)) j := fun j => by rw [e18, q_st_a _ _ hw.1, e17]
      refine k (i + 1) σ18 (Nat.le_refl _) (by omega) (fun b hb hb2 => by rw [e18, q_st_a _ _ hb, e17, q_st_a _ _ hb2, hfr b hb2]) (fun j hj => by rw [e18, q_st_ne _ _ (by omega), e17, q_st_a _ _ (Ne.symm hw.1), h01]) (by rw [e18, q_st_self]) ?_ (fun j hj => ?_)
      · rw [vU_s, hrow, q_st_self, hl, vU_congr (σ' := τ) (a' := (G.2.1 h0 0)) (fun j hj => by rw [hrow, q_st_ne _ _ (by omega)])]
        exact hv
      · have : j = i := by omega
        subst this
        rw [hrow, q_st_self, Ne, uI_eq0, hl]
        exact hz
  · rw [nI_clamp (by omega)] at e6 e8
    rw [hun i (Nat.le_refl _)] at e6
    have hd := uI_lt (σ ((G.2.1 h0 0)) i)
    have hprod : uI (σ ((G.2.1 h0 0)) i) * f ≤ uI (σ ((G.2.1 h0 0)) i) * 2147483648 := Nat.mul_le_mul_left _ (by omega)
    have hs : uL v6 = uI (σ ((G.2.1 h0 0)) i) * f + uL x3 := by
      rw [e6, uL_add, uL_mul, uL_ext, uL_nI hf]
      omega
    refine ih v9 v10 σ8 ⟨i + 1, by omega, by rw [e10, nI_1], fun b hb => by rw [e8, q_st_a _ _ hb, hfr b hb], fun j hj => by rw [e8, q_st_ne _ _ (by omega)]; exact hun j (by omega), ?_, ?_⟩ ?_
    · rw [e9, uL_s32, hs]; omega
    · rw [e9, uL_s32, vU_s, vU_s, vU_congr (σ := σ8) (σ' := τ) (a' := (G.2.1 h0 0)) (fun j hj => by rw [e8, q_st_ne _ _ (by omega)])]
      have hlast : uI (σ8 ((G.2.1 h0 0)) i) = uL v6 % 4294967296 := by rw [e8, q_st_self, uI_low]
      have hcs := carry_step 4294967296 (uL v6) (4294967296 ^ i)
      rw [← Nat.pow_succ] at hcs
      rw [hlast, Nat.add_assoc, hcs, hs, Nat.add_mul, Nat.add_mul, Nat.mul_right_comm (uI _) (4294967296 ^ i) f]
      omega
    · show c - v10.toNatClampNeg < c - (nI i).toNatClampNeg
      rw [e10, nI_1, nI_clamp (by omega), nI_clamp (by omega)]
      omega
/-- a number below 0, divided, rounded down -/
theorem neg_fdiv (N P : Nat) (hP : 0 < P) : (-(N : Int)) / (P : Int) = if N % P = 0 then -((N / P : Nat) : Int) else -((N / P + 1 : Nat) : Int) := by
  have h := Nat.mod_add_div N P
  have hl := Nat.mod_lt N hP
  have hz : (N : Int) = ((N % P : Nat) : Int) + (P : Int) * ((N / P : Nat) : Int) := by rw [← Int.natCast_mul, ← Int.natCast_add, h]
  by_cases h0 : N % P = 0
  · rw [if_pos h0]
    refine ((Int.ediv_emod_unique (a := -(N : Int)) (b := (P : Int)) (r := 0) (q := -((N / P : Nat) : Int)) (by omega)).mpr ⟨?_, by omega, by omega⟩).1
    rw [hz, h0, Int.mul_neg]
    simp
  · rw [if_neg h0]
    refine ((Int.ediv_emod_unique (a := -(N : Int)) (b := (P : Int)) (r := (P : Int) - ((N % P : Nat) : Int)) (q := -((N / P + 1 : Nat) : Int)) (by omega)).mpr ⟨?_, by omega, by omega⟩).1
    rw [hz, Int.natCast_add, Int.mul_neg, Int.mul_add]
    generalize (P : Int) * ((N / P : Nat) : Int) = X
    show _ + -(X + (P : Int) * 1) = _
    omega
theorem wl_becomeShiftedDown {G : qG} {h0 h1 c n : Nat} {σ : qS} {post : qS → Prop} (hw0 : wFix G h0) (hw1 : wFix G h1) (ho : wOk G σ h1 c) (hn : n < 2 ^ 31) (hr : c ≤ G.2.2 ((G.2.1 h0 0))) (hr1 : σ h1 2 = 1 → c + 1 ≤ G.2.2 ((G.2.1 h0 0))) (hd : (G.2.1 h0 0) ≠ (G.2.1 h1 0)) (he : (G.2.1 h0 0) ≠ h1) (hne : h0 ≠ h1) (hne2 : h0 ≠ (G.2.1 h1 0))
    (k : ∀ (c' : Nat) (σ' : qS), (∀ b, b ≠ h0 → b ≠ (G.2.1 h0 0) → σ' b = σ b) → wOk G σ' h0 c' → wZ G σ' h0 c' = wZ G σ h1 c / (2 ^ n : Int) → post σ') : wpX4_becomeShiftedDown G h0 h1 (nI n) σ post := by
  obtain ⟨a1, a2, a3, a4, a5⟩ := id ho
  have hc0 := hw0.2
  have hc1 := hw1.2
  have ediv : nI n / 32 = nI (n / 32) := pk_div (a := n) (d := 32) hn (by decide) (by decide)
  have erem : nI n - nI n / 32 * 32 = nI (n % 32) := pk_rem (a := n) (d := 32) hn (by decide) (by decide)
  unfold wpX4_becomeShiftedDown
  intro v1 e1
  generalize hm : min (n / 32) c = w
  have ev1 : v1 = nI w := by
    rw [e1, a1, ediv]
    by_cases h : c < n / 32
    · rw [if_pos ((nI_ltI (by omega) (by omega)).mpr h)]; congr 1; omega
    · rw [if_neg (fun z => h ((nI_ltI (by omega) (by omega)).mp z))]; congr 1; omega
  subst ev1
  rw [erem, a1, pk_sub (by omega)]
  refine wl_shiftDown hw0 (Ne.symm hd) (by omega) (by omega) (by omega) (Nat.mod_lt _ (by decide)) (fun σ3 f1 f2 => ?_)
  rw [f1 _ (Ne.symm he), a1, pk_sub (by omega)]
  have hv : vU σ3 ((G.2.1 h0 0)) (c - w) = wN G σ h1 c / 2 ^ n := by
    rw [f2]
    have e3 : wN G σ h1 c = vU σ ((G.2.1 h1 0)) w + 4294967296 ^ w * vO σ ((G.2.1 h1 0)) w (c - w) := by
      unfold wN
      have := vU_add σ ((G.2.1 h1 0)) w (c - w)
      rw [show w + (c - w) = c by omega] at this
      exact this
    rcases Nat.lt_or_ge c (n / 32) with h | h
    · have hwc : w = c := by omega
      have h2 : wN G σ h1 c < 2 ^ n := by
        have := vU_lt σ ((G.2.1 h1 0)) c
        rw [pow32] at this
        exact Nat.lt_of_lt_of_le this (Nat.pow_le_pow_right (by decide) (by omega))
      rw [Nat.div_eq_of_lt h2, hwc, Nat.sub_self]
      exact Nat.zero_div _
    · have hwn : w = n / 32 := by omega
      have e4 : 2 ^ n = 4294967296 ^ w * 2 ^ (n % 32) := by rw [pow32, ← Nat.pow_add]; congr 1; omega
      rw [e4, ← Nat.div_div_eq_div_mul, e3, Nat.add_mul_div_left _ _ (Nat.pow_pos (by decide)), Nat.div_eq_of_lt (vU_lt _ _ _), Nat.zero_add]
  refine wl_settleZ hw0 (by omega) a3 (fun c5 σ5 g1 g2 g3 g4 g5 => ?_)
  have h5 : σ5 h1 = σ h1 := by rw [g2 _ (Ne.symm hne), f1 _ (Ne.symm he)]
  have h5l : σ5 ((G.2.1 h1 0)) = σ ((G.2.1 h1 0)) := by rw [g2 _ (Ne.symm hne2), f1 _ (Ne.symm hd)]
  have hP : (0 : Nat) < 2 ^ n := Nat.two_pow_pos n
  have hcast : ((2 : Int) ^ n) = ((2 ^ n : Nat) : Int) := by rw [Int.natCast_pow]; rfl
  have ho5 : wOk G σ5 h1 c := by
    refine ⟨by rw [h5]; exact a1, a2, by rw [h5]; exact a3, fun z => by rw [h5]; exact a4 z, fun j hj => by rw [h5l]; exact a5 j hj⟩
  have hN5 : wN G σ5 h1 c = wN G σ h1 c := vU_congr (fun j _ => by rw [h5l])
  rw [h5]
  refine ⟨fun hs => ?_, fun hs => ?_⟩
  · refine k c5 σ5 (fun b hb hb2 => by rw [g2 b hb, f1 b hb2]) g3 ?_
    rw [g5, hs, if_neg (by decide), hv, hcast]
    unfold wZ
    rw [hs, if_neg (by decide)]
    exact Int.natCast_ediv _ _
  · have hs1 : σ h1 2 = 1 := a3.resolve_left hs
    refine wl_hasOneBelow hw1 ho5 hn (fun hz => ?_) (fun hz => ?_)
    · rw [hN5] at hz
      refine ⟨fun _ => k c5 σ5 (fun b hb hb2 => by rw [g2 b hb, f1 b hb2]) g3 ?_, fun z => absurd rfl z⟩
      rw [g5, hs1, if_pos rfl, hv, hcast]
      unfold wZ
      rw [hs1, if_pos rfl, neg_fdiv _ _ hP, if_pos hz]
    · rw [hN5] at hz
      refine ⟨fun z => absurd z (by decide), fun _ => ?_⟩
      obtain ⟨b1, b2, b3, b4, b5⟩ := id g3
      have hgv : vU σ5 ((G.2.1 h0 0)) c5 = wN G σ h1 c / 2 ^ n := g4.trans hv
      have hbig : vU σ5 ((G.2.1 h0 0)) c5 * 1 + 1 < 4294967296 ^ (G.2.2 ((G.2.1 h0 0))) := by
        have h8 := vU_lt σ5 ((G.2.1 h0 0)) c5
        have h9 : 4294967296 ^ (c5 + 1) ≤ 4294967296 ^ (G.2.2 ((G.2.1 h0 0))) := Nat.pow_le_pow_right (by decide) (by have := hr1 hs1; omega)
        rw [Nat.pow_succ] at h9
        omega
      refine wl_scaleAndAdd (f := 1) (g := 1) hw0 b1 b2 b5 (by decide) (by decide) (by decide) hbig (fun c' σ11 q1 q2 q3 q4 q5 q6 q7 => ?_)
      intro σ13 e13
      have hlm13 : σ13 ((G.2.1 h0 0)) = σ11 ((G.2.1 h0 0)) := by rw [e13, q_st_a _ _ hw0.1]
      have hN13 : wN G σ13 h0 c' = wN G σ h1 c / 2 ^ n + 1 := by
        unfold wN
        rw [vU_congr (σ' := σ11) (a' := (G.2.1 h0 0)) (fun j _ => by rw [hlm13]), q6, hgv]
        unfold wN
        omega
      have hc'0 : c' ≠ 0 := fun z => by
        subst z
        have : wN G σ13 h0 0 = 0 := rfl
        omega
      refine k c' σ13 (fun b hb hb2 => by rw [e13, q_st_a _ _ hb, q3 b hb hb2, g2 b hb, f1 b hb2]) ⟨by rw [e13, q_st_ne _ _ (by omega)]; exact q5, q2, Or.inr (by rw [e13, q_st_self]), fun z => absurd z hc'0, fun j hj => by rw [hlm13]; exact q7 j hj⟩ ?_
      unfold wZ
      rw [hN13, e13, q_st_self, if_pos rfl, hs1, if_pos rfl, hcast, neg_fdiv _ _ hP, if_neg hz]
theorem uL_div {x y : Int64} (hx : uL x < 2 ^ 63) (hy : uL y < 2 ^ 63) (h0 : 0 < uL y) : uL (x / y) = uL x / uL y := by
  have ex : x = lN (uL x) := uL_inj (by rw [uL_lN]; omega)
  have ey : y = lN (uL y) := uL_inj (by rw [uL_lN]; omega)
  generalize uL x = a at ex hx ⊢
  generalize uL y = b at ey hy h0 ⊢
  subst ex; subst ey
  rw [pk_lDiv hx h0 hy, uL_lN]
  exact Nat.mod_eq_of_lt (Nat.lt_of_le_of_lt (Nat.div_le_self a b) (by omega))
theorem uL_rem {x y : Int64} (hx : uL x < 2 ^ 63) (hy : uL y < 2 ^ 63) (h0 : 0 < uL y) : uL (x - x / y * y) = uL x % uL y := by
  have ex : x = lN (uL x) := uL_inj (by rw [uL_lN]; omega)
  have ey : y = lN (uL y) := uL_inj (by rw [uL_lN]; omega)
  generalize uL x = a at ex hx ⊢
  generalize uL y = b at ey hy h0 ⊢
  subst ex; subst ey
  rw [pk_lRem hx h0 hy, uL_lN]
  exact Nat.mod_eq_of_lt (Nat.lt_trans (Nat.mod_lt a h0) (by omega))
theorem vO_low (σ : qS) (a p n : Nat) : vO σ a p (n + 1) = uI (σ a p) + 4294967296 * vO σ a (p + 1) n := by
  unfold vO
  rw [nv_low]
  congr 1
  congr 1
  exact nv_congr (fun i _ => by rw [show p + (i + 1) = p + 1 + i by omega])
theorem wl_divideAndRest {G : qG} {h0 c d : Nat} {σ : qS} {post : Int32 → qS → Prop} (hw : wFix G h0) (ho : wOk G σ h0 c) (hd0 : 0 < d) (hd : d < 2 ^ 31)
    (k : ∀ (c' : Nat) (σ' : qS), (∀ b, b ≠ h0 → b ≠ (G.2.1 h0 0) → σ' b = σ b) → wOk G σ' h0 c' → wN G σ' h0 c' = wN G σ h0 c / d → (c' ≠ 0 → σ' h0 2 = σ h0 2) → post (nI (wN G σ h0 c % d)) σ') : wpX4_divideAndRest G h0 (nI d) σ post := by
  obtain ⟨a1, a2, a3, a4, a5⟩ := id ho
  have hc := hw.2
  unfold wpX4_divideAndRest
  refine ⟨fun _ v2 e2 v3 e3 => ?_, fun h => absurd (nI_lt (a := 0) hd0 hd) h⟩
  rw [a1] at e3
  have hud : uL (nI d).toInt64 = d := uL_nI hd
  refine lp3 (W := fun m x2 x4 τ => lpX4_divideAndRest_16 G h0 (nI d) post _ m x2 x4 τ) (I := fun x2 x4 τ => ∃ i, i ≤ c ∧ x4 = nI i - 1 ∧ (∀ b, b ≠ (G.2.1 h0 0) → τ b = σ b) ∧ (∀ j, j < i → τ ((G.2.1 h0 0)) j = σ ((G.2.1 h0 0)) j) ∧ uL x2 < d ∧ vO σ ((G.2.1 h0 0)) i (c - i) = vO τ ((G.2.1 h0 0)) i (c - i) * d + uL x2) (μ := fun _ x4 _ => (x4 + 1).toNatClampNeg) ?_ v2 v3 σ ⟨c, Nat.le_refl _, e3, fun _ _ => rfl, fun _ _ => rfl, by rw [e2]; exact hd0, by rw [Nat.sub_self, e2]; show 0 = 0 * d + 0; omega⟩
  intro m x2 x4 τ hI ih
  obtain ⟨i, hi, rfl, hf, hun, hx, hv⟩ := hI
  show lpX4_divideAndRest_16 G h0 (nI d) post _ (m + 1) _ _ _
  unfold lpX4_divideAndRest_16
  rw [nI_m1neg (by omega)]
  refine ⟨fun h => ?_, fun h => ?_⟩
  · subst h
    rw [Nat.sub_zero, vO_0, vO_0] at hv
    have hN : wN G σ h0 c = vU τ ((G.2.1 h0 0)) c * d + uL x2 := hv
    have h0' : τ h0 = σ h0 := hf _ (Ne.symm hw.1)
    rw [h0', a1]
    have hq : vU τ ((G.2.1 h0 0)) c = wN G σ h0 c / d := by
      rw [hN, Nat.mul_comm, Nat.mul_add_div hd0, Nat.div_eq_of_lt hx, Nat.add_zero]
    have hrm : uL x2 = wN G σ h0 c % d := by
      rw [hN, Nat.mul_comm, Nat.mul_add_mod, Nat.mod_eq_of_lt hx]
    have hres : x2.toInt32 = nI (wN G σ h0 c % d) := uI_inj (by
      rw [uI_low, uI_nI, hrm])
    rw [hres]
    refine wl_settle hw a2 a3 (fun c' s σ' g1 g2 g3 g4 g5 g6 g7 g8 g9 => ?_)
    have hlm : σ' ((G.2.1 h0 0)) = τ ((G.2.1 h0 0)) := g2 _ hw.1
    refine k c' σ' (fun b hb hb2 => by rw [g2 b hb, hf b hb2]) ⟨g4, Nat.le_trans g1 a2, by rw [g5]; exact g6, fun hz => ?_, fun j hj => by rw [hlm]; exact g9 j hj⟩ ?_ (fun hz => ?_)
    · rw [g5]
      rcases g6 with h | h
      · exact h
      · have := (g7.mp h).2
        omega
    · unfold wN
      rw [vU_congr (σ' := τ) (a' := (G.2.1 h0 0)) (fun j _ => by rw [hlm]), ← vU_trim g1 g8]
      exact hq
    · rw [g5]
      rcases a3 with h | h
      · rw [h]
        exact g6.resolve_right (fun z => absurd (h.symm.trans (g7.mp z).1) (by decide))
      · rw [h]
        exact g7.mpr ⟨h, by omega⟩
  · obtain ⟨i', rfl⟩ : ∃ i', i = i' + 1 := ⟨i - 1, by omega⟩
    rw [nI_pred]
    have hnz : ¬ (nI d).toInt64 = 0 := by rw [uL_eq0, hud]; omega
    refine ⟨vp_lm (by omega) (by omega), fun v7 e7 => ⟨hnz, vp_lm (by omega) (by omega), fun σ10 e10 => ⟨hnz, fun v12 e12 v13 e13 => ?_⟩⟩⟩
    rw [nI_clamp (by omega), hun i' (by omega)] at e7
    rw [nI_clamp (by omega)] at e10
    have hl := uI_lt (σ ((G.2.1 h0 0)) i')
    have h7 : uL v7 = uL x2 * 4294967296 + uI (σ ((G.2.1 h0 0)) i') := by
      rw [e7, uL_two _ _ (by omega) (by rw [uL_ext]; exact hl), uL_ext]
    have h7lt : uL v7 < 2 ^ 63 := by omega
    have hq : uL (v7 / (nI d).toInt64) = uL v7 / d := by rw [uL_div h7lt (by rw [hud]; omega) (by rw [hud]; exact hd0), hud]
    have hr : uL v12 = uL v7 % d := by rw [e12, uL_rem h7lt (by rw [hud]; omega) (by rw [hud]; exact hd0), hud]
    have hqlt : uL v7 / d < 4294967296 := by
      apply Nat.div_lt_of_lt_mul
      have : (uL x2 + 1) * 4294967296 ≤ d * 4294967296 := Nat.mul_le_mul_right _ hx
      omega
    refine ih v12 v13 σ10 ⟨i', by omega, by rw [e13, i32_m1], fun b hb => by rw [e10, q_st_a _ _ hb, hf b hb], fun j hj => by rw [e10, q_st_ne _ _ (by omega)]; exact hun j (by omega), by rw [hr]; exact Nat.mod_lt _ hd0, ?_⟩ ?_
    · rw [show c - i' = c - (i' + 1) + 1 by omega, vO_low, vO_low, hv]
      have z1 : vO σ10 ((G.2.1 h0 0)) (i' + 1) (c - (i' + 1)) = vO τ ((G.2.1 h0 0)) (i' + 1) (c - (i' + 1)) := vO_congr (fun j _ => by rw [e10, q_st_ne _ _ (by omega)])
      have z2 : uI (σ10 ((G.2.1 h0 0)) i') = uL v7 / d := by
        rw [e10, q_st_self, uI_low, hq]
        exact Nat.mod_eq_of_lt hqlt
      have z3 := Nat.div_add_mod (uL v7) d
      rw [z1, z2, hr, Nat.add_mul, Nat.mul_assoc 4294967296, Nat.mul_add, Nat.mul_comm (uL v7 / d) d]
      omega
    · show (v13 + 1).toNatClampNeg < (nI (i' + 1) - 1 + 1).toNatClampNeg
      rw [e13, i32_m1, i32_mp, i32_mp, nI_clamp (by omega), nI_clamp (by omega)]
      omega

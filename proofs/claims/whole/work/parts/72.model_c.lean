/-! Pure level: the reference's shifts; its count of bits. -/
theorem uI_or (x y : Int32) : uI (x ||| y) = uI x ||| uI y := UInt32.toNat_or _ _
theorem ms_k : ∀ r, r < 16 → ((nI r &&& 31).toBitVec.smod 32).toNat = r := by decide
theorem or_add {a b r : Nat} (h : b < 2 ^ r) : a * 2 ^ r ||| b = a * 2 ^ r + b := by
  rw [Nat.mul_comm]
  exact (Nat.two_pow_add_eq_or_of_lt (i := r) h _).symm
/-- what a shift up by r < 16 puts at a place -/
def shD (d : Nat → Nat) (r i : Nat) : Nat := d i * 2 ^ r + (if 0 < i then d (i - 1) * 2 ^ r / 65536 else 0)
theorem shD_c {x r c : Nat} (hr : r < 16) (hc : c < 2 ^ r) : (x * 2 ^ r + c) / 65536 = x * 2 ^ r / 65536 := by
  have hB : 65536 = 2 ^ r * 2 ^ (16 - r) := by rw [← Nat.pow_add, show r + (16 - r) = 16 by omega]
  have hp : 0 < 2 ^ r := Nat.pow_pos (by decide)
  rw [hB, ← Nat.div_div_eq_div_mul, ← Nat.div_div_eq_div_mul, Nat.mul_comm x, Nat.mul_add_div hp, Nat.div_eq_of_lt hc, Nat.add_zero, Nat.mul_div_cancel_left _ hp]
theorem shD_low {x r : Nat} (hr : r < 16) (hx : x < 65536) : x * 2 ^ r / 65536 < 2 ^ r := by
  rw [Nat.div_lt_iff_lt_mul (by decide), Nat.mul_comm (2 ^ r)]
  exact Nat.mul_lt_mul_of_pos_right hx (Nat.pow_pos (by decide))
theorem nv_shl {d : Nat → Nat} {r : Nat} (hr : r < 16) (hd : ∀ j, d j < 65536) : ∀ n, nv 65536 (fun i => shD d r i % 65536) n + (if 0 < n then d (n - 1) * 2 ^ r / 65536 else 0) * 65536 ^ n = nv 65536 d n * 2 ^ r
  | 0 => by show 0 + 0 * 1 = 0 * _; omega
  | n + 1 => by
    have ih := nv_shl hr hd n
    rw [nv_s, nv_s, if_pos (by omega), Nat.add_sub_cancel]
    have hlow : (if 0 < n then d (n - 1) * 2 ^ r / 65536 else 0) < 2 ^ r := by
      split
      · exact shD_low hr (hd _)
      · exact Nat.pow_pos (by decide)
    have hq : d n * 2 ^ r / 65536 = shD d r n / 65536 := by unfold shD; rw [shD_c hr hlow]
    have hcs := carry_step 65536 (shD d r n) (65536 ^ n)
    rw [← Nat.pow_succ] at hcs
    rw [hq, Nat.add_assoc, hcs, Nat.add_mul, ← ih]
    unfold shD
    rw [Nat.add_mul, Nat.mul_right_comm (d n) (65536 ^ n)]
    omega
theorem m_shiftUp {G : qG} {σ : qS} {h d a ca m : Nat} {U : Nat → Nat} {post : qS → Prop} (hM : mS G h U) (hd : d < 24) (ha : a < 24) (hda : d ≠ a) (hW : mW G σ h) (oa : rOk G σ h a ca) (hm : m < 2 ^ 31) (hr : ca + m / 16 + 1 ≤ 520)
    (k : ∀ σ', rR G h d σ σ' (rV G σ h a ca * 2 ^ m) → post σ') : wpX6_shiftUp G h (nI d) (nI a) (nI m) σ post := by
  obtain ⟨a1, a2, a3⟩ := oa
  obtain ⟨⟨gH, gC, gL, gB, gT, gP⟩, kC, kL, kB, kT, kP⟩ := id hM
  unfold wpX6_shiftUp
  have e4 : nI m >>> ((4 : Int32) &&& 31) = nI (m / 16) := pk_shrN hm _ 4 (by decide)
  have e15 : nI m &&& 15 = nI (m % 16) := pk_andN (by omega) 4 (by decide)
  rw [e4, e15, nI_clamp (n := a) (by omega), a1]
  intro v1 e1 v2 e2
  subst e1 e2
  refine ⟨vL hM ha, fun v5 e5 v6 e6 => ?_⟩
  rw [nI_add, nI_1] at e5
  subst e5
  rw [nI_m1 (by omega), Nat.add_sub_cancel] at e6
  have hr16 : m % 16 < 16 := Nat.mod_lt _ (by decide)
  generalize hp : m / 16 = p at *
  generalize hb : m % 16 = b at *
  -- what stands at each place at the end
  have hvals : ∀ i, shD (mdg G σ h a ca) b i % 65536 < 65536 := fun i => Nat.mod_lt _ (by decide)
  refine lp2 (W := fun f x τ => lpX6_shiftUp_30 G h (nI d) (nI a) (nI p) (nI b) (nI (ca + p + 1)) post _ f x τ) (I := fun x τ => ∃ i, i ≤ ca + p + 1 ∧ x = nI i - 1 ∧ rF G h d σ τ ∧ mW G τ h ∧ τ (G.2.1 h 4) d = σ (G.2.1 h 4) d ∧ ∀ t, i ≤ t → t < ca + p + 1 → uI (τ (G.2.1 h 2) (520 * d + t)) = if t < p then 0 else shD (mdg G σ h a ca) b (t - p) % 65536) (μ := fun x _ => (x + 1).toNatClampNeg) ?_ v6 σ ⟨ca + p + 1, Nat.le_refl _, by rw [e6, nI_pred], rF.refl, hW, rfl, fun t t1 t2 => absurd t1 (by omega)⟩
  intro f x τ hI ih
  obtain ⟨i, hi, rfl, hF, hWt, hB, hs⟩ := hI
  have sa := hF.same (Ne.symm hda)
  show lpX6_shiftUp_30 G h (nI d) (nI a) (nI p) (nI b) (nI (ca + p + 1)) post _ (f + 1) _ _
  unfold lpX6_shiftUp_30
  rw [nI_m1neg (by omega)]
  refine ⟨fun h0 => ?_, fun h0 => ?_⟩
  · subst h0
    refine m_trim hM hd (by omega) hWt (fun σ' g1 g2 => k σ' ?_)
    obtain ⟨r1, r2, r3, c, r4, r5, r6⟩ := g2
    refine ⟨hF.trans r1, r2, fun q => r3 (by rw [hB]; exact q), c, r4, ?_, r6⟩
    rw [r5, show ca + p + 1 = p + (ca + 1) by omega, mO_add]
    have z0 : mO τ (G.2.1 h 2) (520 * d) p = 0 := nv_zero (fun t ht => by rw [hs t (by omega) (by omega), if_pos ht])
    have z1 : mO τ (G.2.1 h 2) (520 * d + p) (ca + 1) = nv 65536 (fun i => shD (mdg G σ h a ca) b i % 65536) (ca + 1) := nv_congr (fun t ht => by
      show uI (τ (G.2.1 h 2) (520 * d + p + t)) = _
      rw [show 520 * d + p + t = 520 * d + (p + t) by omega, hs (p + t) (by omega) (by omega), if_neg (by omega), Nat.add_sub_cancel_left])
    have z2 := nv_shl (d := mdg G σ h a ca) (r := b) hr16 (fun j => mdg_lt hW) (ca + 1)
    have z3 : mdg G σ h a ca (ca + 1 - 1) = 0 := by unfold mdg; rw [if_neg (by omega)]
    rw [if_pos (by omega), z3, Nat.zero_mul, Nat.zero_div, Nat.zero_mul, Nat.add_zero, nv_mdg G σ h a ca (by omega)] at z2
    rw [z0, z1, z2, Nat.zero_add]
    have e16 : (65536 : Nat) ^ p = 2 ^ (16 * p) := by rw [Nat.pow_mul]
    rw [e16, Nat.mul_left_comm, ← Nat.pow_add, show 16 * p + b = m by omega]
  · obtain ⟨t, rfl⟩ : ∃ t, i = t + 1 := ⟨i - 1, by omega⟩
    rw [nI_pred, nI_ltI (by omega) (by omega)]
    have step : ∀ hi lo : Nat, hi < 65536 → lo < 65536 → (if t < p then 0 else shD (mdg G σ h a ca) b (t - p) % 65536) = (hi * 2 ^ b + lo * 2 ^ b / 65536) % 65536 → bkX6_shiftUp_81 G h (nI d) (nI a) (nI p) (nI b) (nI (ca + p + 1)) (nI t) (nI hi) (nI lo) post (lpX6_shiftUp_30 G h (nI d) (nI a) (nI p) (nI b) (nI (ca + p + 1)) post (fun (σ17 : qS) => wpX6_trim G h (nI d) (nI (ca + p + 1)) σ17 (fun (σ18 : qS) => post σ18)) f) τ := by
      intro hi lo lh ll hval
      unfold bkX6_shiftUp_81
      have hb15 : 2 ^ b ≤ 2 ^ 15 := Nat.pow_le_pow_right (by decide) (by omega)
      have bh : hi * 2 ^ b ≤ 65535 * 2 ^ 15 := Nat.mul_le_mul (by omega) hb15
      have bl' : lo * 2 ^ b ≤ 65535 * 2 ^ 15 := Nat.mul_le_mul (by omega) hb15
      rw [pk_shlN _ b (ms_k b hr16) (by omega), pk_shlN _ b (ms_k b hr16) (by omega), m_shr16 (by omega)]
      refine m_put hM hd (by omega) (fun σ10 e10 v12 e12 => ?_)
      have hval2 : uI (nI (hi * 2 ^ b) ||| nI (lo * 2 ^ b / 65536)) = hi * 2 ^ b + lo * 2 ^ b / 65536 := by
        rw [uI_or, uI_n (by omega), uI_n (by omega), or_add (shD_low hr16 ll)]
      rw [m_and, hval2, ← hval] at e10
      have hsm : (if t < p then 0 else shD (mdg G σ h a ca) b (t - p) % 65536) < 65536 := by
        rw [hval]; exact Nat.mod_lt _ (by decide)
      refine ih v12 σ10 ⟨t, by omega, by rw [e12, i32_m1], hF.trans (rF_put hM (by omega) e10), mW_put hM hWt (by rw [uI_n (by omega)]; exact hsm) e10, by rw [e10, q_st_a _ _ (ntg (T := U) (by omega)), hB], fun u u1 u2 => ?_⟩ ?_
      · rcases Nat.lt_or_ge t u with h3 | h3
        · rw [e10, q_st_ne _ _ (by omega)]; exact hs u (by omega) u2
        · rw [show u = t by omega, e10, q_st_self, uI_n (by omega)]
      · show (v12 + 1).toNatClampNeg < (nI (t + 1) - 1 + 1).toNatClampNeg
        rw [e12, i32_m1, i32_mp, i32_mp, nI_clamp (by omega), nI_clamp (by omega)]
        omega
    have hl : τ (G.2.1 h 3) a = nI ca := by rw [sa.2.1]; exact a1
    refine ⟨fun h1 => ?_, fun h1 => ?_⟩
    · unfold bkX6_shiftUp_56
      rw [nI_leI (by omega) (by omega)]
      refine ⟨fun _ => step 0 0 (by decide) (by decide) ?_, fun h2 => absurd h2 (by omega)⟩
      rw [if_pos h1, Nat.zero_mul]
    · rw [pk_sub (by omega)]
      refine m_digit hM ha (by omega) hl a2 ?_
      rw [mdg_same sa a2]
      have w1 := mdg_lt (r := a) (c := ca) (k := t - p) hW
      unfold bkX6_shiftUp_56
      rw [nI_leI (by omega) (by omega)]
      refine ⟨fun h2 => step _ 0 w1 (by decide) ?_, fun h2 => ?_⟩
      · rw [if_neg h1, Nat.zero_mul]
        unfold shD
        rw [if_neg (by omega)]
      · rw [pk_sub (by omega), nI_m1 (by omega)]
        refine m_digit hM ha (by omega) hl a2 ?_
        rw [mdg_same sa a2]
        refine step _ _ w1 (mdg_lt hW) ?_
        rw [if_neg h1]
        unfold shD
        rw [if_pos (by omega)]
theorem nv_shr16 {r : Nat} (hr : r ≤ 16) : ∀ (q : Nat) (d : Nat → Nat), (∀ j, j < q → d j < 65536) → nv 65536 (fun i => ((if i + 1 < q then d (i + 1) else 0) * 65536 + d i) / 2 ^ r % 65536) q = nv 65536 d q / 2 ^ r
  | 0, d, _ => by simp [nv]
  | q + 1, d, hd => by
    have ih := nv_shr16 hr q (fun i => d (i + 1)) (fun j hj => hd (j + 1) (by omega))
    have hP := Nat.two_pow_pos r
    rw [nv_low, nv_low]
    have e1 : nv 65536 (fun i => ((if i + 1 + 1 < q + 1 then d (i + 1 + 1) else 0) * 65536 + d (i + 1)) / 2 ^ r % 65536) q = nv 65536 (fun i => d (i + 1)) q / 2 ^ r := by
      rw [← ih]
      refine nv_congr (fun i _ => ?_)
      simp only [Nat.add_lt_add_iff_right]
    rw [e1]
    have h0 : d 0 < 65536 := hd 0 (by omega)
    generalize hV' : nv 65536 (fun i => d (i + 1)) q = V'
    have hdig : V' % 65536 = (if 0 + 1 < q + 1 then d (0 + 1) else 0) := by
      rw [← hV']
      cases q with
      | zero => rfl
      | succ q =>
        rw [nv_low, Nat.add_mul_mod_self_left, if_pos (by omega)]
        exact Nat.mod_eq_of_lt (hd 1 (by omega))
    rw [← hdig]
    have hX : (V' % 65536 * 65536 + d 0) / 2 ^ r % 65536 = (d 0 + 65536 * V') / 2 ^ r % 65536 := by
      rw [← Nat.mod_mul_right_div_self, ← Nat.mod_mul_right_div_self]
      congr 1
      have hB : 65536 = 2 ^ r * 2 ^ (16 - r) := by rw [← Nat.pow_add, show r + (16 - r) = 16 by omega]
      have hsplit : d 0 + 65536 * V' = (V' % 65536 * 65536 + d 0) + (2 ^ r * 65536) * (2 ^ (16 - r) * (V' / 65536)) := by
        have h1 := Nat.mod_add_div V' 65536
        have h2 : (2 ^ r * 65536) * (2 ^ (16 - r) * (V' / 65536)) = 65536 * (65536 * (V' / 65536)) := by
          rw [Nat.mul_assoc, Nat.mul_left_comm 65536 (2 ^ (16 - r)), ← Nat.mul_assoc (2 ^ r) (2 ^ (16 - r)), ← hB]
        rw [h2]
        generalize V' / 65536 = Q at h1
        generalize V' % 65536 = M at h1
        rw [← h1, Nat.mul_add]
        omega
      rw [hsplit, Nat.add_mul_mod_self_left]
    have hY : (d 0 + 65536 * V') / 2 ^ r / 65536 = V' / 2 ^ r := by
      rw [Nat.div_div_eq_div_mul, Nat.mul_comm (2 ^ r) 65536, ← Nat.div_div_eq_div_mul, Nat.add_mul_div_left _ _ (show 0 < 65536 by decide), Nat.div_eq_of_lt h0, Nat.zero_add]
    rw [hX, ← hY]
    exact Nat.mod_add_div _ _
theorem m_shiftDown {G : qG} {σ : qS} {h d a ca m : Nat} {U : Nat → Nat} {post : qS → Prop} (hM : mS G h U) (hd : d < 24) (ha : a < 24) (hda : d ≠ a) (hW : mW G σ h) (oa : rOk G σ h a ca) (hm : m < 2 ^ 31)
    (k : ∀ σ', rR G h d σ σ' (rV G σ h a ca / 2 ^ m) → post σ') : wpX6_shiftDown G h (nI d) (nI a) (nI m) σ post := by
  obtain ⟨a1, a2, a3⟩ := oa
  obtain ⟨⟨gH, gC, gL, gB, gT, gP⟩, kC, kL, kB, kT, kP⟩ := id hM
  unfold wpX6_shiftDown
  have e4 : nI m >>> ((4 : Int32) &&& 31) = nI (m / 16) := pk_shrN hm _ 4 (by decide)
  have e15 : nI m &&& 15 = nI (m % 16) := pk_andN (by omega) 4 (by decide)
  rw [e4, e15, nI_clamp (n := a) (by omega), a1]
  intro v1 e1 v2 e2
  subst e1 e2
  have hr16 : m % 16 < 16 := Nat.mod_lt _ (by decide)
  have hpm : 16 * (m / 16) + m % 16 = m := by omega
  have hpb : m / 16 < 2 ^ 28 := by omega
  generalize hp : m / 16 = p at *
  generalize hb : m % 16 = b at *
  have go : ∀ n, n + p = ca ∨ (n = 0 ∧ ca ≤ p) → bkX6_shiftDown_35 G h (nI d) (nI a) (nI p) (nI b) (nI n) post σ := by
    intro n hn
    unfold bkX6_shiftDown_35
    rw [nI_clamp (n := a) (by omega), a1]
    refine ⟨vL hM ha, fun v8 e8 v9 e9 => ?_⟩
    subst e8
    refine lp2 (W := fun f x τ => lpX6_shiftDown_48 G h (nI d) (nI a) (nI p) (nI b) (nI n) (nI ca) post _ f x τ) (I := fun x τ => ∃ i, i ≤ n ∧ x = nI i ∧ rF G h d σ τ ∧ mW G τ h ∧ τ (G.2.1 h 4) d = σ (G.2.1 h 4) d ∧ ∀ t, t < i → uI (τ (G.2.1 h 2) (520 * d + t)) = ((if t + 1 < n then uI (σ (G.2.1 h 2) (520 * a + p + (t + 1))) else 0) * 65536 + uI (σ (G.2.1 h 2) (520 * a + p + t))) / 2 ^ b % 65536) (μ := fun x _ => n - x.toNatClampNeg) ?_ v9 σ ⟨0, by omega, e9, rF.refl, hW, rfl, fun t ht => absurd ht (by omega)⟩
    intro f x τ hI ih
    obtain ⟨i, hi, rfl, hF, hWt, hB, hs⟩ := hI
    have sa := hF.same (Ne.symm hda)
    show lpX6_shiftDown_48 G h (nI d) (nI a) (nI p) (nI b) (nI n) (nI ca) post _ (f + 1) _ _
    unfold lpX6_shiftDown_48
    rw [nI_leI (by omega) (by omega), nI_add, nI_leI (by omega) (by omega)]
    refine ⟨fun h1 => ?_, fun h1 => ?_⟩
    · have : i = n := by omega
      subst this
      refine m_trim hM hd (by omega) hWt (fun σ' g1 g2 => k σ' ?_)
      obtain ⟨r1, r2, r3, c, r4, r5, r6⟩ := g2
      refine ⟨hF.trans r1, r2, fun q => r3 (by rw [hB]; exact q), c, r4, ?_, r6⟩
      have e16 : (65536 : Nat) ^ p = 2 ^ (16 * p) := by rw [Nat.pow_mul]
      have z1 : mO τ (G.2.1 h 2) (520 * d) i = mO σ (G.2.1 h 2) (520 * a + p) i / 2 ^ b := by
        exact (nv_congr (fun t ht => hs t ht)).trans (nv_shr16 (r := b) (by omega) i (fun t => uI (σ (G.2.1 h 2) (520 * a + p + t))) (fun j _ => hW.1 _))
      rw [r5, z1]
      rcases hn with hn | ⟨hn, hn2⟩
      · have z2 : rV G σ h a ca = mO σ (G.2.1 h 2) (520 * a) p + 65536 ^ p * mO σ (G.2.1 h 2) (520 * a + p) i := by
          rw [← hn, Nat.add_comm i p]
          exact mO_add σ (G.2.1 h 2) (520 * a) p i
        have z3 : mO σ (G.2.1 h 2) (520 * a) p < 65536 ^ p := nv_lt (by decide) (fun j _ => hW.1 _)
        rw [← hpm, Nat.pow_add, ← Nat.div_div_eq_div_mul, ← e16, z2, Nat.add_mul_div_left _ _ (Nat.pow_pos (by decide)), Nat.div_eq_of_lt z3, Nat.zero_add]
      · subst hn
        have z3 : rV G σ h a ca < 65536 ^ ca := rV_lt hW
        have z4 : 65536 ^ ca ≤ 65536 ^ p := Nat.pow_le_pow_right (by decide) hn2
        rw [← hpm, Nat.pow_add, ← Nat.div_div_eq_div_mul, ← e16, Nat.div_eq_of_lt (show rV G σ h a ca < 65536 ^ p by omega)]
        rfl
    · have hlow : ¬ ca ≤ i + p := by omega
      refine ⟨fun h2 => absurd h2 hlow, fun _ => ?_⟩
      rw [m_ix, nI_add, nI_clamp (by omega)]
      refine ⟨vC hM (by omega), ?_⟩
      rw [nI_uI' (τ (G.2.1 h 2) (520 * a + i + p)), show 520 * a + i + p = 520 * a + (i + p) by omega, sa.1 (i + p) (by omega), show 520 * a + (i + p) = 520 * a + p + i by omega]
      have w1 := hW.1 (520 * a + p + i)
      have step : ∀ hi : Nat, hi < 65536 → hi = (if i + 1 < n then uI (σ (G.2.1 h 2) (520 * a + p + (i + 1))) else 0) → bkX6_shiftDown_121 G h (nI d) (nI a) (nI p) (nI b) (nI n) (nI ca) (nI i) (nI (uI (σ (G.2.1 h 2) (520 * a + p + i)))) (nI hi) post (lpX6_shiftDown_48 G h (nI d) (nI a) (nI p) (nI b) (nI n) (nI ca) post (fun (σ20 : qS) => wpX6_trim G h (nI d) (nI n) σ20 (fun (σ21 : qS) => post σ21)) f) τ := by
        intro hi lh hval
        unfold bkX6_shiftDown_121
        refine m_put hM hd (by omega) (fun σ13 e13 v15 e15 => ?_)
        have hsl : uI (nI hi <<< ((16 : Int32) &&& 31)) = hi * 65536 := by
          have := pk_shl (nI hi) ((16 : Int32) &&& 31) 16 (by decide)
          have h2 : uI (nI hi <<< ((16 : Int32) &&& 31)) = uI (nI hi) * 2 ^ 16 % 2 ^ 32 := this
          rw [h2, uI_n (by omega)]
          omega
        have hor : uI (nI hi <<< ((16 : Int32) &&& 31) ||| nI (uI (σ (G.2.1 h 2) (520 * a + p + i)))) = hi * 65536 + uI (σ (G.2.1 h 2) (520 * a + p + i)) := by
          rw [uI_or, hsl, uI_n (by omega)]
          exact or_add (r := 16) w1
        rw [m_and, uI_sru _ (by omega), hor, hval] at e13
        refine ih v15 σ13 ⟨i + 1, by omega, by rw [e15, nI_1], hF.trans (rF_put hM (by omega) e13), mW_put hM hWt (by rw [uI_n (by omega)]; omega) e13, by rw [e13, q_st_a _ _ (ntg (T := U) (by omega)), hB], fun t ht => ?_⟩ ?_
        · rcases Nat.lt_or_ge t i with h3 | h3
          · rw [e13, q_st_ne _ _ (by omega)]; exact hs t h3
          · rw [show t = i by omega, e13, q_st_self, uI_n (by omega)]
        · show n - v15.toNatClampNeg < n - (nI i).toNatClampNeg
          rw [e15, nI_1, nI_clamp (by omega), nI_clamp (by omega)]
          omega
      unfold bkX6_shiftDown_85
      rw [nI_add, nI_1, nI_leI (by omega) (by omega)]
      refine ⟨fun h2 => step 0 (by decide) (by rw [if_neg (by omega)]), fun h2 => ?_⟩
      rw [m_ix, nI_add, nI_1, nI_clamp (by omega)]
      refine ⟨vC hM (by omega), ?_⟩
      rw [nI_uI' (τ (G.2.1 h 2) (520 * a + i + p + 1)), show 520 * a + i + p + 1 = 520 * a + (i + p + 1) by omega, sa.1 (i + p + 1) (by omega), show 520 * a + (i + p + 1) = 520 * a + p + (i + 1) by omega]
      exact step _ (hW.1 _) (by rw [if_pos (by omega)])
  rw [nI_leI (by omega) (by omega)]
  refine ⟨vL hM ha, fun h1 => go 0 (Or.inr ⟨rfl, h1⟩), fun h1 => ⟨vL hM ha, ?_⟩⟩
  rw [pk_sub (by omega)]
  exact go (ca - p) (Or.inl (by omega))
theorem isBits_hi {N d n t : Nat} (h : N < 65536 ^ n) (ht : isBits d t) (hd : 0 < d) : isBits (N + d * 65536 ^ n) (16 * n + t) := by
  have e16 : (65536 : Nat) ^ n = 2 ^ (16 * n) := by rw [Nat.pow_mul]
  rcases ht with ⟨h1, -⟩ | ⟨h1, h2, h3⟩
  · omega
  · rw [e16] at h ⊢
    refine Or.inr ⟨by omega, ?_, ?_⟩
    · rw [show 16 * n + t - 1 = (t - 1) + 16 * n by omega, Nat.pow_add]
      have := Nat.mul_le_mul_right (2 ^ (16 * n)) h2
      omega
    · have h4 : (d + 1) * 2 ^ (16 * n) ≤ 2 ^ t * 2 ^ (16 * n) := Nat.mul_le_mul_right _ h3
      rw [Nat.pow_add, Nat.mul_comm (2 ^ (16 * n))]
      rw [Nat.add_mul, Nat.one_mul] at h4
      omega
theorem isBits_half {d t : Nat} (hd : 0 < d) (h : isBits (d / 2) t) : isBits d (t + 1) := by
  rcases h with ⟨h1, h2⟩ | ⟨h1, h2, h3⟩
  · have : d = 1 := by omega
    subst this h2
    exact Or.inr ⟨by decide, by decide, by decide⟩
  · refine Or.inr ⟨by omega, ?_, ?_⟩
    · rw [Nat.add_sub_cancel]
      have : 2 ^ t = 2 ^ (t - 1) * 2 := by rw [← Nat.pow_succ]; congr 1; omega
      omega
    · rw [Nat.pow_succ]
      omega
theorem m_bitsOf {G : qG} {σ : qS} {h a ca : Nat} {U : Nat → Nat} {post : Int32 → qS → Prop} (hM : mS G h U) (ha : a < 24) (hW : mW G σ h) (oa : rOk G σ h a ca)
    (k : post (nI (bl (rV G σ h a ca))) σ) : wpX6_bitsOf G h (nI a) σ post := by
  have hz := rOk_zero hW oa
  obtain ⟨a1, a2, a3⟩ := oa
  unfold wpX6_bitsOf
  rw [nI_clamp (n := a) (by omega), a1, nI_le0 (by omega)]
  intro v1 e1
  refine ⟨vL hM ha, fun h0 => ?_, fun h0 => ⟨vL hM ha, fun v6 e6 => ⟨vL hM ha, ?_⟩⟩⟩
  · rw [hz.mp h0] at k
    rw [e1]
    exact k
  · obtain ⟨c, rfl⟩ : ∃ c, ca = c + 1 := ⟨ca - 1, by omega⟩
    rw [nI_pred] at e6 ⊢
    refine m_digit hM ha (by omega) a1 a2 ?_
    have ed : mdg G σ h a (c + 1) c = uI (σ (G.2.1 h 2) (520 * a + c)) := by unfold mdg; rw [if_pos (by omega)]
    have hd0 := a3 c rfl
    have hd1 := hW.1 (520 * a + c)
    rw [ed]
    have hNs : rV G σ h a (c + 1) = rV G σ h a c + uI (σ (G.2.1 h 2) (520 * a + c)) * 65536 ^ c := rfl
    have hlow : rV G σ h a c < 65536 ^ c := rV_lt hW
    have e16 : (16 : Int32) = nI 16 := by decide
    rw [e16, pk_mul] at e6
    subst e6
    -- the end
    have fin : ∀ t, t ≤ 16 → isBits (uI (σ (G.2.1 h 2) (520 * a + c))) t → post (nI (16 * c + t)) σ := by
      intro t _ ht
      have hB := isBits_hi hlow ht (Nat.pos_of_ne_zero hd0)
      rw [← hNs] at hB
      rw [← isBits_unique hB (bl_is _)] at k
      exact k
    generalize hdd : uI (σ (G.2.1 h 2) (520 * a + c)) = dd at *
    refine lp3 (W := fun f x2 x3 τ => lpX6_bitsOf_37 G post _ f x2 x3 τ) (I := fun x2 x3 τ => τ = σ ∧ ∃ t, t ≤ 16 ∧ x2 = nI (16 * c + t) ∧ x3 = nI (dd / 2 ^ t) ∧ ∀ s, isBits (dd / 2 ^ t) s → isBits dd (s + t)) (μ := fun _ x3 _ => x3.toNatClampNeg) ?_ _ _ σ ⟨rfl, 0, by omega, rfl, by rw [Nat.pow_zero, Nat.div_one], fun s hs => by rw [Nat.pow_zero, Nat.div_one] at hs; exact hs⟩
    intro f x2 x3 τ hI ih
    obtain ⟨rfl, t, ht, rfl, rfl, hb⟩ := hI
    have hle : dd / 2 ^ t ≤ dd := Nat.div_le_self _ _
    show lpX6_bitsOf_37 G post _ (f + 1) _ _ _
    unfold lpX6_bitsOf_37
    rw [nI_le0 (by omega)]
    refine ⟨fun h1 => ?_, fun h1 v11 e11 v12 e12 => ?_⟩
    · have := hb 0 (Or.inl ⟨h1, rfl⟩)
      rw [Nat.zero_add] at this
      exact fin t ht this
    · have e1' : nI (dd / 2 ^ t) >>> ((1 : Int32) &&& 31) = nI (dd / 2 ^ t / 2) := pk_shrN (by omega) _ 1 (by decide)
      rw [e1'] at e12
      have ht2 : t ≤ 15 := by
        rcases Nat.lt_or_ge 15 t with h2 | h2
        · have : t = 16 := by omega
          subst this
          rw [Nat.div_eq_of_lt (by omega)] at h1
          exact absurd rfl h1
        · exact h2
      refine ih v11 v12 τ ⟨rfl, t + 1, by omega, by rw [e11, nI_1]; rfl, by rw [e12, Nat.pow_succ, Nat.div_div_eq_div_mul], fun s hs => ?_⟩ ?_
      · rw [Nat.pow_succ, ← Nat.div_div_eq_div_mul] at hs
        have := hb (s + 1) (isBits_half (Nat.pos_of_ne_zero h1) hs)
        rw [show s + 1 + t = s + (t + 1) by omega] at this
        exact this
      · show v12.toNatClampNeg < (nI (dd / 2 ^ t)).toNatClampNeg
        rw [e12, nI_clamp (by omega), nI_clamp (by omega)]
        exact Nat.div_lt_self (Nat.pos_of_ne_zero h1) (by decide)

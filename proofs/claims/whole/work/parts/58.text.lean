/-! Pure level: the class Text. (G.2.1 h0 0): its row of bytes. txOk: k characters of f stand at its end, f counted from the end. -/
def txOk (G : qG) (σ : qS) (h0 t : Nat) (f : Nat → Nat) : Prop := t ≤ G.2.2 (G.2.1 h0 0) ∧ σ h0 1 = nI (G.2.2 (G.2.1 h0 0) - t) ∧ ∀ k, k < t → σ (G.2.1 h0 0) (G.2.2 (G.2.1 h0 0) - 1 - k) = nI (f k)
theorem i8_k : ∀ v, v < 128 → (nI v).toInt8.toInt32.toInt8.toInt32 = nI v := by decide +kernel
theorem wl_prepend {G : qG} {h0 t v : Nat} {f : Nat → Nat} {σ : qS} {post : qS → Prop} (hne : (G.2.1 h0 0) ≠ h0) (hcap : G.2.2 (G.2.1 h0 0) < 100000) (ho : txOk G σ h0 t f) (ht : t < G.2.2 (G.2.1 h0 0)) (hv : v < 128) (hf : f t = v)
    (k : ∀ σ' : qS, (∀ b, b ≠ h0 → b ≠ (G.2.1 h0 0) → σ' b = σ b) → txOk G σ' h0 (t + 1) f → post σ') : wpX3_prepend G h0 (nI v) σ post := by
  obtain ⟨a1, a2, a3⟩ := ho
  unfold wpX3_prepend
  rw [a2]
  refine ⟨fun h => absurd h (nI_nle (by omega) (by omega)), fun _ σ2 e2 => ?_⟩
  rw [nI_m1 (by omega)] at e2
  have e21 : σ2 h0 1 = nI (G.2.2 (G.2.1 h0 0) - t - 1) := by rw [e2, q_st_self]
  rw [e21]
  refine ⟨vp_in_nI (by omega) (by omega), fun σ5 e5 => ?_⟩
  rw [nI_clamp (by omega), i8_k v hv] at e5
  refine k σ5 (fun b h1 h2 => by rw [e5, q_st_a _ _ h2, e2, q_st_a _ _ h1]) ⟨by omega, by rw [e5, q_st_a _ _ (Ne.symm hne), e21, Nat.sub_sub], fun j hj => ?_⟩
  rcases Nat.lt_or_ge j t with h | h
  · rw [e5, q_st_ne _ _ (by omega), e2, q_st_a _ _ hne]
    exact a3 j h
  · have : j = t := by omega
    subst this
    rw [e5, show G.2.2 (G.2.1 h0 0) - 1 - j = G.2.2 (G.2.1 h0 0) - j - 1 by omega, q_st_self, hf]
theorem wl_prependDigits {G : qG} {h0 t D m l : Nat} {f : Nat → Nat} {σ : qS} {post : qS → Prop} (hne : (G.2.1 h0 0) ≠ h0) (hcap : G.2.2 (G.2.1 h0 0) < 100000) (ho : txOk G σ h0 t f) (ht : t + m ≤ G.2.2 (G.2.1 h0 0)) (hm9 : m ≤ 9) (hlm : l ≤ m) (hD : D < 10 ^ m) (hl : m = l ∨ 10 ^ (m - 1) ≤ D) (hf : ∀ k, k < m → f (t + k) = 48 + D / 10 ^ k % 10)
    (k : ∀ σ' : qS, (∀ b, b ≠ h0 → b ≠ (G.2.1 h0 0) → σ' b = σ b) → txOk G σ' h0 (t + m) f → post σ') : wpX3_prependDigits G h0 (nI D) (nI l) σ post := by
  have hDb : D < 2 ^ 31 := by
    have : 10 ^ m ≤ 10 ^ 9 := Nat.pow_le_pow_right (by decide) hm9
    omega
  unfold wpX3_prependDigits
  intro v1 e1
  refine lp3 (W := fun n x3 x4 τ => lpX3_prependDigits_5 G h0 (nI l) post _ n x3 x4 τ) (I := fun x3 x4 τ => ∃ i, i ≤ m ∧ x4 = nI i ∧ x3 = nI (D / 10 ^ i) ∧ (∀ b, b ≠ h0 → b ≠ (G.2.1 h0 0) → τ b = σ b) ∧ txOk G τ h0 (t + i) f) (μ := fun _ x4 _ => 10 - x4.toNatClampNeg) ?_ (nI D) v1 σ ⟨0, Nat.zero_le _, by rw [e1]; rfl, by rw [Nat.pow_zero, Nat.div_one], fun _ _ _ => rfl, ho⟩
  intro n x3 x4 τ hI ih
  obtain ⟨i, hi, rfl, rfl, hfr, htx⟩ := hI
  have hDi : D / 10 ^ i ≤ D := Nat.div_le_self _ _
  have hpos : 0 < 10 ^ i := Nat.pow_pos (by decide)
  have step : i < m → bkX3_prependDigits_22 G h0 (nI l) (nI (D / 10 ^ i)) (nI i) post (lpX3_prependDigits_5 G h0 (nI l) post (fun (σ9 : qS) => post σ9) n) τ := by
    intro him
    unfold bkX3_prependDigits_22
    have ediv : nI (D / 10 ^ i) / 10 = nI (D / 10 ^ i / 10) := pk_div (a := D / 10 ^ i) (d := 10) (by omega) (by decide) (by decide)
    have erem : nI (D / 10 ^ i) - nI (D / 10 ^ i) / 10 * 10 = nI (D / 10 ^ i % 10) := pk_rem (a := D / 10 ^ i) (d := 10) (by omega) (by decide) (by decide)
    have echar : (48 : Int32) + nI (D / 10 ^ i % 10) = nI (48 + D / 10 ^ i % 10) := nI_add 48 _
    rw [erem, ediv, echar]
    refine wl_prepend hne hcap htx (by omega) (by omega) (hf i him) (fun σ' g1 g2 v6 e6 v7 e7 => ih v6 v7 σ' ⟨i + 1, by omega, by rw [e7, nI_1], by rw [e6, Nat.pow_succ, Nat.div_div_eq_div_mul], fun b h1 h2 => by rw [g1 b h1 h2, hfr b h1 h2], g2⟩ ?_)
    show 10 - v7.toNatClampNeg < 10 - (nI i).toNatClampNeg
    rw [e7, nI_1, nI_clamp (by omega), nI_clamp (by omega)]
    omega
  have fin : i = m → post τ := fun h => k τ hfr (by rw [← h]; exact htx)
  show lpX3_prependDigits_5 G h0 (nI l) post _ (n + 1) _ _ _
  unfold lpX3_prependDigits_5
  have e9 : (9 : Int32) ≤ nI i ↔ 9 ≤ i := nI_leI (a := 9) (by decide) (by omega)
  rw [e9, nI_ltI (by omega) (by omega), nI_le0 (by omega)]
  refine ⟨fun h => fin (by omega), fun h => ⟨fun h2 => step (by omega), fun h2 => ⟨fun h3 => fin ?_, fun h3 => step ?_⟩⟩⟩
  · rcases Nat.lt_or_ge i m with h4 | h4
    · exfalso
      rcases hl with h5 | h5
      · omega
      · have h6 : 10 ^ i ≤ 10 ^ (m - 1) := Nat.pow_le_pow_right (by decide) (by omega)
        rcases Nat.div_eq_zero_iff.mp h3 with h7 | h7 <;> omega
    · omega
  · rcases Nat.lt_or_ge i m with h4 | h4
    · exact h4
    · exfalso
      have : i = m := by omega
      subst this
      exact h3 (Nat.div_eq_of_lt hD)
/-- N has m decimal digits -/
def isDig (N m : Nat) : Prop := 0 < m ∧ N < 10 ^ m ∧ (m = 1 ∨ 10 ^ (m - 1) ≤ N)
theorem isDig_unique {N m m' : Nat} (h : isDig N m) (h' : isDig N m') : m = m' := by
  obtain ⟨a, b, c⟩ := h
  obtain ⟨a', b', c'⟩ := h'
  rcases Nat.lt_trichotomy m m' with h1 | h1 | h1
  · have : 10 ^ m ≤ 10 ^ (m' - 1) := Nat.pow_le_pow_right (by decide) (by omega)
    omega
  · exact h1
  · have : 10 ^ m' ≤ 10 ^ (m - 1) := Nat.pow_le_pow_right (by decide) (by omega)
    omega
theorem isDig_ex : ∀ N : Nat, ∃ m, isDig N m := by
  intro N
  induction N using Nat.strongRecOn with
  | _ N ih =>
    rcases Nat.lt_or_ge N 10 with h | h
    · exact ⟨1, by decide, by omega, Or.inl rfl⟩
    · obtain ⟨m, a, b, c⟩ := ih (N / 10) (by omega)
      refine ⟨m + 1, by omega, by rw [Nat.pow_succ]; omega, Or.inr ?_⟩
      rw [Nat.add_sub_cancel]
      rcases c with c | c
      · subst c; omega
      · have : 10 ^ m = 10 ^ (m - 1) * 10 := by rw [← Nat.pow_succ]; congr 1; omega
        omega
/-- the characters of z, from the last on, where its size has m digits -/
def tch (N m k : Nat) : Nat := if k < m then 48 + N / 10 ^ k % 10 else 45
theorem pow10_32 (w : Nat) : 4294967296 ^ w ≤ 10 ^ (10 * w) := by
  rw [Nat.pow_mul]
  exact Nat.pow_le_pow_left (by decide) w
theorem isDig_le {N m M : Nat} (hM : 0 < M) (h : isDig N m) (hN : N < 10 ^ M) : m ≤ M := by
  obtain ⟨a, b, c⟩ := h
  rcases c with c | c
  · omega
  · rcases Nat.lt_or_ge M m with h1 | h1
    · have : 10 ^ M ≤ 10 ^ (m - 1) := Nat.pow_le_pow_right (by decide) (by omega)
      omega
    · exact h1
theorem wl_print {G : qG} {h0 h1 h2 c w m : Nat} {σ : qS} {post : qS → Prop} (hne : (G.2.1 h0 0) ≠ h0) (hw1 : wFix G h1) (hw2 : wFix G h2) (hw0 : 0 < w) (hww : w ≤ 120) (hcap : G.2.2 (G.2.1 h0 0) = 10 * w + 1) (ho : wOk G σ h1 c) (hc : c ≤ w) (hr : c ≤ G.2.2 ((G.2.1 h2 0))) (hm : isDig (wN G σ h1 c) m)
    (n21 : (G.2.1 h2 0) ≠ h1) (n20 : h2 ≠ h0) (n2T : h2 ≠ (G.2.1 h0 0)) (l20 : (G.2.1 h2 0) ≠ h0) (l2T : (G.2.1 h2 0) ≠ (G.2.1 h0 0)) (n10 : h1 ≠ h0) (n1T : h1 ≠ (G.2.1 h0 0)) (n12 : h1 ≠ h2)
    (k : ∀ (t : Nat) (σ' : qS), (∀ b, b ≠ h0 → b ≠ (G.2.1 h0 0) → b ≠ h2 → b ≠ (G.2.1 h2 0) → σ' b = σ b) → t = m + (if wZ G σ h1 c < 0 then 1 else 0) → txOk G σ' h0 t (tch (wN G σ h1 c) m) → post σ') : wpX3_print G h0 h1 h2 σ post := by
  have hN : wN G σ h1 c < 4294967296 ^ w := (wOk_count ho).mp hc
  have h10 := pow10_32 w
  generalize hNe : wN G σ h1 c = N at *
  have hmw : m ≤ 10 * w := isDig_le (by omega) hm (by omega)
  have hcap' : G.2.2 (G.2.1 h0 0) < 100000 := by omega
  unfold wpX3_print
  refine wl_become hw2 hw1 ho hr n21 (fun σ1 f1 o1 v1 _ σ4 e4 => ?_)
  rw [hNe] at v1
  have o4 : wOk G σ4 h2 c := (wOk_keep (σ' := σ4) o1 (by rw [e4, q_st_a _ _ n20]) (by rw [e4, q_st_a _ _ l20])).1
  have v4 : wN G σ4 h2 c = N := by rw [(wOk_keep (σ' := σ4) o1 (by rw [e4, q_st_a _ _ n20]) (by rw [e4, q_st_a _ _ l20])).2.1, v1]
  have t4 : txOk G σ4 h0 0 (tch N m) := ⟨Nat.zero_le _, by rw [e4, q_st_self]; rfl, fun k hk => absurd hk (by omega)⟩
  have f4 : ∀ b, b ≠ h0 → b ≠ (G.2.1 h0 0) → b ≠ h2 → b ≠ (G.2.1 h2 0) → σ4 b = σ b := fun b b1 b2 b3 b4 => by rw [e4, q_st_a _ _ b1, f1 b b3 b4]
  have eK : (1000000000 : Int32) = nI 1000000000 := by decide
  rw [eK]
  refine wl_divideAndRest hw2 o4 (by decide) (by decide) (fun c' σ5 f5 o5 v5 s5 v7 e7 => ?_)
  rw [v4] at v5
  rw [v4]
  have t5 : txOk G σ5 h0 0 (tch N m) := by
    obtain ⟨a1, a2, a3⟩ := t4
    exact ⟨a1, by rw [f5 h0 (Ne.symm n20) (Ne.symm l20)]; exact a2, fun k hk => absurd hk (by omega)⟩
  -- the end
  have fin : ∀ (i : Nat) (τ : qS), (∀ b, b ≠ h0 → b ≠ (G.2.1 h0 0) → b ≠ h2 → b ≠ (G.2.1 h2 0) → τ b = σ b) → txOk G τ h0 (9 * i) (tch N m) → 9 * i < m → N / 10 ^ (9 * i + 9) = 0 → bkX3_print_61 G h0 h1 (nI (N / 10 ^ (9 * i) % 1000000000)) post τ := by
    intro i τ fr tx hi hz
    obtain ⟨m0, m1, m2⟩ := hm
    have hp9 : 10 ^ (9 * i + 9) = 10 ^ (9 * i) * 1000000000 := by rw [Nat.pow_add]
    have hmod : N / 10 ^ (9 * i) % 1000000000 = N / 10 ^ (9 * i) := Nat.mod_eq_of_lt (by
      rw [hp9, ← Nat.div_div_eq_div_mul] at hz
      rcases Nat.div_eq_zero_iff.mp hz with h7 | h7 <;> omega)
    rw [hmod]
    have hm9 : m ≤ 9 * i + 9 := by
      rcases m2 with m2 | m2
      · omega
      · rcases Nat.lt_or_ge (9 * i + 9) m with h1 | h1
        · have h2 : 10 ^ (9 * i + 9) ≤ 10 ^ (m - 1) := Nat.pow_le_pow_right (by decide) (by omega)
          have h3 : 0 < 10 ^ (9 * i + 9) := Nat.pow_pos (by decide)
          rcases Nat.div_eq_zero_iff.mp hz with h7 | h7 <;> omega
        · exact h1
    unfold bkX3_print_61
    refine wl_prependDigits (m := m - 9 * i) (l := 1) hne hcap' tx (by omega) (by omega) (by omega) ?_ ?_ (fun k hk => ?_) (fun σ20 f20 t20 => ?_)
    · rw [Nat.div_lt_iff_lt_mul (Nat.pow_pos (by decide)), ← Nat.pow_add, show m - 9 * i + 9 * i = m by omega]
      exact m1
    · rcases m2 with m2 | m2
      · left; omega
      · rcases Nat.eq_or_lt_of_le (show 9 * i + 1 ≤ m from hi) with h | h
        · left; omega
        · right
          rw [Nat.le_div_iff_mul_le (Nat.pow_pos (by decide)), ← Nat.pow_add, show m - 9 * i - 1 + 9 * i = m - 1 by omega]
          exact m2
    · unfold tch
      rw [if_pos (by omega), Nat.div_div_eq_div_mul, ← Nat.pow_add]
    · rw [show 9 * i + (m - 9 * i) = m by omega] at t20
      have e1 : σ20 h1 = σ h1 := by rw [f20 h1 n10 n1T, fr h1 n10 n1T n12 (Ne.symm n21)]
      obtain ⟨-, -, a3, -⟩ := id ho
      obtain ⟨-, p2⟩ := wZ_pos ho
      have fr2 : ∀ b, b ≠ h0 → b ≠ (G.2.1 h0 0) → b ≠ h2 → b ≠ (G.2.1 h2 0) → σ20 b = σ b := fun b b1 b2 b3 b4 => by rw [f20 b b1 b2, fr b b1 b2 b3 b4]
      rw [e1]
      refine ⟨fun hs => k m σ20 fr2 ?_ t20, fun hs => ?_⟩
      · rw [if_neg (fun q => absurd (hs.symm.trans (p2.mpr q)) (by decide)), Nat.add_zero]
      · refine wl_prepend (v := 45) hne hcap' t20 (by omega) (by decide) (by unfold tch; rw [if_neg (by omega)]) (fun σ' g1 g2 => k (m + 1) σ' (fun b b1 b2 b3 b4 => by rw [g1 b b1 b2, fr2 b b1 b2 b3 b4]) ?_ g2)
        rw [if_pos (p2.mp (a3.resolve_left hs))]
  refine lp3 (W := fun n x3 x4 τ => lpX3_print_24 G h0 h1 h2 post _ n x3 x4 τ) (I := fun x3 x4 τ => ∃ i c, 9 * i < m ∧ i ≤ 10 * w + 1 ∧ x4 = nI i ∧ x3 = nI (N / 10 ^ (9 * i) % 1000000000) ∧ (∀ b, b ≠ h0 → b ≠ (G.2.1 h0 0) → b ≠ h2 → b ≠ (G.2.1 h2 0) → τ b = σ b) ∧ txOk G τ h0 (9 * i) (tch N m) ∧ wOk G τ h2 c ∧ wN G τ h2 c = N / 10 ^ (9 * i + 9)) (μ := fun _ x4 _ => 10 * w + 1 - x4.toNatClampNeg) ?_ _ v7 σ5 ⟨0, c', hm.1, by omega, by rw [e7]; rfl, by rw [Nat.mul_zero, Nat.pow_zero, Nat.div_one], fun b b1 b2 b3 b4 => by rw [f5 b b3 b4, f4 b b1 b2 b3 b4], t5, o5, v5⟩
  intro n x3 x4 τ hI ih
  obtain ⟨i, cc, him, hi, rfl, rfl, hfr, htx, hok, hv⟩ := hI
  show lpX3_print_24 G h0 h1 h2 post _ (n + 1) _ _ _
  unfold lpX3_print_24
  rw [hcap, nI_leI (by omega) (by omega)]
  refine ⟨fun h => ?_, fun h => wl_isZero hw2 hok (fun hz => ⟨fun h => absurd h (by decide), fun _ => ?_⟩) (fun hp => ⟨fun _ => ?_, fun h => absurd rfl h⟩)⟩
  · exfalso; omega
  · refine fin i τ hfr htx him ?_
    rw [← hv]
    subst hz
    rfl
  · have hbig : 10 ^ (9 * i + 9) ≤ N := by
      have h1 : 0 < wN G τ h2 cc := vU_pos hp hok.2.2.2.2
      rw [hv] at h1
      rcases Nat.lt_or_ge N (10 ^ (9 * i + 9)) with h2 | h2
      · rw [Nat.div_eq_of_lt h2] at h1; omega
      · exact h2
    have hm9 : 9 * i + 9 < m := by
      rcases Nat.lt_or_ge (9 * i + 9) m with h3 | h3
      · exact h3
      · have h4 : 10 ^ m ≤ 10 ^ (9 * i + 9) := Nat.pow_le_pow_right (by decide) h3
        have := hm.2.1
        omega
    refine wl_prependDigits (m := 9) (l := 9) hne hcap' htx (by omega) (by decide) (by decide) (Nat.mod_lt _ (by decide)) (Or.inl rfl) (fun k hk => ?_) (fun σ13 f13 t13 => ?_)
    · unfold tch
      rw [if_pos (by omega), Nat.pow_add, ← Nat.div_div_eq_div_mul]
      congr 1
      have e9 : 1000000000 = 10 ^ k * (10 * 10 ^ (8 - k)) := by
        rw [← Nat.mul_assoc, ← Nat.pow_succ, ← Nat.pow_add, show k + 1 + (8 - k) = 9 by omega]
      rw [e9, Nat.mod_mul_right_div_self, Nat.mod_mul_right_mod]
    · have o13 : wOk G σ13 h2 cc := (wOk_keep (σ' := σ13) hok (f13 h2 n20 n2T) (f13 _ l20 l2T)).1
      have v13 : wN G σ13 h2 cc = N / 10 ^ (9 * i + 9) := by rw [(wOk_keep (σ' := σ13) hok (f13 h2 n20 n2T) (f13 _ l20 l2T)).2.1, hv]
      rw [eK]
      refine wl_divideAndRest hw2 o13 (by decide) (by decide) (fun c'' σ15 f15 o15 v15 s15 v17 e17 => ?_)
      rw [v13] at v15
      rw [v13]
      refine ih _ v17 σ15 ⟨i + 1, c'', by omega, by omega, by rw [e17, nI_1], rfl, fun b b1 b2 b3 b4 => by rw [f15 b b3 b4, f13 b b1 b2, hfr b b1 b2 b3 b4], ?_, o15, ?_⟩ ?_
      · obtain ⟨a1, a2, a3⟩ := t13
        exact ⟨a1, by rw [f15 h0 (Ne.symm n20) (Ne.symm l20)]; exact a2, fun k hk => by rw [f15 (G.2.1 h0 0) (Ne.symm n2T) (Ne.symm l2T)]; exact a3 k hk⟩
      · rw [v15, Nat.div_div_eq_div_mul, show 9 * (i + 1) + 9 = 9 * i + 9 + 9 by omega, Nat.pow_add 10 (9 * i + 9) 9]
      · show 10 * w + 1 - v17.toNatClampNeg < 10 * w + 1 - (nI i).toNatClampNeg
        rw [e17, nI_1, nI_clamp (by omega), nI_clamp (by omega)]
        omega

/-! Pure level: the reference's division, digit by digit. Rows: 16 quotient, 17 rest, 18 dividend (at 9360), 19 divisor (at 9880). -/
theorem l_int (x : Int64) : x.toInt = if 2 * uL x < 18446744073709551616 then (uL x : Int) else (uL x : Int) - 18446744073709551616 := uL_int x
theorem l_shr16 (x : Int64) : (x >>> ((16 : Int32).toInt64 &&& 63)).toInt = x.toInt / 65536 := by
  show (x.toBitVec.sshiftRight (((16 : Int32).toInt64 &&& 63).toBitVec.smod 64).toNat).toInt = _
  have hs : (((16 : Int32).toInt64 &&& 63).toBitVec.smod 64).toNat = 16 := by decide
  rw [hs, BitVec.toInt_sshiftRight, Int.shiftRight_eq_div_pow]
  rfl
theorem l_add {x y : Int64} (h1 : -9223372036854775808 ≤ x.toInt + y.toInt) (h2 : x.toInt + y.toInt < 9223372036854775808) : (x + y).toInt = x.toInt + y.toInt := by
  have a := uL_lt x
  have b := uL_lt y
  have c := uL_lt (x + y)
  have e := uL_add x y
  rw [l_int x, l_int y] at h1 h2
  rw [l_int (x + y), l_int x, l_int y]
  split at h1 <;> split at h1 <;> rename_i q1 q2 <;> simp only [q1, q2, if_true, if_false] at h2 ⊢ <;> split <;> omega
theorem l_neg {x : Int64} (h1 : -9223372036854775808 < x.toInt) : (-x).toInt = -x.toInt := by
  have a := uL_lt x
  have c := uL_lt (-x)
  have e := uL_negv x
  rw [l_int x] at h1
  rw [l_int (-x), l_int x]
  split at h1 <;> rename_i q1 <;> simp only [q1, if_true, if_false] <;> split <;> omega
theorem l_sub {x y : Int64} (h1 : -9223372036854775808 ≤ x.toInt - y.toInt) (h2 : x.toInt - y.toInt < 9223372036854775808) : (x - y).toInt = x.toInt - y.toInt := by
  have a := uL_lt x
  have b := uL_lt y
  have c := uL_lt (x - y)
  have e := uL_sub x y
  rw [l_int x, l_int y] at h1 h2
  rw [l_int (x - y), l_int x, l_int y]
  split at h1 <;> split at h1 <;> rename_i q1 q2 <;> simp only [q1, q2, if_true, if_false] at h2 ⊢ <;> split <;> omega
theorem l_of {x : Int64} {n : Nat} (h : uL x = n) (hn : n < 9223372036854775808) : x.toInt = (n : Int) := by rw [l_int, if_pos (by omega), h]
theorem l_cell {x : Int32} (h : uI x < 65536) : x.toInt64.toInt = (uI x : Int) := by
  rw [l_of (n := uI x) (by rw [uL_ext0, if_pos (by omega)]) (by omega)]
theorem l_lo16 (x : Int64) : ((uI (x &&& 65535).toInt32 : Nat) : Int) = x.toInt % 65536 := by
  have h1 : uI (x &&& 65535).toInt32 = uL x % 65536 := by rw [uI_low, uL_lo16]; omega
  have a := uL_lt x
  rw [h1, l_int]
  split <;> omega
/-- so much of the digit's product has been taken away -/
theorem m_take {G : qG} {τ : qS} {h k n g : Nat} {U : Nat → Nat} {x3 x5 : Int32} {x6 x11 y13 : Int64} {y15 : Int32} {post : qS → Prop} {kx : Int64 → qS → Prop} (hM : mS G h U) (hW : mW G τ h) (hx : uL x11 = g) (hg : g < 65536) (hkn : k + n ≤ 520) (e13 : y13 = 0) (e15 : y15 = 0)
    (kk : ∀ (w : Int64) (ρ : qS) (bw : Nat), w.toInt = (bw : Int) → bw < 65536 → rF G h 18 τ ρ → mW G ρ h → (∀ t, (t < k ∨ k + n ≤ t) → ρ (G.2.1 h 2) (9360 + t) = τ (G.2.1 h 2) (9360 + t)) → ρ (G.2.1 h 3) = τ (G.2.1 h 3) → ρ (G.2.1 h 4) = τ (G.2.1 h 4) → mO ρ (G.2.1 h 2) (9360 + k) n + g * mO τ (G.2.1 h 2) 9880 n = mO τ (G.2.1 h 2) (9360 + k) n + bw * 65536 ^ n → kx w ρ) : ∃ f, lpX6_divide_244 G h x3 (nI n) x5 x6 (nI k) x11 post kx f y13 y15 τ := by
  obtain ⟨⟨gH, gC, gL, gB, gT, gP⟩, kC, kL, kB, kT, kP⟩ := id hM
  refine lp3 (W := fun f x13 x15 ρ => lpX6_divide_244 G h x3 (nI n) x5 x6 (nI k) x11 post kx f x13 x15 ρ) (I := fun x13 x15 ρ => ∃ i bw : Nat, i ≤ n ∧ x15 = nI i ∧ x13.toInt = (bw : Int) ∧ bw < 65536 ∧ rF G h 18 τ ρ ∧ mW G ρ h ∧ (∀ t, (t < k ∨ k + i ≤ t) → ρ (G.2.1 h 2) (9360 + t) = τ (G.2.1 h 2) (9360 + t)) ∧ ρ (G.2.1 h 3) = τ (G.2.1 h 3) ∧ ρ (G.2.1 h 4) = τ (G.2.1 h 4) ∧ mO ρ (G.2.1 h 2) (9360 + k) i + g * mO τ (G.2.1 h 2) 9880 i = mO τ (G.2.1 h 2) (9360 + k) i + bw * 65536 ^ i) (μ := fun _ x15 _ => n - x15.toNatClampNeg) ?_ y13 y15 τ ⟨0, 0, by omega, e15, by rw [e13]; rfl, by omega, rF.refl, hW, fun _ _ => rfl, rfl, rfl, by show 0 + g * 0 = 0 + 0 * 1; omega⟩
  intro f x13 x15 ρ hI ih
  obtain ⟨i, bw, hi, rfl, hb, hbl, hF, hWr, hun, hL, hB, hv⟩ := hI
  have sV := hF.same (r := 19) (by decide)
  show lpX6_divide_244 G h x3 (nI n) x5 x6 (nI k) x11 post kx (f + 1) _ _ _
  unfold lpX6_divide_244
  have e93 : (9360 : Int32) + nI k = nI (9360 + k) := nI_add 9360 k
  have e98 : (9880 : Int32) + nI i = nI (9880 + i) := nI_add 9880 i
  rw [nI_leI (by omega) (by omega), e93, e98, nI_add, nI_add]
  refine ⟨fun h1 => ?_, fun h1 => ?_⟩
  · have : i = n := by omega
    subst this
    exact kk x13 ρ bw hb hbl hF hWr hun hL hB hv
  · rw [nI_clamp (by omega), nI_clamp (by omega)]
    refine ⟨vC hM (by omega), vC hM (by omega), fun v52 e52 => ?_⟩
    have hV : ρ (G.2.1 h 2) (9880 + i) = τ (G.2.1 h 2) (9880 + i) := sV.1 i (by omega)
    have hUi : ρ (G.2.1 h 2) (9360 + k + i) = τ (G.2.1 h 2) (9360 + k + i) := by rw [show 9360 + k + i = 9360 + (k + i) by omega]; exact hun (k + i) (by omega)
    rw [hV, hUi] at e52
    have w1 := hW.1 (9880 + i)
    have w2 := hW.1 (9360 + k + i)
    have hgv : g * uI (τ (G.2.1 h 2) (9880 + i)) ≤ 65535 * 65535 := Nat.mul_le_mul (by omega) (by omega)
    have hmul : (x11 * (τ (G.2.1 h 2) (9880 + i)).toInt64).toInt = ((g * uI (τ (G.2.1 h 2) (9880 + i)) : Nat) : Int) := by
      refine l_of ?_ (by omega)
      rw [uL_mul, hx, uL_ext0, if_pos (by omega), Nat.mod_eq_of_lt (by omega)]
    have hs1 : ((τ (G.2.1 h 2) (9360 + k + i)).toInt64 - x11 * (τ (G.2.1 h 2) (9880 + i)).toInt64).toInt = (uI (τ (G.2.1 h 2) (9360 + k + i)) : Int) - ((g * uI (τ (G.2.1 h 2) (9880 + i)) : Nat) : Int) := by
      rw [l_sub (by rw [hmul, l_cell w2]; omega) (by rw [hmul, l_cell w2]; omega), hmul, l_cell w2]
    have hs : v52.toInt = (uI (τ (G.2.1 h 2) (9360 + k + i)) : Int) - ((g * uI (τ (G.2.1 h 2) (9880 + i)) : Nat) : Int) - (bw : Int) := by
      rw [e52, l_sub (by rw [hs1, hb]; omega) (by rw [hs1, hb]; omega), hs1, hb]
    have hd := l_lo16 v52
    generalize hgve : g * uI (τ (G.2.1 h 2) (9880 + i)) = gv at *
    refine m_put (r := 18) hM (by decide) (by omega) (fun σ53 e53 v55 e55 v56 e56 => ?_)
    have e53' : σ53 = q_st ρ (G.2.1 h 2) (9360 + (k + i)) ((v52 &&& 65535).toInt32) := e53
    have hsh := l_shr16 v52
    have h55 : v55.toInt = -(v52.toInt / 65536) := by rw [e55, l_neg (by rw [hsh]; omega), hsh]
    obtain ⟨bw', hbw'⟩ : ∃ bw' : Nat, v55.toInt = (bw' : Int) := ⟨v55.toInt.toNat, by rw [h55, hs]; omega⟩
    generalize hde : uI (v52 &&& 65535).toInt32 = dd at *
    have hstep : dd + gv + bw = uI (τ (G.2.1 h 2) (9360 + k + i)) + bw' * 65536 := by omega
    refine ih v55 v56 σ53 ⟨i + 1, bw', by omega, by rw [e56, nI_1], hbw', by omega, hF.trans (rF_put hM (by omega) e53), mW_put hM hWr (by rw [hde]; omega) e53, fun t ht => by rw [e53', q_st_ne _ _ (by omega)]; exact hun t (by omega), by rw [e53, q_st_a _ _ (ntg (T := U) (by omega)), hL], by rw [e53, q_st_a _ _ (ntg (T := U) (by omega)), hB], ?_⟩ ?_
    · rw [mO_s, mO_s, mO_s, mO_congr (σ := σ53) (σ' := ρ) (a' := (G.2.1 h 2)) (p' := 9360 + k) (fun t ht => by rw [e53', q_st_ne _ _ (by omega)])]
      have hlast : uI (σ53 (G.2.1 h 2) (9360 + k + i)) = dd := by rw [e53', show 9360 + k + i = 9360 + (k + i) by omega, q_st_self, hde]
      rw [hlast, Nat.mul_add, ← Nat.mul_assoc, hgve, Nat.pow_succ]
      exact borrow_step (by decide) hv _ _ hstep
    · show n - v56.toNatClampNeg < n - (nI i).toNatClampNeg
      rw [e56, nI_1, nI_clamp (by omega), nI_clamp (by omega)]
      omega
/-- the divisor given back once -/
theorem m_back {G : qG} {τ : qS} {h k n : Nat} {U : Nat → Nat} {x3 x5 y17 y18 : Int32} {x6 x11 x15 : Int64} {post : qS → Prop} {kx : Int32 → qS → Prop} (hM : mS G h U) (hW : mW G τ h) (hkn : k + n ≤ 520) (e17 : y17 = 0) (e18 : y18 = 0)
    (kk : ∀ (ρ : qS) (cy : Nat), cy ≤ 1 → rF G h 18 τ ρ → mW G ρ h → (∀ t, (t < k ∨ k + n ≤ t) → ρ (G.2.1 h 2) (9360 + t) = τ (G.2.1 h 2) (9360 + t)) → ρ (G.2.1 h 3) = τ (G.2.1 h 3) → ρ (G.2.1 h 4) = τ (G.2.1 h 4) → mO ρ (G.2.1 h 2) (9360 + k) n + cy * 65536 ^ n = mO τ (G.2.1 h 2) (9360 + k) n + mO τ (G.2.1 h 2) 9880 n → kx (nI cy) ρ) : ∃ f, lpX6_divide_358 G h x3 (nI n) x5 x6 (nI k) x11 x15 post kx f y17 y18 τ := by
  obtain ⟨⟨gH, gC, gL, gB, gT, gP⟩, kC, kL, kB, kT, kP⟩ := id hM
  refine lp3 (W := fun f x17 x18 ρ => lpX6_divide_358 G h x3 (nI n) x5 x6 (nI k) x11 x15 post kx f x17 x18 ρ) (I := fun x17 x18 ρ => ∃ i cy : Nat, i ≤ n ∧ x18 = nI i ∧ x17 = nI cy ∧ cy ≤ 1 ∧ rF G h 18 τ ρ ∧ mW G ρ h ∧ (∀ t, (t < k ∨ k + i ≤ t) → ρ (G.2.1 h 2) (9360 + t) = τ (G.2.1 h 2) (9360 + t)) ∧ ρ (G.2.1 h 3) = τ (G.2.1 h 3) ∧ ρ (G.2.1 h 4) = τ (G.2.1 h 4) ∧ mO ρ (G.2.1 h 2) (9360 + k) i + cy * 65536 ^ i = mO τ (G.2.1 h 2) (9360 + k) i + mO τ (G.2.1 h 2) 9880 i) (μ := fun _ x18 _ => n - x18.toNatClampNeg) ?_ y17 y18 τ ⟨0, 0, by omega, e18, e17, by omega, rF.refl, hW, fun _ _ => rfl, rfl, rfl, rfl⟩
  intro f x17 x18 ρ hI ih
  obtain ⟨i, cy, hi, rfl, rfl, hcy, hF, hWr, hun, hL, hB, hv⟩ := hI
  have sV := hF.same (r := 19) (by decide)
  show lpX6_divide_358 G h x3 (nI n) x5 x6 (nI k) x11 x15 post kx (f + 1) _ _ _
  unfold lpX6_divide_358
  have e93 : (9360 : Int32) + nI k = nI (9360 + k) := nI_add 9360 k
  have e98 : (9880 : Int32) + nI i = nI (9880 + i) := nI_add 9880 i
  rw [nI_leI (by omega) (by omega), e93, e98, nI_add, nI_add]
  refine ⟨fun h1 => ?_, fun h1 => ?_⟩
  · have : i = n := by omega
    subst this
    exact kk ρ cy hcy hF hWr hun hL hB hv
  · rw [nI_clamp (by omega), nI_clamp (by omega)]
    refine ⟨vC hM (by omega), vC hM (by omega), fun v70 e70 => ?_⟩
    have hV : ρ (G.2.1 h 2) (9880 + i) = τ (G.2.1 h 2) (9880 + i) := sV.1 i (by omega)
    have hUi : ρ (G.2.1 h 2) (9360 + k + i) = τ (G.2.1 h 2) (9360 + k + i) := by rw [show 9360 + k + i = 9360 + (k + i) by omega]; exact hun (k + i) (by omega)
    rw [hV, hUi] at e70
    have w1 := hW.1 (9880 + i)
    have w2 := hW.1 (9360 + k + i)
    rw [nI_uI' (τ (G.2.1 h 2) (9360 + k + i)), nI_uI' (τ (G.2.1 h 2) (9880 + i)), nI_add, nI_add] at e70
    have u70 : uI v70 = uI (τ (G.2.1 h 2) (9360 + k + i)) + uI (τ (G.2.1 h 2) (9880 + i)) + cy := by rw [e70, uI_n (by omega)]
    refine m_put (r := 18) hM (by decide) (by omega) (fun σ71 e71 v73 e73 v74 e74 => ?_)
    rw [m_and, u70] at e71
    rw [e70, m_shr16 (by omega)] at e73
    have e71' : σ71 = q_st ρ (G.2.1 h 2) (9360 + (k + i)) (nI ((uI (τ (G.2.1 h 2) (9360 + k + i)) + uI (τ (G.2.1 h 2) (9880 + i)) + cy) % 65536)) := e71
    refine ih v73 v74 σ71 ⟨i + 1, _, by omega, by rw [e74, nI_1], e73, by omega, hF.trans (rF_put hM (by omega) e71), mW_put hM hWr (by rw [uI_n (by omega)]; omega) e71, fun t ht => by rw [e71', q_st_ne _ _ (by omega)]; exact hun t (by omega), by rw [e71, q_st_a _ _ (ntg (T := U) (by omega)), hL], by rw [e71, q_st_a _ _ (ntg (T := U) (by omega)), hB], ?_⟩ ?_
    · rw [mO_s, mO_s, mO_s, mO_congr (σ := σ71) (σ' := ρ) (a' := (G.2.1 h 2)) (p' := 9360 + k) (fun t ht => by rw [e71', q_st_ne _ _ (by omega)])]
      have hlast : uI (σ71 (G.2.1 h 2) (9360 + k + i)) = (uI (τ (G.2.1 h 2) (9360 + k + i)) + uI (τ (G.2.1 h 2) (9880 + i)) + cy) % 65536 := by rw [e71', show 9360 + k + i = 9360 + (k + i) by omega, q_st_self, uI_n (by omega)]
      have hcs := carry_step 65536 (uI (τ (G.2.1 h 2) (9360 + k + i)) + uI (τ (G.2.1 h 2) (9880 + i)) + cy) (65536 ^ i)
      rw [← Nat.pow_succ] at hcs
      rw [hlast, Nat.add_assoc, hcs, Nat.add_mul, Nat.add_mul]
      omega
    · show n - v74.toNatClampNeg < n - (nI i).toNatClampNeg
      rw [e74, nI_1, nI_clamp (by omega), nI_clamp (by omega)]
      omega
/-- the digit put right -/
theorem m_fix {G : qG} {τ : qS} {h k n T V q : Nat} {U : Nat → Nat} {x3 x5 : Int32} {x6 : Int64} {post : qS → Prop} {kx : Int64 → Int64 → qS → Prop} (hM : mS G h U) (hkn : k + n ≤ 519) (hV : mO τ (G.2.1 h 2) 9880 n = V) (hVn : V < 65536 ^ n) (hq1 : q * V ≤ T) (hq2 : T < (q + 1) * V)
    (kk : ∀ (w79 w80 : Int64) (ρ : qS), uL w79 = q → w80.toInt = 0 → rF G h 18 τ ρ → mW G ρ h → (∀ t, (t < k ∨ k + n ≤ t) → ρ (G.2.1 h 2) (9360 + t) = τ (G.2.1 h 2) (9360 + t)) → ρ (G.2.1 h 3) = τ (G.2.1 h 3) → ρ (G.2.1 h 4) = τ (G.2.1 h 4) → mO ρ (G.2.1 h 2) (9360 + k) n + q * V = T → kx w79 w80 ρ)
    {y11 y15 : Int64} {g : Nat} {L : Int} {ρ0 : qS} (hg : uL y11 = g) (hgq : q ≤ g) (hg2 : g < 65536) (hL : y15.toInt = L) (hL1 : -70000 ≤ L) (hL2 : L ≤ 70000) (hF0 : rF G h 18 τ ρ0) (hW0 : mW G ρ0 h) (hun0 : ∀ t, (t < k ∨ k + n ≤ t) → ρ0 (G.2.1 h 2) (9360 + t) = τ (G.2.1 h 2) (9360 + t)) (hL0 : ρ0 (G.2.1 h 3) = τ (G.2.1 h 3)) (hB0 : ρ0 (G.2.1 h 4) = τ (G.2.1 h 4)) (hv0 : (mO ρ0 (G.2.1 h 2) (9360 + k) n : Int) + L * ((65536 ^ n : Nat) : Int) + ((g * V : Nat) : Int) = (T : Int)) : ∃ f, lpX6_divide_339 G h x3 (nI n) x5 x6 (nI k) post kx f y11 y15 ρ0 := by
  refine lp3 (W := fun f x11 x15 ρ => lpX6_divide_339 G h x3 (nI n) x5 x6 (nI k) post kx f x11 x15 ρ) (I := fun x11 x15 ρ => ∃ (g : Nat) (L : Int), uL x11 = g ∧ q ≤ g ∧ g < 65536 ∧ x15.toInt = L ∧ -70000 ≤ L ∧ L ≤ 70000 ∧ rF G h 18 τ ρ ∧ mW G ρ h ∧ (∀ t, (t < k ∨ k + n ≤ t) → ρ (G.2.1 h 2) (9360 + t) = τ (G.2.1 h 2) (9360 + t)) ∧ ρ (G.2.1 h 3) = τ (G.2.1 h 3) ∧ ρ (G.2.1 h 4) = τ (G.2.1 h 4) ∧ (mO ρ (G.2.1 h 2) (9360 + k) n : Int) + L * ((65536 ^ n : Nat) : Int) + ((g * V : Nat) : Int) = (T : Int)) (μ := fun x11 _ _ => uL x11) ?_ y11 y15 ρ0 ⟨g, L, hg, hgq, hg2, hL, hL1, hL2, hF0, hW0, hun0, hL0, hB0, hv0⟩
  intro f x11 x15 ρ hI ih
  obtain ⟨g, L, hg, hgq, hg2, hL, hL1, hL2, hF, hW, hun, hLl, hBb, hv⟩ := hI
  have hX : mO ρ (G.2.1 h 2) (9360 + k) n < 65536 ^ n := nv_lt (by decide) (fun j _ => hW.1 _)
  have hBn : (0 : Int) < ((65536 ^ n : Nat) : Int) := by
    have := Nat.pow_pos (a := 65536) (n := n) (by decide)
    omega
  show lpX6_divide_339 G h x3 (nI n) x5 x6 (nI k) post kx (f + 1) _ _ _
  unfold lpX6_divide_339
  have h0 : x15 < 0 ↔ L < 0 := by rw [Int64.lt_iff_toInt_lt, hL]; rfl
  rw [lc_ge, h0]
  generalize hBe : (65536 : Nat) ^ n = Bn at *
  refine ⟨fun h1 => ?_, fun h1 v63 e63 v64 e64 v65 e65 => ?_⟩
  · have hgq' : g = q := by
      rcases Nat.lt_or_ge q g with h2 | h2
      · exfalso
        have h3 : (q + 1) * V ≤ g * V := Nat.mul_le_mul_right _ h2
        have h4 : 0 ≤ L * (Bn : Int) := Int.mul_nonneg (by omega) (by omega)
        omega
      · omega
    subst hgq'
    have hL0 : L = 0 := by
      rcases Int.lt_or_le 0 L with h2 | h2
      · exfalso
        have h3 : 1 * (Bn : Int) ≤ L * (Bn : Int) := Int.mul_le_mul_of_nonneg_right (by omega) (by omega)
        rw [Nat.add_mul, Nat.one_mul] at hq2
        omega
      · omega
    subst hL0
    rw [Int.zero_mul] at hv
    exact kk x11 x15 ρ hg hL hF hW hun hLl hBb (by omega)
  · have hLn : L < 0 := Decidable.not_not.mp h1
    have hgt : q < g := by
      rcases Nat.lt_or_ge q g with h2 | h2
      · exact h2
      · exfalso
        have hgq' : g = q := by omega
        subst hgq'
        have h3 : L * (Bn : Int) ≤ -1 * (Bn : Int) := Int.mul_le_mul_of_nonneg_right (by omega) (by omega)
        omega
    have sV := hF.same (r := 19) (by decide)
    have hVr : mO ρ (G.2.1 h 2) 9880 n = V := by
      rw [← hV]
      exact mO_congr (fun j hj => sV.1 j (by omega))
    refine m_back hM hW (by omega) e64 e65 (fun ρ' cy hcy g1 g2 g3 g4 g5 g6 v77 e77 => ?_)
    rw [hVr, hBe] at g6
    have h63 : uL v63 = g - 1 := by rw [e63, uL_sub, hg, uL_1]; omega
    have hcc : (nI cy).toInt64.toInt = (cy : Int) := l_of (by rw [uL_nI (by omega)]) (by omega)
    have h77 : v77.toInt = L + (cy : Int) := by rw [e77, l_add (by rw [hL, hcc]; omega) (by rw [hL, hcc]; omega), hL, hcc]
    refine ih v63 v77 ρ' ⟨g - 1, L + (cy : Int), h63, by omega, by omega, h77, by omega, by omega, hF.trans g1, g2, fun t ht => by rw [g3 t ht, hun t ht], by rw [g4, hLl], by rw [g5, hBb], ?_⟩ (by show uL v63 < uL x11; omega)
    obtain ⟨g', rfl⟩ : ∃ g', g = g' + 1 := ⟨g - 1, by omega⟩
    rw [Nat.add_sub_cancel, Int.add_mul, ← Int.natCast_mul cy]
    rw [Nat.add_mul, Nat.one_mul] at hv
    omega

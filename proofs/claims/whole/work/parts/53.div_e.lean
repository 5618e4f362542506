/-! Pure level: long division by more than one limb; division. -/
/-- one digit, in numbers: what is left below the divisor -/
theorem dl_rest {X Bn q V ρ T t cy : Nat} (hX : X < Bn) (hρ : ρ < V) (hV : V ≤ Bn) (hT : T = q * V + ρ) (h : X + q * V + t * Bn = T + cy * Bn) : X = ρ := by
  have h1 : X + t * Bn = ρ + cy * Bn := by omega
  have h2 := congrArg (fun z => z % Bn) h1
  simp only [Nat.add_mul_mod_self_right] at h2
  rw [Nat.mod_eq_of_lt hX, Nat.mod_eq_of_lt (by omega)] at h2
  exact h2
theorem dl_end {W Q V N1 N2 S : Nat} (hS : 0 < S) (hV : V = N2 * S) (hU : W + Q * V = N1 * S) (hW : W < V) : Q = N1 / N2 ∧ W = N1 % N2 * S := by
  have hVp : 0 < V := by omega
  have h1 : N1 * S / V = Q := by rw [← hU, Nat.add_mul_div_right _ _ hVp, Nat.div_eq_of_lt hW, Nat.zero_add]
  have h2 : N1 * S % V = W := by rw [← hU, Nat.add_mul_mod_self_right, Nat.mod_eq_of_lt hW]
  rw [hV, Nat.mul_div_mul_right _ _ hS] at h1
  rw [hV, Nat.mul_mod_mul_right] at h2
  exact ⟨h1.symm, h2.symm⟩
set_option maxHeartbeats 1000000 in
theorem wl_divideLong {G : qG} {h0 h1 h2 c1 n : Nat} {σ : qS} {post : qS → Prop} (hF : dvFix G h0) (hw1 : wFix G h1) (hw2 : wFix G h2) (o1 : dvOut G h0 h1) (o1l : dvOut G h0 ((G.2.1 h1 0))) (o2 : dvOut G h0 h2) (o2l : dvOut G h0 ((G.2.1 h2 0))) (ho1 : wOk G σ h1 c1) (ho2 : wOk G σ h2 n) (hn : 2 ≤ n) (hnc : n ≤ c1) (hq : c1 ≤ G.2.2 (G.2.1 (G.2.1 h0 0) 0)) (hr : n ≤ G.2.2 (G.2.1 (G.2.1 h0 1) 0)) (hov : c1 + 1 ≤ G.2.2 (G.2.1 h0 2)) (hun : n ≤ G.2.2 (G.2.1 h0 3))
    (k : ∀ (cq cr : Nat) (σ' : qS), (∀ b, dvOut G h0 b → σ' b = σ b) → wOk G σ' (G.2.1 h0 0) cq → wN G σ' (G.2.1 h0 0) cq = wN G σ h1 c1 / wN G σ h2 n → wZ G σ' (G.2.1 h0 0) cq = (if σ h1 2 = σ h2 2 then ((wN G σ h1 c1 / wN G σ h2 n : Nat) : Int) else -((wN G σ h1 c1 / wN G σ h2 n : Nat) : Int)) → wOk G σ' (G.2.1 h0 1) cr → wN G σ' (G.2.1 h0 1) cr = wN G σ h1 c1 % wN G σ h2 n → wZ G σ' (G.2.1 h0 1) cr = (if σ h1 2 = 1 then -((wN G σ h1 c1 % wN G σ h2 n : Nat) : Int) else ((wN G σ h1 c1 % wN G σ h2 n : Nat) : Int)) → post σ') : wpX0_divideLong G h0 h1 h2 σ post := by
  obtain ⟨fQ, fR, cO, cU, ⟨n1, n2, n3, n4⟩, ⟨m1, m2, m3, m4, m5⟩, ⟨p1, p2, p3, p4⟩⟩ := hF
  obtain ⟨a1, a2, a3, a4, a5⟩ := id ho1
  obtain ⟨b1, b2, b3, b4, b5⟩ := id ho2
  have hcQ := fQ.2
  have hcR := fR.2
  have hc1 := hw1.2
  have hc2 := hw2.2
  obtain ⟨n', hn'⟩ : ∃ n', n = n' + 1 := ⟨n - 1, by omega⟩
  have htop := b5 n' hn'
  rw [Ne, uI_eq0] at htop
  unfold wpX0_divideLong
  rw [b1, nI_m1 (by omega), nI_clamp (by omega), show n - 1 = n' by omega]
  refine ⟨vp_lm (by omega) (by omega), wl_nlz (by omega) (fun z hz t1 t2 => ?_)⟩
  refine wl_shiftUp (p := 0) hw1 a1 a2 (by omega) (Ne.symm o1l.2.2.2.2.1) (Ne.symm o1.2.2.2.2.1) (by omega) cO (fun u7 σ6 g1 g2 g3 g4 => ?_)
  rw [a1]
  refine ⟨vp_in_nI (by omega) (by omega), fun σ9 e9 => ?_⟩
  rw [nI_clamp (by omega)] at e9
  have f9 : ∀ b, b ≠ (G.2.1 h0 2) → σ9 b = σ b := fun b hb => by rw [e9, q_st_a _ _ hb, g1 b hb]
  refine wl_shiftUp (p := 0) hw2 (by rw [f9 _ o2.2.2.2.2.1]; exact b1) b2 (by omega) (Ne.symm o2l.2.2.2.2.2) (Ne.symm o2.2.2.2.2.2) (by omega) cU (fun u12 σ11 q1 q2 q3 q4 => ?_)
  have f11 : ∀ b, b ≠ (G.2.1 h0 2) → b ≠ (G.2.1 h0 3) → σ11 b = σ b := fun b hb hb2 => by rw [q1 b hb2, f9 b hb]
  intro v13 e13
  rw [f11 _ o1.2.2.2.2.1 o1.2.2.2.2.2, f11 _ o2.2.2.2.2.1 o2.2.2.2.2.2, a1, b1, pk_sub hnc] at e13
  -- the numbers
  have hU : vU σ11 (G.2.1 h0 2) (c1 + 1) = wN G σ h1 c1 * 2 ^ z := by
    rw [vU_s, q1 _ m1, e9, q_st_self, ← vO_0, vO_congr (σ' := σ6) (a' := (G.2.1 h0 2)) (p' := 0) (fun j hj => by rw [q1 _ m1, e9, q_st_ne _ _ (by omega)]), g4]
    rfl
  have hV0 : vU σ9 ((G.2.1 h2 0)) n = wN G σ h2 n := vU_congr (fun j _ => by rw [f9 _ o2l.2.2.2.2.1])
  rw [hV0, vO_0] at q4
  have hBn : 0 < 4294967296 ^ n' := Nat.pow_pos (by decide)
  have hN2s : wN G σ h2 n = vU σ ((G.2.1 h2 0)) n' + uI (σ ((G.2.1 h2 0)) n') * 4294967296 ^ n' := by rw [hn']; rfl
  have hlow := vU_lt σ ((G.2.1 h2 0)) n'
  have hpz : 2 ^ (31 - z) * 2 ^ z = 2147483648 := by rw [← Nat.pow_add, show 31 - z + z = 31 by omega]
  have hpz2 : 2 ^ (32 - z) * 2 ^ z = 4294967296 := by rw [← Nat.pow_add, show 32 - z + z = 32 by omega]
  have hzp := Nat.two_pow_pos z
  have hVlo : 2147483648 * 4294967296 ^ n' ≤ wN G σ h2 n * 2 ^ z := by
    have e1 : 2 ^ (31 - z) * 4294967296 ^ n' ≤ wN G σ h2 n := by
      have := Nat.mul_le_mul_right (4294967296 ^ n') t1
      omega
    have e2 := Nat.mul_le_mul_right (2 ^ z) e1
    rw [Nat.mul_right_comm, hpz] at e2
    exact e2
  have hVhi : wN G σ h2 n * 2 ^ z < 4294967296 ^ n := by
    have e1 : wN G σ h2 n < 2 ^ (32 - z) * 4294967296 ^ n' := by
      have := Nat.mul_le_mul_right (4294967296 ^ n') t2
      rw [Nat.succ_mul] at this
      omega
    have e2 := Nat.mul_lt_mul_of_pos_right e1 hzp
    rw [Nat.mul_right_comm, hpz2] at e2
    have hpow : 4294967296 ^ n = 4294967296 * 4294967296 ^ n' := by rw [hn', Nat.pow_succ, Nat.mul_comm]
    rw [hpow]
    exact e2
  have hu12 : uI u12 = 0 := by
    rcases Nat.eq_zero_or_pos (uI u12) with h | h
    · exact h
    · have := Nat.mul_le_mul_right (4294967296 ^ n) h
      omega
  rw [hu12, Nat.zero_mul, Nat.add_zero] at q4
  generalize hVV : wN G σ h2 n * 2 ^ z = V at *
  have htopU : 2147483648 ≤ uI (σ11 (G.2.1 h0 3) (n - 1)) := by
    rw [show n - 1 = n' by omega]
    have e1 : V = vU σ11 (G.2.1 h0 3) n' + uI (σ11 (G.2.1 h0 3) n') * 4294967296 ^ n' := by rw [← q4, hn']; rfl
    have e2 := vU_lt σ11 (G.2.1 h0 3) n'
    rcases Nat.lt_or_ge (uI (σ11 (G.2.1 h0 3) n')) 2147483648 with h | h
    · have e3 := Nat.mul_le_mul_right (4294967296 ^ n') h
      rw [Nat.succ_mul] at e3
      omega
    · exact h
  have hVpos : 0 < V := by
    have : 1 * 1 ≤ 2147483648 * 4294967296 ^ n' := Nat.mul_le_mul (by decide) hBn
    omega
  have hN1 := vU_lt σ ((G.2.1 h1 0)) c1
  generalize hm : c1 - n = mm at *
  have hstart : wN G σ h1 c1 * 2 ^ z < V * 4294967296 ^ (mm + 1) := by
    have e1 : wN G σ h1 c1 * 2 ^ z < 4294967296 ^ c1 * 2147483648 := by
      have e0 : 2 ^ z ≤ 2147483648 := by
        have : 2 ^ z ≤ 2 ^ 31 := Nat.pow_le_pow_right (by decide) hz
        exact this
      exact Nat.lt_of_lt_of_le (Nat.mul_lt_mul_of_pos_right hN1 hzp) (Nat.mul_le_mul_left _ e0)
    have e2 := Nat.mul_le_mul_right (4294967296 ^ (mm + 1)) hVlo
    rw [Nat.mul_assoc, ← Nat.pow_add, show n' + (mm + 1) = c1 by omega, Nat.mul_comm] at e2
    exact Nat.lt_of_lt_of_le e1 e2
  refine lp2 (W := fun w x4 τ => lpX0_divideLong_56 G h0 h1 h2 (nI z) post _ w x4 τ) (I := fun x4 τ => ∃ i, i ≤ mm + 1 ∧ x4 = nI i - 1 ∧ (∀ b, b ≠ (G.2.1 (G.2.1 h0 0) 0) → b ≠ (G.2.1 h0 2) → τ b = σ11 b) ∧ vU τ (G.2.1 h0 2) (i + n) + vO τ (G.2.1 (G.2.1 h0 0) 0) i (mm + 1 - i) * (4294967296 ^ i * V) = wN G σ h1 c1 * 2 ^ z ∧ vU τ (G.2.1 h0 2) (i + n) < V * 4294967296 ^ i) (μ := fun x4 _ => (x4 + 1).toNatClampNeg) ?_ v13 σ11 ⟨mm + 1, Nat.le_refl _, by rw [e13, nI_pred], fun _ _ _ => rfl, by rw [Nat.sub_self, show mm + 1 + n = c1 + 1 by omega, hU]; show _ + 0 * _ = _; omega, by rw [show mm + 1 + n = c1 + 1 by omega, hU]; exact hstart⟩
  intro w x4 τ hI ih
  obtain ⟨i, hi, rfl, hf, hsum, hlt⟩ := hI
  have fh1 : τ h1 = σ h1 := by rw [hf _ o1.2.1 o1.2.2.2.2.1, f11 _ o1.2.2.2.2.1 o1.2.2.2.2.2]
  have fh2 : τ h2 = σ h2 := by rw [hf _ o2.2.1 o2.2.2.2.2.1, f11 _ o2.2.2.2.2.1 o2.2.2.2.2.2]
  have fun_ : τ (G.2.1 h0 3) = σ11 (G.2.1 h0 3) := hf _ p2 (Ne.symm m1)
  have hVτ : vU τ (G.2.1 h0 3) n = V := by rw [← q4]; exact vU_congr (fun j _ => by rw [fun_])
  show lpX0_divideLong_56 G h0 h1 h2 (nI z) post _ (w + 1) _ _
  unfold lpX0_divideLong_56
  rw [nI_m1neg (by omega)]
  refine ⟨fun h => ?_, fun h => ?_⟩
  · subst h
    rw [Nat.zero_add, Nat.pow_zero, Nat.mul_one] at hlt
    rw [Nat.zero_add, Nat.sub_zero, Nat.pow_zero, Nat.one_mul, vO_0] at hsum
    obtain ⟨hQ, hR⟩ := dl_end hzp hVV.symm hsum hlt
    rw [fh1, fh2, a1, b1, pk_sub hnc, hm, nI_1]
    have fin : ∀ s : Int32, (s = 0 ∨ s = 1) → (s = 1 ↔ ¬ σ h1 2 = σ h2 2) → bkX0_divideLong_159 G h0 h1 h2 (nI z) (G.2.1 h0 0) (nI (mm + 1)) s post τ := by
      intro s hs hsg
      unfold bkX0_divideLong_159
      refine wl_settleZ fQ (by omega) hs (fun cq σ31 g1 g2 g3 g4 g5 => ?_)
      rw [g2 _ o2.1, fh2, b1]
      refine wl_shiftDown (p := 0) fR m5 (by omega) cO hr (by omega) (fun σ35 s1 s2 => ?_)
      rw [s1 _ o2.2.2.2.1, s1 _ o1.2.2.2.1, g2 _ o2.1, g2 _ o1.1, fh2, fh1, b1]
      have hrest : vU σ35 (G.2.1 (G.2.1 h0 1) 0) n = wN G σ h1 c1 % wN G σ h2 n := by
        rw [s2, vO_0, vU_congr (σ' := τ) (a' := (G.2.1 h0 2)) (fun j _ => by rw [g2 _ m2]), hR]
        exact Nat.mul_div_cancel _ hzp
      refine wl_settleZ fR hr a3 (fun cr σ37 y1 y2 y3 y4 y5 => ?_)
      have eQ : σ37 (G.2.1 h0 0) = σ31 (G.2.1 h0 0) := by rw [y2 _ n1, s1 _ n2]
      have eQl : σ37 (G.2.1 (G.2.1 h0 0) 0) = σ31 (G.2.1 (G.2.1 h0 0) 0) := by rw [y2 _ n3, s1 _ n4]
      obtain ⟨k1, k2, k3⟩ := wOk_keep g3 eQ eQl
      refine k cq cr σ37 (fun b hb => by rw [y2 _ hb.2.2.1, s1 _ hb.2.2.2.1, g2 _ hb.1, hf _ hb.2.1 hb.2.2.2.2.1, f11 _ hb.2.2.2.2.1 hb.2.2.2.2.2]) k1 (by rw [k2, g4, hQ]) ?_ y3 (by rw [y4, hrest]) (by rw [y5, hrest])
      rw [k3, g5, hQ]
      by_cases hz : σ h1 2 = σ h2 2
      · rw [if_pos hz, if_neg (fun z => (hsg.mp z) hz)]
      · rw [if_neg hz, if_pos (hsg.mpr hz)]
    exact ⟨fun hz => fin 0 (Or.inl rfl) ⟨fun z => absurd z (by decide), fun z => absurd hz z⟩, fun hz => fin 1 (Or.inr rfl) ⟨fun _ => hz, fun _ => rfl⟩⟩
  · obtain ⟨i', rfl⟩ : ∃ i', i = i' + 1 := ⟨i - 1, by omega⟩
    rw [nI_pred, fh2, b1, nI_add]
    have hPi : 0 < 4294967296 ^ i' := Nat.pow_pos (by decide)
    have hsplit : vU τ (G.2.1 h0 2) (i' + 1 + n) = vU τ (G.2.1 h0 2) i' + 4294967296 ^ i' * vO τ (G.2.1 h0 2) i' (n + 1) := by
      rw [show i' + 1 + n = i' + (n + 1) by omega, vU_add]
    have hlowi := vU_lt τ (G.2.1 h0 2) i'
    rw [hsplit] at hsum hlt
    have hTlt : vO τ (G.2.1 h0 2) i' (n + 1) < V * 4294967296 := by
      have e1 : 4294967296 ^ i' * vO τ (G.2.1 h0 2) i' (n + 1) < 4294967296 ^ i' * (V * 4294967296) := by
        have : V * 4294967296 ^ (i' + 1) = 4294967296 ^ i' * (V * 4294967296) := by rw [Nat.pow_succ, Nat.mul_left_comm]
        omega
      exact Nat.lt_of_mul_lt_mul_left e1
    have hTs : vO τ (G.2.1 h0 2) i' (n + 1) = vO τ (G.2.1 h0 2) i' n + uI (τ (G.2.1 h0 2) (i' + n)) * 4294967296 ^ n := rfl
    have hdm := Nat.div_add_mod (vO τ (G.2.1 h0 2) i' (n + 1)) V
    have hml := Nat.mod_lt (vO τ (G.2.1 h0 2) i' (n + 1)) hVpos
    refine wl_guessDigit hn (by omega) cO hun cU (by rw [fun_]; exact htopU) (by rw [hVτ]; exact hTlt) (fun u16 d1 d2 d3 => ?_)
    rw [hVτ] at d2 d3
    have hqB : vO τ (G.2.1 h0 2) i' (n + 1) / V < 4294967296 := by
      exact Nat.div_lt_of_lt_mul hTlt
    generalize hqd : vO τ (G.2.1 h0 2) i' (n + 1) / V = qd at *
    generalize hrd : vO τ (G.2.1 h0 2) i' (n + 1) % V = rd at *
    clear hqd hrd
    rw [Nat.mul_comm] at hdm
    -- behind the digit
    have next : ∀ (x5 : Int64) (σ17 : qS), (∀ b, b ≠ (G.2.1 h0 2) → σ17 b = τ b) → (∀ t, (t < i' ∨ i' + n ≤ t) → σ17 (G.2.1 h0 2) t = τ (G.2.1 h0 2) t) → vO σ17 (G.2.1 h0 2) i' n = rd → uL x5 = qd → bkX0_divideLong_109 G h0 h1 h2 (nI z) (nI i') x5 post (lpX0_divideLong_56 G h0 h1 h2 (nI z) post (fun (σ28 : qS) => (((σ28 h1 2) = (σ28 h2 2) → bkX0_divideLong_159 G h0 h1 h2 (nI z) (G.2.1 h0 0) (((σ28 h1 1) - (σ28 h2 1)) + 1) 0 post σ28) ∧ (¬ (σ28 h1 2) = (σ28 h2 2) → bkX0_divideLong_159 G h0 h1 h2 (nI z) (G.2.1 h0 0) (((σ28 h1 1) - (σ28 h2 1)) + 1) 1 post σ28))) w) σ17 := by
      intro x5 σ17 w1 w2 w3 w4
      refine ⟨vp_lm (by omega) (by omega), fun σ23 e23 v24 e24 => ?_⟩
      rw [nI_clamp (by omega)] at e23
      have hov23 : σ23 (G.2.1 h0 2) = σ17 (G.2.1 h0 2) := by rw [e23, q_st_a _ _ m3]
      have hlow23 : vU σ23 (G.2.1 h0 2) i' = vU τ (G.2.1 h0 2) i' := vU_congr (fun j hj => by rw [hov23, w2 j (by omega)])
      have hhi23 : vO σ23 (G.2.1 h0 2) i' n = rd := by rw [← w3]; exact vO_congr (fun j _ => by rw [hov23])
      have hw23 : vU σ23 (G.2.1 h0 2) (i' + n) = vU τ (G.2.1 h0 2) i' + 4294967296 ^ i' * rd := by rw [vU_add, hlow23, hhi23]
      have hql : uI (σ23 (G.2.1 (G.2.1 h0 0) 0) i') = qd := by rw [e23, q_st_self, uI_low, w4]; exact Nat.mod_eq_of_lt hqB
      have hqu : vO σ23 (G.2.1 (G.2.1 h0 0) 0) (i' + 1) (mm + 1 - (i' + 1)) = vO τ (G.2.1 (G.2.1 h0 0) 0) (i' + 1) (mm + 1 - (i' + 1)) := vO_congr (fun j _ => by rw [e23, q_st_ne _ _ (by omega), w1 _ (Ne.symm m3)])
      refine ih v24 σ23 ⟨i', by omega, by rw [e24, i32_m1], fun b hb hb2 => by rw [e23, q_st_a _ _ hb, w1 b hb2, hf b hb hb2], ?_, ?_⟩ ?_
      · rw [hw23, show mm + 1 - i' = mm + 1 - (i' + 1) + 1 by omega, vO_low, hql, hqu, ← hsum, ← hdm, Nat.pow_succ]
        generalize vO τ (G.2.1 (G.2.1 h0 0) 0) (i' + 1) (mm + 1 - (i' + 1)) = Qu
        generalize 4294967296 ^ i' = P
        have z1 : (qd + 4294967296 * Qu) * (P * V) = P * (qd * V) + Qu * (P * 4294967296 * V) := by
          rw [Nat.add_mul, Nat.mul_left_comm qd P V, Nat.mul_right_comm P 4294967296 V, Nat.mul_comm (P * V) 4294967296, Nat.mul_left_comm Qu 4294967296, ← Nat.mul_assoc 4294967296]
        rw [z1, Nat.mul_add P]
        omega
      · rw [hw23]
        have z2 : 4294967296 ^ i' * (rd + 1) ≤ 4294967296 ^ i' * V := Nat.mul_le_mul_left _ hml
        rw [Nat.mul_add, Nat.mul_one] at z2
        rw [Nat.mul_comm V]
        omega
      · show (v24 + 1).toNatClampNeg < (nI (i' + 1) - 1 + 1).toNatClampNeg
        rw [e24, i32_m1, i32_mp, i32_mp, nI_clamp (by omega), nI_clamp (by omega)]
        omega
    rw [fh2, b1]
    refine wl_takeProduct m1 (by omega) cO hun cU d1 (fun r σ17 cy w1 w2 w3 w4 => ?_)
    rw [hVτ] at w3
    have hX17 := vO_lt σ17 (G.2.1 h0 2) i' n
    have hTd : vO τ (G.2.1 h0 2) i' (n + 1) = qd * V + rd := hdm.symm
    refine ⟨fun hr0 => ?_, fun hr0 v25 e25 => ?_⟩
    · rcases w4 with ⟨-, hcy⟩ | ⟨hr1, -⟩
      · have hD : uL u16 = qd := by
          rcases (show uL u16 = qd ∨ uL u16 = qd + 1 by omega) with h9 | h9
          · exact h9
          · exfalso
            have e1 : cy * 4294967296 ^ n ≤ uI (τ (G.2.1 h0 2) (i' + n)) * 4294967296 ^ n := Nat.mul_le_mul_right _ hcy
            rw [h9, Nat.add_mul, Nat.one_mul] at w3
            omega
        refine next u16 σ17 w1 w2 ?_ hD
        rw [hD] at w3
        exact dl_rest (cy := cy) (t := uI (τ (G.2.1 h0 2) (i' + n))) hX17 hml (Nat.le_of_lt hVhi) hTd (by rw [hTs]; omega)
      · rw [hr1] at hr0; exact absurd hr0 (by decide)
    · rcases w4 with ⟨hr1, -⟩ | ⟨-, hcy⟩
      · exact absurd hr1 hr0
      · have hD : uL u16 = qd + 1 := by
          rcases (show uL u16 = qd ∨ uL u16 = qd + 1 by omega) with h9 | h9
          · exfalso
            have e1 : (uI (τ (G.2.1 h0 2) (i' + n)) + 1) * 4294967296 ^ n ≤ cy * 4294967296 ^ n := Nat.mul_le_mul_right _ hcy
            rw [Nat.add_mul, Nat.one_mul] at e1
            rw [h9] at w3
            omega
          · exact h9
        have h25 : uL v25 = qd := by rw [e25, uL_sub, hD, uL_1]; omega
        rw [w1 _ o2.2.2.2.2.1, fh2, b1]
        refine wl_giveBack m1 (by omega) cO hun cU (fun σ26 cy2 x1 x2 x3 => ?_)
        have hV17 : vU σ17 (G.2.1 h0 3) n = V := by rw [← hVτ]; exact vU_congr (fun j _ => by rw [w1 _ (Ne.symm m1)])
        rw [hV17] at x3
        refine next v25 σ26 (fun b hb => by rw [x1 b hb, w1 b hb]) (fun t ht => by rw [x2 t ht, w2 t ht]) ?_ h25
        rw [hD, Nat.add_mul, Nat.one_mul] at w3
        exact dl_rest (cy := cy) (t := cy2 + uI (τ (G.2.1 h0 2) (i' + n))) (vO_lt σ26 (G.2.1 h0 2) i' n) hml (Nat.le_of_lt hVhi) hTd (by rw [hTs, Nat.add_mul]; omega)
/-- division, by a number that is not 0 -/
theorem wl_divide {G : qG} {h0 h1 h2 c1 c2 : Nat} {σ : qS} {post : qS → Prop} (hF : dvFix G h0) (hw1 : wFix G h1) (hw2 : wFix G h2) (o1 : dvOut G h0 h1) (o1l : dvOut G h0 ((G.2.1 h1 0))) (o2 : dvOut G h0 h2) (o2l : dvOut G h0 ((G.2.1 h2 0))) (ho1 : wOk G σ h1 c1) (ho2 : wOk G σ h2 c2) (hc2p : 0 < c2) (hq : c1 ≤ G.2.2 (G.2.1 (G.2.1 h0 0) 0)) (hq1 : 1 ≤ G.2.2 (G.2.1 (G.2.1 h0 0) 0)) (hr : c2 ≤ G.2.2 (G.2.1 (G.2.1 h0 1) 0)) (hov : c1 + 1 ≤ G.2.2 (G.2.1 h0 2)) (hun : c2 ≤ G.2.2 (G.2.1 h0 3))
    (k : ∀ (cq cr : Nat) (σ' : qS), (∀ b, dvOut G h0 b → σ' b = σ b) → wOk G σ' (G.2.1 h0 0) cq → wN G σ' (G.2.1 h0 0) cq = wN G σ h1 c1 / wN G σ h2 c2 → wZ G σ' (G.2.1 h0 0) cq = (if σ h1 2 = σ h2 2 then ((wN G σ h1 c1 / wN G σ h2 c2 : Nat) : Int) else -((wN G σ h1 c1 / wN G σ h2 c2 : Nat) : Int)) → wOk G σ' (G.2.1 h0 1) cr → wN G σ' (G.2.1 h0 1) cr = wN G σ h1 c1 % wN G σ h2 c2 → wZ G σ' (G.2.1 h0 1) cr = (if σ h1 2 = 1 then -((wN G σ h1 c1 % wN G σ h2 c2 : Nat) : Int) else ((wN G σ h1 c1 % wN G σ h2 c2 : Nat) : Int)) → post σ') : wpX0_divide G h0 h1 h2 σ post := by
  obtain ⟨fQ, fR, cO, cU, ⟨n1, n2, n3, n4⟩, ⟨m1, m2, m3, m4, m5⟩, ⟨p1, p2, p3, p4⟩⟩ := id hF
  obtain ⟨a1, a2, a3, a4, a5⟩ := id ho1
  obtain ⟨b1, b2, b3, b4, b5⟩ := id ho2
  have hcQ := fQ.2
  have hc2 := hw2.2
  unfold wpX0_divide
  refine wl_isZero hw2 ho2 (fun hz => absurd hz (by omega)) (fun _ => ⟨fun _ => ?_, fun z => absurd rfl z⟩)
  refine wl_compareSize hw1 hw2 ho1 ho2 (fun r hr3 => ⟨fun hge => ?_, fun hge => ?_⟩)
  · have hle : wN G σ h2 c2 ≤ wN G σ h1 c1 := by
      rcases hr3 with ⟨-, h⟩ | ⟨h, -⟩ | ⟨h, -⟩
      · rw [h] at hge; exact absurd hge (by decide)
      · omega
      · omega
    have hcc : c2 ≤ c1 := by
      rcases Nat.lt_or_ge c1 c2 with h | h
      · have := vU_lt_of_count (σ := σ) (a := (G.2.1 h1 0)) (σ' := σ) (a' := (G.2.1 h2 0)) h b5
        unfold wN at hle
        omega
      · exact h
    rw [b1]
    refine ⟨fun h => ?_, fun h => ?_⟩
    · rw [show (1 : Int32) = nI 1 from rfl, nI_eq (by omega) (by decide)] at h
      subst h
      exact wl_divideByLimb hF hw1 hw2 o1 o1l o2 ho1 ho2 hq hr k
    · have : c2 ≠ 1 := fun z => h (by rw [z]; rfl)
      exact wl_divideLong hF hw1 hw2 o1 o1l o2 o2l ho1 ho2 (by omega) hcc hq hr hov hun k
  · have hlt : wN G σ h1 c1 < wN G σ h2 c2 := by
      rcases hr3 with ⟨h, -⟩ | ⟨-, h⟩ | ⟨-, h⟩
      · exact h
      · rw [h] at hge; exact absurd (by decide) hge
      · rw [h] at hge; exact absurd (by decide) hge
    have hcc : c1 ≤ c2 := by
      rcases Nat.lt_or_ge c2 c1 with h | h
      · have := vU_lt_of_count (σ := σ) (a := (G.2.1 h2 0)) (σ' := σ) (a' := (G.2.1 h1 0)) h a5
        unfold wN at hlt
        omega
      · exact h
    refine wl_becomeInt fQ hq1 (fun cq σ13 g1 g2 g3 => ?_)
    have e1 : σ13 h1 = σ h1 := g1 _ o1.1 o1.2.1
    have e1l : σ13 ((G.2.1 h1 0)) = σ ((G.2.1 h1 0)) := g1 _ o1l.1 o1l.2.1
    obtain ⟨k1, k2, k3⟩ := wOk_keep ho1 e1 e1l
    refine wl_become fR hw1 k1 (by omega) (Ne.symm o1.2.2.2.1) (fun σ16 s1 s2 s3 s4 => ?_)
    have eQ : σ16 (G.2.1 h0 0) = σ13 (G.2.1 h0 0) := s1 _ n1 n2
    have eQl : σ16 (G.2.1 (G.2.1 h0 0) 0) = σ13 (G.2.1 (G.2.1 h0 0) 0) := s1 _ n3 n4
    obtain ⟨t1, t2, t3⟩ := wOk_keep g2 eQ eQl
    have hz13 : wZ G σ13 (G.2.1 h0 0) cq = 0 := g3
    have hN0 : wN G σ13 (G.2.1 h0 0) cq = 0 := by
      unfold wZ at hz13
      split at hz13 <;> omega
    have hdiv : wN G σ h1 c1 / wN G σ h2 c2 = 0 := Nat.div_eq_of_lt hlt
    have hmod : wN G σ h1 c1 % wN G σ h2 c2 = wN G σ h1 c1 := Nat.mod_eq_of_lt hlt
    refine k cq c1 σ16 (fun b hb => by rw [s1 _ hb.2.2.1 hb.2.2.2.1, g1 _ hb.1 hb.2.1]) t1 (by rw [t2, hN0, hdiv]) ?_ s2 (by rw [s3, k2, hmod]) ?_
    · rw [t3, hz13, hdiv]
      split <;> rfl
    · rw [s4, k3, hmod]
      rfl

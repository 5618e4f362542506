/-! Pure level: products by three of half the size. -/
/-- what multiply asks: the factors below the product, the product below the spare room -/
def muOk (G : qG) (h0 d p xm q ym z s : Nat) : Prop := ym ≤ xm ∧ p + xm ≤ z ∧ q + ym ≤ z ∧ z + xm + ym ≤ s ∧ s + hroom d xm ≤ G.2.2 (G.2.1 h0 1)
def muDone (G : qG) (h0 p xm q ym z s : Nat) (σ σ' : qS) : Prop := (∀ b, b ≠ (G.2.1 h0 1) → σ' b = σ b) ∧ (∀ t, (t < z ∨ (z + (xm + ym) ≤ t ∧ t < s)) → σ' (G.2.1 h0 1) t = σ (G.2.1 h0 1) t) ∧ vO σ' (G.2.1 h0 1) z (xm + ym) = vO σ (G.2.1 h0 1) p xm * vO σ (G.2.1 h0 1) q ym
set_option maxHeartbeats 2000000 in
theorem wl_multiply {G : qG} {h0 cut : Nat} (hc : G.2.2 (G.2.1 h0 1) < 100000) (hne : h0 ≠ (G.2.1 h0 1)) (hcut : cut < 100000) : ∀ (n d : Nat), n < 1000 → d < n → ∀ (p xm q ym z s : Nat) (σ : qS) (post : qS → Prop), σ h0 0 = nI cut → muOk G h0 d p xm q ym z s → (∀ σ' : qS, muDone G h0 p xm q ym z s σ σ' → post σ') → wpX1_multiply G n h0 (nI p) (nI xm) (nI q) (nI ym) (nI z) (nI s) (nI d) σ post := by
  intro n
  induction n with
  | zero => intro d _ hd; exact absurd hd (Nat.not_lt_zero _)
  | succ n ih =>
    intro d hn1 hd p xm q ym z s σ post hcu hok k
    obtain ⟨o1, o2, o3, o4, o5⟩ := id hok
    have hs0 : s ≤ G.2.2 (G.2.1 h0 1) := by omega
    have ediv : (nI xm + 1) / 2 = nI ((xm + 1) / 2) := by rw [nI_1]; exact pk_div (a := xm + 1) (d := 2) (by omega) (by decide) (by decide)
    have long : bkX1_multiply_54 G (wpX1_multiply G n) h0 (nI p) (nI xm) (nI q) (nI ym) (nI z) post σ := by
      unfold bkX1_multiply_54
      exact wl_multiplyLong hc o2 o3 (by omega) (fun σ3 g1 g2 g3 => k σ3 ⟨g1, fun t ht => g2 t (by omega), g3⟩)
    have body : ∀ s0 : Int32, (¬ s0 = 0 → (xm + 1) / 2 < ym) → bkX1_multiply_15 G (wpX1_multiply G n) h0 (nI p) (nI xm) (nI q) (nI ym) (nI z) (nI s) (nI d) s0 post σ := by
      intro s0 hs
      unfold bkX1_multiply_15
      rw [nI_le0 (by omega)]
      refine ⟨fun _ => long, fun hd0 => ?_⟩
      rw [hcu]
      refine ⟨fun _ => long, fun _ => ⟨fun _ => long, fun hsz => ?_⟩⟩
      have hsp := hs hsz
      obtain ⟨d', rfl⟩ : ∃ d', d = d' + 1 := ⟨d - 1, by omega⟩
      unfold wpX1_multiplyByThree
      intro v1 e1 v2 e2 v3 e3 v4 e4 v5 e5 v6 e6
      rw [ediv] at e1
      generalize hh : (xm + 1) / 2 = hf at *
      have e2w : (2 : Int32) = nI 2 := rfl
      have e4w : (4 : Int32) = nI 4 := rfl
      rw [e1, nI_1] at e2
      rw [e1, e2w, pk_mul, nI_add] at e3
      rw [e1, e2w, pk_mul, nI_add, pk_sub (by omega)] at e4
      rw [e2, nI_add] at e5
      rw [e2, e2w, pk_mul, nI_add] at e6
      have hroomd : hroom (d' + 1) xm = 4 * (hf + 1) + hroom d' (hf + 1) := by rw [← hh]; rfl
      have hr1 : hroom d' hf ≤ hroom d' (hf + 1) := hroom_mono d' (by omega)
      have hr2 : hroom d' (xm - hf) ≤ hroom d' (hf + 1) := hroom_mono d' (by omega)
      subst e1; subst e2; subst e3; subst e4; subst e5; subst e6
      rw [nI_pred]
      -- the lower halves
      refine ih d' (by omega) (by omega) p hf q hf z s σ _ hcu ⟨Nat.le_refl _, by omega, by omega, by omega, by omega⟩ (fun σ7 m7 => ?_)
      obtain ⟨g1, g2, g3⟩ := m7
      rw [nI_add, pk_sub (by omega), nI_add, pk_sub (by omega)]
      -- the higher halves
      refine ih d' (by omega) (by omega) (p + hf) (xm - hf) (q + hf) (ym - hf) (z + 2 * hf) s σ7 _ (by rw [g1 _ hne]; exact hcu) ⟨by omega, by omega, by omega, by omega, by omega⟩ (fun σ9 m9 => ?_)
      obtain ⟨i1, i2, i3⟩ := m9
      -- the sums of the halves
      refine wl_sumHalves hc (by omega) (by omega) (by omega) (by omega) (fun σ11 j1 j2 j3 => ?_)
      rw [nI_add, e2w, pk_mul, nI_add, e4w, pk_mul, nI_add]
      refine wl_sumHalves hc (by omega) (by omega) (by omega) (by omega) (fun σ13 l1 l2 l3 => ?_)
      -- their product
      refine ih d' (by omega) (by omega) s (hf + 1) (s + (hf + 1)) (hf + 1) (s + 2 * (hf + 1)) (s + 4 * (hf + 1)) σ13 _ (by rw [l1 _ hne, j1 _ hne, i1 _ hne, g1 _ hne]; exact hcu) ⟨Nat.le_refl _, by omega, by omega, by omega, by omega⟩ (fun σ15 m15 => ?_)
      obtain ⟨r1, r2, r3⟩ := m15
      rw [pk_mul]
      -- the parts by their values
      generalize hX0 : vO σ (G.2.1 h0 1) p hf = X0 at g3
      generalize hY0 : vO σ (G.2.1 h0 1) q hf = Y0 at g3
      generalize hX1 : vO σ (G.2.1 h0 1) (p + hf) (xm - hf) = X1
      generalize hY1 : vO σ (G.2.1 h0 1) (q + hf) (ym - hf) = Y1
      have s7 : ∀ t, t < z → σ7 (G.2.1 h0 1) t = σ (G.2.1 h0 1) t := fun t ht => g2 t (Or.inl ht)
      have s9 : ∀ t, t < z → σ9 (G.2.1 h0 1) t = σ (G.2.1 h0 1) t := fun t ht => by rw [i2 t (Or.inl (by omega)), s7 t ht]
      have s11 : ∀ t, t < z → σ11 (G.2.1 h0 1) t = σ (G.2.1 h0 1) t := fun t ht => by rw [j2 t (Or.inl (by omega)), s9 t ht]
      have q9 : vO σ9 (G.2.1 h0 1) (z + 2 * hf) (xm - hf + (ym - hf)) = X1 * Y1 := by
        rw [i3, vO_congr (σ := σ7) (σ' := σ) (a' := (G.2.1 h0 1)) (p' := p + hf) (fun t ht => s7 _ (by omega)), vO_congr (σ := σ7) (σ' := σ) (a' := (G.2.1 h0 1)) (p' := q + hf) (fun t ht => s7 _ (by omega)), hX1, hY1]
      have q11 : vO σ11 (G.2.1 h0 1) s (hf + 1) = X0 + X1 := by
        rw [j3, vO_congr (σ := σ9) (σ' := σ) (a' := (G.2.1 h0 1)) (p' := p) (fun t ht => s9 _ (by omega)), vO_congr (σ := σ9) (σ' := σ) (a' := (G.2.1 h0 1)) (p' := p + hf) (fun t ht => s9 _ (by omega)), hX0, hX1]
      have q13 : vO σ13 (G.2.1 h0 1) (s + (hf + 1)) (hf + 1) = Y0 + Y1 := by
        rw [l3, vO_congr (σ := σ11) (σ' := σ) (a' := (G.2.1 h0 1)) (p' := q) (fun t ht => s11 _ (by omega)), vO_congr (σ := σ11) (σ' := σ) (a' := (G.2.1 h0 1)) (p' := q + hf) (fun t ht => s11 _ (by omega)), hY0, hY1]
      have q13x : vO σ13 (G.2.1 h0 1) s (hf + 1) = X0 + X1 := by
        rw [← q11]; exact vO_congr (fun t ht => l2 _ (by omega))
      have q15 : vO σ15 (G.2.1 h0 1) (s + 2 * (hf + 1)) (2 * (hf + 1)) = (X0 * Y1 + X1 * Y0) + X0 * Y0 + X1 * Y1 := by
        rw [show 2 * (hf + 1) = hf + 1 + (hf + 1) by omega] at r3 ⊢
        rw [r3, q13x, q13, kar_mid]
      -- everything below the spare room stands since σ9
      have b15 : ∀ t, t < s → σ15 (G.2.1 h0 1) t = σ9 (G.2.1 h0 1) t := fun t ht => by rw [r2 t (Or.inl (by omega)), l2 t (Or.inl (by omega)), j2 t (Or.inl ht)]
      have low15 : vO σ15 (G.2.1 h0 1) z (2 * hf) = X0 * Y0 := by
        rw [show 2 * hf = hf + hf by omega, ← g3]
        exact vO_congr (fun t ht => by rw [b15 _ (by omega), i2 _ (Or.inl (by omega))])
      have high15 : vO σ15 (G.2.1 h0 1) (z + 2 * hf) (xm + ym - 2 * hf) = X1 * Y1 := by
        rw [show xm + ym - 2 * hf = xm - hf + (ym - hf) by omega, ← q9]
        exact vO_congr (fun t ht => b15 _ (by omega))
      refine wl_subtractAt hc (by omega) (by omega) (by omega) (Or.inl (by omega)) (fun σ17 bw t1 t2 t3 => ?_)
      have hM := vO_lt σ15 (G.2.1 h0 1) (s + 2 * (hf + 1)) (2 * (hf + 1))
      have hM17 := vO_lt σ17 (G.2.1 h0 1) (s + 2 * (hf + 1)) (2 * (hf + 1))
      rw [low15, q15] at t3
      rw [q15] at hM
      have hb17 : vO σ17 (G.2.1 h0 1) (s + 2 * (hf + 1)) (2 * (hf + 1)) = (X0 * Y1 + X1 * Y0) + X1 * Y1 := by
        have : bw = 0 := by
          rcases Nat.eq_zero_or_pos bw with h | h
          · exact h
          · have := Nat.mul_le_mul_right (4294967296 ^ (2 * (hf + 1))) h
            omega
        rw [this, Nat.zero_mul] at t3
        omega
      have high17 : vO σ17 (G.2.1 h0 1) (z + 2 * hf) (xm + ym - 2 * hf) = X1 * Y1 := by
        rw [← high15]; exact vO_congr (fun t ht => t2 _ (by omega))
      refine wl_subtractAt hc (by omega) (by omega) (by omega) (Or.inl (by omega)) (fun σ19 bw2 u1 u2 u3 => ?_)
      have hM19 := vO_lt σ19 (G.2.1 h0 1) (s + 2 * (hf + 1)) (2 * (hf + 1))
      rw [high17, hb17] at u3
      have hb19 : vO σ19 (G.2.1 h0 1) (s + 2 * (hf + 1)) (2 * (hf + 1)) = X0 * Y1 + X1 * Y0 := by
        have : bw2 = 0 := by
          rcases Nat.eq_zero_or_pos bw2 with h | h
          · exact h
          · have := Nat.mul_le_mul_right (4294967296 ^ (2 * (hf + 1))) h
            omega
        rw [this, Nat.zero_mul] at u3
        omega
      intro v21 e21
      subst e21
      have hif : (if nI (xm + ym - 2 * hf + hf) < nI (2 * (hf + 1)) then nI (xm + ym - 2 * hf + hf) else nI (2 * (hf + 1))) = nI (min (2 * (hf + 1)) (xm + ym - 2 * hf + hf)) := by
        by_cases h : xm + ym - 2 * hf + hf < 2 * (hf + 1)
        · rw [if_pos ((nI_ltI (by omega) (by omega)).mpr h)]; congr 1; omega
        · rw [if_neg (fun w => h ((nI_ltI (by omega) (by omega)).mp w))]; congr 1; omega
      rw [hif]
      -- the whole product is below its room, so the middle is
      have eX : vO σ (G.2.1 h0 1) p xm = X0 + 4294967296 ^ hf * X1 := by
        have := vO_add σ (G.2.1 h0 1) p hf (xm - hf)
        rw [show hf + (xm - hf) = xm by omega, hX0, hX1] at this
        exact this
      have eY : vO σ (G.2.1 h0 1) q ym = Y0 + 4294967296 ^ hf * Y1 := by
        have := vO_add σ (G.2.1 h0 1) q hf (ym - hf)
        rw [show hf + (ym - hf) = ym by omega, hY0, hY1] at this
        exact this
      have lX := vO_lt σ (G.2.1 h0 1) p xm
      have lY := vO_lt σ (G.2.1 h0 1) q ym
      have hXY : vO σ (G.2.1 h0 1) p xm * vO σ (G.2.1 h0 1) q ym = X0 * Y0 + 4294967296 ^ hf * (X0 * Y1 + X1 * Y0) + 4294967296 ^ hf * (4294967296 ^ hf * (X1 * Y1)) := by rw [eX, eY, kar_id]
      have hXYlt : vO σ (G.2.1 h0 1) p xm * vO σ (G.2.1 h0 1) q ym < 4294967296 ^ (xm + ym) := by
        rw [Nat.pow_add]
        exact Nat.mul_lt_mul_of_lt_of_le lX (Nat.le_of_lt lY) (Nat.pow_pos (by decide))
      generalize hend : xm + ym - 2 * hf + hf = toEnd at *
      have hPh : 0 < 4294967296 ^ hf := Nat.pow_pos (by decide)
      have hmid : X0 * Y1 + X1 * Y0 < 4294967296 ^ toEnd := by
        have e1 : 4294967296 ^ hf * (X0 * Y1 + X1 * Y0) < 4294967296 ^ hf * 4294967296 ^ toEnd := by
          rw [← Nat.pow_add, show hf + toEnd = xm + ym by omega]
          omega
        exact Nat.lt_of_mul_lt_mul_left e1
      have hmin : vO σ19 (G.2.1 h0 1) (s + 2 * (hf + 1)) (min (2 * (hf + 1)) toEnd) = X0 * Y1 + X1 * Y0 := by
        rcases Nat.le_total (2 * (hf + 1)) toEnd with h | h
        · rw [Nat.min_eq_left h]; exact hb19
        · rw [Nat.min_eq_right h]
          have e1 := vO_add σ19 (G.2.1 h0 1) (s + 2 * (hf + 1)) toEnd (2 * (hf + 1) - toEnd)
          rw [show toEnd + (2 * (hf + 1) - toEnd) = 2 * (hf + 1) by omega, hb19] at e1
          have e2 := vO_lt σ19 (G.2.1 h0 1) (s + 2 * (hf + 1)) toEnd
          rcases Nat.eq_zero_or_pos (vO σ19 (G.2.1 h0 1) (s + 2 * (hf + 1) + toEnd) (2 * (hf + 1) - toEnd)) with h0 | h0
          · rw [h0, Nat.mul_zero, Nat.add_zero] at e1
            exact e1.symm
          · have := Nat.mul_le_mul_left (4294967296 ^ toEnd) h0
            omega
      have low19 : ∀ t, t < s → σ19 (G.2.1 h0 1) t = σ15 (G.2.1 h0 1) t := fun t ht => by rw [u2 t (Or.inl (by omega)), t2 t (Or.inl (by omega))]
      refine wl_addAt hc (Nat.min_le_right _ _) (by omega) (by omega) (Or.inr (by omega)) (fun σ22 cy w1 w2 w3 => ?_)
      -- the product's lower part and the rest
      have z19 : vO σ19 (G.2.1 h0 1) z hf + 4294967296 ^ hf * vO σ19 (G.2.1 h0 1) (z + hf) toEnd = X0 * Y0 + 4294967296 ^ hf * (4294967296 ^ hf * (X1 * Y1)) := by
        have e1 := vO_add σ19 (G.2.1 h0 1) z hf toEnd
        have e2 := vO_add σ19 (G.2.1 h0 1) z (2 * hf) (xm + ym - 2 * hf)
        rw [show 2 * hf + (xm + ym - 2 * hf) = hf + toEnd by omega, e1] at e2
        have e3 : vO σ19 (G.2.1 h0 1) z (2 * hf) = X0 * Y0 := by rw [← low15]; exact vO_congr (fun t ht => low19 _ (by omega))
        have e4 : vO σ19 (G.2.1 h0 1) (z + 2 * hf) (xm + ym - 2 * hf) = X1 * Y1 := by rw [← high15]; exact vO_congr (fun t ht => low19 _ (by omega))
        rw [e3, e4, show 2 * hf = hf + hf by omega, Nat.pow_add, Nat.mul_assoc] at e2
        exact e2
      rw [hmin] at w3
      have z22 : vO σ22 (G.2.1 h0 1) z (xm + ym) = vO σ19 (G.2.1 h0 1) z hf + 4294967296 ^ hf * vO σ22 (G.2.1 h0 1) (z + hf) toEnd := by
        rw [show xm + ym = hf + toEnd by omega, vO_add, vO_congr (σ := σ22) (σ' := σ19) (a' := (G.2.1 h0 1)) (p' := z) (fun t ht => w2 _ (Or.inl (by omega)))]
      have hsum : vO σ22 (G.2.1 h0 1) z (xm + ym) + cy * 4294967296 ^ (xm + ym) = vO σ (G.2.1 h0 1) p xm * vO σ (G.2.1 h0 1) q ym := by
        have e1 := congrArg (fun w => 4294967296 ^ hf * w) w3
        simp only [Nat.mul_add] at e1
        rw [Nat.mul_left_comm, ← Nat.pow_add, show hf + toEnd = xm + ym by omega] at e1
        rw [z22, hXY, Nat.mul_add]
        omega
      have hcy : cy = 0 := by
        rcases Nat.eq_zero_or_pos cy with h | h
        · exact h
        · have := Nat.mul_le_mul_right (4294967296 ^ (xm + ym)) h
          omega
      rw [hcy, Nat.zero_mul, Nat.add_zero] at hsum
      refine k σ22 ⟨fun b hb => by rw [w1 b hb, u1 b hb, t1 b hb, r1 b hb, l1 b hb, j1 b hb, i1 b hb, g1 b hb], fun t ht => ?_, hsum⟩
      rw [w2 t (by omega), low19 t (by omega), b15 t (by omega), i2 t (by omega), g2 t (by omega)]
    show wpX1_multiplyB G (wpX1_multiply G n) h0 (nI p) (nI xm) (nI q) (nI ym) (nI z) (nI s) (nI d) σ post
    unfold wpX1_multiplyB
    rw [ediv, nI_leI (by omega) (by omega)]
    exact ⟨fun _ => body 0 (fun h => absurd rfl h), fun h => body 1 (fun _ => by omega)⟩

/-! Pure level: long division. (G.2.1 h0 0), (G.2.1 h0 1): quotient and rest; (G.2.1 (G.2.1 h0 0) 0), (G.2.1 (G.2.1 h0 1) 0): their rows; (G.2.1 h0 2), (G.2.1 h0 3): the rows over and under. -/
def dvFix (G : qG) (h0 : Nat) : Prop := wFix G (G.2.1 h0 0) ∧ wFix G (G.2.1 h0 1) ∧ G.2.2 (G.2.1 h0 2) < 100000 ∧ G.2.2 (G.2.1 h0 3) < 100000 ∧ ((G.2.1 h0 0) ≠ (G.2.1 h0 1) ∧ (G.2.1 h0 0) ≠ (G.2.1 (G.2.1 h0 1) 0) ∧ (G.2.1 (G.2.1 h0 0) 0) ≠ (G.2.1 h0 1) ∧ (G.2.1 (G.2.1 h0 0) 0) ≠ (G.2.1 (G.2.1 h0 1) 0)) ∧ ((G.2.1 h0 2) ≠ (G.2.1 h0 3) ∧ (G.2.1 h0 2) ≠ (G.2.1 h0 0) ∧ (G.2.1 h0 2) ≠ (G.2.1 (G.2.1 h0 0) 0) ∧ (G.2.1 h0 2) ≠ (G.2.1 h0 1) ∧ (G.2.1 h0 2) ≠ (G.2.1 (G.2.1 h0 1) 0)) ∧ ((G.2.1 h0 3) ≠ (G.2.1 h0 0) ∧ (G.2.1 h0 3) ≠ (G.2.1 (G.2.1 h0 0) 0) ∧ (G.2.1 h0 3) ≠ (G.2.1 h0 1) ∧ (G.2.1 h0 3) ≠ (G.2.1 (G.2.1 h0 1) 0))
def dvOut (G : qG) (h0 x : Nat) : Prop := x ≠ (G.2.1 h0 0) ∧ x ≠ (G.2.1 (G.2.1 h0 0) 0) ∧ x ≠ (G.2.1 h0 1) ∧ x ≠ (G.2.1 (G.2.1 h0 1) 0) ∧ x ≠ (G.2.1 h0 2) ∧ x ≠ (G.2.1 h0 3)
theorem wOk_keep {G : qG} {σ σ' : qS} {h c : Nat} (ho : wOk G σ h c) (e1 : σ' h = σ h) (e2 : σ' ((G.2.1 h 0)) = σ ((G.2.1 h 0))) : wOk G σ' h c ∧ wN G σ' h c = wN G σ h c ∧ wZ G σ' h c = wZ G σ h c := by
  have hN : wN G σ' h c = wN G σ h c := vU_congr (fun j _ => by rw [e2])
  refine ⟨?_, hN, by unfold wZ; rw [hN, e1]⟩
  unfold wOk at ho ⊢
  rw [e1, e2]
  exact ho
theorem wl_divideByLimb {G : qG} {h0 h1 h2 c1 : Nat} {σ : qS} {post : qS → Prop} (hF : dvFix G h0) (hw1 : wFix G h1) (hw2 : wFix G h2) (o1 : dvOut G h0 h1) (o1l : dvOut G h0 ((G.2.1 h1 0))) (o2 : dvOut G h0 h2) (ho1 : wOk G σ h1 c1) (ho2 : wOk G σ h2 1) (hq : c1 ≤ G.2.2 (G.2.1 (G.2.1 h0 0) 0)) (hr : 1 ≤ G.2.2 (G.2.1 (G.2.1 h0 1) 0))
    (k : ∀ (cq cr : Nat) (σ' : qS), (∀ b, dvOut G h0 b → σ' b = σ b) → wOk G σ' (G.2.1 h0 0) cq → wN G σ' (G.2.1 h0 0) cq = wN G σ h1 c1 / wN G σ h2 1 → wZ G σ' (G.2.1 h0 0) cq = (if σ h1 2 = σ h2 2 then ((wN G σ h1 c1 / wN G σ h2 1 : Nat) : Int) else -((wN G σ h1 c1 / wN G σ h2 1 : Nat) : Int)) → wOk G σ' (G.2.1 h0 1) cr → wN G σ' (G.2.1 h0 1) cr = wN G σ h1 c1 % wN G σ h2 1 → wZ G σ' (G.2.1 h0 1) cr = (if σ h1 2 = 1 then -((wN G σ h1 c1 % wN G σ h2 1 : Nat) : Int) else ((wN G σ h1 c1 % wN G σ h2 1 : Nat) : Int)) → post σ') : wpX0_divideByLimb G h0 h1 h2 σ post := by
  obtain ⟨fQ, fR, -, -, ⟨n1, n2, n3, n4⟩, -, -⟩ := hF
  obtain ⟨a1, a2, a3, a4, a5⟩ := id ho1
  obtain ⟨b1, b2, b3, b4, b5⟩ := id ho2
  have hcQ := fQ.2
  have hcR := fR.2
  have hc1 := hw1.2
  have hc2 := hw2.2
  have hd0 := b5 0 rfl
  rw [Ne, uI_eq0] at hd0
  have hdl := uI_lt (σ ((G.2.1 h2 0)) 0)
  have hN2 : wN G σ h2 1 = uI (σ ((G.2.1 h2 0)) 0) := by
    show nv 4294967296 (dg σ ((G.2.1 h2 0))) 1 = _
    rw [nv_s, nv_0, Nat.pow_zero, Nat.mul_one, Nat.zero_add]
    rfl
  unfold wpX0_divideByLimb
  refine ⟨vp_lm (i := 0) (by omega) (by omega), fun v3 e3 v4 e4 v5 e5 => ?_⟩
  rw [clamp0] at e3
  rw [a1] at e5
  have h3 : uL v3 = uI (σ ((G.2.1 h2 0)) 0) := by rw [e3, uL_ext]
  generalize hd : uI (σ ((G.2.1 h2 0)) 0) = d at hd0 hdl hN2 h3
  refine lp3 (W := fun m x5 x7 τ => lpX0_divideByLimb_23 G h0 h1 h2 v3 post _ m x5 x7 τ) (I := fun x5 x7 τ => ∃ i, i ≤ c1 ∧ x7 = nI i - 1 ∧ (∀ b, b ≠ (G.2.1 (G.2.1 h0 0) 0) → τ b = σ b) ∧ uL x5 < d ∧ vO σ ((G.2.1 h1 0)) i (c1 - i) = vO τ (G.2.1 (G.2.1 h0 0) 0) i (c1 - i) * d + uL x5) (μ := fun _ x7 _ => (x7 + 1).toNatClampNeg) ?_ v4 v5 σ ⟨c1, Nat.le_refl _, e5, fun _ _ => rfl, by rw [e4, uL_0]; omega, by rw [Nat.sub_self, e4]; show 0 = 0 * d + 0; omega⟩
  intro m x5 x7 τ hI ih
  obtain ⟨i, hi, rfl, hf, hx, hv⟩ := hI
  show lpX0_divideByLimb_23 G h0 h1 h2 v3 post _ (m + 1) _ _ _
  unfold lpX0_divideByLimb_23
  rw [nI_m1neg (by omega)]
  refine ⟨fun h => ?_, fun h => ?_⟩
  · subst h
    rw [Nat.sub_zero, vO_0, vO_0] at hv
    have hN : wN G σ h1 c1 = vU τ (G.2.1 (G.2.1 h0 0) 0) c1 * d + uL x5 := hv
    have hqq : vU τ (G.2.1 (G.2.1 h0 0) 0) c1 = wN G σ h1 c1 / d := by
      rw [hN, Nat.mul_comm, Nat.mul_add_div (by omega), Nat.div_eq_of_lt hx, Nat.add_zero]
    have hrr : uL x5 = wN G σ h1 c1 % d := by rw [hN, Nat.mul_comm, Nat.mul_add_mod, Nat.mod_eq_of_lt hx]
    have t1 : τ h1 = σ h1 := hf _ o1.2.1
    have t2 : τ h2 = σ h2 := hf _ o2.2.1
    have fin : ∀ s : Int32, (s = 0 ∨ s = 1) → (s = 1 ↔ ¬ σ h1 2 = σ h2 2) → bkX0_divideByLimb_108 G h0 h1 x5 (G.2.1 h0 0) (nI c1) s post τ := by
      intro s hs hsg
      unfold bkX0_divideByLimb_108
      refine wl_settleZ fQ hq hs (fun cq σ22 g1 g2 g3 g4 g5 => ⟨vp_lm (i := 0) (by omega) (by omega), fun σ27 e27 => ?_⟩)
      rw [clamp0] at e27
      have e271 : σ27 h1 2 = σ h1 2 := by rw [e27, q_st_a _ _ o1.2.2.2.1, g2 _ o1.1, t1]
      rw [e271]
      have hv27 : vU σ27 (G.2.1 (G.2.1 h0 1) 0) 1 = wN G σ h1 c1 % d := by
        show nv 4294967296 (dg σ27 (G.2.1 (G.2.1 h0 1) 0)) 1 = _
        rw [nv_s, nv_0, Nat.pow_zero, Nat.mul_one, Nat.zero_add]
        unfold dg
        rw [e27, q_st_self, uI_low, ← hrr]
        omega
      refine wl_settleZ (n := 1) fR hr a3 (fun cr σ28 p1 p2 p3 p4 p5 => ?_)
      have eQ : σ28 (G.2.1 h0 0) = σ22 (G.2.1 h0 0) := by rw [p2 _ n1, e27, q_st_a _ _ n2]
      have eQl : σ28 (G.2.1 (G.2.1 h0 0) 0) = σ22 (G.2.1 (G.2.1 h0 0) 0) := by rw [p2 _ n3, e27, q_st_a _ _ n4]
      obtain ⟨k1, k2, k3⟩ := wOk_keep g3 eQ eQl
      refine k cq cr σ28 (fun b hb => by rw [p2 _ hb.2.2.1, e27, q_st_a _ _ hb.2.2.2.1, g2 _ hb.1, hf _ hb.2.1]) k1 (by rw [k2, g4, hqq, hN2]) ?_ p3 (by rw [p4, hv27, hN2]) (by rw [p5, hv27, hN2])
      rw [k3, g5, hqq, hN2]
      by_cases hz : σ h1 2 = σ h2 2
      · rw [if_pos hz, if_neg (fun z => (hsg.mp z) hz)]
      · rw [if_neg hz, if_pos (hsg.mpr hz)]
    rw [t1, t2, a1]
    exact ⟨fun hz => fin 0 (Or.inl rfl) ⟨fun z => absurd z (by decide), fun z => absurd hz z⟩, fun hz => fin 1 (Or.inr rfl) ⟨fun _ => hz, fun _ => rfl⟩⟩
  · obtain ⟨i', rfl⟩ : ∃ i', i = i' + 1 := ⟨i - 1, by omega⟩
    rw [nI_pred]
    refine ⟨vp_lm (by omega) (by omega), fun v9 e9 => ?_⟩
    rw [nI_clamp (by omega), hf _ o1l.2.1] at e9
    have hl := uI_lt (σ ((G.2.1 h1 0)) i')
    have h9 : uL v9 = uL x5 * 4294967296 + uI (σ ((G.2.1 h1 0)) i') := by rw [e9, uL_two _ _ (by omega) (by rw [uL_ext]; exact hl), uL_ext]
    refine wl_divideUnsigned h3 (by omega) hdl (fun u11 h11 => ⟨vp_lm (by omega) (by omega), fun σ15 e15 v16 e16 v17 e17 => ?_⟩)
    rw [nI_clamp (by omega)] at e15
    have hdm := Nat.div_add_mod (uL v9) d
    have hml := Nat.mod_lt (uL v9) (show 0 < d by omega)
    rw [← h11] at hdm
    generalize hrem : uL v9 % d = rm at hdm hml
    have h9lt := uL_lt v9
    have h16 : uL v16 = rm := by
      rw [e16, uL_sub, uL_mul, h3, Nat.mul_comm]
      omega
    have hqlt : uL u11 < 4294967296 := by
      rcases Nat.lt_or_ge (uL u11) 4294967296 with hc | hc
      · exact hc
      · have a1 : d * 4294967296 ≤ d * uL u11 := Nat.mul_le_mul_left _ hc
        have a2 : (uL x5 + 1) * 4294967296 ≤ d * 4294967296 := Nat.mul_le_mul_right _ hx
        clear h11 hrem
        omega
    clear h11 hrem
    refine ih v16 v17 σ15 ⟨i', by omega, by rw [e17, i32_m1], fun b hb => by rw [e15, q_st_a _ _ hb, hf b hb], by omega, ?_⟩ ?_
    · rw [show c1 - i' = c1 - (i' + 1) + 1 by omega, vO_low, vO_low, hv]
      have z1 : vO σ15 (G.2.1 (G.2.1 h0 0) 0) (i' + 1) (c1 - (i' + 1)) = vO τ (G.2.1 (G.2.1 h0 0) 0) (i' + 1) (c1 - (i' + 1)) := vO_congr (fun j _ => by rw [e15, q_st_ne _ _ (by omega)])
      have z2 : uI (σ15 (G.2.1 (G.2.1 h0 0) 0) i') = uL u11 := by rw [e15, q_st_self, uI_low]; exact Nat.mod_eq_of_lt hqlt
      rw [z1, z2, h16, Nat.add_mul, Nat.mul_assoc 4294967296, Nat.mul_add, Nat.mul_comm (uL u11) d]
      omega
    · show (v17 + 1).toNatClampNeg < (nI (i' + 1) - 1 + 1).toNatClampNeg
      rw [e17, i32_m1, i32_mp, i32_mp, nI_clamp (by omega), nI_clamp (by omega)]
      omega

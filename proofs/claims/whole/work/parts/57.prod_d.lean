/-! Pure level: the product of two Wholes. -/
def pdOk (G : qG) (σ : qS) (h0 w : Nat) : Prop := (∃ cut, σ h0 0 = nI cut ∧ cut < 100000) ∧ σ h0 2 = nI 0 ∧ σ h0 3 = nI w ∧ σ h0 4 = nI (2 * w) ∧ σ h0 5 = nI (4 * w) ∧ G.2.2 (G.2.1 h0 1) = 4 * w + hroom 8 w ∧ G.2.2 (G.2.1 h0 1) < 100000 ∧ h0 ≠ (G.2.1 h0 1)
theorem wl_prod34 {G : qG} {h0 h1 h2 h3 h4 s0 w c4 cs : Nat} {σ : qS} {post : qS → Prop} (hp : pdOk G σ h0 w) (hw1 : wFix G h1) (hw4 : wFix G h4) (hws : wFix G s0) (o4 : wOk G σ h4 c4) (os : wOk G σ s0 cs) (hle : cs ≤ c4) (h4w : c4 ≤ w) (hr : c4 + cs ≤ G.2.2 ((G.2.1 h1 0)))
    (nR1 : (G.2.1 h0 1) ≠ h1) (nR1l : (G.2.1 h0 1) ≠ (G.2.1 h1 0)) (nR2 : (G.2.1 h0 1) ≠ h2) (nR3 : (G.2.1 h0 1) ≠ h3) (nR4 : (G.2.1 h0 1) ≠ h4) (nR4l : (G.2.1 h0 1) ≠ (G.2.1 h4 0)) (nRs : (G.2.1 h0 1) ≠ s0) (nRsl : (G.2.1 h0 1) ≠ (G.2.1 s0 0)) (n1l2 : (G.2.1 h1 0) ≠ h2) (n1l3 : (G.2.1 h1 0) ≠ h3)
    (k : ∀ (c' : Nat) (σ' : qS), (∀ b, b ≠ (G.2.1 h0 1) → b ≠ h1 → b ≠ (G.2.1 h1 0) → σ' b = σ b) → wOk G σ' h1 c' → wN G σ' h1 c' = wN G σ h4 c4 * wN G σ s0 cs → wZ G σ' h1 c' = (if σ h2 2 = σ h3 2 then ((wN G σ h4 c4 * wN G σ s0 cs : Nat) : Int) else -((wN G σ h4 c4 * wN G σ s0 cs : Nat) : Int)) → post σ') : bkX1_product_34 G h0 h1 h2 h3 h4 s0 post σ := by
  obtain ⟨⟨cut, f0, hcut⟩, f2, f3, f4, f5, fR, hc, hne⟩ := hp
  obtain ⟨a1, a2, -⟩ := id o4
  obtain ⟨b1, b2, -⟩ := id os
  have hc1 := hw1.2
  have hc4 := hw4.2
  have hcs := hws.2
  unfold bkX1_product_34
  rw [f2, a1, clamp0, nI_clamp (by omega), nI_clamp (by omega)]
  refine ⟨by decide, nI_pos (by omega), nI_pos (by omega), (by show 0 + c4 ≤ G.2.2 ((G.2.1 h4 0)); omega), (by show 0 + c4 ≤ G.2.2 (G.2.1 h0 1); omega), fun σ5 e5 => ?_⟩
  have k5 : ∀ b, b ≠ (G.2.1 h0 1) → σ5 b = σ b := fun b hb => by rw [e5]; simp only [q_cp, if_neg hb]
  rw [k5 _ hne, k5 _ (Ne.symm nRs), f3, b1, nI_clamp (by omega), nI_clamp (by omega)]
  refine ⟨by decide, nI_pos (by omega), nI_pos (by omega), (by show 0 + cs ≤ G.2.2 ((G.2.1 s0 0)); omega), (by show w + cs ≤ G.2.2 (G.2.1 h0 1); omega), fun σ12 e12 => ?_⟩
  have k12 : ∀ b, b ≠ (G.2.1 h0 1) → σ12 b = σ b := fun b hb => by rw [e12]; simp only [q_cp, if_neg hb]; exact k5 b hb
  rw [k12 _ hne, k12 _ (Ne.symm nR4), k12 _ (Ne.symm nRs), f2, f3, f4, f5, a1, b1]
  have v4 : vO σ12 (G.2.1 h0 1) 0 c4 = wN G σ h4 c4 := by
    rw [vO_0]
    refine vU_congr (fun j hj => ?_)
    rw [e12]
    simp only [q_cp, if_true]
    rw [pk_cpy_out (by omega), e5]
    simp only [q_cp, if_true]
    rw [pk_cpy_in (by omega) (by omega)]
    congr 1; omega
  have vs : vO σ12 (G.2.1 h0 1) w cs = wN G σ s0 cs := by
    unfold wN
    rw [← vO_0]
    refine vO_congr (fun j hj => ?_)
    rw [e12]
    simp only [q_cp, if_true]
    rw [pk_cpy_in (by omega) (by omega), k5 _ (Ne.symm nRsl)]
    congr 1; omega
  refine wl_multiply hc hne hcut 9 8 (by decide) (by decide) 0 c4 w cs (2 * w) (4 * w) σ12 _ (by rw [k12 _ hne]; exact f0) ⟨hle, by omega, by omega, by omega, by have := hroom_mono 8 h4w; omega⟩ (fun σ18 m18 => ?_)
  obtain ⟨g1, g2, g3⟩ := m18
  have k18 : ∀ b, b ≠ (G.2.1 h0 1) → σ18 b = σ b := fun b hb => by rw [g1 b hb, k12 b hb]
  rw [v4, vs] at g3
  intro v20 e20
  rw [k18 _ (Ne.symm nR4), k18 _ (Ne.symm nRs), a1, b1, nI_add] at e20
  subst e20
  rw [k18 _ hne, f4, nI_clamp (by omega), nI_clamp (by omega)]
  refine ⟨nI_pos (by omega), by decide, nI_pos (by omega), (by show 2 * w + (c4 + cs) ≤ G.2.2 (G.2.1 h0 1); omega), (by show 0 + (c4 + cs) ≤ G.2.2 ((G.2.1 h1 0)); omega), fun σ22 e22 => ?_⟩
  have k22 : ∀ b, b ≠ (G.2.1 h0 1) → b ≠ (G.2.1 h1 0) → σ22 b = σ b := fun b hb hb2 => by rw [e22]; simp only [q_cp, if_neg hb2]; exact k18 b hb
  have hv : vU σ22 ((G.2.1 h1 0)) (c4 + cs) = wN G σ h4 c4 * wN G σ s0 cs := by
    rw [← g3, ← vO_0]
    refine vO_congr (fun j hj => ?_)
    rw [e22]
    simp only [q_cp, if_true]
    rw [pk_cpy_in (by omega) (by omega)]
    congr 1; omega
  rw [k22 _ (Ne.symm nR2) (Ne.symm n1l2), k22 _ (Ne.symm nR3) (Ne.symm n1l3)]
  refine ⟨fun hs => wl_settleZ hw1 hr (Or.inl rfl) (fun c' σ' p1 p2 p3 p4 p5 => ?_), fun hs => wl_settleZ hw1 hr (Or.inr rfl) (fun c' σ' p1 p2 p3 p4 p5 => ?_)⟩
  · refine k c' σ' (fun b h1 h2 h3 => by rw [p2 b h2, k22 b h1 h3]) p3 (by rw [p4, hv]) (by rw [p5, hv, if_pos hs, if_neg (by decide)])
  · refine k c' σ' (fun b h1 h2 h3 => by rw [p2 b h2, k22 b h1 h3]) p3 (by rw [p4, hv]) (by rw [p5, hv, if_neg hs, if_pos rfl])
/-- the product of two whole numbers -/
theorem wl_product {G : qG} {h0 h1 h2 h3 w c2 c3 : Nat} {σ : qS} {post : qS → Prop} (hp : pdOk G σ h0 w) (hw1 : wFix G h1) (hw2 : wFix G h2) (hw3 : wFix G h3) (o2 : wOk G σ h2 c2) (o3 : wOk G σ h3 c3) (h2w : c2 ≤ w) (h3w : c3 ≤ w) (hr : c2 + c3 ≤ G.2.2 ((G.2.1 h1 0)))
    (nR1 : (G.2.1 h0 1) ≠ h1) (nR1l : (G.2.1 h0 1) ≠ (G.2.1 h1 0)) (nR2 : (G.2.1 h0 1) ≠ h2) (nR2l : (G.2.1 h0 1) ≠ (G.2.1 h2 0)) (nR3 : (G.2.1 h0 1) ≠ h3) (nR3l : (G.2.1 h0 1) ≠ (G.2.1 h3 0)) (n1l2 : (G.2.1 h1 0) ≠ h2) (n1l3 : (G.2.1 h1 0) ≠ h3)
    (k : ∀ (c' : Nat) (σ' : qS), (∀ b, b ≠ (G.2.1 h0 1) → b ≠ h1 → b ≠ (G.2.1 h1 0) → σ' b = σ b) → wOk G σ' h1 c' → wN G σ' h1 c' = wN G σ h2 c2 * wN G σ h3 c3 → wZ G σ' h1 c' = wZ G σ h2 c2 * wZ G σ h3 c3 → post σ') : wpX1_product G h0 h1 h2 h3 σ post := by
  obtain ⟨a1, a2, a3, -⟩ := id o2
  obtain ⟨b1, b2, b3, -⟩ := id o3
  have hc2 := hw2.2
  have hc3 := hw3.2
  have sgn : ∀ X : Nat, X = wN G σ h2 c2 * wN G σ h3 c3 → (if σ h2 2 = σ h3 2 then (X : Int) else -(X : Int)) = wZ G σ h2 c2 * wZ G σ h3 c3 := by
    intro X hX
    subst hX
    unfold wZ
    rw [Int.natCast_mul]
    rcases a3 with h | h <;> rcases b3 with h' | h' <;> rw [h, h']
    · rw [if_pos rfl, if_neg (by decide), if_neg (by decide)]
    · rw [if_neg (by decide), if_neg (by decide), if_pos rfl, Int.mul_neg]
    · rw [if_neg (by decide), if_pos rfl, if_neg (by decide), Int.neg_mul]
    · rw [if_pos rfl, if_pos rfl, if_pos rfl, Int.neg_mul_neg]
  unfold wpX1_product bkX1_product_16
  rw [a1, b1, nI_ltI (by omega) (by omega)]
  refine ⟨fun h => ⟨fun _ => ?_, fun h' => absurd h h'⟩, fun h => ⟨fun h' => absurd h' h, fun _ => ?_⟩⟩
  · refine wl_prod34 hp hw1 hw3 hw2 o3 o2 (by omega) h3w (by omega) nR1 nR1l nR2 nR3 nR3 nR3l nR2 nR2l n1l2 n1l3 (fun c' σ' g1 g2 g3 g4 => k c' σ' g1 g2 (by rw [g3, Nat.mul_comm]) ?_)
    rw [g4]
    exact sgn _ (Nat.mul_comm _ _)
  · refine wl_prod34 hp hw1 hw2 hw3 o2 o3 (by omega) h2w hr nR1 nR1l nR2 nR3 nR2 nR2l nR3 nR3l n1l2 n1l3 (fun c' σ' g1 g2 g3 g4 => k c' σ' g1 g2 g3 ?_)
    rw [g4]
    exact sgn _ rfl

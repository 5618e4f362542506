/-! Pure level: shifts up, single bits. -/
/-- the number in n limbs of a row from place p on -/
def vO (σ : qS) (a p n : Nat) : Nat := nv 4294967296 (fun i => uI (σ a (p + i))) n
theorem vO_0 (σ : qS) (a n : Nat) : vO σ a 0 n = vU σ a n := nv_congr (fun i _ => by simp only [dg, Nat.zero_add])
theorem vO_lt (σ : qS) (a p n : Nat) : vO σ a p n < 4294967296 ^ n := nv_lt (by decide) (fun i _ => uI_lt _)
theorem vO_congr {σ σ' : qS} {a a' p p' n : Nat} (h : ∀ j, j < n → σ a (p + j) = σ' a' (p' + j)) : vO σ a p n = vO σ' a' p' n := nv_congr (fun i hi => by simp only [h i hi])
theorem vO_s (σ : qS) (a p n : Nat) : vO σ a p (n + 1) = vO σ a p n + uI (σ a (p + n)) * 4294967296 ^ n := rfl
theorem vU_s (σ : qS) (a n : Nat) : vU σ a (n + 1) = vU σ a n + uI (σ a n) * 4294967296 ^ n := rfl
theorem vU_add (σ : qS) (a p n : Nat) : vU σ a (p + n) = vU σ a p + 4294967296 ^ p * vO σ a p n := nv_add 4294967296 (dg σ a) p n
theorem sl_k : ∀ r, r < 64 → (((nI r).toInt64 &&& 63).toBitVec.smod 64).toNat = r := by decide
theorem sr_k : ∀ r, r < 64 → ((nI r).toInt64.toUInt64 &&& Int64.toUInt64 63).toNat % 64 = r := by decide
theorem su_k : ∀ r, r < 32 → ((nI r).toUInt32 &&& Int32.toUInt32 31).toNat % 32 = r := by decide
theorem uL_slr {x : Int64} {r : Nat} (hr : r < 32) (hx : uL x < 4294967296) : uL (x <<< ((nI r).toInt64 &&& 63)) = uL x * 2 ^ r := by
  rw [uL_sl x (nI r) r (sl_k r (by omega))]
  have h1 : 2 ^ r ≤ 2 ^ 31 := Nat.pow_le_pow_right (by decide) (by omega)
  have h2 : uL x * 2 ^ r ≤ uL x * 2 ^ 31 := Nat.mul_le_mul_left _ h1
  omega
theorem uL_srr (x : Int64) {r : Nat} (hr : r < 64) : uL (x.toUInt64 >>> ((nI r).toInt64.toUInt64 &&& Int64.toUInt64 63)).toInt64 = uL x / 2 ^ r := by
  rw [uL_shr, sr_k r hr]
theorem wl_shiftUp {G : qG} {h0 h2 c r p : Nat} {σ : qS} {post : Int32 → qS → Prop} (hw : wFix G h0) (hc1 : σ h0 1 = nI c) (hcc : c ≤ G.2.2 ((G.2.1 h0 0))) (hr : r < 32) (hd : h2 ≠ (G.2.1 h0 0)) (he : h2 ≠ h0) (hp : p + c ≤ G.2.2 h2) (hp2 : G.2.2 h2 < 100000)
    (k : ∀ (v : Int32) (σ' : qS), (∀ b, b ≠ h2 → σ' b = σ b) → (∀ j, (j < p ∨ p + c ≤ j) → σ' h2 j = σ h2 j) → uI v < 2 ^ r → vO σ' h2 p c + uI v * 4294967296 ^ c = vU σ ((G.2.1 h0 0)) c * 2 ^ r → post v σ') : wpX4_shiftUp G h0 (nI r) h2 (nI p) σ post := by
  have hcap := hw.2
  unfold wpX4_shiftUp
  intro v1 e1 v2 e2
  have h2r : 2 ^ r ≤ 2 ^ 31 := Nat.pow_le_pow_right (by decide) (by omega)
  have hrp := Nat.two_pow_pos r
  refine lp3 (W := fun m x4 x6 τ => lpX4_shiftUp_6 G h0 (nI r) h2 (nI p) post _ m x4 x6 τ) (I := fun x4 x6 τ => ∃ i, i ≤ c ∧ x6 = nI i ∧ (∀ b, b ≠ h2 → τ b = σ b) ∧ (∀ j, (j < p ∨ p + i ≤ j) → τ h2 j = σ h2 j) ∧ uL x4 < 2 ^ r ∧ vO τ h2 p i + uL x4 * 4294967296 ^ i = vU σ ((G.2.1 h0 0)) i * 2 ^ r) (μ := fun _ x6 _ => c - x6.toNatClampNeg) ?_ v1 v2 σ ⟨0, Nat.zero_le _, by rw [e2]; rfl, fun _ _ => rfl, fun _ _ => rfl, by rw [e1]; exact hrp, by rw [e1]; show 0 + 0 * _ = 0 * _; omega⟩
  intro m x4 x6 τ hI ih
  obtain ⟨i, hi, rfl, hf, hg, hx, hv⟩ := hI
  show lpX4_shiftUp_6 G h0 (nI r) h2 (nI p) post _ (m + 1) _ _ _
  unfold lpX4_shiftUp_6
  rw [hf _ (Ne.symm he), hc1, nI_leI (by omega) (by omega)]
  refine ⟨fun hge => ?_, fun hlt => ⟨vp_lm (by omega) (by omega), fun v6 e6 => ?_⟩⟩
  · have : i = c := by omega
    subst this
    have hl : uI x4.toInt32 = uL x4 := by rw [uI_low]; omega
    exact k _ τ hf hg (by rw [hl]; exact hx) (by rw [hl]; exact hv)
  · rw [nI_clamp (by omega), hf _ (Ne.symm hd)] at e6
    have hd1 := uI_lt (σ ((G.2.1 h0 0)) i)
    have hs : uL v6 = uI (σ ((G.2.1 h0 0)) i) * 2 ^ r + uL x4 := by
      rw [e6, uL_or, uL_slr hr (by rw [uL_ext]; exact hd1), uL_ext, Nat.mul_comm]
      exact (Nat.two_pow_add_eq_or_of_lt (i := r) hx _).symm
    have hle : uI (σ ((G.2.1 h0 0)) i) * 2 ^ r ≤ uI (σ ((G.2.1 h0 0)) i) * 2 ^ 31 := Nat.mul_le_mul_left _ h2r
    rw [nI_add]
    refine ⟨vp_in_nI (by omega) (by omega), fun σ8 e8 v9 e9 v10 e10 => ?_⟩
    rw [nI_clamp (by omega)] at e8
    refine ih v9 v10 σ8 ⟨i + 1, by omega, by rw [e10, nI_1], fun b hb => by rw [e8, q_st_a _ _ hb, hf b hb], fun j hj => by rw [e8, q_st_ne _ _ (by omega)]; exact hg j (by omega), ?_, ?_⟩ ?_
    · rw [e9, uL_s32, hs]
      apply Nat.div_lt_of_lt_mul
      have h3 : (uI (σ ((G.2.1 h0 0)) i) + 1) * 2 ^ r ≤ 4294967296 * 2 ^ r := Nat.mul_le_mul_right _ hd1
      rw [Nat.add_mul, Nat.one_mul] at h3
      omega
    · rw [e9, uL_s32, vO_s, vU_s, vO_congr (σ := σ8) (σ' := τ) (a' := h2) (p' := p) (fun j hj => by rw [e8, q_st_ne _ _ (by omega)])]
      have hlast : uI (σ8 h2 (p + i)) = uL v6 % 4294967296 := by rw [e8, q_st_self, uI_low]
      have hcs := carry_step 4294967296 (uL v6) (4294967296 ^ i)
      rw [← Nat.pow_succ] at hcs
      rw [hlast, Nat.add_assoc, hcs, hs, Nat.add_mul, Nat.add_mul, ← hv, Nat.mul_right_comm]
      omega
    · show c - v10.toNatClampNeg < c - (nI i).toNatClampNeg
      rw [e10, nI_1, nI_clamp (by omega), nI_clamp (by omega)]
      omega
theorem wl_becomeShiftedUp {G : qG} {h0 h1 c n : Nat} {σ : qS} {post : qS → Prop} (hw0 : wFix G h0) (hw1 : wFix G h1) (ho : wOk G σ h1 c) (hn : n < 2 ^ 31) (hr : n / 32 + c + 1 ≤ G.2.2 ((G.2.1 h0 0))) (hd : (G.2.1 h0 0) ≠ (G.2.1 h1 0)) (he : (G.2.1 h0 0) ≠ h1)
    (k : ∀ (c' : Nat) (σ' : qS), (∀ b, b ≠ h0 → b ≠ (G.2.1 h0 0) → σ' b = σ b) → wOk G σ' h0 c' → wN G σ' h0 c' = wN G σ h1 c * 2 ^ n → wZ G σ' h0 c' = wZ G σ h1 c * 2 ^ n → post σ') : wpX4_becomeShiftedUp G h0 h1 (nI n) σ post := by
  obtain ⟨a1, a2, a3, a4, a5⟩ := id ho
  have hc0 := hw0.2
  have hc1 := hw1.2
  unfold wpX4_becomeShiftedUp
  have ediv : nI n / 32 = nI (n / 32) := pk_div (a := n) (d := 32) hn (by decide) (by decide)
  have erem : nI n - nI n / 32 * 32 = nI (n % 32) := pk_rem (a := n) (d := 32) hn (by decide) (by decide)
  intro v1 e1
  rw [ediv] at e1
  rw [erem, e1]
  refine wl_fill (p := 0) (Nat.zero_le _) (by omega) (by omega) (fun σ3 f1 f2 f3 => ?_)
  refine wl_shiftUp hw1 (by rw [f1 _ (Ne.symm he)]; exact a1) a2 (Nat.mod_lt _ (by decide)) hd he (by omega) (by omega) (fun u6 σ5 g1 g2 g3 g4 => ?_)
  rw [f1 _ (Ne.symm he), a1, nI_add]
  refine ⟨vp_lm (by omega) (by omega), fun σ8 e8 => ?_⟩
  rw [nI_clamp (by omega)] at e8
  have h8 : ∀ b, b ≠ (G.2.1 h0 0) → σ8 b = σ b := fun b hb => by rw [e8, q_st_a _ _ hb, g1 b hb, f1 b hb]
  rw [h8 _ (Ne.symm he), a1, nI_add, nI_1]
  have hv : vU σ8 ((G.2.1 h0 0)) (n / 32 + c + 1) = wN G σ h1 c * 2 ^ n := by
    rw [vU_s, vU_add]
    have z0 : vU σ8 ((G.2.1 h0 0)) (n / 32) = 0 := nv_zero (fun i hi => by
      unfold dg
      rw [e8, q_st_ne _ _ (by omega), g2 i (by omega), f2 i (by omega) hi]
      rfl)
    have z1 : vO σ8 ((G.2.1 h0 0)) (n / 32) c = vO σ5 ((G.2.1 h0 0)) (n / 32) c := vO_congr (fun j hj => by rw [e8, q_st_ne _ _ (by omega)])
    have z2 : uI (σ8 ((G.2.1 h0 0)) (n / 32 + c)) = uI u6 := by rw [e8, q_st_self]
    have z3 : vU σ3 ((G.2.1 h1 0)) c = wN G σ h1 c := vU_congr (fun j _ => by rw [f1 _ (Ne.symm hd)])
    rw [z0, z1, z2, Nat.zero_add, Nat.pow_add, Nat.mul_comm (4294967296 ^ (n / 32)) (4294967296 ^ c), ← Nat.mul_assoc, Nat.mul_comm (4294967296 ^ (n / 32)) (vO _ _ _ _), ← Nat.add_mul, g4, z3, pow32, Nat.mul_assoc, ← Nat.pow_add]
    congr 2
    omega
  refine wl_settleZ hw0 hr a3 (fun c' σ9 q1 q2 q3 q4 q5 => k c' σ9 (fun b hb hb2 => by rw [q2 b hb, h8 b hb2]) q3 (q4.trans hv) ?_)
  rw [q5, hv]
  unfold wZ
  by_cases hs : σ h1 2 = 1
  · rw [if_pos hs, if_pos hs, Int.natCast_mul, Int.natCast_pow, Int.neg_mul]
    rfl
  · rw [if_neg hs, if_neg hs, Int.natCast_mul, Int.natCast_pow]
    rfl
theorem wl_becomePowerOfTwo {G : qG} {h0 t : Nat} {σ : qS} {post : qS → Prop} (hw : wFix G h0) (ht : t < 2 ^ 31) (hr : t / 32 + 1 ≤ G.2.2 ((G.2.1 h0 0)))
    (k : ∀ (c : Nat) (σ' : qS), (∀ b, b ≠ h0 → b ≠ (G.2.1 h0 0) → σ' b = σ b) → wOk G σ' h0 c → wN G σ' h0 c = 2 ^ t → wZ G σ' h0 c = 2 ^ t → post σ') : wpX4_becomePowerOfTwo G h0 (nI t) σ post := by
  have hc := hw.2
  unfold wpX4_becomePowerOfTwo
  have ediv : nI t / 32 = nI (t / 32) := pk_div (a := t) (d := 32) ht (by decide) (by decide)
  have erem : nI t - nI t / 32 * 32 = nI (t % 32) := pk_rem (a := t) (d := 32) ht (by decide) (by decide)
  intro v1 e1
  rw [ediv] at e1
  rw [erem, e1]
  refine wl_fill (p := 0) (Nat.zero_le _) (by omega) (by omega) (fun σ3 f1 f2 f3 => ⟨vp_lm (by omega) (by omega), fun σ6 e6 => ?_⟩)
  rw [nI_clamp (by omega)] at e6
  rw [nI_1]
  have hone : ∀ r, r < 32 → uI ((1 : Int32) <<< (nI r &&& 31)) = 2 ^ r := by decide
  have hv : vU σ6 ((G.2.1 h0 0)) (t / 32 + 1) = 2 ^ t := by
    rw [vU_s]
    have z0 : vU σ6 ((G.2.1 h0 0)) (t / 32) = 0 := nv_zero (fun i hi => by
      unfold dg
      rw [e6, q_st_ne _ _ (by omega), f2 i (by omega) hi]
      rfl)
    rw [z0, e6, q_st_self, hone _ (Nat.mod_lt _ (by decide)), pow32, Nat.zero_add, ← Nat.pow_add]
    congr 1
    omega
  refine wl_settleZ hw hr (Or.inl rfl) (fun c σ7 q1 q2 q3 q4 q5 => k c σ7 (fun b hb hb2 => by rw [q2 b hb, e6, q_st_a _ _ hb2, f1 b hb2]) q3 (q4.trans hv) ?_)
  rw [q5, hv, if_neg (by decide), Int.natCast_pow]
  rfl
theorem nv_digit {B : Nat} (hB : 0 < B) {d : Nat → Nat} {n i : Nat} (hd : ∀ j, j < n → d j < B) (hi : i < n) : nv B d n / B ^ i % B = d i := by
  obtain ⟨m, rfl⟩ := Nat.exists_eq_add_of_le (show i + 1 ≤ n from hi)
  rw [show i + 1 + m = i + (m + 1) by omega, nv_add, Nat.add_mul_div_left _ _ (Nat.pow_pos hB), Nat.div_eq_of_lt (nv_lt hB (fun j hj => hd j (by omega))), Nat.zero_add, nv_low, Nat.add_mul_mod_self_left, Nat.add_zero]
  exact Nat.mod_eq_of_lt (hd i (by omega))
theorem uI_sru (x : Int32) {r : Nat} (hr : r < 32) : uI (x.toUInt32 >>> ((nI r).toUInt32 &&& Int32.toUInt32 31)).toInt32 = uI x / 2 ^ r := by
  show (x.toUInt32 >>> ((nI r).toUInt32 &&& Int32.toUInt32 31)).toNat = _
  rw [UInt32.toNat_shiftRight, Nat.shiftRight_eq_div_pow, su_k r hr]
  rfl
theorem uI_and1 (x : Int32) : uI (x &&& 1) = uI x % 2 := by
  show (x.toUInt32 &&& Int32.toUInt32 1).toNat = _
  rw [UInt32.toNat_and]
  exact Nat.and_two_pow_sub_one_eq_mod _ 1
theorem wl_hasBit {G : qG} {h0 c t : Nat} {σ : qS} {post : Int32 → qS → Prop} (hw : wFix G h0) (ho : wOk G σ h0 c) (ht : t < 2 ^ 31) (k0 : (wN G σ h0 c).testBit t = false → post 0 σ) (k1 : (wN G σ h0 c).testBit t = true → post 1 σ) : wpX4_hasBit G h0 (nI t) σ post := by
  obtain ⟨a1, a2, a3, a4, a5⟩ := id ho
  have hc := hw.2
  have ediv : nI t / 32 = nI (t / 32) := pk_div (a := t) (d := 32) ht (by decide) (by decide)
  have erem : nI t - nI t / 32 * 32 = nI (t % 32) := pk_rem (a := t) (d := 32) ht (by decide) (by decide)
  unfold wpX4_hasBit
  intro v1 e1
  rw [ediv] at e1
  rw [erem, e1, a1, nI_leI (by omega) (by omega)]
  refine ⟨fun h => k0 ?_, fun h => ⟨vp_lm (by omega) (by omega), ?_⟩⟩
  · apply Nat.testBit_lt_two_pow
    have h1 := vU_lt σ ((G.2.1 h0 0)) c
    rw [pow32] at h1
    exact Nat.lt_of_lt_of_le h1 (Nat.pow_le_pow_right (by decide) (by omega))
  · rw [nI_clamp (by omega), uI_eq0, uI_and1, uI_sru _ (Nat.mod_lt _ (by decide))]
    have hdig := nv_digit (B := 4294967296) (d := dg σ ((G.2.1 h0 0))) (n := c) (i := t / 32) (by decide) (fun j _ => dg_lt _ _ _) (by omega)
    have hbit : (wN G σ h0 c).testBit t = (uI (σ ((G.2.1 h0 0)) (t / 32))).testBit (t % 32) := by
      have e0 : uI (σ ((G.2.1 h0 0)) (t / 32)) = wN G σ h0 c / 2 ^ (32 * (t / 32)) % 2 ^ 32 := by rw [← pow32]; exact hdig.symm
      rw [e0, Nat.testBit_mod_two_pow, Nat.testBit_div_two_pow, show t % 32 + 32 * (t / 32) = t by omega]
      simp [Nat.mod_lt]
    have hb2 : (uI (σ ((G.2.1 h0 0)) (t / 32))).testBit (t % 32) = decide (uI (σ ((G.2.1 h0 0)) (t / 32)) / 2 ^ (t % 32) % 2 = 1) := Nat.testBit_eq_decide_div_mod_eq
    rw [hb2] at hbit
    refine ⟨fun h2 => k0 ?_, fun h2 => k1 ?_⟩
    · rw [hbit, h2]; rfl
    · rw [hbit, decide_eq_true_eq]; omega

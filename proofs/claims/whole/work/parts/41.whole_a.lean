/-! Pure level: the class Whole. lm: the row of limbs; vU: the number in the first limbs of a row. -/
def dg (σ : qS) (a : Nat) : Nat → Nat := fun i => uI (σ a i)
def vU (σ : qS) (a n : Nat) : Nat := nv 4294967296 (dg σ a) n
theorem dg_lt (σ : qS) (a i : Nat) : dg σ a i < 4294967296 := uI_lt _
theorem vU_lt (σ : qS) (a n : Nat) : vU σ a n < 4294967296 ^ n := nv_lt (by decide) (fun i _ => dg_lt σ a i)
theorem vU_congr {σ σ' : qS} {a a' n : Nat} (h : ∀ j, j < n → σ a j = σ' a' j) : vU σ a n = vU σ' a' n := nv_congr (fun i hi => by simp only [dg, h i hi])
theorem nv_trim {B : Nat} {d : Nat → Nat} {c n : Nat} (hc : c ≤ n) (h : ∀ j, c ≤ j → j < n → d j = 0) : nv B d n = nv B d c := by
  obtain ⟨k, rfl⟩ := Nat.exists_eq_add_of_le hc
  rw [nv_add, nv_zero (fun i hi => h (c + i) (by omega) (by omega)), Nat.mul_zero, Nat.add_zero]
theorem vU_trim {σ : qS} {a c n : Nat} (hc : c ≤ n) (h : ∀ j, c ≤ j → j < n → σ a j = 0) : vU σ a n = vU σ a c := nv_trim hc (fun j h1 h2 => by simp only [dg, h j h1 h2]; rfl)
theorem nv_lt_at {B : Nat} (hB : 0 < B) {d d' : Nat → Nat} {i n : Nat} (hi : i < n) (hu : ∀ j, i < j → j < n → d j = d' j) (hl : d i < d' i) (hd : ∀ j, j < i → d j < B) : nv B d n < nv B d' n := by
  obtain ⟨k, rfl⟩ := Nat.exists_eq_add_of_le (show i + 1 ≤ n from hi)
  rw [nv_add B d (i + 1) k, nv_add B d' (i + 1) k, nv_congr (d := fun x => d (i + 1 + x)) (d' := fun x => d' (i + 1 + x)) (fun x hx => hu _ (by omega) (by omega)), nv_s, nv_s]
  have h1 := nv_lt hB (d := d) (n := i) hd
  have h2 : (d i + 1) * B ^ i ≤ d' i * B ^ i := Nat.mul_le_mul_right _ hl
  rw [Nat.add_mul, Nat.one_mul] at h2
  omega
/-- a row of numbers without leading zeros, of more limbs, is greater -/
theorem vU_lt_of_count {σ σ' : qS} {a a' c c' : Nat} (h : c < c') (ht : ∀ j, c' = j + 1 → σ' a' j ≠ 0) : vU σ a c < vU σ' a' c' := by
  obtain ⟨j, rfl⟩ : ∃ j, c' = j + 1 := ⟨c' - 1, by omega⟩
  have h1 := vU_lt σ a c
  have h2 : 4294967296 ^ j ≤ vU σ' a' (j + 1) := nv_ge (by
    have := ht j rfl
    rw [Ne, uI_eq0] at this
    exact Nat.pos_of_ne_zero this)
  have h3 : 4294967296 ^ c ≤ 4294967296 ^ j := Nat.pow_le_pow_right (by decide) (by omega)
  omega
theorem vU_pos {σ : qS} {a c : Nat} (hc : 0 < c) (ht : ∀ j, c = j + 1 → σ a j ≠ 0) : 0 < vU σ a c := by
  have h := vU_lt_of_count (σ := σ) (a := a) (c := 0) (σ' := σ) (a' := a) (c' := c) hc ht
  exact Nat.lt_of_le_of_lt (Nat.zero_le _) h
/-- what stands fast of a Whole h: its row is another cell, of a length that ints can count -/
def wFix (G : qG) (h : Nat) : Prop := (G.2.1 h 0) ≠ h ∧ G.2.2 ((G.2.1 h 0)) < 100000
/-- a Whole h holds a number: c limbs, none of them a leading zero; sign word 0 or 1; 0 has no sign -/
def wOk (G : qG) (σ : qS) (h c : Nat) : Prop := σ h 1 = nI c ∧ c ≤ G.2.2 ((G.2.1 h 0)) ∧ (σ h 2 = 0 ∨ σ h 2 = 1) ∧ (c = 0 → σ h 2 = 0) ∧ ∀ j, c = j + 1 → σ ((G.2.1 h 0)) j ≠ 0
def wN (G : qG) (σ : qS) (h c : Nat) : Nat := vU σ ((G.2.1 h 0)) c
def wZ (G : qG) (σ : qS) (h c : Nat) : Int := if σ h 2 = 1 then -(wN G σ h c : Int) else (wN G σ h c : Int)
/-- Whole h holds the whole number z -/
def hZ (G : qG) (σ : qS) (h : Nat) (z : Int) : Prop := ∃ c, wOk G σ h c ∧ wZ G σ h c = z
theorem nI_le0 {n : Nat} (h : n < 2 ^ 31) : nI n ≤ 0 ↔ n = 0 := by
  constructor
  · intro h1
    rcases Nat.eq_zero_or_pos n with h2 | h2
    · exact h2
    · exact absurd h1 (nI_nle h2 h)
  · intro h1; subst h1; decide
theorem nI_m1 {n : Nat} (h : 0 < n) : nI n - 1 = nI (n - 1) := by
  obtain ⟨k, rfl⟩ : ∃ k, n = k + 1 := ⟨n - 1, by omega⟩
  exact nI_pred k
theorem vp_lm {G : qG} {h i : Nat} (h1 : i < G.2.2 ((G.2.1 h 0))) (h2 : G.2.2 ((G.2.1 h 0)) < 100000) : vp_in (nI i) (G.2.2 (G.2.1 h 0)) := vp_in_nI h1 (Nat.lt_trans h2 (by decide))
theorem wl_settle {G : qG} {h0 n : Nat} {x2 : Int32} {σ : qS} {post : qS → Prop} (hw : wFix G h0) (hn : n ≤ G.2.2 ((G.2.1 h0 0))) (hx : x2 = 0 ∨ x2 = 1)
    (k : ∀ (c : Nat) (s : Int32) (σ' : qS), c ≤ n → (∀ b, b ≠ h0 → σ' b = σ b) → (∀ j, j ≠ 1 → j ≠ 2 → σ' h0 j = σ h0 j) → σ' h0 1 = nI c → σ' h0 2 = s → (s = 0 ∨ s = 1) → (s = 1 ↔ x2 = 1 ∧ 0 < c) → (∀ j, c ≤ j → j < n → σ ((G.2.1 h0 0)) j = 0) → (∀ j, c = j + 1 → σ ((G.2.1 h0 0)) j ≠ 0) → post σ') : wpX4_settle G h0 (nI n) x2 σ post := by
  obtain ⟨hne, hcap⟩ := hw
  intro σ1 e1
  refine lp1 (W := fun m τ => lpX4_settle_5 G h0 x2 post (fun (σ7 : qS) => bkX4_settle_39 G h0 x2 post σ7) m τ) (I := fun τ => ∃ c, c ≤ n ∧ τ = q_st σ h0 1 (nI c) ∧ ∀ j, c ≤ j → j < n → σ ((G.2.1 h0 0)) j = 0) (μ := fun τ => (τ h0 1).toNatClampNeg) ?_ σ1 ⟨n, Nat.le_refl n, e1, fun j h1 h2 => absurd h1 (by omega)⟩
  intro m τ hI ih
  obtain ⟨c, hc, rfl, hz⟩ := hI
  have hc1 : q_st σ h0 1 (nI c) h0 1 = nI c := q_st_self _ _ _ _
  have hlm : ∀ x, q_st σ h0 1 x ((G.2.1 h0 0)) = σ ((G.2.1 h0 0)) := fun x => q_st_a σ x hne
  -- the end
  have fin : (∀ j, c = j + 1 → σ ((G.2.1 h0 0)) j ≠ 0) → bkX4_settle_39 G h0 x2 post (q_st σ h0 1 (nI c)) := by
    intro ht
    have out : ∀ (s : Int32), (s = 0 ∨ s = 1) → (s = 1 ↔ x2 = 1 ∧ 0 < c) → post (q_st (q_st σ h0 1 (nI c)) h0 2 s) := by
      intro s h1 h2
      refine k c s _ hc (fun b hb => by rw [q_st_a _ _ hb, q_st_a _ _ hb]) (fun j h1 h2 => by simp [q_st, h1, h2]) (by simp [q_st]) (by simp [q_st]) h1 h2 hz ht
    have bk0 : ((0 : Int32) = 1 ↔ x2 = 1 ∧ 0 < c) → bkX4_settle_55 G h0 post (q_st σ h0 1 (nI c)) := fun hs σ9 e9 => by rw [e9]; exact out 0 (Or.inl rfl) hs
    refine ⟨fun h => bk0 ⟨fun q => absurd q (by decide), fun q => absurd (h.symm.trans q.1) (by decide)⟩, fun h => ?_⟩
    have hx1 : x2 = 1 := hx.resolve_left h
    rw [hc1]
    refine ⟨fun h1 => bk0 ⟨fun q => absurd q (by decide), fun q => ?_⟩, fun h1 σ11 e11 => ?_⟩
    · have := (nI_le0 (by omega)).mp h1
      omega
    · rw [e11]
      refine out 1 (Or.inr rfl) ⟨fun _ => ⟨hx1, ?_⟩, fun _ => rfl⟩
      rcases Nat.eq_zero_or_pos c with h2 | h2
      · exact absurd ((nI_le0 (by omega)).mpr h2) h1
      · exact h2
  show lpX4_settle_5 G h0 x2 post _ (m + 1) _
  unfold lpX4_settle_5
  rw [hc1]
  refine ⟨fun h1 => fin (fun j hj => ?_), fun h1 => ?_⟩
  · have := (nI_le0 (by omega)).mp h1
    omega
  · have hp : 0 < c := by
      rcases Nat.eq_zero_or_pos c with h2 | h2
      · exact absurd ((nI_le0 (by omega)).mpr h2) h1
      · exact h2
    obtain ⟨c', rfl⟩ : ∃ c', c = c' + 1 := ⟨c - 1, by omega⟩
    rw [nI_pred, nI_clamp (by omega)]
    refine ⟨vp_lm (by omega) (by omega), fun h2 σ6 e6 => ?_, fun h2 => fin (fun j hj => ?_)⟩
    · have h2' : σ ((G.2.1 h0 0)) c' = 0 := by rw [← hlm (nI (c' + 1))]; exact h2
      refine ih σ6 ⟨c', by omega, ?_, fun j h3 h4 => ?_⟩ ?_
      · rw [e6]
        funext b j
        simp only [q_st]
        split <;> simp_all
      · rcases Nat.lt_or_ge c' j with h5 | h5
        · exact hz j (by omega) h4
        · rw [show j = c' by omega]; exact h2'
      · show (σ6 h0 1).toNatClampNeg < (q_st σ h0 1 (nI (c' + 1)) h0 1).toNatClampNeg
        rw [hc1, e6, q_st_self, nI_clamp (by omega), nI_clamp (by omega)]
        omega
    · have : j = c' := by omega
      subst this
      intro h3
      apply h2
      show q_st σ h0 1 (nI (j + 1)) ((G.2.1 h0 0)) j = 0
      rw [hlm]
      exact h3
theorem wl_isZero {G : qG} {h0 c : Nat} {σ : qS} {post : Int32 → qS → Prop} (hw : wFix G h0) (ho : wOk G σ h0 c) (k0 : c = 0 → post 1 σ) (k1 : 0 < c → post 0 σ) : wpX4_isZero G h0 σ post := by
  obtain ⟨h1, h2, -⟩ := ho
  have hcap := hw.2
  unfold wpX4_isZero
  rw [h1]
  refine ⟨fun h => k0 ?_, fun h => k1 ?_⟩
  · rw [← nI_0, nI_eq (by omega) (by omega)] at h
    exact h
  · rcases Nat.eq_zero_or_pos c with h3 | h3
    · subst h3; exact absurd nI_0 h
    · exact h3

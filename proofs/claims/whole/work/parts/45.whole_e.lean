/-! Pure level: leading zeros, bits, rows filled. -/
theorem i32_an (x y : Int32) : x + (-y) = x - y := (Int32.sub_eq_add_neg (a := x) (b := y)).symm
theorem nI_an {a b : Nat} (h : b ≤ a) : nI a + (-nI b) = nI (a - b) := by rw [i32_an, pk_sub h]
theorem nlz_step {d m P u : Nat} (hm : 0 < m) (h1 : d * P ≤ u) (h2 : u < (d + 1) * P) : d / m * (m * P) ≤ u ∧ u < (d / m + 1) * (m * P) := by
  have e1 : d / m * m ≤ d := Nat.div_mul_le_self d m
  have e2 : d + 1 ≤ (d / m + 1) * m := Nat.lt_div_mul_add hm |> fun h => by rw [Nat.add_mul, Nat.one_mul]; exact h
  refine ⟨?_, ?_⟩
  · rw [← Nat.mul_assoc]
    exact Nat.le_trans (Nat.mul_le_mul_right _ e1) h1
  · rw [← Nat.mul_assoc]
    exact Nat.lt_of_lt_of_le h2 (Nat.mul_le_mul_right _ e2)
/-- from a state of the search: d is u / 2^s -/
theorem nlz_73 {G : qG} {d s u : Nat} {post : Int32 → qS → Prop} {σ : qS} (hd : 1 ≤ d) (hd4 : d < 4) (hs : s + 1 ≤ 31) (h1 : d * 2 ^ s ≤ u) (h2 : u < (d + 1) * 2 ^ s) (k : ∀ z : Nat, z ≤ 31 → 2 ^ (31 - z) ≤ u → u < 2 ^ (32 - z) → post (nI z) σ) : bkJ6_numberOfLeadingZeros_0f7a4_73 G (nI d) (nI (31 - s)) post σ := by
  unfold bkJ6_numberOfLeadingZeros_0f7a4_73
  rw [pk_ushrN (by omega) (1 : Int32) 1 (by decide), pk_sub (by omega)]
  have hp : 2 ^ (s + 1) = 2 ^ s * 2 := Nat.pow_succ ..
  have hp2 : 2 ^ (s + 2) = 2 ^ s * 2 * 2 := by rw [Nat.pow_succ, Nat.pow_succ]
  rcases (show d = 1 ∨ d = 2 ∨ d = 3 by omega) with rfl | rfl | rfl
  · refine k (31 - s - 1 / 2 ^ 1) (by omega) ?_ ?_
    · rw [show 31 - (31 - s - 1 / 2 ^ 1) = s by omega]; omega
    · rw [show 32 - (31 - s - 1 / 2 ^ 1) = s + 1 by omega]; omega
  · refine k (31 - s - 2 / 2 ^ 1) (by omega) ?_ ?_
    · rw [show 31 - (31 - s - 2 / 2 ^ 1) = s + 1 by omega]; omega
    · rw [show 32 - (31 - s - 2 / 2 ^ 1) = s + 2 by omega]; omega
  · refine k (31 - s - 3 / 2 ^ 1) (by omega) ?_ ?_
    · rw [show 31 - (31 - s - 3 / 2 ^ 1) = s + 1 by omega]; omega
    · rw [show 32 - (31 - s - 3 / 2 ^ 1) = s + 2 by omega]; omega
theorem nlz_61 {G : qG} {d s u : Nat} {post : Int32 → qS → Prop} {σ : qS} (hd : 1 ≤ d) (hd4 : d < 16) (hs : s + 3 ≤ 31) (h1 : d * 2 ^ s ≤ u) (h2 : u < (d + 1) * 2 ^ s) (k : ∀ z : Nat, z ≤ 31 → 2 ^ (31 - z) ≤ u → u < 2 ^ (32 - z) → post (nI z) σ) : bkJ6_numberOfLeadingZeros_0f7a4_61 G (nI d) (nI (31 - s)) post σ := by
  unfold bkJ6_numberOfLeadingZeros_0f7a4_61
  have e4 : (4 : Int32) = nI 4 := rfl
  rw [e4, nI_ltI (by omega) (by decide)]
  refine ⟨fun h => nlz_73 hd h (by omega) h1 h2 k, fun h v7 e7 v8 e8 => ?_⟩
  rw [e7, e8, pk_ushrN (by omega) (2 : Int32) 2 (by decide), show (2 : Int32) = nI 2 from rfl, nI_an (by omega), show 31 - s - 2 = 31 - (s + 2) by omega]
  obtain ⟨g1, g2⟩ := nlz_step (m := 4) (by decide) h1 h2
  have hp : 4 * 2 ^ s = 2 ^ (s + 2) := by rw [Nat.pow_add]; omega
  rw [hp] at g1 g2
  exact nlz_73 (d := d / 2 ^ 2) (by omega) (by omega) (by omega) g1 g2 k
theorem nlz_48 {G : qG} {d s u : Nat} {post : Int32 → qS → Prop} {σ : qS} (hd : 1 ≤ d) (hd4 : d < 256) (hs : s + 7 ≤ 31) (h1 : d * 2 ^ s ≤ u) (h2 : u < (d + 1) * 2 ^ s) (k : ∀ z : Nat, z ≤ 31 → 2 ^ (31 - z) ≤ u → u < 2 ^ (32 - z) → post (nI z) σ) : bkJ6_numberOfLeadingZeros_0f7a4_48 G (nI d) (nI (31 - s)) post σ := by
  unfold bkJ6_numberOfLeadingZeros_0f7a4_48
  have e4 : (16 : Int32) = nI 16 := rfl
  rw [e4, nI_ltI (by omega) (by decide)]
  refine ⟨fun h => nlz_61 hd h (by omega) h1 h2 k, fun h v7 e7 v8 e8 => ?_⟩
  rw [e7, e8, pk_ushrN (by omega) (4 : Int32) 4 (by decide), show (4 : Int32) = nI 4 from rfl, nI_an (by omega), show 31 - s - 4 = 31 - (s + 4) by omega]
  obtain ⟨g1, g2⟩ := nlz_step (m := 16) (by decide) h1 h2
  have hp : 16 * 2 ^ s = 2 ^ (s + 4) := by rw [Nat.pow_add]; omega
  rw [hp] at g1 g2
  exact nlz_61 (d := d / 2 ^ 4) (by omega) (by omega) (by omega) g1 g2 k
theorem nlz_33 {G : qG} {d s u : Nat} {post : Int32 → qS → Prop} {σ : qS} (hd : 1 ≤ d) (hd4 : d < 65536) (hs : s + 15 ≤ 31) (h1 : d * 2 ^ s ≤ u) (h2 : u < (d + 1) * 2 ^ s) (k : ∀ z : Nat, z ≤ 31 → 2 ^ (31 - z) ≤ u → u < 2 ^ (32 - z) → post (nI z) σ) : bkJ6_numberOfLeadingZeros_0f7a4_33 G (nI d) (nI (31 - s)) post σ := by
  unfold bkJ6_numberOfLeadingZeros_0f7a4_33
  have e4 : (256 : Int32) = nI 256 := rfl
  rw [e4, nI_ltI (by omega) (by decide)]
  refine ⟨fun h => nlz_48 hd h (by omega) h1 h2 k, fun h v7 e7 v8 e8 => ?_⟩
  rw [e7, e8, pk_ushrN (by omega) (8 : Int32) 8 (by decide), show (8 : Int32) = nI 8 from rfl, nI_an (by omega), show 31 - s - 8 = 31 - (s + 8) by omega]
  obtain ⟨g1, g2⟩ := nlz_step (m := 256) (by decide) h1 h2
  have hp : 256 * 2 ^ s = 2 ^ (s + 8) := by rw [Nat.pow_add]; omega
  rw [hp] at g1 g2
  exact nlz_48 (d := d / 2 ^ 8) (by omega) (by omega) (by omega) g1 g2 k
theorem nI_uI {x : Int32} (h : ¬ x < 0) : x = nI (uI x) ∧ uI x < 2147483648 := by
  rw [uI_neg] at h
  refine ⟨uI_inj ?_, by omega⟩
  rw [uI_nI]
  omega
theorem wl_nlz {G : qG} {x : Int32} {post : Int32 → qS → Prop} {σ : qS} (hu : 0 < uI x) (k : ∀ z : Nat, z ≤ 31 → 2 ^ (31 - z) ≤ uI x → uI x < 2 ^ (32 - z) → post (nI z) σ) : wpJ6_numberOfLeadingZeros_0f7a4 G x σ post := by
  unfold wpJ6_numberOfLeadingZeros_0f7a4
  refine ⟨fun h v2 e2 => ?_, fun h => ⟨fun h1 => ?_, fun h1 => ?_⟩⟩
  · have hn : ¬ x < 0 := fun z => by
      have a1 := Int32.lt_iff_toInt_lt.mp h
      have a2 := Int32.lt_iff_toInt_lt.mp z
      omega
    obtain ⟨ex, hb⟩ := nI_uI hn
    generalize uI x = d at ex hb hu k
    subst ex
    have e31 : v2 = nI (31 - 0) := e2.trans rfl
    rw [e31, show (65536 : Int32) = nI 65536 from rfl, nI_ltI (by omega) (by decide)]
    refine ⟨fun h3 => nlz_33 hu h3 (by omega) (by omega) (by omega) k, fun h3 v13 e13 v14 e14 => ?_⟩
    rw [e13, e14, pk_ushrN (by omega) (16 : Int32) 16 (by decide), show (16 : Int32) = nI 16 from rfl, nI_an (by omega), show 31 - 0 - 16 = 31 - 16 by omega]
    refine nlz_33 (d := d / 2 ^ 16) (s := 16) (by omega) (by omega) (by omega) (by omega) (by omega) k
  · rw [uI_eq0] at h1
    omega
  · have hn : x < 0 := by
      have a0 : (0 : Int32).toInt = 0 := rfl
      rw [Int32.lt_iff_toInt_lt] at h ⊢
      have : x.toInt ≠ 0 := fun z => h1 (Int32.toInt_inj.mp (z.trans a0.symm))
      omega
    rw [uI_neg] at hn
    have := uI_lt x
    exact k 0 (by omega) (by omega) (by omega)
theorem pow32 (n : Nat) : 4294967296 ^ n = 2 ^ (32 * n) := by
  rw [Nat.pow_mul]
/-- how many bits a number has -/
def isBits (N b : Nat) : Prop := (N = 0 ∧ b = 0) ∨ (0 < b ∧ 2 ^ (b - 1) ≤ N ∧ N < 2 ^ b)
theorem isBits_unique {N b b' : Nat} (h : isBits N b) (h' : isBits N b') : b = b' := by
  rcases h with ⟨h1, h2⟩ | ⟨h1, h2, h3⟩ <;> rcases h' with ⟨g1, g2⟩ | ⟨g1, g2, g3⟩
  · omega
  · subst h1; have := Nat.two_pow_pos (b' - 1); omega
  · subst g1; have := Nat.two_pow_pos (b - 1); omega
  · have e1 : b - 1 < b' := (Nat.pow_lt_pow_iff_right (by decide : 1 < 2)).mp (Nat.lt_of_le_of_lt h2 g3)
    have e2 : b' - 1 < b := (Nat.pow_lt_pow_iff_right (by decide : 1 < 2)).mp (Nat.lt_of_le_of_lt g2 h3)
    omega
theorem isBits_le {N b n : Nat} (h : isBits N b) : b ≤ n ↔ N < 2 ^ n := by
  rcases h with ⟨h1, h2⟩ | ⟨h1, h2, h3⟩
  · subst h1; subst h2
    exact ⟨fun _ => Nat.two_pow_pos n, fun _ => Nat.zero_le n⟩
  · constructor
    · intro h
      exact Nat.lt_of_lt_of_le h3 (Nat.pow_le_pow_right (by decide) h)
    · intro h
      have := (Nat.pow_lt_pow_iff_right (by decide : 1 < 2)).mp (Nat.lt_of_le_of_lt h2 h)
      omega
theorem wl_bits {G : qG} {h0 c : Nat} {σ : qS} {post : Int32 → qS → Prop} (hw : wFix G h0) (ho : wOk G σ h0 c) (k : ∀ b : Nat, b ≤ 32 * c → isBits (wN G σ h0 c) b → post (nI b) σ) : wpX4_bits G h0 σ post := by
  obtain ⟨a1, a2, a3, a4, a5⟩ := id ho
  have hc := hw.2
  unfold wpX4_bits
  rw [a1]
  refine ⟨fun h => ?_, fun h => ?_⟩
  · rw [← nI_0, nI_eq (by omega) (by omega)] at h
    subst h
    exact k 0 (by omega) (Or.inl ⟨rfl, rfl⟩)
  · have hp : c ≠ 0 := fun z => h (by rw [z]; rfl)
    obtain ⟨j, rfl⟩ : ∃ j, c = j + 1 := ⟨c - 1, by omega⟩
    rw [nI_pred, nI_clamp (by omega)]
    refine ⟨vp_lm (by omega) (by omega), ?_⟩
    have ht := a5 j rfl
    rw [Ne, uI_eq0] at ht
    refine wl_nlz (by omega) (fun z hz g1 g2 => ?_)
    rw [show (32 : Int32) = nI 32 from rfl, pk_mul, pk_sub (by omega)]
    refine k _ (by omega) (Or.inr ⟨by omega, ?_, ?_⟩)
    · have e1 : wN G σ h0 (j + 1) = vU σ ((G.2.1 h0 0)) j + uI (σ ((G.2.1 h0 0)) j) * 4294967296 ^ j := rfl
      have e2 : 2 ^ (31 - z) * 4294967296 ^ j ≤ uI (σ ((G.2.1 h0 0)) j) * 4294967296 ^ j := Nat.mul_le_mul_right _ g1
      rw [pow32, ← Nat.pow_add] at e2
      rw [e1, show (j + 1) * 32 - z - 1 = 31 - z + 32 * j by omega, pow32]
      omega
    · have e1 : wN G σ h0 (j + 1) = vU σ ((G.2.1 h0 0)) j + uI (σ ((G.2.1 h0 0)) j) * 4294967296 ^ j := rfl
      have e2 : (uI (σ ((G.2.1 h0 0)) j) + 1) * 4294967296 ^ j ≤ 2 ^ (32 - z) * 4294967296 ^ j := Nat.mul_le_mul_right _ g2
      have e3 := vU_lt σ ((G.2.1 h0 0)) j
      rw [Nat.add_mul, Nat.one_mul, pow32, ← Nat.pow_add] at e2
      rw [pow32] at e3
      rw [e1, show (j + 1) * 32 - z = 32 - z + 32 * j by omega, pow32]
      omega
/-- Arrays.fill -/
theorem wl_fill {G : qG} {a p q : Nat} {x : Int32} {σ : qS} {post : qS → Prop} (hp : p ≤ q) (hq : q ≤ G.2.2 a) (hc : G.2.2 a < 100000)
    (k : ∀ σ' : qS, (∀ b, b ≠ a → σ' b = σ b) → (∀ j, p ≤ j → j < q → σ' a j = x) → (∀ j, (j < p ∨ q ≤ j) → σ' a j = σ a j) → post σ') : wpJ7_fill_fda19 G a (nI p) (nI q) x σ post := by
  unfold wpJ7_fill_fda19 wpJ7_rangeCheck_23922
  rw [nI_leI (by omega) (by omega), nI_leI (by omega) (by omega)]
  refine ⟨fun _ => ⟨fun _ => ⟨fun _ => ?_, fun h => h hq⟩, fun h => h (nI_pos' (by omega))⟩, fun h => h hp⟩
  refine lp2 (W := fun m x4 τ => lpJ7_fill_fda19_10 G a (nI q) x post _ m x4 τ) (I := fun x4 τ => ∃ i, p ≤ i ∧ i ≤ q ∧ x4 = nI i ∧ (∀ b, b ≠ a → τ b = σ b) ∧ (∀ j, p ≤ j → j < i → τ a j = x) ∧ (∀ j, (j < p ∨ i ≤ j) → τ a j = σ a j)) (μ := fun x4 _ => q - x4.toNatClampNeg) ?_ (nI p) σ ⟨p, Nat.le_refl _, hp, rfl, fun _ _ => rfl, fun j h1 h2 => absurd h1 (by omega), fun _ _ => rfl⟩
  intro m x4 τ hI ih
  obtain ⟨i, h1, h2, rfl, h3, h4, h5⟩ := hI
  show lpJ7_fill_fda19_10 G a (nI q) x post _ (m + 1) _ _
  unfold lpJ7_fill_fda19_10
  rw [nI_leI (by omega) (by omega)]
  refine ⟨fun h => ?_, fun h => ⟨vp_in_nI (by omega) (by omega), fun σ5 e5 v6 e6 => ?_⟩⟩
  · have : i = q := by omega
    subst this
    exact k τ h3 h4 h5
  · rw [nI_clamp (by omega)] at e5
    refine ih v6 σ5 ⟨i + 1, by omega, by omega, by rw [e6, nI_1], fun b hb => by rw [e5, q_st_a _ _ hb, h3 b hb], fun j g1 g2 => ?_, fun j g1 => ?_⟩ ?_
    · rcases Nat.lt_or_ge j i with g | g
      · rw [e5, q_st_ne _ _ (by omega)]; exact h4 j g1 g
      · rw [show j = i by omega, e5, q_st_self]
    · rw [e5, q_st_ne _ _ (by omega)]; exact h5 j (by omega)
    · show q - v6.toNatClampNeg < q - (nI i).toNatClampNeg
      rw [e6, nI_1, nI_clamp (by omega), nI_clamp (by omega)]
      omega

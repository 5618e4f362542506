/-! Pure level: the class Tape. Bytes as numbers below 256; sb: as the array holds them. -/
def sb (v : Nat) : Int32 := (nI v).toInt8.toInt32
abbrev isD (v : Nat) : Prop := 48 ≤ v ∧ v ≤ 57
theorem sb_lt : ∀ v, v < 256 → (sb v < 48 → ¬ isD v) ∧ (¬ sb v ≤ 57 → ¬ isD v) ∧ (¬ sb v < 48 → sb v ≤ 57 → isD v) := by decide +kernel
theorem sb_43 : ∀ v, v < 256 → (sb v = 43 ↔ v = 43) := by decide +kernel
theorem sb_45 : ∀ v, v < 256 → (sb v = 45 ↔ v = 45) := by decide +kernel
theorem sb_d : ∀ v, v < 58 → 48 ≤ v → sb v - 48 = nI (v - 48) := by decide +kernel
theorem sb_of (y : Int32) : y.toInt8.toInt32.toInt8.toInt32 = sb (uI y % 256) := by
  unfold sb
  have h1 : y.toInt8.toInt32.toInt8 = y.toInt8 := Int8.toInt8_toInt32 _
  rw [h1]
  congr 1
  apply Int8.toBitVec_inj.mp
  apply BitVec.eq_of_toNat_eq
  show (y.toBitVec.signExtend 8).toNat = ((nI (uI y % 256)).toBitVec.signExtend 8).toNat
  rw [BitVec.signExtend_eq_setWidth_of_le _ (by decide), BitVec.signExtend_eq_setWidth_of_le _ (by decide), BitVec.toNat_setWidth, BitVec.toNat_setWidth, pk_tn (by omega)]
  show uI y % 256 = _
  omega
def tpOk (G : qG) (σ : qS) (h0 n : Nat) (b : Nat → Nat) : Prop := n ≤ 1300 ∧ σ h0 1 = nI n ∧ ∀ i, i < n → b i < 256 ∧ σ (G.2.1 h0 0) i = sb (b i)
def tpApp (b : Nat → Nat) (n x m : Nat) : Nat → Nat := fun i => if i < n then b i else x / 2 ^ (8 * (m - 1 - (i - n))) % 256
theorem wl_hasRoomFor {G : qG} {h0 n m : Nat} {b : Nat → Nat} {σ : qS} {post : Int32 → qS → Prop} (ho : tpOk G σ h0 n b) (hm : m ≤ 8) (k0 : 1300 < n + m → post 0 σ) (k1 : n + m ≤ 1300 → post 1 σ) : wpX2_hasRoomFor G h0 (nI m) σ post := by
  obtain ⟨a1, a2, a3⟩ := ho
  unfold wpX2_hasRoomFor
  have e : (1300 : Int32) < nI (n + m) ↔ 1300 < n + m := nI_ltI (a := 1300) (by decide) (by omega)
  rw [a2, nI_add, e]
  exact ⟨k0, fun h => k1 (by omega)⟩
theorem wl_append {G : qG} {h0 n m : Nat} {x : Int64} {b : Nat → Nat} {σ : qS} {post : qS → Prop} (hne : (G.2.1 h0 0) ≠ h0) (hcap : G.2.2 (G.2.1 h0 0) = 1300) (ho : tpOk G σ h0 n b) (hm : m ≤ 8) (hr : n + m ≤ 1300)
    (k : ∀ σ' : qS, (∀ b, b ≠ h0 → b ≠ (G.2.1 h0 0) → σ' b = σ b) → tpOk G σ' h0 (n + m) (tpApp b n (uL x) m) → post σ') : wpX2_append G h0 x (nI m) σ post := by
  obtain ⟨a1, a2, a3⟩ := ho
  unfold wpX2_append
  intro v1 e1
  refine lp2 (W := fun f x4 τ => lpX2_append_5 G h0 x post _ f x4 τ) (I := fun x4 τ => ∃ i, i ≤ m ∧ x4 = nI i - 1 ∧ (∀ b, b ≠ h0 → b ≠ (G.2.1 h0 0) → τ b = σ b) ∧ tpOk G τ h0 (n + (m - i)) (tpApp b n (uL x) m)) (μ := fun x4 _ => (x4 + 1).toNatClampNeg) ?_ v1 σ ⟨m, Nat.le_refl _, e1, fun _ _ _ => rfl, by rw [Nat.sub_self, Nat.add_zero]; exact ⟨a1, a2, fun i hi => by unfold tpApp; rw [if_pos hi]; exact a3 i hi⟩⟩
  intro f x4 τ hI ih
  obtain ⟨i, hi, rfl, hfr, b1, b2, b3⟩ := hI
  show lpX2_append_5 G h0 x post _ (f + 1) _ _
  unfold lpX2_append_5
  rw [nI_m1neg (by omega)]
  refine ⟨fun h => k τ hfr (by subst h; exact ⟨b1, b2, b3⟩), fun h => ?_⟩
  obtain ⟨j, rfl⟩ : ∃ j, i = j + 1 := ⟨i - 1, by omega⟩
  rw [b2, nI_pred, nI_clamp (by omega)]
  refine ⟨vp_in_nI (by omega) (by omega), fun σ5 e5 σ6 e6 v7 e7 => ?_⟩
  have e8 : (8 : Int32) * nI j = nI (8 * j) := pk_mul 8 j
  rw [sb_of, uI_low, e8, uL_srr x (by omega)] at e5
  have e51 : σ5 h0 1 = nI (n + (m - (j + 1))) := by rw [e5, q_st_a _ _ (Ne.symm hne), b2]
  rw [e51, nI_1] at e6
  refine ih v7 σ6 ⟨j, by omega, by rw [e7, i32_m1], fun b h1 h2 => by rw [e6, q_st_a _ _ h1, e5, q_st_a _ _ h2, hfr b h1 h2], by omega, by rw [e6, q_st_self]; congr 1; omega, fun t ht => ?_⟩ ?_
  · rcases Nat.lt_or_ge t (n + (m - (j + 1))) with h1 | h1
    · rw [e6, q_st_a _ _ hne, e5, q_st_ne _ _ (by omega)]
      exact b3 t h1
    · have : t = n + (m - (j + 1)) := by omega
      subst this
      rw [e6, q_st_a _ _ hne, e5, q_st_self]
      unfold tpApp
      rw [if_neg (by omega), show m - 1 - (n + (m - (j + 1)) - n) = j by omega]
      refine ⟨Nat.mod_lt _ (by decide), ?_⟩
      congr 1
      omega
  · show (v7 + 1).toNatClampNeg < (nI (j + 1) - 1 + 1).toNatClampNeg
    rw [e7, i32_m1, i32_mp, i32_mp, nI_clamp (by omega), nI_clamp (by omega)]
    omega
/-- where the digits begin -/
def dFrom (b : Nat → Nat) (n : Nat) : Nat := if 0 < n ∧ (b 0 = 43 ∨ b 0 = 45) then 1 else 0
theorem dFrom_le (b : Nat → Nat) (n : Nat) : dFrom b n ≤ n := by unfold dFrom; split <;> omega
theorem wl_digitsBegin {G : qG} {h0 n : Nat} {b : Nat → Nat} {σ : qS} {post : Int32 → qS → Prop} (hcap : G.2.2 (G.2.1 h0 0) = 1300) (ho : tpOk G σ h0 n b) (k : post (nI (dFrom b n)) σ) : wpX2_digitsBegin G h0 σ post := by
  obtain ⟨a1, a2, a3⟩ := ho
  have hin : vp_in 0 (G.2.2 (G.2.1 h0 0)) := vp_in_nI (n := 0) (by omega) (by omega)
  unfold wpX2_digitsBegin bkX2_digitsBegin_29
  rw [a2, nI_le0 (by omega), clamp0]
  unfold dFrom at k
  refine ⟨fun h => ?_, fun h => ⟨hin, ?_⟩⟩
  · rw [if_neg (by omega)] at k
    exact k
  · obtain ⟨c1, c2⟩ := a3 0 (by omega)
    rw [c2, sb_43 _ c1, sb_45 _ c1]
    refine ⟨fun h1 => ?_, fun h1 => ⟨hin, fun h2 => ?_, fun h2 => ?_⟩⟩
    · rw [if_pos ⟨by omega, Or.inl h1⟩] at k
      exact k
    · rw [if_pos ⟨by omega, Or.inr h2⟩] at k
      exact k
    · rw [if_neg (fun q => q.2.elim h1 h2)] at k
      exact k
/-- the first wrong place, if there is one -/
theorem wl_firstWrongPlace {G : qG} {h0 n : Nat} {b : Nat → Nat} {σ : qS} {post : Int32 → qS → Prop} (hcap : G.2.2 (G.2.1 h0 0) = 1300) (ho : tpOk G σ h0 n b)
    (k1 : ∀ i, dFrom b n ≤ i → i < n → (∀ j, dFrom b n ≤ j → j < i → isD (b j)) → ¬ isD (b i) → post (nI i) σ)
    (k2 : dFrom b n = n → post (nI n) σ) (k3 : dFrom b n < n → (∀ j, dFrom b n ≤ j → j < n → isD (b j)) → post (-1) σ) : wpX2_firstWrongPlace G h0 σ post := by
  unfold wpX2_firstWrongPlace
  refine wl_digitsBegin hcap ho ?_
  obtain ⟨a1, a2, a3⟩ := ho
  have hf := dFrom_le b n
  refine lp2 (W := fun f x2 τ => lpX2_firstWrongPlace_7 G h0 _ post _ _ f x2 τ) (I := fun x2 τ => τ = σ ∧ ∃ i, dFrom b n ≤ i ∧ i ≤ n ∧ x2 = nI i ∧ ∀ j, dFrom b n ≤ j → j < i → isD (b j)) (μ := fun x2 _ => n - x2.toNatClampNeg) ?_ _ σ ⟨rfl, dFrom b n, Nat.le_refl _, hf, rfl, fun j h1 h2 => absurd h1 (by omega)⟩
  intro f x2 τ hI ih
  obtain ⟨rfl, i, hi1, hi2, rfl, hd⟩ := hI
  show lpX2_firstWrongPlace_7 G h0 _ post _ _ (f + 1) _ _
  unfold lpX2_firstWrongPlace_7
  rw [a2, nI_leI (by omega) (by omega), nI_clamp (by omega)]
  refine ⟨fun h => ?_, fun h => ?_⟩
  · have : i = n := by omega
    subst this
    rw [nI_eq (by omega) (by omega)]
    exact ⟨k2, fun h2 => k3 (by omega) hd⟩
  · obtain ⟨c1, c2⟩ := a3 i (by omega)
    obtain ⟨d1, d2, d3⟩ := sb_lt _ c1
    have hin : vp_in (nI i) (G.2.2 (G.2.1 h0 0)) := vp_in_nI (by omega) (by omega)
    rw [c2]
    refine ⟨hin, fun h1 => k1 i hi1 (by omega) hd (d1 h1), fun h1 => ⟨hin, fun h2 v9 e9 => ?_, fun h2 => k1 i hi1 (by omega) hd (d2 h2)⟩⟩
    refine ih v9 τ ⟨rfl, i + 1, by omega, by omega, by rw [e9, nI_1], fun j j1 j2 => ?_⟩ ?_
    · rcases Nat.lt_or_ge j i with h3 | h3
      · exact hd j j1 h3
      · rw [show j = i by omega]; exact d3 h1 h2
    · show n - v9.toNatClampNeg < n - (nI i).toNatClampNeg
      rw [e9, nI_1, nI_clamp (by omega), nI_clamp (by omega)]
      omega
/-- the number that so many digits spell -/
def dv (b : Nat → Nat) (f : Nat) : Nat → Nat
  | 0 => 0
  | n + 1 => dv b f n * 10 + (b (f + n) - 48)
theorem dv_mono (b : Nat → Nat) (f m : Nat) : ∀ n, dv b f m ≤ dv b f (m + n)
  | 0 => Nat.le_refl _
  | n + 1 => by
    have := dv_mono b f m n
    show dv b f m ≤ dv b f (m + n) * 10 + _
    omega
theorem wl_spell {G : qG} {h0 h1 n w : Nat} {b : Nat → Nat} {σ : qS} {post : qS → Prop} (hne : (G.2.1 h0 0) ≠ h0) (hcap : G.2.2 (G.2.1 h0 0) = 1300) (hw1 : wFix G h1) (hw0 : 0 < w) (hww : w ≤ 120) (hr : w + 1 ≤ G.2.2 ((G.2.1 h1 0))) (ho : tpOk G σ h0 n b) (hfn : dFrom b n < n) (hd : ∀ j, dFrom b n ≤ j → j < n → isD (b j))
    (n10 : h1 ≠ h0) (n1T : h1 ≠ (G.2.1 h0 0)) (l10 : (G.2.1 h1 0) ≠ h0) (l1T : (G.2.1 h1 0) ≠ (G.2.1 h0 0))
    (k : ∀ (c : Nat) (σ' : qS), (∀ b, b ≠ h1 → b ≠ (G.2.1 h1 0) → σ' b = σ b) → wOk G σ' h1 c → (c ≤ w → wZ G σ' h1 c = if b 0 = 45 then -(dv b (dFrom b n) (n - dFrom b n) : Int) else (dv b (dFrom b n) (n - dFrom b n) : Int)) → (w < c → 4294967296 ^ w ≤ dv b (dFrom b n) (n - dFrom b n)) → post σ') : wpX2_spell G h0 h1 (nI w) σ post := by
  unfold wpX2_spell
  refine wl_becomeInt hw1 (by omega) (fun c0 σ1 f1 o1 z1 v3 e3 v4 e4 => ?_)
  have hc0 : c0 = 0 := (wZ_pos o1).1.mpr z1
  subst hc0
  have keep : ∀ τ : qS, (∀ b, b ≠ h1 → b ≠ (G.2.1 h1 0) → τ b = σ b) → tpOk G τ h0 n b := fun τ hfr => by
    obtain ⟨a1, a2, a3⟩ := ho
    exact ⟨a1, by rw [hfr h0 (Ne.symm n10) (Ne.symm l10)]; exact a2, fun i hi => by rw [hfr (G.2.1 h0 0) (Ne.symm n1T) (Ne.symm l1T)]; exact a3 i hi⟩
  refine wl_digitsBegin hcap (keep σ1 f1) ?_
  have hf := dFrom_le b n
  generalize hfe : dFrom b n = fr at *
  have hcw := hw1.2
  have hpw : ∀ s, s ≤ 9 → 10 ^ s ≤ 1000000000 := fun s hs => Nat.pow_le_pow_right (n := 10) (j := 9) (by decide) hs
  -- the end
  have fin : ∀ (c : Nat) (τ : qS), (∀ b, b ≠ h1 → b ≠ (G.2.1 h1 0) → τ b = σ b) → τ h1 1 = nI c → c ≤ G.2.2 ((G.2.1 h1 0)) → (∀ j, c = j + 1 → τ ((G.2.1 h1 0)) j ≠ 0) → (c ≤ w → vU τ ((G.2.1 h1 0)) c = dv b fr (n - fr)) → (w < c → 4294967296 ^ w ≤ dv b fr (n - fr)) → bkX2_spell_89 G h0 h1 post τ := by
    intro c τ hfr t1 t2 t3 t4 t5
    unfold bkX2_spell_89
    have hin : vp_in 0 (G.2.2 (G.2.1 h0 0)) := vp_in_nI (n := 0) (by omega) (by omega)
    obtain ⟨c1, c2⟩ := (keep τ hfr).2.2 0 (by omega)
    have out : ∀ s : Int32, (s = 0 ∨ s = 1) → (c = 0 → s = 0) → (c ≠ 0 → (s = 1 ↔ b 0 = 45)) → post (q_st τ h1 2 s) := by
      intro s s1 s2 s3
      have hrow : q_st τ h1 2 s ((G.2.1 h1 0)) = τ ((G.2.1 h1 0)) := q_st_a _ _ hw1.1
      have eN : wN G (q_st τ h1 2 s) h1 c = vU τ ((G.2.1 h1 0)) c := by unfold wN vU dg; rw [hrow]
      refine k c _ (fun b h2 h3 => by rw [q_st_a _ _ h2, hfr b h2 h3]) ⟨by rw [q_st_ne _ _ (by omega)]; exact t1, t2, by rw [q_st_self]; exact s1, fun h => by rw [q_st_self]; exact s2 h, fun j hj => by rw [hrow]; exact t3 j hj⟩ (fun h => ?_) t5
      unfold wZ
      rw [eN, q_st_self, t4 h]
      rcases Nat.eq_zero_or_pos c with h0 | h0
      · subst h0
        have hz : dv b fr (n - fr) = 0 := (t4 (by omega)).symm
        rw [hz]
        simp
      · by_cases h5 : b 0 = 45
        · rw [if_pos h5, if_pos ((s3 (by omega)).mpr h5)]
        · rw [if_neg h5, if_neg (fun q => h5 ((s3 (by omega)).mp q))]
    unfold wpX4_isZero bkX2_spell_112
    have ez : nI c = 0 ↔ c = 0 := nI_eq (b := 0) (by omega) (by decide)
    rw [t1, ez]
    dsimp only
    rw [clamp0, c2, sb_45 _ c1]
    refine ⟨fun h => ⟨fun h' => absurd h' (by decide), fun _ σ24 e24 => ?_⟩, fun h => ⟨fun _ => ⟨hin, fun h5 σ28 e28 => ?_, fun h5 σ24 e24 => ?_⟩, fun h' => absurd rfl h'⟩⟩
    · rw [e24]; exact out 0 (Or.inl rfl) (fun _ => rfl) (fun h' => absurd h h')
    · rw [e28]; exact out 1 (Or.inr rfl) (fun h' => absurd h' h) (fun _ => ⟨fun _ => h5, fun _ => rfl⟩)
    · rw [e24]; exact out 0 (Or.inl rfl) (fun _ => rfl) (fun _ => ⟨fun q => absurd q (by decide), fun q => absurd q h5⟩)
  refine lp4 (W := fun f x3 x4 x5 τ => lpX2_spell_16 G h0 h1 (nI w) post _ f x3 x4 x5 τ) (I := fun x3 x4 x5 τ => ∃ i s ch c, fr ≤ i ∧ i ≤ n ∧ s ≤ 9 ∧ (s = 0 ∨ ((n - i) % 9 ≠ 0 ∧ s + (n - i) % 9 ≤ 9)) ∧ ch < 10 ^ s ∧ x3 = nI ch ∧ x4 = nI (10 ^ s) ∧ x5 = nI i ∧ (∀ b, b ≠ h1 → b ≠ (G.2.1 h1 0) → τ b = σ b) ∧ τ h1 1 = nI c ∧ c ≤ G.2.2 ((G.2.1 h1 0)) ∧ (∀ j, c = j + 1 → τ ((G.2.1 h1 0)) j ≠ 0) ∧ vU τ ((G.2.1 h1 0)) c * 10 ^ s + ch = dv b fr (i - fr)) (μ := fun _ _ x5 _ => n - x5.toNatClampNeg) ?_ v3 v4 _ σ1 ⟨fr, 0, 0, 0, Nat.le_refl _, by omega, by omega, Or.inl rfl, by decide, e3, e4, rfl, f1, o1.1, by omega, fun j hj => absurd hj (by omega), by rw [Nat.sub_self]; rfl⟩
  intro f x3 x4 x5 τ hI ih
  obtain ⟨i, s, ch, c, hi1, hi2, hs9, hs, hch, rfl, rfl, rfl, hfr, t1, t2, t3, hv⟩ := hI
  show lpX2_spell_16 G h0 h1 (nI w) post _ (f + 1) _ _ _ _
  unfold lpX2_spell_16
  have hk := keep τ hfr
  obtain ⟨a1, a2, a3⟩ := hk
  have hps : 0 < 10 ^ s := Nat.pow_pos (by decide)
  have hlow : vU τ ((G.2.1 h1 0)) c ≤ dv b fr (i - fr) := by
    rw [← hv]
    exact Nat.le_trans (Nat.le_mul_of_pos_right _ hps) (Nat.le_add_right _ _)
  have hmono : dv b fr (i - fr) ≤ dv b fr (n - fr) := by
    have := dv_mono b fr (i - fr) (n - i)
    rwa [show i - fr + (n - i) = n - fr by omega] at this
  have hover : w < c → 4294967296 ^ w ≤ dv b fr (n - fr) := by
    intro h
    obtain ⟨j, rfl⟩ : ∃ j, c = j + 1 := ⟨c - 1, by omega⟩
    have h2 : 4294967296 ^ j ≤ vU τ ((G.2.1 h1 0)) (j + 1) := nv_ge (by
      have := t3 j rfl
      rw [Ne, uI_eq0] at this
      exact Nat.pos_of_ne_zero this)
    have h3 : 4294967296 ^ w ≤ 4294967296 ^ j := Nat.pow_le_pow_right (by decide) (by omega)
    omega
  rw [a2, t1, nI_leI (by omega) (by omega), nI_ltI (by omega) (by omega), nI_clamp (by omega)]
  refine ⟨fun h => ?_, fun h => ⟨fun h2 => fin c τ hfr t1 t2 t3 (fun h3 => absurd h3 (by omega)) hover, fun h2 => ?_⟩⟩
  · have hin : i = n := by omega
    subst hin
    have hs0 : s = 0 := by
      rcases hs with hs | hs
      · exact hs
      · rw [Nat.sub_self] at hs; exact absurd rfl hs.1
    subst hs0
    have : ch = 0 := by omega
    subst this
    refine fin c τ hfr t1 t2 t3 (fun _ => ?_) hover
    rw [← hv]
    omega
  · obtain ⟨d1, d2⟩ := hd i hi1 (by omega)
    obtain ⟨c1, c2⟩ := a3 i (by omega)
    refine ⟨vp_in_nI (by omega) (by omega), fun v11 e11 v12 e12 => ?_⟩
    have hs1 : s ≤ 8 := by
      rcases hs with hs | hs
      · omega
      · omega
    have hps9 := hpw (s + 1) (by omega)
    have hpe : 10 ^ (s + 1) = 10 ^ s * 10 := Nat.pow_succ 10 s
    have e11' : v11 = nI (ch * 10 + (b i - 48)) := by
      rw [e11, c2, sb_d _ (by omega) d1, show (10 : Int32) = nI 10 from rfl, pk_mul, nI_add]
    have e12' : v12 = nI (10 ^ (s + 1)) := by
      rw [e12, show (10 : Int32) = nI 10 from rfl, pk_mul, ← Nat.pow_succ]
    have hch' : ch * 10 + (b i - 48) < 10 ^ (s + 1) := by omega
    have hdv : dv b fr (i + 1 - fr) = dv b fr (i - fr) * 10 + (b i - 48) := by
      rw [show i + 1 - fr = i - fr + 1 by omega]
      show dv b fr (i - fr) * 10 + (b (fr + (i - fr)) - 48) = _
      rw [show fr + (i - fr) = i by omega]
    have hv' : vU τ ((G.2.1 h1 0)) c * 10 ^ (s + 1) + (ch * 10 + (b i - 48)) = dv b fr (i + 1 - fr) := by
      rw [hdv, ← hv, hpe, ← Nat.mul_assoc]
      omega
    have erem : nI n - 1 - nI i - (nI n - 1 - nI i) / 9 * 9 = nI ((n - 1 - i) % 9) := by
      rw [nI_m1 (by omega), pk_sub (by omega)]
      exact pk_rem (a := n - 1 - i) (d := 9) (by omega) (by decide) (by decide)
    have ez : nI ((n - 1 - i) % 9) = 0 ↔ (n - 1 - i) % 9 = 0 := nI_eq (b := 0) (by omega) (by decide)
    rw [erem, ez, e11', e12']
    have hmu : ∀ v : Int32, v = nI i + 1 → n - v.toNatClampNeg < n - (nI i).toNatClampNeg := by
      intro v e
      rw [e, nI_1, nI_clamp (by omega), nI_clamp (by omega)]
      omega
    refine ⟨fun hz => ?_, fun hz v14 e14 => ?_⟩
    · refine wl_scaleAndAdd hw1 t1 t2 t3 (Nat.pow_pos (by decide)) (by omega) (by omega) ?_ (fun c' σ' g1 g2 g3 g4 g5 g6 g7 v17 e17 v18 e18 v19 e19 => ?_)
      · have h3 : vU τ ((G.2.1 h1 0)) c < 4294967296 ^ w := Nat.lt_of_lt_of_le (vU_lt τ ((G.2.1 h1 0)) c) (Nat.pow_le_pow_right (by decide) (by omega))
        have h4 : 4294967296 ^ (w + 1) ≤ 4294967296 ^ (G.2.2 ((G.2.1 h1 0))) := Nat.pow_le_pow_right (by decide) hr
        have h5 : vU τ ((G.2.1 h1 0)) c * 10 ^ (s + 1) ≤ vU τ ((G.2.1 h1 0)) c * 1000000000 := Nat.mul_le_mul_left _ hps9
        rw [Nat.pow_succ] at h4
        omega
      · refine ih v17 v18 v19 σ' ⟨i + 1, 0, 0, c', by omega, by omega, by omega, Or.inl rfl, by decide, e17, e18, by rw [e19, nI_1], fun b b1 b2 => by rw [g3 b b1 b2, hfr b b1 b2], g5, g2, g7, ?_⟩ (hmu v19 e19)
        rw [g6, ← hv']
        omega
    · refine ih _ _ v14 τ ⟨i + 1, s + 1, ch * 10 + (b i - 48), c, by omega, by omega, by omega, Or.inr ⟨by omega, ?_⟩, hch', rfl, rfl, by rw [e14, nI_1], hfr, t1, t2, t3, hv'⟩ (hmu v14 e14)
      rcases hs with hs | hs <;> omega

/-- the nearest from 1 to M -/
def cl (M : Nat) (x : Int32) : Nat := if x.toInt < 1 then 1 else if (M : Int) < x.toInt then M else x.toInt.toNat
theorem cl_in {M : Nat} (hM : 0 < M) (x : Int32) : 0 < cl M x ∧ cl M x ≤ M := by
  unfold cl
  split
  · omega
  · split <;> omega
theorem toInt_1 : (1 : Int32).toInt = 1 := by decide
theorem cl_br {P : Int32 → Prop} {x : Int32} (M : Nat) (h0 : 0 < M) (hM : M < 2 ^ 31) (h : P (nI (cl M x))) : (1 ≤ x → ((x ≤ nI M → P x) ∧ (¬ x ≤ nI M → P (nI M)))) ∧ (¬ 1 ≤ x → P 1) := by
  have hb := cl_in h0 x
  have e : (nI (cl M x)).toInt = (cl M x : Int) := nI_toInt (by omega)
  have eM : (nI M).toInt = (M : Int) := nI_toInt hM
  have key : ∀ y : Int32, y.toInt = (cl M x : Int) → P y := fun y hy => by
    have : y = nI (cl M x) := Int32.toInt_inj.mp (hy.trans e.symm)
    rw [this]; exact h
  rw [Int32.le_iff_toInt_le, Int32.le_iff_toInt_le, toInt_1, eM]
  refine ⟨fun h1 => ⟨fun h2 => key _ ?_, fun h2 => key _ ?_⟩, fun h1 => key _ ?_⟩
  · unfold cl
    rw [if_neg (by omega), if_neg (by omega)]
    omega
  · rw [eM]
    unfold cl
    rw [if_neg (by omega), if_pos (by omega)]
  · rw [toInt_1]
    unfold cl
    rw [if_pos (by omega)]
    rfl
theorem wl_near {G : qG} {x : Int32} {σ : qS} {post : Int32 → qS → Prop} (M : Nat) (h0 : 0 < M) (hM : M < 2 ^ 31) (h : post (nI (cl M x)) σ) : wpX5_nearest G x 1 (nI M) σ post := by
  unfold wpX5_nearest
  have hb := cl_in h0 x
  have e : (nI (cl M x)).toInt = (cl M x : Int) := nI_toInt (by omega)
  have eM : (nI M).toInt = (M : Int) := nI_toInt hM
  have key : (if (1 : Int32) < (if x < nI M then x else nI M) then (if x < nI M then x else nI M) else 1) = nI (cl M x) := by
    apply Int32.toInt_inj.mp
    rw [e]
    unfold cl
    by_cases h1 : x < nI M
    · rw [if_pos h1]
      rw [Int32.lt_iff_toInt_lt, eM] at h1
      by_cases h2 : (1 : Int32) < x
      · rw [if_pos h2]
        rw [Int32.lt_iff_toInt_lt, toInt_1] at h2
        rw [if_neg (by omega), if_neg (by omega)]
        omega
      · rw [if_neg h2]
        rw [Int32.lt_iff_toInt_lt, toInt_1] at h2
        rw [toInt_1]
        by_cases h3 : x.toInt < 1
        · rw [if_pos h3]; rfl
        · rw [if_neg h3, if_neg (by omega)]
          omega
    · rw [if_neg h1]
      rw [Int32.lt_iff_toInt_lt, eM] at h1
      by_cases h2 : (1 : Int32) < nI M
      · rw [if_pos h2]
        rw [Int32.lt_iff_toInt_lt, toInt_1, eM] at h2
        rw [eM, if_neg (by omega)]
        by_cases h3 : (M : Int) < x.toInt
        · rw [if_pos h3]
        · rw [if_neg h3]
          omega
      · rw [if_neg h2]
        rw [Int32.lt_iff_toInt_lt, toInt_1, eM] at h2
        rw [toInt_1, if_neg (by omega)]
        by_cases h3 : (M : Int) < x.toInt
        · rw [if_pos h3]
          omega
        · rw [if_neg h3]
          omega
  rw [key]
  exact h
/-- the reference -/
theorem mk6 {L : List Nat} {G : qG} {σ : qS} {T : Nat → Nat} {q : Nat} {x1 x2 x3 : Int32} {post : List Nat → qG → qS → Prop} (hO : Od L G T) (c : Ce L G σ T q 17 (fun _ => 0) 0 (fun _ => 0) 1)
    (k : ∀ L' G' σ' T' a b d e f R v, Od L' G' T' → Kp q L G σ T L' G' σ' T' → R 2 = a → R 3 = b → R 4 = d → R 5 = e → R 7 = f → v 0 = nI (cl 12 x1) → v 1 = nI (2 * cl 120 x2) → v 6 = 0 → v 8 = 0 → Ce L' G' σ' T' q 6 R 0 v 1 → Ce L' G' σ' T' a 7 (fun _ => 0) 12480 (fun _ => 0) 2 → Ce L' G' σ' T' b 7 (fun _ => 0) 24 (fun _ => 0) 3 → Ce L' G' σ' T' d 9 (fun _ => 0) 24 (fun _ => 0) 4 → Ce L' G' σ' T' e 7 (fun _ => 0) 1400 (fun _ => 0) 5 → Ce L' G' σ' T' f 7 (fun _ => 0) 1300 (fun _ => 0) 6 → post L' G' σ') : wnX6_init L G q x1 x2 x3 σ post := by
  have z1 : (12480 : Int32).toNatClampNeg = 12480 := by decide
  have z2 : (24 : Int32).toNatClampNeg = 24 := by decide
  have z3 : (1400 : Int32).toNatClampNeg = 1400 := by decide
  have z4 : (1300 : Int32).toNatClampNeg = 1300 := by decide
  unfold wnX6_init
  rw [z1, z2, z3, z4]
  refine ⟨by decide, by decide, by decide, by decide, ?_⟩
  intro a L2 G3 σ4 ha eL eG eσ
  subst eL eG eσ
  obtain ⟨o1, k1, a1⟩ := st_new (k := 7) (m := 12480) σ 2 hO ha ⟨by decide, by decide⟩
  have h1 := c.ka k1
  refine ⟨h1.mem, h1.kind, fun G11 e => ?_⟩
  obtain ⟨o2, k2, h2⟩ := st_gr 2 (a + 1) o1 h1 (by decide)
  rw [← e] at o2 k2 h2
  have a2 := a1.kp k2 (by rw [h1.mark]; decide)
  refine ⟨by decide, by decide, by decide, by decide, ?_⟩
  intro b L13 G14 σ15 hb eL eG eσ
  obtain ⟨o3, k3, b3⟩ := st_new (k := 7) (m := 24) (va_up σ a (fun _ => 0)) 3 o2 hb ⟨by decide, by decide⟩
  rw [← eL, ← eG, ← eσ] at k3 b3
  rw [← eL, ← eG] at o3
  have h3 := h2.ka k3
  have a3 := a2.ka k3
  refine ⟨h3.mem, h3.kind, fun G22 e => ?_⟩
  obtain ⟨o4, k4, h4⟩ := st_gr 3 (b + 1) o3 h3 (by decide)
  rw [← e] at o4 k4 h4
  have a4 := a3.kp k4 (by rw [h3.mark]; decide)
  have b4 := b3.kp k4 (by rw [h3.mark]; decide)
  refine ⟨by decide, by decide, by decide, by decide, ?_⟩
  intro d L24 G25 σ26 hd eL eG eσ
  obtain ⟨o5, k5, d5⟩ := st_new (k := 9) (m := 24) σ15 4 o4 hd ⟨by decide, by decide⟩
  rw [← eL, ← eG, ← eσ] at k5 d5
  rw [← eL, ← eG] at o5
  have h5 := h4.ka k5
  have a5 := a4.ka k5
  have b5 := b4.ka k5
  refine ⟨h5.mem, h5.kind, fun G33 e => ?_⟩
  obtain ⟨o6, k6, h6⟩ := st_gr 4 (d + 1) o5 h5 (by decide)
  rw [← e] at o6 k6 h6
  have a6 := a5.kp k6 (by rw [h5.mark]; decide)
  have b6 := b5.kp k6 (by rw [h5.mark]; decide)
  have d6 := d5.kp k6 (by rw [h5.mark]; decide)
  refine ⟨by decide, by decide, by decide, by decide, ?_⟩
  intro t L35 G36 σ37 ht eL eG eσ
  obtain ⟨o7, k7, t7⟩ := st_new (k := 7) (m := 1400) σ26 5 o6 ht ⟨by decide, by decide⟩
  rw [← eL, ← eG, ← eσ] at k7 t7
  rw [← eL, ← eG] at o7
  have h7 := h6.ka k7
  have a7 := a6.ka k7
  have b7 := b6.ka k7
  have d7 := d6.ka k7
  refine ⟨h7.mem, h7.kind, fun G44 e => ?_⟩
  obtain ⟨o8, k8, h8⟩ := st_gr 5 (t + 1) o7 h7 (by decide)
  rw [← e] at o8 k8 h8
  have a8 := a7.kp k8 (by rw [h7.mark]; decide)
  have b8 := b7.kp k8 (by rw [h7.mark]; decide)
  have d8 := d7.kp k8 (by rw [h7.mark]; decide)
  have t8 := t7.kp k8 (by rw [h7.mark]; decide)
  refine ⟨by decide, by decide, by decide, by decide, ?_⟩
  intro p L46 G47 σ48 hp eL eG eσ
  obtain ⟨o9, k9, p9⟩ := st_new (k := 7) (m := 1300) σ37 6 o8 hp ⟨by decide, by decide⟩
  rw [← eL, ← eG, ← eσ] at k9 p9
  rw [← eL, ← eG] at o9
  have h9 := h8.ka k9
  have a9 := a8.ka k9
  have b9 := b8.ka k9
  have d9 := d8.ka k9
  have t9 := t8.ka k9
  refine ⟨h9.mem, h9.kind, fun G55 e => ?_⟩
  obtain ⟨oA, kA, hA⟩ := st_gr 7 (p + 1) o9 h9 (by decide)
  rw [← e] at oA kA hA
  have aA := a9.kp kA (by rw [h9.mark]; decide)
  have bA := b9.kp kA (by rw [h9.mark]; decide)
  have dA := d9.kp kA (by rw [h9.mark]; decide)
  have tA := t9.kp kA (by rw [h9.mark]; decide)
  have pA := p9.kp kA (by rw [h9.mark]; decide)
  refine cl_br (P := fun y => bnX6_init_69 q x2 q y post _ _ L46 G55 σ48) 12 (by decide) (by decide) ?_
  show bnX6_init_69 _ _ _ _ _ _ _ _ _ _
  unfold bnX6_init_69
  refine ⟨hA.mem, hA.kind, fun σ60 e => ?_⟩
  obtain ⟨kB, hB⟩ := st_st 0 (nI (cl 12 x1)) hA
  rw [← e] at kB hB
  refine cl_br (P := fun y => bnX6_init_95 q 2 y post _ _ L46 G55 σ60) 120 (by decide) (by decide) ?_
  show bnX6_init_95 _ _ _ _ _ _ _ _ _
  unfold bnX6_init_95
  refine ⟨hB.mem, hB.kind, fun σ65 e => ?_⟩
  have e2 : (2 : Int32) * nI (cl 120 x2) = nI (2 * cl 120 x2) := pk_mul 2 _
  rw [e2] at e
  obtain ⟨kC, hC⟩ := st_st 1 (nI (2 * cl 120 x2)) hB
  rw [← e] at kC hC
  have KC := kB.trans kC
  have mA := hA.mark
  have aC := aA.kp KC (by omega)
  have bC := bA.kp KC (by omega)
  have dC := dA.kp KC (by omega)
  have tC := tA.kp KC (by omega)
  have pC := pA.kp KC (by omega)
  have eR : ∀ i, (fin G55 q 6).2.1 q i = va_up (va_up (va_up (va_up (va_up (fun _ => 0) 2 (a + 1)) 3 (b + 1)) 4 (d + 1)) 5 (t + 1)) 7 (p + 1) i - 1 := fun i => by
    show va_up _ q (fun i => _ - 1) q i = _
    rw [va_up_self, hC.refs]
  have r2 : (fin G55 q 6).2.1 q 2 = a := (eR 2).trans rfl
  have r3 : (fin G55 q 6).2.1 q 3 = b := (eR 3).trans rfl
  have r4 : (fin G55 q 6).2.1 q 4 = d := (eR 4).trans rfl
  have r5 : (fin G55 q 6).2.1 q 5 = t := (eR 5).trans rfl
  have r7 : (fin G55 q 6).2.1 q 7 = p := (eR 7).trans rfl
  have hqk : (fin G55 q 6).1 q = 6 := va_up_self _ _ _
  have hk : ∀ {z kz : Nat}, G55.1 z = kz → kz ≠ 17 → (fin G55 q 6).1 z = kz := fun {z kz} hz hn => (va_up_ne _ _ (fun e => by rw [e, hC.kind] at hz; exact hn hz.symm)).trans hz
  obtain ⟨oD, kD, hD⟩ := st_fin (k' := 6) oA hC (by decide) (wf1_k6 hqk (by rw [r2, r3, r4, r5, r7]; exact ⟨⟨aC.mem, hk aC.kind (by decide)⟩, ⟨bC.mem, hk bC.kind (by decide)⟩, ⟨dC.mem, hk dC.kind (by decide)⟩, ⟨tC.mem, hk tC.kind (by decide)⟩, ⟨pC.mem, hk pC.kind (by decide)⟩⟩))
  have nM := hC.mark
  refine ⟨by decide, by decide, _, fin_same (k' := 6) (fun E v => Or.inl ?_), k _ _ _ _ a b d t p _ _ oD ((k1.p).trans (k2.trans ((k3.p).trans (k4.trans ((k5.p).trans (k6.trans ((k7.p).trans (k8.trans ((k9.p).trans (kA.trans (KC.trans kD))))))))))) rfl rfl rfl rfl rfl rfl rfl rfl rfl hD (aC.kp kD (by omega)) (bC.kp kD (by omega)) (dC.kp kD (by omega)) (tC.kp kD (by omega)) (pC.kp kD (by omega))⟩
  have g1 := hC.kind
  have g2 := hC.refs
  unfold q_cell
  rw [hqk, g1, g2, r2, r3, r4, r5, r7]
  rfl

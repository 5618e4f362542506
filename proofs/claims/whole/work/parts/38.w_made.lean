theorem n_WF0 (G : qG) : q_WF G [] := ⟨fun _ h => absurd h List.not_mem_nil, fun _ h => absurd h List.not_mem_nil, fun _ h => absurd h List.not_mem_nil, fun _ h => absurd h List.not_mem_nil, fun _ h => absurd h List.not_mem_nil, fun _ h => absurd h List.not_mem_nil, fun _ h => absurd h List.not_mem_nil, fun _ h => absurd h List.not_mem_nil⟩
theorem mwX4_init_0 : Cond.methodLink RX4 1 objectInit ∈ wsX4_init := by decide +kernel
theorem mwX4_init_1 : Cond.instanceMethod objectInit ∈ wsX4_init := by decide +kernel
theorem mwX4_init_2 : Cond.code objectInit ⟨#[0xb1]⟩ 1 none ∈ wsX4_init := by decide +kernel
theorem mwX4_init_3 : Cond.arrayClass .int ∈ wsX4_init := by decide +kernel
theorem mwX4_init_4 : ∀ w ∈ wsX40, w ∈ wsX4_init := by decide +kernel
theorem mwX4_init_5 : Cond.fieldLink RX4 7 "IntFile$Whole" "limbs" "[I" ∈ wsX4_init := by decide +kernel
theorem mwX4_init_6 : Cond.fieldLink RX4 13 "IntFile$Whole" "count" "I" ∈ wsX4_init := by decide +kernel
theorem mwX4_init_7 : Cond.fieldLink RX4 17 "IntFile$Whole" "below" "Z" ∈ wsX4_init := by decide +kernel
def wnX4_init (L : List Nat) (G : qG) (h0 : Nat) (x1 : Int32) (σ : qS) (post : List Nat → qG → qS → Prop) : Prop := ¬ x1 < 0 ∧ x1.toNatClampNeg ≤ 100000 ∧ 0 + 1 ≤ 1 ∧ 0 + x1.toNatClampNeg ≤ 300 ∧ ∀ (q1 : Nat) (L2 : List Nat) (G3 : qG) (σ4 : qS), q1 ∉ L → L2 = L ++ [q1] → G3 = q_gs G q1 7 (fun _ => 0) x1.toNatClampNeg → σ4 = va_up σ q1 (fun _ => 0) → h0 ∈ L2 ∧ G3.1 h0 = 15 ∧ ∀ G11 : qG, G11 = q_gr G3 h0 0 (q1 + 1) → h0 ∈ L2 ∧ G11.1 h0 = 15 ∧ ∀ σ14 : qS, σ14 = q_st σ4 h0 1 0 → h0 ∈ L2 ∧ G11.1 h0 = 15 ∧ ∀ σ17 : qS, σ17 = q_st σ14 h0 2 0 → 0 + 1 ≤ 1 ∧ 0 + x1.toNatClampNeg ≤ 300 ∧ ∃ G20 : qG, q_same L2 G11 G20 ∧ post L2 G20 σ17
set_option maxHeartbeats 4000000 in
set_option maxRecDepth 100000 in
theorem snX4_init {l : Launch} {E : qE} {L : List Nat} {G : qG} {h0 : Nat} {x1 : Int32} {σ : qS} {post : List Nat → qG → qS → Prop} (h : wnX4_init L G h0 x1 σ post) : MtN l E yX4_init wsX4_init 1 1 300 [.ref h0, .int x1] L G σ post := by
  refine n_met (cc := cX4_init) (maxL := 2) (own := RX4) (by decide) rfl rfl rfl (Nat.le_of_ble_eq_true rfl) ?_
  intro p e s m below meth c C
  unfold wnX4_init at h
  refine n_aload_n (pc := 0) C dX4_init_0 rfl 0 rfl ?_
  refine n_objInit (pc := 1) C mwX4_init_0 mwX4_init_1 mwX4_init_2 dX4_init_1 (by decide) (Nat.le_of_ble_eq_true rfl) ?_
  refine n_aload_n (pc := 4) C dX4_init_4 rfl 0 rfl ?_
  refine n_iload_n (pc := 5) C dX4_init_5 rfl 1 rfl ?_
  obtain ⟨z5, h⟩ := h
  obtain ⟨z6, h⟩ := h
  obtain ⟨z7, h⟩ := h
  obtain ⟨z8, h⟩ := h
  refine n_newa_i (pc := 6) C mwX4_init_3 z5 z6 z7 z8 dX4_init_6 (fun q1 L2 G3 σ4 eq1 eL2 eG3 eσ4 => ?_)
  replace h := h q1 L2 G3 σ4 eq1 eL2 eG3 eσ4
  obtain ⟨z9, h⟩ := h
  obtain ⟨z10, h⟩ := h
  refine n_p4_0 (pc := 8) C z9 z10 mwX4_init_4 mwX4_init_5 dX4_init_8 (fun G11 eG11 => ?_)
  replace h := h G11 eG11
  refine n_aload_n (pc := 11) C dX4_init_11 rfl 0 rfl ?_
  refine n_iconst (pc := 12) (v := 0) C dX4_init_12 (by decide) ?_
  obtain ⟨z12, h⟩ := h
  obtain ⟨z13, h⟩ := h
  refine n_p4_1 (pc := 13) C z12 z13 mwX4_init_4 mwX4_init_6 dX4_init_13 (fun σ14 eσ14 => ?_)
  replace h := h σ14 eσ14
  refine n_aload_n (pc := 16) C dX4_init_16 rfl 0 rfl ?_
  refine n_iconst (pc := 17) (v := 0) C dX4_init_17 (by decide) ?_
  obtain ⟨z15, h⟩ := h
  obtain ⟨z16, h⟩ := h
  refine n_p4_2 (pc := 18) C z15 z16 mwX4_init_4 mwX4_init_7 (Or.inl rfl) dX4_init_18 (fun σ17 eσ17 => ?_)
  replace h := h σ17 eσ17
  obtain ⟨z18, h⟩ := h
  obtain ⟨z19, h⟩ := h
  obtain ⟨G20, z21, h⟩ := h
  exact n_vret (pc := 21) C dX4_init_21 z18 z19 z21 h
theorem mwX2_init_0 : Cond.methodLink RX2 1 objectInit ∈ wsX2_init := by decide +kernel
theorem mwX2_init_1 : Cond.instanceMethod objectInit ∈ wsX2_init := by decide +kernel
theorem mwX2_init_2 : Cond.code objectInit ⟨#[0xb1]⟩ 1 none ∈ wsX2_init := by decide +kernel
theorem mwX2_init_3 : Cond.arrayClass .byte ∈ wsX2_init := by decide +kernel
theorem mwX2_init_4 : ∀ w ∈ wsX20, w ∈ wsX2_init := by decide +kernel
theorem mwX2_init_5 : Cond.fieldLink RX2 9 "IntFile$Tape" "bytes" "[B" ∈ wsX2_init := by decide +kernel
theorem mwX2_init_6 : Cond.fieldLink RX2 13 "IntFile$Tape" "count" "I" ∈ wsX2_init := by decide +kernel
def wnX2_init (L : List Nat) (G : qG) (h0 : Nat) (σ : qS) (post : List Nat → qG → qS → Prop) : Prop := ¬ (1300 : Int32) < 0 ∧ (1300 : Int32).toNatClampNeg ≤ 100000 ∧ 0 + 1 ≤ 1 ∧ 0 + (1300 : Int32).toNatClampNeg ≤ 1300 ∧ ∀ (q1 : Nat) (L2 : List Nat) (G3 : qG) (σ4 : qS), q1 ∉ L → L2 = L ++ [q1] → G3 = q_gs G q1 8 (fun _ => 0) (1300 : Int32).toNatClampNeg → σ4 = va_up σ q1 (fun _ => 0) → h0 ∈ L2 ∧ G3.1 h0 = 13 ∧ ∀ G11 : qG, G11 = q_gr G3 h0 0 (q1 + 1) → h0 ∈ L2 ∧ G11.1 h0 = 13 ∧ ∀ σ14 : qS, σ14 = q_st σ4 h0 1 0 → 0 + 1 ≤ 1 ∧ 0 + (1300 : Int32).toNatClampNeg ≤ 1300 ∧ ∃ G17 : qG, q_same L2 G11 G17 ∧ post L2 G17 σ14
set_option maxHeartbeats 4000000 in
set_option maxRecDepth 100000 in
theorem snX2_init {l : Launch} {E : qE} {L : List Nat} {G : qG} {h0 : Nat} {σ : qS} {post : List Nat → qG → qS → Prop} (h : wnX2_init L G h0 σ post) : MtN l E yX2_init wsX2_init 1 1 1300 [.ref h0] L G σ post := by
  refine n_met (cc := cX2_init) (maxL := 1) (own := RX2) (by decide) rfl rfl rfl (Nat.le_of_ble_eq_true rfl) ?_
  intro p e s m below meth c C
  unfold wnX2_init at h
  refine n_aload_n (pc := 0) C dX2_init_0 rfl 0 rfl ?_
  refine n_objInit (pc := 1) C mwX2_init_0 mwX2_init_1 mwX2_init_2 dX2_init_1 (by decide) (Nat.le_of_ble_eq_true rfl) ?_
  refine n_aload_n (pc := 4) C dX2_init_4 rfl 0 rfl ?_
  refine n_sipush (pc := 5) (v := 1300) C dX2_init_5 (by decide) ?_
  obtain ⟨z5, h⟩ := h
  obtain ⟨z6, h⟩ := h
  obtain ⟨z7, h⟩ := h
  obtain ⟨z8, h⟩ := h
  refine n_newa_b (pc := 8) C mwX2_init_3 z5 z6 z7 z8 dX2_init_8 (fun q1 L2 G3 σ4 eq1 eL2 eG3 eσ4 => ?_)
  replace h := h q1 L2 G3 σ4 eq1 eL2 eG3 eσ4
  obtain ⟨z9, h⟩ := h
  obtain ⟨z10, h⟩ := h
  refine n_p2_0 (pc := 10) C z9 z10 mwX2_init_4 mwX2_init_5 dX2_init_10 (fun G11 eG11 => ?_)
  replace h := h G11 eG11
  refine n_aload_n (pc := 13) C dX2_init_13 rfl 0 rfl ?_
  refine n_iconst (pc := 14) (v := 0) C dX2_init_14 (by decide) ?_
  obtain ⟨z12, h⟩ := h
  obtain ⟨z13, h⟩ := h
  refine n_p2_1 (pc := 15) C z12 z13 mwX2_init_4 mwX2_init_6 dX2_init_15 (fun σ14 eσ14 => ?_)
  replace h := h σ14 eσ14
  obtain ⟨z15, h⟩ := h
  obtain ⟨z16, h⟩ := h
  obtain ⟨G17, z18, h⟩ := h
  exact n_vret (pc := 18) C dX2_init_18 z15 z16 z18 h
theorem mwX3_init_0 : Cond.methodLink RX3 1 objectInit ∈ wsX3_init := by decide +kernel
theorem mwX3_init_1 : Cond.instanceMethod objectInit ∈ wsX3_init := by decide +kernel
theorem mwX3_init_2 : Cond.code objectInit ⟨#[0xb1]⟩ 1 none ∈ wsX3_init := by decide +kernel
theorem mwX3_init_3 : Cond.arrayClass .byte ∈ wsX3_init := by decide +kernel
theorem mwX3_init_4 : ∀ w ∈ wsX30, w ∈ wsX3_init := by decide +kernel
theorem mwX3_init_5 : Cond.fieldLink RX3 9 "IntFile$Text" "bytes" "[B" ∈ wsX3_init := by decide +kernel
theorem mwX3_init_6 : Cond.fieldLink RX3 13 "IntFile$Text" "start" "I" ∈ wsX3_init := by decide +kernel
def wnX3_init (L : List Nat) (G : qG) (h0 : Nat) (x1 : Int32) (σ : qS) (post : List Nat → qG → qS → Prop) : Prop := ¬ ((x1 * 10) + 1) < 0 ∧ ((x1 * 10) + 1).toNatClampNeg ≤ 100000 ∧ 0 + 1 ≤ 1 ∧ 0 + ((x1 * 10) + 1).toNatClampNeg ≤ 1300 ∧ ∀ (q1 : Nat) (L2 : List Nat) (G3 : qG) (σ4 : qS), q1 ∉ L → L2 = L ++ [q1] → G3 = q_gs G q1 8 (fun _ => 0) ((x1 * 10) + 1).toNatClampNeg → σ4 = va_up σ q1 (fun _ => 0) → h0 ∈ L2 ∧ G3.1 h0 = 14 ∧ ∀ G11 : qG, G11 = q_gr G3 h0 0 (q1 + 1) → h0 ∈ L2 ∧ G11.1 h0 = 14 ∧ ∃ r14 : Nat, G11.2.1 h0 0 = r14 + 1 ∧ r14 ∈ L2 ∧ G11.1 r14 = 8 ∧ h0 ∈ L2 ∧ G11.1 h0 = 14 ∧ ∀ σ20 : qS, σ20 = q_st σ4 h0 1 (nI (G11.2.2 r14)) → 0 + 1 ≤ 1 ∧ 0 + ((x1 * 10) + 1).toNatClampNeg ≤ 1300 ∧ ∃ G23 : qG, q_same L2 G11 G23 ∧ post L2 G23 σ20
set_option maxHeartbeats 4000000 in
set_option maxRecDepth 100000 in
theorem snX3_init {l : Launch} {E : qE} {L : List Nat} {G : qG} {h0 : Nat} {x1 : Int32} {σ : qS} {post : List Nat → qG → qS → Prop} (h : wnX3_init L G h0 x1 σ post) : MtN l E yX3_init wsX3_init 1 1 1300 [.ref h0, .int x1] L G σ post := by
  refine n_met (cc := cX3_init) (maxL := 2) (own := RX3) (by decide) rfl rfl rfl (Nat.le_of_ble_eq_true rfl) ?_
  intro p e s m below meth c C
  unfold wnX3_init at h
  refine n_aload_n (pc := 0) C dX3_init_0 rfl 0 rfl ?_
  refine n_objInit (pc := 1) C mwX3_init_0 mwX3_init_1 mwX3_init_2 dX3_init_1 (by decide) (Nat.le_of_ble_eq_true rfl) ?_
  refine n_aload_n (pc := 4) C dX3_init_4 rfl 0 rfl ?_
  refine n_iload_n (pc := 5) C dX3_init_5 rfl 1 rfl ?_
  refine n_bipush (pc := 6) (v := 10) C dX3_init_6 (by decide) ?_
  refine n_imul (pc := 8) C dX3_init_8 ?_
  refine n_iconst (pc := 9) (v := 1) C dX3_init_9 (by decide) ?_
  refine n_iadd (pc := 10) C dX3_init_10 ?_
  obtain ⟨z5, h⟩ := h
  obtain ⟨z6, h⟩ := h
  obtain ⟨z7, h⟩ := h
  obtain ⟨z8, h⟩ := h
  refine n_newa_b (pc := 11) C mwX3_init_3 z5 z6 z7 z8 dX3_init_11 (fun q1 L2 G3 σ4 eq1 eL2 eG3 eσ4 => ?_)
  replace h := h q1 L2 G3 σ4 eq1 eL2 eG3 eσ4
  obtain ⟨z9, h⟩ := h
  obtain ⟨z10, h⟩ := h
  refine n_p3_0 (pc := 13) C z9 z10 mwX3_init_4 mwX3_init_5 dX3_init_13 (fun G11 eG11 => ?_)
  replace h := h G11 eG11
  refine n_aload_n (pc := 16) C dX3_init_16 rfl 0 rfl ?_
  refine n_aload_n (pc := 17) C dX3_init_17 rfl 0 rfl ?_
  obtain ⟨z12, h⟩ := h
  obtain ⟨z13, h⟩ := h
  obtain ⟨r14, z15, h⟩ := h
  refine n_g3_0 (pc := 18) C z12 z13 z15 mwX3_init_4 mwX3_init_5 dX3_init_18 ?_
  obtain ⟨z16, h⟩ := h
  obtain ⟨z17, h⟩ := h
  refine n_alen8 (pc := 21) C z16 z17 dX3_init_21 ?_
  obtain ⟨z18, h⟩ := h
  obtain ⟨z19, h⟩ := h
  refine n_p3_1 (pc := 22) C z18 z19 mwX3_init_4 mwX3_init_6 dX3_init_22 (fun σ20 eσ20 => ?_)
  replace h := h σ20 eσ20
  obtain ⟨z21, h⟩ := h
  obtain ⟨z22, h⟩ := h
  obtain ⟨G23, z24, h⟩ := h
  exact n_vret (pc := 25) C dX3_init_25 z21 z22 z24 h
theorem mwX1_init_0 : Cond.methodLink RX1 1 objectInit ∈ wsX1_init := by decide +kernel
theorem mwX1_init_1 : Cond.instanceMethod objectInit ∈ wsX1_init := by decide +kernel
theorem mwX1_init_2 : Cond.code objectInit ⟨#[0xb1]⟩ 1 none ∈ wsX1_init := by decide +kernel
theorem mwX1_init_3 : ∀ w ∈ wsX10, w ∈ wsX1_init := by decide +kernel
theorem mwX1_init_4 : Cond.fieldLink RX1 7 "IntFile$Products" "cut" "I" ∈ wsX1_init := by decide +kernel
theorem mwX1_init_5 : Cond.fieldLink RX1 13 "IntFile$Products" "left" "I" ∈ wsX1_init := by decide +kernel
theorem mwX1_init_6 : Cond.fieldLink RX1 16 "IntFile$Products" "right" "I" ∈ wsX1_init := by decide +kernel
theorem mwX1_init_7 : Cond.fieldLink RX1 19 "IntFile$Products" "outcome" "I" ∈ wsX1_init := by decide +kernel
theorem mwX1_init_8 : Cond.fieldLink RX1 22 "IntFile$Products" "free" "I" ∈ wsX1_init := by decide +kernel
theorem mwX1_init_9 : Cond.arrayClass .int ∈ wsX1_init := by decide +kernel
theorem mwX1_init_10 : Cond.fieldLink RX1 29 "IntFile$Products" "row" "[I" ∈ wsX1_init := by decide +kernel
def wnX1_init (L : List Nat) (G : qG) (h0 : Nat) (x1 : Int32) (x2 : Int32) (σ : qS) (post : List Nat → qG → qS → Prop) : Prop := h0 ∈ L ∧ G.1 h0 = 12 ∧ ∀ σ3 : qS, σ3 = q_st σ h0 0 x2 → h0 ∈ L ∧ G.1 h0 = 12 ∧ ∀ σ6 : qS, σ6 = q_st σ3 h0 2 0 → h0 ∈ L ∧ G.1 h0 = 12 ∧ ∀ σ9 : qS, σ9 = q_st σ6 h0 3 x1 → h0 ∈ L ∧ G.1 h0 = 12 ∧ ∀ σ12 : qS, σ12 = q_st σ9 h0 4 ((2 : Int32) * x1) → h0 ∈ L ∧ G.1 h0 = 12 ∧ ∀ σ15 : qS, σ15 = q_st σ12 h0 5 ((4 : Int32) * x1) → h0 ∈ L ∧ G.1 h0 = 12 ∧ 0 ≤ 1 ∧ 0 ≤ 2000 ∧ wpX1_roomForHalves G x1 σ15 (fun (u18 : Int32) (_ : qS) => ¬ ((σ15 h0 5) + u18) < 0 ∧ ((σ15 h0 5) + u18).toNatClampNeg ≤ 100000 ∧ 0 + 1 ≤ 1 ∧ 0 + ((σ15 h0 5) + u18).toNatClampNeg ≤ 2000 ∧ ∀ (q21 : Nat) (L22 : List Nat) (G23 : qG) (σ24 : qS), q21 ∉ L → L22 = L ++ [q21] → G23 = q_gs G q21 7 (fun _ => 0) ((σ15 h0 5) + u18).toNatClampNeg → σ24 = va_up σ15 q21 (fun _ => 0) → h0 ∈ L22 ∧ G23.1 h0 = 12 ∧ ∀ G31 : qG, G31 = q_gr G23 h0 1 (q21 + 1) → 0 + 1 ≤ 1 ∧ 0 + ((σ15 h0 5) + u18).toNatClampNeg ≤ 2000 ∧ ∃ G34 : qG, q_same L22 G31 G34 ∧ post L22 G34 σ24)
set_option maxHeartbeats 4000000 in
set_option maxRecDepth 100000 in
theorem snX1_init {l : Launch} {E : qE} {L : List Nat} {G : qG} {h0 : Nat} {x1 : Int32} {x2 : Int32} {σ : qS} {post : List Nat → qG → qS → Prop} (h : wnX1_init L G h0 x1 x2 σ post) : MtN l E yX1_init wsX1_init 2 1 2000 [.ref h0, .int x1, .int x2] L G σ post := by
  refine n_met (cc := cX1_init) (maxL := 3) (own := RX1) (by decide) rfl rfl rfl (Nat.le_of_ble_eq_true rfl) ?_
  intro p e s m below meth c C
  unfold wnX1_init at h
  refine n_aload_n (pc := 0) C dX1_init_0 rfl 0 rfl ?_
  refine n_objInit (pc := 1) C mwX1_init_0 mwX1_init_1 mwX1_init_2 dX1_init_1 (by decide) (Nat.le_of_ble_eq_true rfl) ?_
  refine n_aload_n (pc := 4) C dX1_init_4 rfl 0 rfl ?_
  refine n_iload_n (pc := 5) C dX1_init_5 rfl 2 rfl ?_
  obtain ⟨z1, h⟩ := h
  obtain ⟨z2, h⟩ := h
  refine n_p1_0 (pc := 6) C z1 z2 mwX1_init_3 mwX1_init_4 dX1_init_6 (fun σ3 eσ3 => ?_)
  replace h := h σ3 eσ3
  refine n_aload_n (pc := 9) C dX1_init_9 rfl 0 rfl ?_
  refine n_iconst (pc := 10) (v := 0) C dX1_init_10 (by decide) ?_
  obtain ⟨z4, h⟩ := h
  obtain ⟨z5, h⟩ := h
  refine n_p1_2 (pc := 11) C z4 z5 mwX1_init_3 mwX1_init_5 dX1_init_11 (fun σ6 eσ6 => ?_)
  replace h := h σ6 eσ6
  refine n_aload_n (pc := 14) C dX1_init_14 rfl 0 rfl ?_
  refine n_iload_n (pc := 15) C dX1_init_15 rfl 1 rfl ?_
  obtain ⟨z7, h⟩ := h
  obtain ⟨z8, h⟩ := h
  refine n_p1_3 (pc := 16) C z7 z8 mwX1_init_3 mwX1_init_6 dX1_init_16 (fun σ9 eσ9 => ?_)
  replace h := h σ9 eσ9
  refine n_aload_n (pc := 19) C dX1_init_19 rfl 0 rfl ?_
  refine n_iconst (pc := 20) (v := 2) C dX1_init_20 (by decide) ?_
  refine n_iload_n (pc := 21) C dX1_init_21 rfl 1 rfl ?_
  refine n_imul (pc := 22) C dX1_init_22 ?_
  obtain ⟨z10, h⟩ := h
  obtain ⟨z11, h⟩ := h
  refine n_p1_4 (pc := 23) C z10 z11 mwX1_init_3 mwX1_init_7 dX1_init_23 (fun σ12 eσ12 => ?_)
  replace h := h σ12 eσ12
  refine n_aload_n (pc := 26) C dX1_init_26 rfl 0 rfl ?_
  refine n_iconst (pc := 27) (v := 4) C dX1_init_27 (by decide) ?_
  refine n_iload_n (pc := 28) C dX1_init_28 rfl 1 rfl ?_
  refine n_imul (pc := 29) C dX1_init_29 ?_
  obtain ⟨z13, h⟩ := h
  obtain ⟨z14, h⟩ := h
  refine n_p1_5 (pc := 30) C z13 z14 mwX1_init_3 mwX1_init_8 dX1_init_30 (fun σ15 eσ15 => ?_)
  replace h := h σ15 eσ15
  refine n_aload_n (pc := 33) C dX1_init_33 rfl 0 rfl ?_
  refine n_aload_n (pc := 34) C dX1_init_34 rfl 0 rfl ?_
  obtain ⟨z16, h⟩ := h
  obtain ⟨z17, h⟩ := h
  refine n_g1_5 (pc := 35) C z16 z17 mwX1_init_3 mwX1_init_8 dX1_init_35 ?_
  refine n_iload_n (pc := 38) C dX1_init_38 rfl 1 rfl ?_
  obtain ⟨z19, h⟩ := h
  obtain ⟨z20, h⟩ := h
  refine n_cSi (pc := 39) (As := [.int x1]) C (sdX1_roomForHalves List.nodup_nil (n_WF0 _) h) (va_cwS 1 C.1.2.2.2.2 gX1_init_X1_roomForHalves rfl rfl rfl (by decide +kernel) (n_room0 (by decide) (by decide))) rfl rfl (Nat.le_of_ble_eq_true rfl) z19 z20 dX1_init_39 (fun u18 _ h => ?_)
  refine n_iadd (pc := 42) C dX1_init_42 ?_
  obtain ⟨z25, h⟩ := h
  obtain ⟨z26, h⟩ := h
  obtain ⟨z27, h⟩ := h
  obtain ⟨z28, h⟩ := h
  refine n_newa_i (pc := 43) C mwX1_init_9 z25 z26 z27 z28 dX1_init_43 (fun q21 L22 G23 σ24 eq21 eL22 eG23 eσ24 => ?_)
  replace h := h q21 L22 G23 σ24 eq21 eL22 eG23 eσ24
  obtain ⟨z29, h⟩ := h
  obtain ⟨z30, h⟩ := h
  refine n_p1_1 (pc := 45) C z29 z30 mwX1_init_3 mwX1_init_10 dX1_init_45 (fun G31 eG31 => ?_)
  replace h := h G31 eG31
  obtain ⟨z32, h⟩ := h
  obtain ⟨z33, h⟩ := h
  obtain ⟨G34, z35, h⟩ := h
  exact n_vret (pc := 48) C dX1_init_48 z32 z33 z35 h
theorem mwX0_init_0 : Cond.methodLink RX0 1 objectInit ∈ wsX0_init := by decide +kernel
theorem mwX0_init_1 : Cond.instanceMethod objectInit ∈ wsX0_init := by decide +kernel
theorem mwX0_init_2 : Cond.code objectInit ⟨#[0xb1]⟩ 1 none ∈ wsX0_init := by decide +kernel
theorem mwX0_init_3 : ∀ w ∈ wsX40, w ∈ wsX0_init := by decide +kernel
theorem mwX0_init_4 : Cond.classLink RX0 7 RX4 ∈ wsX0_init := by decide +kernel
theorem mwX0_init_5 : Cond.instantiable RX4 3 ∈ wsX0_init := by decide +kernel
theorem mwX0_init_6 : Cond.initialized RX4 ∈ wsX0_init := by decide +kernel
theorem mwX0_init_7 : Cond.methodLink RX0 9 yX4_init ∈ wsX0_init := by decide +kernel
theorem mwX0_init_8 : Cond.instanceMethod yX4_init ∈ wsX0_init := by decide +kernel
theorem mwX0_init_9 : ∀ w ∈ wsX00, w ∈ wsX0_init := by decide +kernel
theorem mwX0_init_10 : Cond.fieldLink RX0 12 "IntFile$Division" "quotient" "LIntFile$Whole;" ∈ wsX0_init := by decide +kernel
theorem mwX0_init_11 : Cond.fieldLink RX0 18 "IntFile$Division" "rest" "LIntFile$Whole;" ∈ wsX0_init := by decide +kernel
theorem mwX0_init_12 : Cond.arrayClass .int ∈ wsX0_init := by decide +kernel
theorem mwX0_init_13 : Cond.fieldLink RX0 21 "IntFile$Division" "over" "[I" ∈ wsX0_init := by decide +kernel
theorem mwX0_init_14 : Cond.fieldLink RX0 25 "IntFile$Division" "under" "[I" ∈ wsX0_init := by decide +kernel
def wnX0_init (L : List Nat) (G : qG) (h0 : Nat) (x1 : Int32) (σ : qS) (post : List Nat → qG → qS → Prop) : Prop := 0 + 1 ≤ 6 ∧ 0 + 3 ≤ 1100 ∧ ∀ (q1 : Nat) (L2 : List Nat) (G3 : qG) (σ4 : qS), q1 ∉ L → L2 = L ++ [q1] → G3 = q_gs G q1 15 (fun _ => 0) 0 → σ4 = va_up σ q1 (fun _ => 0) → (0 + 1) + 1 ≤ 6 ∧ (0 + 3) + 300 ≤ 1100 ∧ wnX4_init L2 G3 q1 ((2 : Int32) * x1) σ4 (fun (L9 : List Nat) (G10 : qG) (σ11 : qS) => h0 ∈ L9 ∧ G10.1 h0 = 11 ∧ ∀ G14 : qG, G14 = q_gr G10 h0 0 (q1 + 1) → ((0 + 1) + 1) + 1 ≤ 6 ∧ ((0 + 3) + 300) + 3 ≤ 1100 ∧ ∀ (q15 : Nat) (L16 : List Nat) (G17 : qG) (σ18 : qS), q15 ∉ L9 → L16 = L9 ++ [q15] → G17 = q_gs G14 q15 15 (fun _ => 0) 0 → σ18 = va_up σ11 q15 (fun _ => 0) → (((0 + 1) + 1) + 1) + 1 ≤ 6 ∧ (((0 + 3) + 300) + 3) + 300 ≤ 1100 ∧ wnX4_init L16 G17 q15 x1 σ18 (fun (L23 : List Nat) (G24 : qG) (σ25 : qS) => h0 ∈ L23 ∧ G24.1 h0 = 11 ∧ ∀ G28 : qG, G28 = q_gr G24 h0 1 (q15 + 1) → ¬ (((2 : Int32) * x1) + 1) < 0 ∧ (((2 : Int32) * x1) + 1).toNatClampNeg ≤ 100000 ∧ ((((0 + 1) + 1) + 1) + 1) + 1 ≤ 6 ∧ ((((0 + 3) + 300) + 3) + 300) + (((2 : Int32) * x1) + 1).toNatClampNeg ≤ 1100 ∧ ∀ (q29 : Nat) (L30 : List Nat) (G31 : qG) (σ32 : qS), q29 ∉ L23 → L30 = L23 ++ [q29] → G31 = q_gs G28 q29 7 (fun _ => 0) (((2 : Int32) * x1) + 1).toNatClampNeg → σ32 = va_up σ25 q29 (fun _ => 0) → h0 ∈ L30 ∧ G31.1 h0 = 11 ∧ ∀ G39 : qG, G39 = q_gr G31 h0 2 (q29 + 1) → ¬ x1 < 0 ∧ x1.toNatClampNeg ≤ 100000 ∧ (((((0 + 1) + 1) + 1) + 1) + 1) + 1 ≤ 6 ∧ (((((0 + 3) + 300) + 3) + 300) + (((2 : Int32) * x1) + 1).toNatClampNeg) + x1.toNatClampNeg ≤ 1100 ∧ ∀ (q40 : Nat) (L41 : List Nat) (G42 : qG) (σ43 : qS), q40 ∉ L30 → L41 = L30 ++ [q40] → G42 = q_gs G39 q40 7 (fun _ => 0) x1.toNatClampNeg → σ43 = va_up σ32 q40 (fun _ => 0) → h0 ∈ L41 ∧ G42.1 h0 = 11 ∧ ∀ G50 : qG, G50 = q_gr G42 h0 3 (q40 + 1) → (((((0 + 1) + 1) + 1) + 1) + 1) + 1 ≤ 6 ∧ (((((0 + 3) + 300) + 3) + 300) + (((2 : Int32) * x1) + 1).toNatClampNeg) + x1.toNatClampNeg ≤ 1100 ∧ ∃ G53 : qG, q_same L41 G50 G53 ∧ post L41 G53 σ43))
set_option maxHeartbeats 4000000 in
set_option maxRecDepth 100000 in
theorem snX0_init {l : Launch} {E : qE} {L : List Nat} {G : qG} {h0 : Nat} {x1 : Int32} {σ : qS} {post : List Nat → qG → qS → Prop} (h : wnX0_init L G h0 x1 σ post) : MtN l E yX0_init wsX0_init 2 6 1100 [.ref h0, .int x1] L G σ post := by
  refine n_met (cc := cX0_init) (maxL := 2) (own := RX0) (by decide) rfl rfl rfl (Nat.le_of_ble_eq_true rfl) ?_
  intro p e s m below meth c C
  unfold wnX0_init at h
  refine n_aload_n (pc := 0) C dX0_init_0 rfl 0 rfl ?_
  refine n_objInit (pc := 1) C mwX0_init_0 mwX0_init_1 mwX0_init_2 dX0_init_1 (by decide) (Nat.le_of_ble_eq_true rfl) ?_
  refine n_aload_n (pc := 4) C dX0_init_4 rfl 0 rfl ?_
  obtain ⟨z5, h⟩ := h
  obtain ⟨z6, h⟩ := h
  refine n_new4 (pc := 5) C mwX0_init_3 mwX0_init_4 mwX0_init_5 mwX0_init_6 z5 z6 dX0_init_5 (fun q1 L2 G3 σ4 eq1 eL2 eG3 eσ4 => ?_)
  replace h := h q1 L2 G3 σ4 eq1 eL2 eG3 eσ4
  refine n_dup (pc := 8) C dX0_init_8 rfl ?_
  refine n_iconst (pc := 9) (v := 2) C dX0_init_9 (by decide) ?_
  refine n_iload_n (pc := 10) C dX0_init_10 rfl 1 rfl ?_
  refine n_imul (pc := 11) C dX0_init_11 ?_
  obtain ⟨z7, h⟩ := h
  obtain ⟨z8, h⟩ := h
  refine n_cI (pc := 12) (As := [.int ((2 : Int32) * x1)]) C (snX4_init h) (cwI 1 C.1.2.2.2.2 gX0_init_X4_init rfl rfl rfl (C.1.2.2.2.2 _ mwX0_init_6) (C.1.2.2.2.2 _ mwX0_init_7) (C.1.2.2.2.2 _ mwX0_init_8) rfl (by decide +kernel) (n_room (by decide) (by decide))) rfl rfl (Nat.le_of_ble_eq_true rfl) z7 z8 dX0_init_12 (fun L9 G10 σ11 h => ?_)
  obtain ⟨z12, h⟩ := h
  obtain ⟨z13, h⟩ := h
  refine n_p0_0 (pc := 15) C z12 z13 mwX0_init_9 mwX0_init_10 dX0_init_15 (fun G14 eG14 => ?_)
  replace h := h G14 eG14
  refine n_aload_n (pc := 18) C dX0_init_18 rfl 0 rfl ?_
  obtain ⟨z19, h⟩ := h
  obtain ⟨z20, h⟩ := h
  refine n_new4 (pc := 19) C mwX0_init_3 mwX0_init_4 mwX0_init_5 mwX0_init_6 z19 z20 dX0_init_19 (fun q15 L16 G17 σ18 eq15 eL16 eG17 eσ18 => ?_)
  replace h := h q15 L16 G17 σ18 eq15 eL16 eG17 eσ18
  refine n_dup (pc := 22) C dX0_init_22 rfl ?_
  refine n_iload_n (pc := 23) C dX0_init_23 rfl 1 rfl ?_
  obtain ⟨z21, h⟩ := h
  obtain ⟨z22, h⟩ := h
  refine n_cI (pc := 24) (As := [.int x1]) C (snX4_init h) (cwI 1 C.1.2.2.2.2 gX0_init_X4_init rfl rfl rfl (C.1.2.2.2.2 _ mwX0_init_6) (C.1.2.2.2.2 _ mwX0_init_7) (C.1.2.2.2.2 _ mwX0_init_8) rfl (by decide +kernel) (n_room (by decide) (by decide))) rfl rfl (Nat.le_of_ble_eq_true rfl) z21 z22 dX0_init_24 (fun L23 G24 σ25 h => ?_)
  obtain ⟨z26, h⟩ := h
  obtain ⟨z27, h⟩ := h
  refine n_p0_1 (pc := 27) C z26 z27 mwX0_init_9 mwX0_init_11 dX0_init_27 (fun G28 eG28 => ?_)
  replace h := h G28 eG28
  refine n_aload_n (pc := 30) C dX0_init_30 rfl 0 rfl ?_
  refine n_iconst (pc := 31) (v := 2) C dX0_init_31 (by decide) ?_
  refine n_iload_n (pc := 32) C dX0_init_32 rfl 1 rfl ?_
  refine n_imul (pc := 33) C dX0_init_33 ?_
  refine n_iconst (pc := 34) (v := 1) C dX0_init_34 (by decide) ?_
  refine n_iadd (pc := 35) C dX0_init_35 ?_
  obtain ⟨z33, h⟩ := h
  obtain ⟨z34, h⟩ := h
  obtain ⟨z35, h⟩ := h
  obtain ⟨z36, h⟩ := h
  refine n_newa_i (pc := 36) C mwX0_init_12 z33 z34 z35 z36 dX0_init_36 (fun q29 L30 G31 σ32 eq29 eL30 eG31 eσ32 => ?_)
  replace h := h q29 L30 G31 σ32 eq29 eL30 eG31 eσ32
  obtain ⟨z37, h⟩ := h
  obtain ⟨z38, h⟩ := h
  refine n_p0_2 (pc := 38) C z37 z38 mwX0_init_9 mwX0_init_13 dX0_init_38 (fun G39 eG39 => ?_)
  replace h := h G39 eG39
  refine n_aload_n (pc := 41) C dX0_init_41 rfl 0 rfl ?_
  refine n_iload_n (pc := 42) C dX0_init_42 rfl 1 rfl ?_
  obtain ⟨z44, h⟩ := h
  obtain ⟨z45, h⟩ := h
  obtain ⟨z46, h⟩ := h
  obtain ⟨z47, h⟩ := h
  refine n_newa_i (pc := 43) C mwX0_init_12 z44 z45 z46 z47 dX0_init_43 (fun q40 L41 G42 σ43 eq40 eL41 eG42 eσ43 => ?_)
  replace h := h q40 L41 G42 σ43 eq40 eL41 eG42 eσ43
  obtain ⟨z48, h⟩ := h
  obtain ⟨z49, h⟩ := h
  refine n_p0_3 (pc := 45) C z48 z49 mwX0_init_9 mwX0_init_14 dX0_init_45 (fun G50 eG50 => ?_)
  replace h := h G50 eG50
  obtain ⟨z51, h⟩ := h
  obtain ⟨z52, h⟩ := h
  obtain ⟨G53, z54, h⟩ := h
  exact n_vret (pc := 48) C dX0_init_48 z51 z52 z54 h
theorem mwX6_init_0 : Cond.methodLink RX6 1 objectInit ∈ wsX6_init := by decide +kernel
theorem mwX6_init_1 : Cond.instanceMethod objectInit ∈ wsX6_init := by decide +kernel
theorem mwX6_init_2 : Cond.code objectInit ⟨#[0xb1]⟩ 1 none ∈ wsX6_init := by decide +kernel
theorem mwX6_init_3 : Cond.arrayClass .int ∈ wsX6_init := by decide +kernel
theorem mwX6_init_4 : ∀ w ∈ wsX60, w ∈ wsX6_init := by decide +kernel
theorem mwX6_init_5 : Cond.fieldLink RX6 7 "IntFileModel" "cells" "[I" ∈ wsX6_init := by decide +kernel
theorem mwX6_init_6 : Cond.fieldLink RX6 13 "IntFileModel" "lens" "[I" ∈ wsX6_init := by decide +kernel
theorem mwX6_init_7 : Cond.arrayClass .boolean ∈ wsX6_init := by decide +kernel
theorem mwX6_init_8 : Cond.fieldLink RX6 16 "IntFileModel" "below" "[Z" ∈ wsX6_init := by decide +kernel
theorem mwX6_init_9 : Cond.fieldLink RX6 20 "IntFileModel" "text" "[I" ∈ wsX6_init := by decide +kernel
theorem mwX6_init_10 : Cond.fieldLink RX6 23 "IntFileModel" "tape" "[I" ∈ wsX6_init := by decide +kernel
theorem mwX6_init_11 : Cond.fieldLink RX6 26 "IntFileModel" "registers" "I" ∈ wsX6_init := by decide +kernel
theorem mwX6_init_12 : Cond.fieldLink RX6 30 "IntFileModel" "most" "I" ∈ wsX6_init := by decide +kernel
def bnX6_init_95 (s0 : Nat) (s1 : Int32) (s2 : Int32) (post : List Nat → qG → qS → Prop) (kc ks : Nat) (L : List Nat) (G : qG) (σ : qS) : Prop := s0 ∈ L ∧ G.1 s0 = 17 ∧ ∀ σ65 : qS, σ65 = q_st σ s0 1 (s1 * s2) → kc ≤ 5 ∧ ks ≤ 16000 ∧ ∃ G68 : qG, q_same L G G68 ∧ post L G68 σ65
set_option maxHeartbeats 4000000 in
set_option maxRecDepth 100000 in
theorem sbnX6_init_95 {p : Program} {l : Launch} {e : Env} {s : State} {m : MethodId} {args : Array Value} {below : List Frame} {meth : Method} {c : Code} {E : qE} {A : Nat → Prop} (C : q_N p s m args meth c cX6_init 4 wsX6_init RX6 none "<init>" E A) {s0 : Nat} {s1 : Int32} {s2 : Int32} {post : List Nat → qG → qS → Prop} {kc ks : Nat} {L : List Nat} {G : qG} {σ : qS} (h : bnX6_init_95 s0 s1 s2 post kc ks L G σ) : Wn p l e (q_rn 1 5 16000) s m args below meth c E A (MQ below (va_Qv (fun u : List Nat × qG × qS => post u.1 u.2.1 u.2.2) (q_BN E A) A) args s 5 16000 A) 4 kc ks L G σ 95 [] [.int s2, .int s1, .ref s0] := by
  unfold bnX6_init_95 at h
  refine n_imul (pc := 95) C dX6_init_95 ?_
  obtain ⟨z63, h⟩ := h
  obtain ⟨z64, h⟩ := h
  refine n_p6_1 (pc := 96) C z63 z64 mwX6_init_4 mwX6_init_12 dX6_init_96 (fun σ65 eσ65 => ?_)
  replace h := h σ65 eσ65
  obtain ⟨z66, h⟩ := h
  obtain ⟨z67, h⟩ := h
  obtain ⟨G68, z69, h⟩ := h
  exact n_vret (pc := 99) C dX6_init_99 z66 z67 z69 h
def bnX6_init_69 (h0 : Nat) (x2 : Int32) (s0 : Nat) (s1 : Int32) (post : List Nat → qG → qS → Prop) (kc ks : Nat) (L : List Nat) (G : qG) (σ : qS) : Prop := s0 ∈ L ∧ G.1 s0 = 17 ∧ ∀ σ60 : qS, σ60 = q_st σ s0 0 s1 → ((1 ≤ x2 → ((x2 ≤ 120 → bnX6_init_95 h0 2 x2 post kc ks L G σ60) ∧ (¬ x2 ≤ 120 → bnX6_init_95 h0 2 120 post kc ks L G σ60))) ∧ (¬ 1 ≤ x2 → bnX6_init_95 h0 2 1 post kc ks L G σ60))
set_option maxHeartbeats 4000000 in
set_option maxRecDepth 100000 in
theorem sbnX6_init_69 {p : Program} {l : Launch} {e : Env} {s : State} {m : MethodId} {args : Array Value} {below : List Frame} {meth : Method} {c : Code} {E : qE} {A : Nat → Prop} (C : q_N p s m args meth c cX6_init 4 wsX6_init RX6 none "<init>" E A) {h0 : Nat} {x2 : Int32} {s0 : Nat} {s1 : Int32} {post : List Nat → qG → qS → Prop} {kc ks : Nat} {L : List Nat} {G : qG} {σ : qS} (h : bnX6_init_69 h0 x2 s0 s1 post kc ks L G σ) : Wn p l e (q_rn 1 5 16000) s m args below meth c E A (MQ below (va_Qv (fun u : List Nat × qG × qS => post u.1 u.2.1 u.2.2) (q_BN E A) A) args s 5 16000 A) 4 kc ks L G σ 69 [(0, .ref h0), (2, .int x2)] [.int s1, .ref s0] := by
  unfold bnX6_init_69 at h
  obtain ⟨z58, h⟩ := h
  obtain ⟨z59, h⟩ := h
  refine n_p6_0 (pc := 69) C z58 z59 mwX6_init_4 mwX6_init_11 dX6_init_69 (fun σ60 eσ60 => ?_)
  replace h := h σ60 eσ60
  refine n_aload_n (pc := 72) C dX6_init_72 rfl 0 rfl ?_
  refine n_iconst (pc := 73) (v := 2) C dX6_init_73 (by decide) ?_
  refine n_iload_n (pc := 74) C dX6_init_74 rfl 1 rfl ?_
  refine n_iconst (pc := 75) (v := 1) C dX6_init_75 (by decide) ?_
  refine n_icmp_ge (tgt := 83) (pc := 76) C dX6_init_76 (by decide) (fun c61 => ?_) (fun c61 => ?_)
  · replace h := h.1 c61
    refine n_iload_n (pc := 83) C dX6_init_83 rfl 1 rfl ?_
    refine n_bipush (pc := 84) (v := 120) C dX6_init_84 (by decide) ?_
    refine n_icmp_le (tgt := 94) (pc := 86) C dX6_init_86 (by decide) (fun c62 => ?_) (fun c62 => ?_)
    · replace h := h.1 c62
      refine n_iload_n (pc := 94) C dX6_init_94 rfl 1 rfl ?_
      refine n_lv (lv' := []) [] rfl ?_
      exact sbnX6_init_95 C h
    · replace h := h.2 c62
      refine n_bipush (pc := 89) (v := 120) C dX6_init_89 (by decide) ?_
      refine n_goto (tgt := 95) (pc := 91) C dX6_init_91 (by decide) ?_
      refine n_lv (lv' := []) [] rfl ?_
      exact sbnX6_init_95 C h
  · replace h := h.2 c61
    refine n_iconst (pc := 79) (v := 1) C dX6_init_79 (by decide) ?_
    refine n_goto (tgt := 95) (pc := 80) C dX6_init_80 (by decide) ?_
    refine n_lv (lv' := []) [] rfl ?_
    exact sbnX6_init_95 C h
def wnX6_init (L : List Nat) (G : qG) (h0 : Nat) (x1 : Int32) (x2 : Int32) (x3 : Int32) (σ : qS) (post : List Nat → qG → qS → Prop) : Prop := ¬ (12480 : Int32) < 0 ∧ (12480 : Int32).toNatClampNeg ≤ 100000 ∧ 0 + 1 ≤ 5 ∧ 0 + (12480 : Int32).toNatClampNeg ≤ 16000 ∧ ∀ (q1 : Nat) (L2 : List Nat) (G3 : qG) (σ4 : qS), q1 ∉ L → L2 = L ++ [q1] → G3 = q_gs G q1 7 (fun _ => 0) (12480 : Int32).toNatClampNeg → σ4 = va_up σ q1 (fun _ => 0) → h0 ∈ L2 ∧ G3.1 h0 = 17 ∧ ∀ G11 : qG, G11 = q_gr G3 h0 2 (q1 + 1) → ¬ (24 : Int32) < 0 ∧ (24 : Int32).toNatClampNeg ≤ 100000 ∧ (0 + 1) + 1 ≤ 5 ∧ (0 + (12480 : Int32).toNatClampNeg) + (24 : Int32).toNatClampNeg ≤ 16000 ∧ ∀ (q12 : Nat) (L13 : List Nat) (G14 : qG) (σ15 : qS), q12 ∉ L2 → L13 = L2 ++ [q12] → G14 = q_gs G11 q12 7 (fun _ => 0) (24 : Int32).toNatClampNeg → σ15 = va_up σ4 q12 (fun _ => 0) → h0 ∈ L13 ∧ G14.1 h0 = 17 ∧ ∀ G22 : qG, G22 = q_gr G14 h0 3 (q12 + 1) → ¬ (24 : Int32) < 0 ∧ (24 : Int32).toNatClampNeg ≤ 100000 ∧ ((0 + 1) + 1) + 1 ≤ 5 ∧ ((0 + (12480 : Int32).toNatClampNeg) + (24 : Int32).toNatClampNeg) + (24 : Int32).toNatClampNeg ≤ 16000 ∧ ∀ (q23 : Nat) (L24 : List Nat) (G25 : qG) (σ26 : qS), q23 ∉ L13 → L24 = L13 ++ [q23] → G25 = q_gs G22 q23 9 (fun _ => 0) (24 : Int32).toNatClampNeg → σ26 = va_up σ15 q23 (fun _ => 0) → h0 ∈ L24 ∧ G25.1 h0 = 17 ∧ ∀ G33 : qG, G33 = q_gr G25 h0 4 (q23 + 1) → ¬ (1400 : Int32) < 0 ∧ (1400 : Int32).toNatClampNeg ≤ 100000 ∧ (((0 + 1) + 1) + 1) + 1 ≤ 5 ∧ (((0 + (12480 : Int32).toNatClampNeg) + (24 : Int32).toNatClampNeg) + (24 : Int32).toNatClampNeg) + (1400 : Int32).toNatClampNeg ≤ 16000 ∧ ∀ (q34 : Nat) (L35 : List Nat) (G36 : qG) (σ37 : qS), q34 ∉ L24 → L35 = L24 ++ [q34] → G36 = q_gs G33 q34 7 (fun _ => 0) (1400 : Int32).toNatClampNeg → σ37 = va_up σ26 q34 (fun _ => 0) → h0 ∈ L35 ∧ G36.1 h0 = 17 ∧ ∀ G44 : qG, G44 = q_gr G36 h0 5 (q34 + 1) → ¬ (1300 : Int32) < 0 ∧ (1300 : Int32).toNatClampNeg ≤ 100000 ∧ ((((0 + 1) + 1) + 1) + 1) + 1 ≤ 5 ∧ ((((0 + (12480 : Int32).toNatClampNeg) + (24 : Int32).toNatClampNeg) + (24 : Int32).toNatClampNeg) + (1400 : Int32).toNatClampNeg) + (1300 : Int32).toNatClampNeg ≤ 16000 ∧ ∀ (q45 : Nat) (L46 : List Nat) (G47 : qG) (σ48 : qS), q45 ∉ L35 → L46 = L35 ++ [q45] → G47 = q_gs G44 q45 7 (fun _ => 0) (1300 : Int32).toNatClampNeg → σ48 = va_up σ37 q45 (fun _ => 0) → h0 ∈ L46 ∧ G47.1 h0 = 17 ∧ ∀ G55 : qG, G55 = q_gr G47 h0 7 (q45 + 1) → ((1 ≤ x1 → ((x1 ≤ 12 → bnX6_init_69 h0 x2 h0 x1 post (((((0 + 1) + 1) + 1) + 1) + 1) (((((0 + (12480 : Int32).toNatClampNeg) + (24 : Int32).toNatClampNeg) + (24 : Int32).toNatClampNeg) + (1400 : Int32).toNatClampNeg) + (1300 : Int32).toNatClampNeg) L46 G55 σ48) ∧ (¬ x1 ≤ 12 → bnX6_init_69 h0 x2 h0 12 post (((((0 + 1) + 1) + 1) + 1) + 1) (((((0 + (12480 : Int32).toNatClampNeg) + (24 : Int32).toNatClampNeg) + (24 : Int32).toNatClampNeg) + (1400 : Int32).toNatClampNeg) + (1300 : Int32).toNatClampNeg) L46 G55 σ48))) ∧ (¬ 1 ≤ x1 → bnX6_init_69 h0 x2 h0 1 post (((((0 + 1) + 1) + 1) + 1) + 1) (((((0 + (12480 : Int32).toNatClampNeg) + (24 : Int32).toNatClampNeg) + (24 : Int32).toNatClampNeg) + (1400 : Int32).toNatClampNeg) + (1300 : Int32).toNatClampNeg) L46 G55 σ48))
set_option maxHeartbeats 4000000 in
set_option maxRecDepth 100000 in
theorem snX6_init {l : Launch} {E : qE} {L : List Nat} {G : qG} {h0 : Nat} {x1 : Int32} {x2 : Int32} {x3 : Int32} {σ : qS} {post : List Nat → qG → qS → Prop} (h : wnX6_init L G h0 x1 x2 x3 σ post) : MtN l E yX6_init wsX6_init 1 5 16000 [.ref h0, .int x1, .int x2, .int x3] L G σ post := by
  refine n_met (cc := cX6_init) (maxL := 4) (own := RX6) (by decide) rfl rfl rfl (Nat.le_of_ble_eq_true rfl) ?_
  intro p e s m below meth c C
  unfold wnX6_init at h
  refine n_aload_n (pc := 0) C dX6_init_0 rfl 0 rfl ?_
  refine n_objInit (pc := 1) C mwX6_init_0 mwX6_init_1 mwX6_init_2 dX6_init_1 (by decide) (Nat.le_of_ble_eq_true rfl) ?_
  refine n_aload_n (pc := 4) C dX6_init_4 rfl 0 rfl ?_
  refine n_sipush (pc := 5) (v := 12480) C dX6_init_5 (by decide) ?_
  obtain ⟨z5, h⟩ := h
  obtain ⟨z6, h⟩ := h
  obtain ⟨z7, h⟩ := h
  obtain ⟨z8, h⟩ := h
  refine n_newa_i (pc := 8) C mwX6_init_3 z5 z6 z7 z8 dX6_init_8 (fun q1 L2 G3 σ4 eq1 eL2 eG3 eσ4 => ?_)
  replace h := h q1 L2 G3 σ4 eq1 eL2 eG3 eσ4
  obtain ⟨z9, h⟩ := h
  obtain ⟨z10, h⟩ := h
  refine n_p6_2 (pc := 10) C z9 z10 mwX6_init_4 mwX6_init_5 dX6_init_10 (fun G11 eG11 => ?_)
  replace h := h G11 eG11
  refine n_aload_n (pc := 13) C dX6_init_13 rfl 0 rfl ?_
  refine n_bipush (pc := 14) (v := 24) C dX6_init_14 (by decide) ?_
  obtain ⟨z16, h⟩ := h
  obtain ⟨z17, h⟩ := h
  obtain ⟨z18, h⟩ := h
  obtain ⟨z19, h⟩ := h
  refine n_newa_i (pc := 16) C mwX6_init_3 z16 z17 z18 z19 dX6_init_16 (fun q12 L13 G14 σ15 eq12 eL13 eG14 eσ15 => ?_)
  replace h := h q12 L13 G14 σ15 eq12 eL13 eG14 eσ15
  obtain ⟨z20, h⟩ := h
  obtain ⟨z21, h⟩ := h
  refine n_p6_3 (pc := 18) C z20 z21 mwX6_init_4 mwX6_init_6 dX6_init_18 (fun G22 eG22 => ?_)
  replace h := h G22 eG22
  refine n_aload_n (pc := 21) C dX6_init_21 rfl 0 rfl ?_
  refine n_bipush (pc := 22) (v := 24) C dX6_init_22 (by decide) ?_
  obtain ⟨z27, h⟩ := h
  obtain ⟨z28, h⟩ := h
  obtain ⟨z29, h⟩ := h
  obtain ⟨z30, h⟩ := h
  refine n_newa_z (pc := 24) C mwX6_init_7 z27 z28 z29 z30 dX6_init_24 (fun q23 L24 G25 σ26 eq23 eL24 eG25 eσ26 => ?_)
  replace h := h q23 L24 G25 σ26 eq23 eL24 eG25 eσ26
  obtain ⟨z31, h⟩ := h
  obtain ⟨z32, h⟩ := h
  refine n_p6_4 (pc := 26) C z31 z32 mwX6_init_4 mwX6_init_8 dX6_init_26 (fun G33 eG33 => ?_)
  replace h := h G33 eG33
  refine n_aload_n (pc := 29) C dX6_init_29 rfl 0 rfl ?_
  refine n_sipush (pc := 30) (v := 1400) C dX6_init_30 (by decide) ?_
  obtain ⟨z38, h⟩ := h
  obtain ⟨z39, h⟩ := h
  obtain ⟨z40, h⟩ := h
  obtain ⟨z41, h⟩ := h
  refine n_newa_i (pc := 33) C mwX6_init_3 z38 z39 z40 z41 dX6_init_33 (fun q34 L35 G36 σ37 eq34 eL35 eG36 eσ37 => ?_)
  replace h := h q34 L35 G36 σ37 eq34 eL35 eG36 eσ37
  obtain ⟨z42, h⟩ := h
  obtain ⟨z43, h⟩ := h
  refine n_p6_5 (pc := 35) C z42 z43 mwX6_init_4 mwX6_init_9 dX6_init_35 (fun G44 eG44 => ?_)
  replace h := h G44 eG44
  refine n_aload_n (pc := 38) C dX6_init_38 rfl 0 rfl ?_
  refine n_sipush (pc := 39) (v := 1300) C dX6_init_39 (by decide) ?_
  obtain ⟨z49, h⟩ := h
  obtain ⟨z50, h⟩ := h
  obtain ⟨z51, h⟩ := h
  obtain ⟨z52, h⟩ := h
  refine n_newa_i (pc := 42) C mwX6_init_3 z49 z50 z51 z52 dX6_init_42 (fun q45 L46 G47 σ48 eq45 eL46 eG47 eσ48 => ?_)
  replace h := h q45 L46 G47 σ48 eq45 eL46 eG47 eσ48
  obtain ⟨z53, h⟩ := h
  obtain ⟨z54, h⟩ := h
  refine n_p6_7 (pc := 44) C z53 z54 mwX6_init_4 mwX6_init_10 dX6_init_44 (fun G55 eG55 => ?_)
  replace h := h G55 eG55
  refine n_aload_n (pc := 47) C dX6_init_47 rfl 0 rfl ?_
  refine n_iload_n (pc := 48) C dX6_init_48 rfl 1 rfl ?_
  refine n_iconst (pc := 49) (v := 1) C dX6_init_49 (by decide) ?_
  refine n_icmp_ge (tgt := 57) (pc := 50) C dX6_init_50 (by decide) (fun c56 => ?_) (fun c56 => ?_)
  · replace h := h.1 c56
    refine n_iload_n (pc := 57) C dX6_init_57 rfl 1 rfl ?_
    refine n_bipush (pc := 58) (v := 12) C dX6_init_58 (by decide) ?_
    refine n_icmp_le (tgt := 68) (pc := 60) C dX6_init_60 (by decide) (fun c57 => ?_) (fun c57 => ?_)
    · replace h := h.1 c57
      refine n_iload_n (pc := 68) C dX6_init_68 rfl 1 rfl ?_
      refine n_lv (lv' := [(0, .ref h0), (2, .int x2)]) [0, 2] rfl ?_
      exact sbnX6_init_69 C h
    · replace h := h.2 c57
      refine n_bipush (pc := 63) (v := 12) C dX6_init_63 (by decide) ?_
      refine n_goto (tgt := 69) (pc := 65) C dX6_init_65 (by decide) ?_
      refine n_lv (lv' := [(0, .ref h0), (2, .int x2)]) [0, 2] rfl ?_
      exact sbnX6_init_69 C h
  · replace h := h.2 c56
    refine n_iconst (pc := 53) (v := 1) C dX6_init_53 (by decide) ?_
    refine n_goto (tgt := 69) (pc := 54) C dX6_init_54 (by decide) ?_
    refine n_lv (lv' := [(0, .ref h0), (2, .int x2)]) [0, 2] rfl ?_
    exact sbnX6_init_69 C h
theorem mwX5_init_0 : Cond.methodLink RX5 1 objectInit ∈ wsX5_init := by decide +kernel
theorem mwX5_init_1 : Cond.instanceMethod objectInit ∈ wsX5_init := by decide +kernel
theorem mwX5_init_2 : Cond.code objectInit ⟨#[0xb1]⟩ 1 none ∈ wsX5_init := by decide +kernel
theorem mwX5_init_3 : ∀ w ∈ wsX50, w ∈ wsX5_init := by decide +kernel
theorem mwX5_init_4 : Cond.fieldLink RX5 13 "IntFile" "width" "I" ∈ wsX5_init := by decide +kernel
theorem mwX5_init_5 : Cond.classLink RX5 17 "IntFile$Whole" ∈ wsX5_init := by decide +kernel
theorem mwX5_init_6 : Cond.fieldLink RX5 19 "IntFile" "file" "[LIntFile$Whole;" ∈ wsX5_init := by decide +kernel
theorem mwX5_init_7 : ∀ w ∈ wsX40, w ∈ wsX5_init := by decide +kernel
theorem mwX5_init_8 : Cond.classLink RX5 17 RX4 ∈ wsX5_init := by decide +kernel
theorem mwX5_init_9 : Cond.instantiable RX4 3 ∈ wsX5_init := by decide +kernel
theorem mwX5_init_10 : Cond.initialized RX4 ∈ wsX5_init := by decide +kernel
theorem mwX5_init_11 : Cond.methodLink RX5 23 yX4_init ∈ wsX5_init := by decide +kernel
theorem mwX5_init_12 : Cond.instanceMethod yX4_init ∈ wsX5_init := by decide +kernel
theorem mwX5_init_13 : Cond.fieldLink RX5 26 "IntFile" "result" "LIntFile$Whole;" ∈ wsX5_init := by decide +kernel
theorem mwX5_init_14 : Cond.fieldLink RX5 30 "IntFile" "first" "LIntFile$Whole;" ∈ wsX5_init := by decide +kernel
theorem mwX5_init_15 : Cond.fieldLink RX5 33 "IntFile" "second" "LIntFile$Whole;" ∈ wsX5_init := by decide +kernel
theorem mwX5_init_16 : ∀ w ∈ wsX10, w ∈ wsX5_init := by decide +kernel
theorem mwX5_init_17 : Cond.classLink RX5 36 RX1 ∈ wsX5_init := by decide +kernel
theorem mwX5_init_18 : Cond.instantiable RX1 6 ∈ wsX5_init := by decide +kernel
theorem mwX5_init_19 : Cond.initialized RX1 ∈ wsX5_init := by decide +kernel
theorem mwX5_init_20 : Cond.methodLink RX5 38 yX1_init ∈ wsX5_init := by decide +kernel
theorem mwX5_init_21 : Cond.instanceMethod yX1_init ∈ wsX5_init := by decide +kernel
theorem mwX5_init_22 : Cond.fieldLink RX5 41 "IntFile" "products" "LIntFile$Products;" ∈ wsX5_init := by decide +kernel
theorem mwX5_init_23 : ∀ w ∈ wsX00, w ∈ wsX5_init := by decide +kernel
theorem mwX5_init_24 : Cond.classLink RX5 45 RX0 ∈ wsX5_init := by decide +kernel
theorem mwX5_init_25 : Cond.instantiable RX0 4 ∈ wsX5_init := by decide +kernel
theorem mwX5_init_26 : Cond.initialized RX0 ∈ wsX5_init := by decide +kernel
theorem mwX5_init_27 : Cond.methodLink RX5 47 yX0_init ∈ wsX5_init := by decide +kernel
theorem mwX5_init_28 : Cond.instanceMethod yX0_init ∈ wsX5_init := by decide +kernel
theorem mwX5_init_29 : Cond.fieldLink RX5 48 "IntFile" "division" "LIntFile$Division;" ∈ wsX5_init := by decide +kernel
theorem mwX5_init_30 : ∀ w ∈ wsX30, w ∈ wsX5_init := by decide +kernel
theorem mwX5_init_31 : Cond.classLink RX5 52 RX3 ∈ wsX5_init := by decide +kernel
theorem mwX5_init_32 : Cond.instantiable RX3 2 ∈ wsX5_init := by decide +kernel
theorem mwX5_init_33 : Cond.initialized RX3 ∈ wsX5_init := by decide +kernel
theorem mwX5_init_34 : Cond.methodLink RX5 54 yX3_init ∈ wsX5_init := by decide +kernel
theorem mwX5_init_35 : Cond.instanceMethod yX3_init ∈ wsX5_init := by decide +kernel
theorem mwX5_init_36 : Cond.fieldLink RX5 55 "IntFile" "text" "LIntFile$Text;" ∈ wsX5_init := by decide +kernel
theorem mwX5_init_37 : ∀ w ∈ wsX20, w ∈ wsX5_init := by decide +kernel
theorem mwX5_init_38 : Cond.classLink RX5 59 RX2 ∈ wsX5_init := by decide +kernel
theorem mwX5_init_39 : Cond.instantiable RX2 2 ∈ wsX5_init := by decide +kernel
theorem mwX5_init_40 : Cond.initialized RX2 ∈ wsX5_init := by decide +kernel
theorem mwX5_init_41 : Cond.methodLink RX5 61 yX2_init ∈ wsX5_init := by decide +kernel
theorem mwX5_init_42 : Cond.instanceMethod yX2_init ∈ wsX5_init := by decide +kernel
theorem mwX5_init_43 : Cond.fieldLink RX5 62 "IntFile" "tape" "LIntFile$Tape;" ∈ wsX5_init := by decide +kernel
def lnX5_init_32 (h0 : Nat) (x3 : Int32) (post : List Nat → qG → qS → Prop) (kx66 : Nat → Nat → List Nat → qG → qS → Prop) : Nat → Int32 → Nat → Nat → List Nat → qG → qS → Prop
  | 0, _, _, _, _, _, _ => False
  | n + 1, x4, kc, ks, L, G, σ => h0 ∈ L ∧ G.1 h0 = 16 ∧ ∃ r24 : Nat, G.2.1 h0 1 = r24 + 1 ∧ r24 ∈ L ∧ G.1 r24 = 18 ∧ (((nI (G.2.2 r24)) ≤ x4 → kx66 kc ks L G σ) ∧ (¬ (nI (G.2.2 r24)) ≤ x4 → h0 ∈ L ∧ G.1 h0 = 16 ∧ ∃ r31 : Nat, G.2.1 h0 1 = r31 + 1 ∧ kc + 1 ≤ 60 ∧ ks + 3 ≤ 12000 ∧ ∀ (q33 : Nat) (L34 : List Nat) (G35 : qG) (σ36 : qS), q33 ∉ L → L34 = L ++ [q33] → G35 = q_gs G q33 15 (fun _ => 0) 0 → σ36 = va_up σ q33 (fun _ => 0) → h0 ∈ L34 ∧ G35.1 h0 = 16 ∧ (kc + 1) + 1 ≤ 60 ∧ (ks + 3) + 300 ≤ 12000 ∧ wnX4_init L34 G35 q33 (σ36 h0 0) σ36 (fun (L43 : List Nat) (G44 : qG) (σ45 : qS) => r31 ∈ L43 ∧ G44.1 r31 = 18 ∧ q33 ∈ L43 ∧ G44.1 q33 = 4 ∧ vp_in x4 (G44.2.2 r31) ∧ ∀ G51 : qG, G51 = q_gr G44 r31 x4.toNatClampNeg (q33 + 1) → ∀ v52 : Int32, v52 = x4 + 1 → lnX5_init_32 h0 x3 post kx66 n v52 ((kc + 1) + 1) ((ks + 3) + 300) L43 G51 σ45)))
set_option maxHeartbeats 4000000 in
set_option maxRecDepth 100000 in
theorem slnX5_init_32 {p : Program} {l : Launch} {e : Env} {s : State} {m : MethodId} {args : Array Value} {below : List Frame} {meth : Method} {c : Code} {E : qE} {A : Nat → Prop} (C : q_N p s m args meth c cX5_init 5 wsX5_init RX5 none "<init>" E A) {h0 : Nat} {x3 : Int32} {post : List Nat → qG → qS → Prop} {kx66 : Nat → Nat → List Nat → qG → qS → Prop} (Hkx : ∀ (kc ks : Nat) (L : List Nat) (G : qG) (σ : qS), kx66 kc ks L G σ → Wn p l e (q_rn 3 60 12000) s m args below meth c E A (MQ below (va_Qv (fun u : List Nat × qG × qS => post u.1 u.2.1 u.2.2) (q_BN E A) A) args s 60 12000 A) 5 kc ks L G σ 66 [(0, .ref h0), (3, .int x3)] []) : ∀ (n : Nat) (x4 : Int32) (kc ks : Nat) (L : List Nat) (G : qG) (σ : qS), lnX5_init_32 h0 x3 post kx66 n x4 kc ks L G σ → Wn p l e (q_rn 3 60 12000) s m args below meth c E A (MQ below (va_Qv (fun u : List Nat × qG × qS => post u.1 u.2.1 u.2.2) (q_BN E A) A) args s 60 12000 A) 5 kc ks L G σ 32 [(0, .ref h0), (3, .int x3), (4, .int x4)] [] := by
  intro n
  induction n with
  | zero => intro x4 kc ks L G σ h; exact h.elim
  | succ n ih =>
    intro x4 kc ks L G σ h
    unfold lnX5_init_32 at h
    refine n_iload (pc := 32) C dX5_init_32 2 rfl ?_
    refine n_aload_n (pc := 34) C dX5_init_34 rfl 0 rfl ?_
    obtain ⟨z22, h⟩ := h
    obtain ⟨z23, h⟩ := h
    obtain ⟨r24, z25, h⟩ := h
    refine n_g5_1 (pc := 35) C z22 z23 z25 mwX5_init_3 mwX5_init_6 dX5_init_35 ?_
    obtain ⟨z26, h⟩ := h
    obtain ⟨z27, h⟩ := h
    refine n_alen18 (pc := 38) C z26 z27 dX5_init_38 ?_
    refine n_icmp_ge (tgt := 66) (pc := 39) C dX5_init_39 (by decide) (fun c28 => ?_) (fun c28 => ?_)
    · replace h := h.1 c28
      refine n_lv (lv' := [(0, .ref h0), (3, .int x3)]) [0, 1] rfl ?_
      exact Hkx kc ks L G σ h
    · replace h := h.2 c28
      refine n_aload_n (pc := 42) C dX5_init_42 rfl 0 rfl ?_
      obtain ⟨z29, h⟩ := h
      obtain ⟨z30, h⟩ := h
      obtain ⟨r31, z32, h⟩ := h
      refine n_g5_1 (pc := 43) C z29 z30 z32 mwX5_init_3 mwX5_init_6 dX5_init_43 ?_
      refine n_iload (pc := 46) C dX5_init_46 2 rfl ?_
      obtain ⟨z37, h⟩ := h
      obtain ⟨z38, h⟩ := h
      refine n_new4 (pc := 48) C mwX5_init_7 mwX5_init_8 mwX5_init_9 mwX5_init_10 z37 z38 dX5_init_48 (fun q33 L34 G35 σ36 eq33 eL34 eG35 eσ36 => ?_)
      replace h := h q33 L34 G35 σ36 eq33 eL34 eG35 eσ36
      refine n_dup (pc := 51) C dX5_init_51 rfl ?_
      refine n_aload_n (pc := 52) C dX5_init_52 rfl 0 rfl ?_
      obtain ⟨z39, h⟩ := h
      obtain ⟨z40, h⟩ := h
      refine n_g5_0 (pc := 53) C z39 z40 mwX5_init_3 mwX5_init_4 dX5_init_53 ?_
      obtain ⟨z41, h⟩ := h
      obtain ⟨z42, h⟩ := h
      refine n_cI (pc := 56) (As := [.int (σ36 h0 0)]) C (snX4_init h) (cwI 1 C.1.2.2.2.2 gX5_init_X4_init rfl rfl rfl (C.1.2.2.2.2 _ mwX5_init_10) (C.1.2.2.2.2 _ mwX5_init_11) (C.1.2.2.2.2 _ mwX5_init_12) rfl (by decide +kernel) (n_room (by decide) (by decide))) rfl rfl (Nat.le_of_ble_eq_true rfl) z41 z42 dX5_init_56 (fun L43 G44 σ45 h => ?_)
      obtain ⟨z46, h⟩ := h
      obtain ⟨z47, h⟩ := h
      obtain ⟨z48, h⟩ := h
      obtain ⟨z49, h⟩ := h
      obtain ⟨z50, h⟩ := h
      refine n_aast (pc := 59) C z46 z47 z48 z49 z50 dX5_init_59 (fun G51 eG51 => ?_)
      replace h := h G51 eG51
      obtain ⟨v52, ev52⟩ : ∃ z : Int32, z = x4 + 1 := ⟨_, rfl⟩
      replace h := h v52 ev52
      refine n_iinc (pc := 60) (v := v52) (j := 2) (lv' := [(4, .int v52), (0, .ref h0), (3, .int x3)]) C dX5_init_60 rfl (by rw [ev52]; rfl) (by decide) rfl ?_
      refine n_goto (tgt := 32) (pc := 63) C dX5_init_63 (by decide) ?_
      refine n_lv (lv' := [(0, .ref h0), (3, .int x3), (4, .int v52)]) [1, 2, 0] rfl ?_
      exact ih v52 ((kc + 1) + 1) ((ks + 3) + 300) L43 G51 σ45 h
def wnX5_init (L : List Nat) (G : qG) (h0 : Nat) (x1 : Int32) (x2 : Int32) (x3 : Int32) (σ : qS) (post : List Nat → qG → qS → Prop) : Prop := 0 ≤ 60 ∧ 0 ≤ 12000 ∧ wpX5_nearest G x2 1 120 σ (fun (u1 : Int32) (_ : qS) => h0 ∈ L ∧ G.1 h0 = 16 ∧ ∀ σ6 : qS, σ6 = q_st σ h0 0 u1 → 0 ≤ 60 ∧ 0 ≤ 12000 ∧ wpX5_nearest G x1 1 12 σ6 (fun (u7 : Int32) (_ : qS) => ¬ u7 < 0 ∧ u7.toNatClampNeg ≤ 100000 ∧ 0 + 1 ≤ 60 ∧ 0 + u7.toNatClampNeg ≤ 12000 ∧ ∀ (q10 : Nat) (L11 : List Nat) (G12 : qG) (σ13 : qS), q10 ∉ L → L11 = L ++ [q10] → G12 = q_gs G q10 18 (fun _ => 0) u7.toNatClampNeg → σ13 = va_up σ6 q10 (fun _ => 0) → h0 ∈ L11 ∧ G12.1 h0 = 16 ∧ ∀ G20 : qG, G20 = q_gr G12 h0 1 (q10 + 1) → ∀ v21 : Int32, v21 = 0 → ∃ n175 : Nat, lnX5_init_32 h0 x3 post (fun (kc53 ks54 : Nat) (L55 : List Nat) (G56 : qG) (σ57 : qS) => kc53 + 1 ≤ 60 ∧ ks54 + 3 ≤ 12000 ∧ ∀ (q58 : Nat) (L59 : List Nat) (G60 : qG) (σ61 : qS), q58 ∉ L55 → L59 = L55 ++ [q58] → G60 = q_gs G56 q58 15 (fun _ => 0) 0 → σ61 = va_up σ57 q58 (fun _ => 0) → h0 ∈ L59 ∧ G60.1 h0 = 16 ∧ (kc53 + 1) + 1 ≤ 60 ∧ (ks54 + 3) + 300 ≤ 12000 ∧ wnX4_init L59 G60 q58 (((2 : Int32) * (σ61 h0 0)) + 1) σ61 (fun (L68 : List Nat) (G69 : qG) (σ70 : qS) => h0 ∈ L68 ∧ G69.1 h0 = 16 ∧ ∀ G73 : qG, G73 = q_gr G69 h0 2 (q58 + 1) → ((kc53 + 1) + 1) + 1 ≤ 60 ∧ ((ks54 + 3) + 300) + 3 ≤ 12000 ∧ ∀ (q74 : Nat) (L75 : List Nat) (G76 : qG) (σ77 : qS), q74 ∉ L68 → L75 = L68 ++ [q74] → G76 = q_gs G73 q74 15 (fun _ => 0) 0 → σ77 = va_up σ70 q74 (fun _ => 0) → h0 ∈ L75 ∧ G76.1 h0 = 16 ∧ (((kc53 + 1) + 1) + 1) + 1 ≤ 60 ∧ (((ks54 + 3) + 300) + 3) + 300 ≤ 12000 ∧ wnX4_init L75 G76 q74 (σ77 h0 0) σ77 (fun (L84 : List Nat) (G85 : qG) (σ86 : qS) => h0 ∈ L84 ∧ G85.1 h0 = 16 ∧ ∀ G89 : qG, G89 = q_gr G85 h0 3 (q74 + 1) → ((((kc53 + 1) + 1) + 1) + 1) + 1 ≤ 60 ∧ ((((ks54 + 3) + 300) + 3) + 300) + 3 ≤ 12000 ∧ ∀ (q90 : Nat) (L91 : List Nat) (G92 : qG) (σ93 : qS), q90 ∉ L84 → L91 = L84 ++ [q90] → G92 = q_gs G89 q90 15 (fun _ => 0) 0 → σ93 = va_up σ86 q90 (fun _ => 0) → h0 ∈ L91 ∧ G92.1 h0 = 16 ∧ (((((kc53 + 1) + 1) + 1) + 1) + 1) + 1 ≤ 60 ∧ (((((ks54 + 3) + 300) + 3) + 300) + 3) + 300 ≤ 12000 ∧ wnX4_init L91 G92 q90 (σ93 h0 0) σ93 (fun (L100 : List Nat) (G101 : qG) (σ102 : qS) => h0 ∈ L100 ∧ G101.1 h0 = 16 ∧ ∀ G105 : qG, G105 = q_gr G101 h0 4 (q90 + 1) → ((((((kc53 + 1) + 1) + 1) + 1) + 1) + 1) + 1 ≤ 60 ∧ ((((((ks54 + 3) + 300) + 3) + 300) + 3) + 300) + 6 ≤ 12000 ∧ ∀ (q106 : Nat) (L107 : List Nat) (G108 : qG) (σ109 : qS), q106 ∉ L100 → L107 = L100 ++ [q106] → G108 = q_gs G105 q106 12 (fun _ => 0) 0 → σ109 = va_up σ102 q106 (fun _ => 0) → h0 ∈ L107 ∧ G108.1 h0 = 16 ∧ (((((((kc53 + 1) + 1) + 1) + 1) + 1) + 1) + 1) ≤ 60 ∧ (((((((ks54 + 3) + 300) + 3) + 300) + 3) + 300) + 6) ≤ 12000 ∧ wpX5_nearest G108 x3 4 60 σ109 (fun (u114 : Int32) (_ : qS) => (((((((kc53 + 1) + 1) + 1) + 1) + 1) + 1) + 1) + 1 ≤ 60 ∧ (((((((ks54 + 3) + 300) + 3) + 300) + 3) + 300) + 6) + 2000 ≤ 12000 ∧ wnX1_init L107 G108 q106 (σ109 h0 0) u114 σ109 (fun (L119 : List Nat) (G120 : qG) (σ121 : qS) => h0 ∈ L119 ∧ G120.1 h0 = 16 ∧ ∀ G124 : qG, G124 = q_gr G120 h0 5 (q106 + 1) → ((((((((kc53 + 1) + 1) + 1) + 1) + 1) + 1) + 1) + 1) + 1 ≤ 60 ∧ ((((((((ks54 + 3) + 300) + 3) + 300) + 3) + 300) + 6) + 2000) + 4 ≤ 12000 ∧ ∀ (q125 : Nat) (L126 : List Nat) (G127 : qG) (σ128 : qS), q125 ∉ L119 → L126 = L119 ++ [q125] → G127 = q_gs G124 q125 11 (fun _ => 0) 0 → σ128 = va_up σ121 q125 (fun _ => 0) → h0 ∈ L126 ∧ G127.1 h0 = 16 ∧ (((((((((kc53 + 1) + 1) + 1) + 1) + 1) + 1) + 1) + 1) + 1) + 6 ≤ 60 ∧ (((((((((ks54 + 3) + 300) + 3) + 300) + 3) + 300) + 6) + 2000) + 4) + 1100 ≤ 12000 ∧ wnX0_init L126 G127 q125 (σ128 h0 0) σ128 (fun (L135 : List Nat) (G136 : qG) (σ137 : qS) => h0 ∈ L135 ∧ G136.1 h0 = 16 ∧ ∀ G140 : qG, G140 = q_gr G136 h0 6 (q125 + 1) → ((((((((((kc53 + 1) + 1) + 1) + 1) + 1) + 1) + 1) + 1) + 1) + 6) + 1 ≤ 60 ∧ ((((((((((ks54 + 3) + 300) + 3) + 300) + 3) + 300) + 6) + 2000) + 4) + 1100) + 2 ≤ 12000 ∧ ∀ (q141 : Nat) (L142 : List Nat) (G143 : qG) (σ144 : qS), q141 ∉ L135 → L142 = L135 ++ [q141] → G143 = q_gs G140 q141 14 (fun _ => 0) 0 → σ144 = va_up σ137 q141 (fun _ => 0) → h0 ∈ L142 ∧ G143.1 h0 = 16 ∧ (((((((((((kc53 + 1) + 1) + 1) + 1) + 1) + 1) + 1) + 1) + 1) + 6) + 1) + 1 ≤ 60 ∧ (((((((((((ks54 + 3) + 300) + 3) + 300) + 3) + 300) + 6) + 2000) + 4) + 1100) + 2) + 1300 ≤ 12000 ∧ wnX3_init L142 G143 q141 (σ144 h0 0) σ144 (fun (L151 : List Nat) (G152 : qG) (σ153 : qS) => h0 ∈ L151 ∧ G152.1 h0 = 16 ∧ ∀ G156 : qG, G156 = q_gr G152 h0 7 (q141 + 1) → ((((((((((((kc53 + 1) + 1) + 1) + 1) + 1) + 1) + 1) + 1) + 1) + 6) + 1) + 1) + 1 ≤ 60 ∧ ((((((((((((ks54 + 3) + 300) + 3) + 300) + 3) + 300) + 6) + 2000) + 4) + 1100) + 2) + 1300) + 2 ≤ 12000 ∧ ∀ (q157 : Nat) (L158 : List Nat) (G159 : qG) (σ160 : qS), q157 ∉ L151 → L158 = L151 ++ [q157] → G159 = q_gs G156 q157 13 (fun _ => 0) 0 → σ160 = va_up σ153 q157 (fun _ => 0) → (((((((((((((kc53 + 1) + 1) + 1) + 1) + 1) + 1) + 1) + 1) + 1) + 6) + 1) + 1) + 1) + 1 ≤ 60 ∧ (((((((((((((ks54 + 3) + 300) + 3) + 300) + 3) + 300) + 6) + 2000) + 4) + 1100) + 2) + 1300) + 2) + 1300 ≤ 12000 ∧ wnX2_init L158 G159 q157  σ160 (fun (L165 : List Nat) (G166 : qG) (σ167 : qS) => h0 ∈ L165 ∧ G166.1 h0 = 16 ∧ ∀ G170 : qG, G170 = q_gr G166 h0 8 (q157 + 1) → (((((((((((((kc53 + 1) + 1) + 1) + 1) + 1) + 1) + 1) + 1) + 1) + 6) + 1) + 1) + 1) + 1 ≤ 60 ∧ (((((((((((((ks54 + 3) + 300) + 3) + 300) + 3) + 300) + 6) + 2000) + 4) + 1100) + 2) + 1300) + 2) + 1300 ≤ 12000 ∧ ∃ G173 : qG, q_same L165 G170 G173 ∧ post L165 G173 σ167))))))))) n175 v21 (0 + 1) (0 + u7.toNatClampNeg) L11 G20 σ13))
set_option maxHeartbeats 4000000 in
set_option maxRecDepth 100000 in
theorem snX5_init {l : Launch} {E : qE} {L : List Nat} {G : qG} {h0 : Nat} {x1 : Int32} {x2 : Int32} {x3 : Int32} {σ : qS} {post : List Nat → qG → qS → Prop} (h : wnX5_init L G h0 x1 x2 x3 σ post) : MtN l E yX5_init wsX5_init 3 60 12000 [.ref h0, .int x1, .int x2, .int x3] L G σ post := by
  refine n_met (cc := cX5_init) (maxL := 5) (own := RX5) (by decide) rfl rfl rfl (Nat.le_of_ble_eq_true rfl) ?_
  intro p e s m below meth c C
  unfold wnX5_init at h
  refine n_aload_n (pc := 0) C dX5_init_0 rfl 0 rfl ?_
  refine n_objInit (pc := 1) C mwX5_init_0 mwX5_init_1 mwX5_init_2 dX5_init_1 (by decide) (Nat.le_of_ble_eq_true rfl) ?_
  refine n_aload_n (pc := 4) C dX5_init_4 rfl 0 rfl ?_
  refine n_iload_n (pc := 5) C dX5_init_5 rfl 2 rfl ?_
  refine n_iconst (pc := 6) (v := 1) C dX5_init_6 (by decide) ?_
  refine n_bipush (pc := 7) (v := 120) C dX5_init_7 (by decide) ?_
  obtain ⟨z2, h⟩ := h
  obtain ⟨z3, h⟩ := h
  refine n_cSi (pc := 9) (As := [.int x2, .int 1, .int 120]) C (sdX5_nearest List.nodup_nil (n_WF0 _) h) (va_cwS 3 C.1.2.2.2.2 gX5_init_X5_nearest rfl rfl rfl (by decide +kernel) (n_room0 (by decide) (by decide))) rfl rfl (Nat.le_of_ble_eq_true rfl) z2 z3 dX5_init_9 (fun u1 _ h => ?_)
  obtain ⟨z4, h⟩ := h
  obtain ⟨z5, h⟩ := h
  refine n_p5_0 (pc := 12) C z4 z5 mwX5_init_3 mwX5_init_4 dX5_init_12 (fun σ6 eσ6 => ?_)
  replace h := h σ6 eσ6
  refine n_aload_n (pc := 15) C dX5_init_15 rfl 0 rfl ?_
  refine n_iload_n (pc := 16) C dX5_init_16 rfl 1 rfl ?_
  refine n_iconst (pc := 17) (v := 1) C dX5_init_17 (by decide) ?_
  refine n_bipush (pc := 18) (v := 12) C dX5_init_18 (by decide) ?_
  obtain ⟨z8, h⟩ := h
  obtain ⟨z9, h⟩ := h
  refine n_cSi (pc := 20) (As := [.int x1, .int 1, .int 12]) C (sdX5_nearest List.nodup_nil (n_WF0 _) h) (va_cwS 3 C.1.2.2.2.2 gX5_init_X5_nearest rfl rfl rfl (by decide +kernel) (n_room0 (by decide) (by decide))) rfl rfl (Nat.le_of_ble_eq_true rfl) z8 z9 dX5_init_20 (fun u7 _ h => ?_)
  obtain ⟨z14, h⟩ := h
  obtain ⟨z15, h⟩ := h
  obtain ⟨z16, h⟩ := h
  obtain ⟨z17, h⟩ := h
  refine n_newq (pc := 23) C mwX5_init_5 z14 z15 z16 z17 dX5_init_23 (fun q10 L11 G12 σ13 eq10 eL11 eG12 eσ13 => ?_)
  replace h := h q10 L11 G12 σ13 eq10 eL11 eG12 eσ13
  obtain ⟨z18, h⟩ := h
  obtain ⟨z19, h⟩ := h
  refine n_p5_1 (pc := 26) C z18 z19 mwX5_init_3 mwX5_init_6 dX5_init_26 (fun G20 eG20 => ?_)
  replace h := h G20 eG20
  refine n_iconst (pc := 29) (v := 0) C dX5_init_29 (by decide) ?_
  refine n_topi (fun v21 ev21 => ?_)
  replace h := h v21 ev21
  refine n_istore (pc := 30) (lv' := [(4, .int v21), (0, .ref h0), (1, .int x1), (2, .int x2), (3, .int x3)]) C dX5_init_30 (by decide) rfl ?_
  refine n_lv (lv' := [(0, .ref h0), (3, .int x3), (4, .int v21)]) [1, 4, 0] rfl ?_
  obtain ⟨n175, h⟩ := h
  refine slnX5_init_32 C ?_ n175 v21 (0 + 1) (0 + u7.toNatClampNeg) L11 G20 σ13 h
  intro kc53 ks54 L55 G56 σ57 h
  refine n_aload_n (pc := 66) C dX5_init_66 rfl 0 rfl ?_
  obtain ⟨z62, h⟩ := h
  obtain ⟨z63, h⟩ := h
  refine n_new4 (pc := 67) C mwX5_init_7 mwX5_init_8 mwX5_init_9 mwX5_init_10 z62 z63 dX5_init_67 (fun q58 L59 G60 σ61 eq58 eL59 eG60 eσ61 => ?_)
  replace h := h q58 L59 G60 σ61 eq58 eL59 eG60 eσ61
  refine n_dup (pc := 70) C dX5_init_70 rfl ?_
  refine n_iconst (pc := 71) (v := 2) C dX5_init_71 (by decide) ?_
  refine n_aload_n (pc := 72) C dX5_init_72 rfl 0 rfl ?_
  obtain ⟨z64, h⟩ := h
  obtain ⟨z65, h⟩ := h
  refine n_g5_0 (pc := 73) C z64 z65 mwX5_init_3 mwX5_init_4 dX5_init_73 ?_
  refine n_imul (pc := 76) C dX5_init_76 ?_
  refine n_iconst (pc := 77) (v := 1) C dX5_init_77 (by decide) ?_
  refine n_iadd (pc := 78) C dX5_init_78 ?_
  obtain ⟨z66, h⟩ := h
  obtain ⟨z67, h⟩ := h
  refine n_cI (pc := 79) (As := [.int (((2 : Int32) * (σ61 h0 0)) + 1)]) C (snX4_init h) (cwI 1 C.1.2.2.2.2 gX5_init_X4_init rfl rfl rfl (C.1.2.2.2.2 _ mwX5_init_10) (C.1.2.2.2.2 _ mwX5_init_11) (C.1.2.2.2.2 _ mwX5_init_12) rfl (by decide +kernel) (n_room (by decide) (by decide))) rfl rfl (Nat.le_of_ble_eq_true rfl) z66 z67 dX5_init_79 (fun L68 G69 σ70 h => ?_)
  obtain ⟨z71, h⟩ := h
  obtain ⟨z72, h⟩ := h
  refine n_p5_2 (pc := 82) C z71 z72 mwX5_init_3 mwX5_init_13 dX5_init_82 (fun G73 eG73 => ?_)
  replace h := h G73 eG73
  refine n_aload_n (pc := 85) C dX5_init_85 rfl 0 rfl ?_
  obtain ⟨z78, h⟩ := h
  obtain ⟨z79, h⟩ := h
  refine n_new4 (pc := 86) C mwX5_init_7 mwX5_init_8 mwX5_init_9 mwX5_init_10 z78 z79 dX5_init_86 (fun q74 L75 G76 σ77 eq74 eL75 eG76 eσ77 => ?_)
  replace h := h q74 L75 G76 σ77 eq74 eL75 eG76 eσ77
  refine n_dup (pc := 89) C dX5_init_89 rfl ?_
  refine n_aload_n (pc := 90) C dX5_init_90 rfl 0 rfl ?_
  obtain ⟨z80, h⟩ := h
  obtain ⟨z81, h⟩ := h
  refine n_g5_0 (pc := 91) C z80 z81 mwX5_init_3 mwX5_init_4 dX5_init_91 ?_
  obtain ⟨z82, h⟩ := h
  obtain ⟨z83, h⟩ := h
  refine n_cI (pc := 94) (As := [.int (σ77 h0 0)]) C (snX4_init h) (cwI 1 C.1.2.2.2.2 gX5_init_X4_init rfl rfl rfl (C.1.2.2.2.2 _ mwX5_init_10) (C.1.2.2.2.2 _ mwX5_init_11) (C.1.2.2.2.2 _ mwX5_init_12) rfl (by decide +kernel) (n_room (by decide) (by decide))) rfl rfl (Nat.le_of_ble_eq_true rfl) z82 z83 dX5_init_94 (fun L84 G85 σ86 h => ?_)
  obtain ⟨z87, h⟩ := h
  obtain ⟨z88, h⟩ := h
  refine n_p5_3 (pc := 97) C z87 z88 mwX5_init_3 mwX5_init_14 dX5_init_97 (fun G89 eG89 => ?_)
  replace h := h G89 eG89
  refine n_aload_n (pc := 100) C dX5_init_100 rfl 0 rfl ?_
  obtain ⟨z94, h⟩ := h
  obtain ⟨z95, h⟩ := h
  refine n_new4 (pc := 101) C mwX5_init_7 mwX5_init_8 mwX5_init_9 mwX5_init_10 z94 z95 dX5_init_101 (fun q90 L91 G92 σ93 eq90 eL91 eG92 eσ93 => ?_)
  replace h := h q90 L91 G92 σ93 eq90 eL91 eG92 eσ93
  refine n_dup (pc := 104) C dX5_init_104 rfl ?_
  refine n_aload_n (pc := 105) C dX5_init_105 rfl 0 rfl ?_
  obtain ⟨z96, h⟩ := h
  obtain ⟨z97, h⟩ := h
  refine n_g5_0 (pc := 106) C z96 z97 mwX5_init_3 mwX5_init_4 dX5_init_106 ?_
  obtain ⟨z98, h⟩ := h
  obtain ⟨z99, h⟩ := h
  refine n_cI (pc := 109) (As := [.int (σ93 h0 0)]) C (snX4_init h) (cwI 1 C.1.2.2.2.2 gX5_init_X4_init rfl rfl rfl (C.1.2.2.2.2 _ mwX5_init_10) (C.1.2.2.2.2 _ mwX5_init_11) (C.1.2.2.2.2 _ mwX5_init_12) rfl (by decide +kernel) (n_room (by decide) (by decide))) rfl rfl (Nat.le_of_ble_eq_true rfl) z98 z99 dX5_init_109 (fun L100 G101 σ102 h => ?_)
  obtain ⟨z103, h⟩ := h
  obtain ⟨z104, h⟩ := h
  refine n_p5_4 (pc := 112) C z103 z104 mwX5_init_3 mwX5_init_15 dX5_init_112 (fun G105 eG105 => ?_)
  replace h := h G105 eG105
  refine n_aload_n (pc := 115) C dX5_init_115 rfl 0 rfl ?_
  obtain ⟨z110, h⟩ := h
  obtain ⟨z111, h⟩ := h
  refine n_new1 (pc := 116) C mwX5_init_16 mwX5_init_17 mwX5_init_18 mwX5_init_19 z110 z111 dX5_init_116 (fun q106 L107 G108 σ109 eq106 eL107 eG108 eσ109 => ?_)
  replace h := h q106 L107 G108 σ109 eq106 eL107 eG108 eσ109
  refine n_dup (pc := 119) C dX5_init_119 rfl ?_
  refine n_aload_n (pc := 120) C dX5_init_120 rfl 0 rfl ?_
  obtain ⟨z112, h⟩ := h
  obtain ⟨z113, h⟩ := h
  refine n_g5_0 (pc := 121) C z112 z113 mwX5_init_3 mwX5_init_4 dX5_init_121 ?_
  refine n_iload_n (pc := 124) C dX5_init_124 rfl 1 rfl ?_
  refine n_iconst (pc := 125) (v := 4) C dX5_init_125 (by decide) ?_
  refine n_bipush (pc := 126) (v := 60) C dX5_init_126 (by decide) ?_
  obtain ⟨z115, h⟩ := h
  obtain ⟨z116, h⟩ := h
  refine n_cSi (pc := 128) (As := [.int x3, .int 4, .int 60]) C (sdX5_nearest List.nodup_nil (n_WF0 _) h) (va_cwS 3 C.1.2.2.2.2 gX5_init_X5_nearest rfl rfl rfl (by decide +kernel) (n_room0 (by decide) (by decide))) rfl rfl (Nat.le_of_ble_eq_true rfl) z115 z116 dX5_init_128 (fun u114 _ h => ?_)
  obtain ⟨z117, h⟩ := h
  obtain ⟨z118, h⟩ := h
  refine n_cI (pc := 131) (As := [.int (σ109 h0 0), .int u114]) C (snX1_init h) (cwI 2 C.1.2.2.2.2 gX5_init_X1_init rfl rfl rfl (C.1.2.2.2.2 _ mwX5_init_19) (C.1.2.2.2.2 _ mwX5_init_20) (C.1.2.2.2.2 _ mwX5_init_21) rfl (by decide +kernel) (n_room (by decide) (by decide))) rfl rfl (Nat.le_of_ble_eq_true rfl) z117 z118 dX5_init_131 (fun L119 G120 σ121 h => ?_)
  obtain ⟨z122, h⟩ := h
  obtain ⟨z123, h⟩ := h
  refine n_p5_5 (pc := 134) C z122 z123 mwX5_init_3 mwX5_init_22 dX5_init_134 (fun G124 eG124 => ?_)
  replace h := h G124 eG124
  refine n_aload_n (pc := 137) C dX5_init_137 rfl 0 rfl ?_
  obtain ⟨z129, h⟩ := h
  obtain ⟨z130, h⟩ := h
  refine n_new0 (pc := 138) C mwX5_init_23 mwX5_init_24 mwX5_init_25 mwX5_init_26 z129 z130 dX5_init_138 (fun q125 L126 G127 σ128 eq125 eL126 eG127 eσ128 => ?_)
  replace h := h q125 L126 G127 σ128 eq125 eL126 eG127 eσ128
  refine n_dup (pc := 141) C dX5_init_141 rfl ?_
  refine n_aload_n (pc := 142) C dX5_init_142 rfl 0 rfl ?_
  obtain ⟨z131, h⟩ := h
  obtain ⟨z132, h⟩ := h
  refine n_g5_0 (pc := 143) C z131 z132 mwX5_init_3 mwX5_init_4 dX5_init_143 ?_
  obtain ⟨z133, h⟩ := h
  obtain ⟨z134, h⟩ := h
  refine n_cI (pc := 146) (As := [.int (σ128 h0 0)]) C (snX0_init h) (cwI 1 C.1.2.2.2.2 gX5_init_X0_init rfl rfl rfl (C.1.2.2.2.2 _ mwX5_init_26) (C.1.2.2.2.2 _ mwX5_init_27) (C.1.2.2.2.2 _ mwX5_init_28) rfl (by decide +kernel) (n_room (by decide) (by decide))) rfl rfl (Nat.le_of_ble_eq_true rfl) z133 z134 dX5_init_146 (fun L135 G136 σ137 h => ?_)
  obtain ⟨z138, h⟩ := h
  obtain ⟨z139, h⟩ := h
  refine n_p5_6 (pc := 149) C z138 z139 mwX5_init_3 mwX5_init_29 dX5_init_149 (fun G140 eG140 => ?_)
  replace h := h G140 eG140
  refine n_aload_n (pc := 152) C dX5_init_152 rfl 0 rfl ?_
  obtain ⟨z145, h⟩ := h
  obtain ⟨z146, h⟩ := h
  refine n_new3 (pc := 153) C mwX5_init_30 mwX5_init_31 mwX5_init_32 mwX5_init_33 z145 z146 dX5_init_153 (fun q141 L142 G143 σ144 eq141 eL142 eG143 eσ144 => ?_)
  replace h := h q141 L142 G143 σ144 eq141 eL142 eG143 eσ144
  refine n_dup (pc := 156) C dX5_init_156 rfl ?_
  refine n_aload_n (pc := 157) C dX5_init_157 rfl 0 rfl ?_
  obtain ⟨z147, h⟩ := h
  obtain ⟨z148, h⟩ := h
  refine n_g5_0 (pc := 158) C z147 z148 mwX5_init_3 mwX5_init_4 dX5_init_158 ?_
  obtain ⟨z149, h⟩ := h
  obtain ⟨z150, h⟩ := h
  refine n_cI (pc := 161) (As := [.int (σ144 h0 0)]) C (snX3_init h) (cwI 1 C.1.2.2.2.2 gX5_init_X3_init rfl rfl rfl (C.1.2.2.2.2 _ mwX5_init_33) (C.1.2.2.2.2 _ mwX5_init_34) (C.1.2.2.2.2 _ mwX5_init_35) rfl (by decide +kernel) (n_room (by decide) (by decide))) rfl rfl (Nat.le_of_ble_eq_true rfl) z149 z150 dX5_init_161 (fun L151 G152 σ153 h => ?_)
  obtain ⟨z154, h⟩ := h
  obtain ⟨z155, h⟩ := h
  refine n_p5_7 (pc := 164) C z154 z155 mwX5_init_3 mwX5_init_36 dX5_init_164 (fun G156 eG156 => ?_)
  replace h := h G156 eG156
  refine n_aload_n (pc := 167) C dX5_init_167 rfl 0 rfl ?_
  obtain ⟨z161, h⟩ := h
  obtain ⟨z162, h⟩ := h
  refine n_new2 (pc := 168) C mwX5_init_37 mwX5_init_38 mwX5_init_39 mwX5_init_40 z161 z162 dX5_init_168 (fun q157 L158 G159 σ160 eq157 eL158 eG159 eσ160 => ?_)
  replace h := h q157 L158 G159 σ160 eq157 eL158 eG159 eσ160
  refine n_dup (pc := 171) C dX5_init_171 rfl ?_
  obtain ⟨z163, h⟩ := h
  obtain ⟨z164, h⟩ := h
  refine n_cI (pc := 172) (As := []) C (snX2_init h) (cwI 0 C.1.2.2.2.2 gX5_init_X2_init rfl rfl rfl (C.1.2.2.2.2 _ mwX5_init_40) (C.1.2.2.2.2 _ mwX5_init_41) (C.1.2.2.2.2 _ mwX5_init_42) rfl (by decide +kernel) (n_room (by decide) (by decide))) rfl rfl (Nat.le_of_ble_eq_true rfl) z163 z164 dX5_init_172 (fun L165 G166 σ167 h => ?_)
  obtain ⟨z168, h⟩ := h
  obtain ⟨z169, h⟩ := h
  refine n_p5_8 (pc := 175) C z168 z169 mwX5_init_3 mwX5_init_43 dX5_init_175 (fun G170 eG170 => ?_)
  replace h := h G170 eG170
  obtain ⟨z171, h⟩ := h
  obtain ⟨z172, h⟩ := h
  obtain ⟨G173, z174, h⟩ := h
  exact n_vret (pc := 178) C dX5_init_178 z171 z172 z174 h

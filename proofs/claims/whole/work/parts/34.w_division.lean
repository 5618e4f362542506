def wpX0_divideUnsigned (G : qG) (x0 : Int64) (x2 : Int64) (σ : qS) (post : Int64 → qS → Prop) : Prop := ((0 < (lg_cmp x2 0) → ¬ x2 = 0 ∧ ∀ v3 : Int64, v3 = (((x0.toUInt64 >>> ((1 : Int32).toInt64.toUInt64 &&& Int64.toUInt64 63)).toInt64) / x2) <<< ((1 : Int32).toInt64 &&& 63) → (((lg_cmp (x0 - (v3 * x2)) x2) < 0 → post v3 σ) ∧ (¬ (lg_cmp (x0 - (v3 * x2)) x2) < 0 → post (v3 + 1) σ))) ∧ (¬ 0 < (lg_cmp x2 0) → post 0 σ))
set_option maxHeartbeats 4000000 in
set_option maxRecDepth 100000 in
theorem sdX0_divideUnsigned {l : Launch} {E : qE} {L : List Nat} {G : qG} (hN : L.Nodup) (hG : q_WF G L) {x0 : Int64} {x2 : Int64} {σ : qS} {post : Int64 → qS → Prop} (h : wpX0_divideUnsigned G x0 x2 σ post) : MtL l E L G yX0_divideUnsigned wsX0_divideUnsigned (q_rm 1) [.long x0, .long x2] σ post := by
  refine q_met (Qc := fun sz => va_Ql post (q_B E L G) (q_free L sz)) (cc := cX0_divideUnsigned) (maxL := 6) (ret := (some .long)) (own := RX0) (by decide) rfl rfl (Nat.le_of_ble_eq_true rfl) hN hG ?_
  intro p e s m below meth c C
  unfold wpX0_divideUnsigned at h
  refine q_lload_n (pc := 0) C dX0_divideUnsigned_0 rfl 1 rfl ?_
  refine q_lconst (pc := 1) (v := 0) C dX0_divideUnsigned_1 (by decide) ?_
  refine q_lcmp (pc := 2) C dX0_divideUnsigned_2 ?_
  refine q_if_gt (tgt := 8) (pc := 3) C dX0_divideUnsigned_3 (by decide) (fun c1 => ?_) (fun c1 => ?_)
  · replace h := h.1 c1
    refine q_lload_n (pc := 8) C dX0_divideUnsigned_8 rfl 0 rfl ?_
    refine q_iconst (pc := 9) (v := 1) C dX0_divideUnsigned_9 (by decide) ?_
    refine q_lushr (pc := 10) C dX0_divideUnsigned_10 ?_
    refine q_lload_n (pc := 11) C dX0_divideUnsigned_11 rfl 1 rfl ?_
    obtain ⟨z2, h⟩ := h
    refine q_ldiv (pc := 12) C dX0_divideUnsigned_12 z2 ?_
    refine q_iconst (pc := 13) (v := 1) C dX0_divideUnsigned_13 (by decide) ?_
    refine q_lshl (pc := 14) C dX0_divideUnsigned_14 ?_
    refine q_topl (fun v3 ev3 => ?_)
    replace h := h v3 ev3
    refine q_lstore (pc := 15) (lv' := [(4, .long v3), (0, .long x0), (2, .long x2)]) C dX0_divideUnsigned_15 (by decide) rfl ?_
    refine q_lload_n (pc := 17) C dX0_divideUnsigned_17 rfl 1 rfl ?_
    refine q_lload (pc := 18) C dX0_divideUnsigned_18 0 rfl ?_
    refine q_lload_n (pc := 20) C dX0_divideUnsigned_20 rfl 2 rfl ?_
    refine q_lmul (pc := 21) C dX0_divideUnsigned_21 ?_
    refine q_lsub (pc := 22) C dX0_divideUnsigned_22 ?_
    refine q_lload_n (pc := 23) C dX0_divideUnsigned_23 rfl 2 rfl ?_
    refine q_lcmp (pc := 24) C dX0_divideUnsigned_24 ?_
    refine q_if_lt (tgt := 35) (pc := 25) C dX0_divideUnsigned_25 (by decide) (fun c4 => ?_) (fun c4 => ?_)
    · replace h := h.1 c4
      refine q_lload (pc := 35) C dX0_divideUnsigned_35 0 rfl ?_
      exact q_lret (pc := 37) C dX0_divideUnsigned_37 h
    · replace h := h.2 c4
      refine q_lload (pc := 28) C dX0_divideUnsigned_28 0 rfl ?_
      refine q_lconst (pc := 30) (v := 1) C dX0_divideUnsigned_30 (by decide) ?_
      refine q_ladd (pc := 31) C dX0_divideUnsigned_31 ?_
      refine q_goto (tgt := 37) (pc := 32) C dX0_divideUnsigned_32 (by decide) ?_
      exact q_lret (pc := 37) C dX0_divideUnsigned_37 h
  · replace h := h.2 c1
    refine q_lconst (pc := 6) (v := 0) C dX0_divideUnsigned_6 (by decide) ?_
    exact q_lret (pc := 7) C dX0_divideUnsigned_7 h
theorem mwX0_divideByLimb_0 : ∀ w ∈ wsX40, w ∈ wsX0_divideByLimb := by decide +kernel
theorem mwX0_divideByLimb_1 : Cond.fieldLink RX0 54 "IntFile$Whole" "limbs" "[I" ∈ wsX0_divideByLimb := by decide +kernel
theorem mwX0_divideByLimb_2 : Cond.constantLong RX0 57 (4294967295) ∈ wsX0_divideByLimb := by decide +kernel
theorem mwX0_divideByLimb_3 : Cond.fieldLink RX0 43 "IntFile$Whole" "count" "I" ∈ wsX0_divideByLimb := by decide +kernel
theorem mwX0_divideByLimb_4 : ∀ w ∈ wsX00, w ∈ wsX0_divideByLimb := by decide +kernel
theorem mwX0_divideByLimb_5 : Cond.fieldLink RX0 12 "IntFile$Division" "quotient" "LIntFile$Whole;" ∈ wsX0_divideByLimb := by decide +kernel
theorem mwX0_divideByLimb_6 : Cond.fieldLink RX0 63 "IntFile$Whole" "below" "Z" ∈ wsX0_divideByLimb := by decide +kernel
theorem mwX0_divideByLimb_7 : Cond.fieldLink RX0 18 "IntFile$Division" "rest" "LIntFile$Whole;" ∈ wsX0_divideByLimb := by decide +kernel
def lpX0_divideByLimb_23 (G : qG) (h0 : Nat) (h1 : Nat) (h2 : Nat) (x3 : Int64) (post : qS → Prop) (kx84 : Int64 → qS → Prop) : Nat → Int64 → Int32 → qS → Prop
  | 0, _, _, _ => False
  | n + 1, x5, x7, σ => ((x7 < 0 → kx84 x5 σ) ∧ (¬ x7 < 0 → vp_in x7 (G.2.2 ((G.2.1 h1 0))) ∧ ∀ v9 : Int64, v9 = (x5 <<< ((32 : Int32).toInt64 &&& 63)) ||| (((σ ((G.2.1 h1 0)) x7.toNatClampNeg).toInt64) &&& 4294967295) → wpX0_divideUnsigned G v9 x3 σ (fun (u11 : Int64) (σ10 : qS) => vp_in x7 (G.2.2 ((G.2.1 ((G.2.1 h0 0)) 0))) ∧ ∀ σ15 : qS, σ15 = q_st σ10 ((G.2.1 ((G.2.1 h0 0)) 0)) x7.toNatClampNeg u11.toInt32 → ∀ v16 : Int64, v16 = v9 - (u11 * x3) → ∀ v17 : Int32, v17 = x7 + (-1) → lpX0_divideByLimb_23 G h0 h1 h2 x3 post kx84 n v16 v17 σ15)))
set_option maxHeartbeats 4000000 in
set_option maxRecDepth 100000 in
theorem slX0_divideByLimb_23 {p : Program} {l : Launch} {e : Env} {s : State} {m : MethodId} {args : Array Value} {below : List Frame} {meth : Method} {c : Code} {E : qE} {L : List Nat} {G : qG} {A : Nat → Prop} (C : q_C p s m args meth c cX0_divideByLimb 12 wsX0_divideByLimb RX0 none E L G A) {h0 : Nat} {h1 : Nat} {h2 : Nat} {x3 : Int64} (Lh0 : h0 ∈ L) (Kh0 : G.1 h0 = 0) (Lh1 : h1 ∈ L) (Kh1 : G.1 h1 = 4) (Lh2 : h2 ∈ L) (Kh2 : G.1 h2 = 4) {post : qS → Prop} {kx84 : Int64 → qS → Prop} (Hkx84 : ∀ (y5 : Int64) (τ : qS), kx84 y5 τ → Wd p l e (q_rm 2) s m args below meth c E L G A (MQ below (va_Qv post (q_B E L G) A) args s 0 0 A) 12 τ 84 [(0, .ref h0), (1, .ref h1), (2, .ref h2), (5, .long y5)] []) : ∀ (n : Nat) (x5 : Int64) (x7 : Int32) (σ : qS), lpX0_divideByLimb_23 G h0 h1 h2 x3 post kx84 n x5 x7 σ → Wd p l e (q_rm 2) s m args below meth c E L G A (MQ below (va_Qv post (q_B E L G) A) args s 0 0 A) 12 σ 23 [(0, .ref h0), (1, .ref h1), (2, .ref h2), (3, .long x3), (5, .long x5), (7, .int x7)] [] := by
  intro n
  induction n with
  | zero => intro x5 x7 σ h; exact h.elim
  | succ n ih =>
    intro x5 x7 σ h
    unfold lpX0_divideByLimb_23 at h
    refine q_iload (pc := 23) C dX0_divideByLimb_23 5 rfl ?_
    refine q_if_lt (tgt := 84) (pc := 25) C dX0_divideByLimb_25 (by decide) (fun c6 => ?_) (fun c6 => ?_)
    · replace h := h.1 c6
      refine q_lv (lv' := [(0, .ref h0), (1, .ref h1), (2, .ref h2), (5, .long x5)]) [0, 1, 2, 4] rfl ?_
      exact Hkx84 x5 σ h
    · replace h := h.2 c6
      refine q_lload (pc := 28) C dX0_divideByLimb_28 4 rfl ?_
      refine q_bipush (pc := 30) (v := 32) C dX0_divideByLimb_30 (by decide) ?_
      refine q_lshl (pc := 32) C dX0_divideByLimb_32 ?_
      refine q_aload_n (pc := 33) C dX0_divideByLimb_33 rfl 1 rfl ?_
      obtain ⟨Lr7, Kr7⟩ := qw_4_0 C.2.2.2.2.2.2 Lh1 Kh1
      refine q_g4_0 (pc := 34) C Lh1 Kh1 mwX0_divideByLimb_0 mwX0_divideByLimb_1 dX0_divideByLimb_34 ?_
      refine q_iload (pc := 37) C dX0_divideByLimb_37 5 rfl ?_
      obtain ⟨b8, h⟩ := h
      refine q_iald (pc := 39) C Lr7 Kr7 b8 dX0_divideByLimb_39 ?_
      refine q_i2l (pc := 40) C dX0_divideByLimb_40 ?_
      refine q_ldc2 (pc := 41) (v := 4294967295) C dX0_divideByLimb_41 mwX0_divideByLimb_2 ?_
      refine q_land (pc := 44) C dX0_divideByLimb_44 ?_
      refine q_lor (pc := 45) C dX0_divideByLimb_45 ?_
      refine q_topl (fun v9 ev9 => ?_)
      replace h := h v9 ev9
      refine q_lstore (pc := 46) (lv' := [(8, .long v9), (0, .ref h0), (1, .ref h1), (2, .ref h2), (3, .long x3), (5, .long x5), (7, .int x7)]) C dX0_divideByLimb_46 (by decide) rfl ?_
      refine q_lload (pc := 48) C dX0_divideByLimb_48 0 rfl ?_
      refine q_lload_n (pc := 50) C dX0_divideByLimb_50 rfl 4 rfl ?_
      refine q_cSl (pc := 51) (As := [.long v9, .long x3]) C (sdX0_divideUnsigned C.2.2.2.2.2.1 C.2.2.2.2.2.2 h) (va_cwS 2 C.1.2.2.2.2 gX0_divideByLimb_X0_divideUnsigned rfl rfl rfl (by decide +kernel) (q_room (by decide) (by decide))) rfl rfl (Nat.le_of_ble_eq_true rfl) dX0_divideByLimb_51 (fun u11 σ10 h => ?_)
      refine q_lstore (pc := 54) (lv' := [(10, .long u11), (8, .long v9), (0, .ref h0), (1, .ref h1), (2, .ref h2), (3, .long x3), (5, .long x5), (7, .int x7)]) C dX0_divideByLimb_54 (by decide) rfl ?_
      refine q_aload_n (pc := 56) C dX0_divideByLimb_56 rfl 2 rfl ?_
      obtain ⟨Lr12, Kr12⟩ := qw_0_0 C.2.2.2.2.2.2 Lh0 Kh0
      refine q_g0_0 (pc := 57) C Lh0 Kh0 mwX0_divideByLimb_4 mwX0_divideByLimb_5 dX0_divideByLimb_57 ?_
      obtain ⟨Lr13, Kr13⟩ := qw_4_0 C.2.2.2.2.2.2 Lr12 Kr12
      refine q_g4_0 (pc := 60) C Lr12 Kr12 mwX0_divideByLimb_0 mwX0_divideByLimb_1 dX0_divideByLimb_60 ?_
      refine q_iload (pc := 63) C dX0_divideByLimb_63 7 rfl ?_
      refine q_lload (pc := 65) C dX0_divideByLimb_65 0 rfl ?_
      refine q_l2i (pc := 67) C dX0_divideByLimb_67 ?_
      obtain ⟨b14, h⟩ := h
      refine q_iast (pc := 68) C Lr13 Kr13 b14 dX0_divideByLimb_68 (fun σ15 eσ15 => ?_)
      replace h := h σ15 eσ15
      refine q_lload (pc := 69) C dX0_divideByLimb_69 1 rfl ?_
      refine q_lload (pc := 71) C dX0_divideByLimb_71 0 rfl ?_
      refine q_lload_n (pc := 73) C dX0_divideByLimb_73 rfl 5 rfl ?_
      refine q_lmul (pc := 74) C dX0_divideByLimb_74 ?_
      refine q_lsub (pc := 75) C dX0_divideByLimb_75 ?_
      refine q_topl (fun v16 ev16 => ?_)
      replace h := h v16 ev16
      refine q_lstore (pc := 76) (lv' := [(5, .long v16), (10, .long u11), (8, .long v9), (0, .ref h0), (1, .ref h1), (2, .ref h2), (3, .long x3), (7, .int x7)]) C dX0_divideByLimb_76 (by decide) rfl ?_
      obtain ⟨v17, ev17⟩ : ∃ z : Int32, z = x7 + (-1) := ⟨_, rfl⟩
      replace h := h v17 ev17
      refine q_iinc (pc := 78) (v := v17) (j := 7) (lv' := [(7, .int v17), (5, .long v16), (10, .long u11), (8, .long v9), (0, .ref h0), (1, .ref h1), (2, .ref h2), (3, .long x3)]) C dX0_divideByLimb_78 rfl (by rw [ev17]; rfl) (by decide) rfl ?_
      refine q_goto (tgt := 23) (pc := 81) C dX0_divideByLimb_81 (by decide) ?_
      refine q_lv (lv' := [(0, .ref h0), (1, .ref h1), (2, .ref h2), (3, .long x3), (5, .long v16), (7, .int v17)]) [4, 5, 6, 7, 1, 0] rfl ?_
      exact ih v16 v17 σ15 h
def bkX0_divideByLimb_108 (G : qG) (h0 : Nat) (h1 : Nat) (x5 : Int64) (s0 : Nat) (s1 : Int32) (s2 : Int32) (post : qS → Prop) (σ : qS) : Prop := wpX4_settle G s0 s1 s2 σ (fun (σ22 : qS) => vp_in 0 (G.2.2 ((G.2.1 ((G.2.1 h0 1)) 0))) ∧ ∀ σ27 : qS, σ27 = q_st σ22 ((G.2.1 ((G.2.1 h0 1)) 0)) (0 : Int32).toNatClampNeg x5.toInt32 → wpX4_settle G ((G.2.1 h0 1)) 1 (σ27 h1 2) σ27 (fun (σ28 : qS) => post σ28))
set_option maxHeartbeats 4000000 in
set_option maxRecDepth 100000 in
theorem sbX0_divideByLimb_108 {p : Program} {l : Launch} {e : Env} {s : State} {m : MethodId} {args : Array Value} {below : List Frame} {meth : Method} {c : Code} {E : qE} {L : List Nat} {G : qG} {A : Nat → Prop} (C : q_C p s m args meth c cX0_divideByLimb 12 wsX0_divideByLimb RX0 none E L G A) {h0 : Nat} {h1 : Nat} {x5 : Int64} {s0 : Nat} {s1 : Int32} {s2 : Int32} (Lh0 : h0 ∈ L) (Kh0 : G.1 h0 = 0) (Lh1 : h1 ∈ L) (Kh1 : G.1 h1 = 4) (Ls0 : s0 ∈ L) (Ks0 : G.1 s0 = 4) {post : qS → Prop} {σ : qS} (h : bkX0_divideByLimb_108 G h0 h1 x5 s0 s1 s2 post σ) : Wd p l e (q_rm 2) s m args below meth c E L G A (MQ below (va_Qv post (q_B E L G) A) args s 0 0 A) 12 σ 108 [(0, .ref h0), (1, .ref h1), (5, .long x5)] [.int s2, .int s1, .ref s0] := by
  unfold bkX0_divideByLimb_108 at h
  refine q_cVv (pc := 108) (As := [.int s1, .int s2]) (ci := 4) (Cn := RX4) (T := TX4) (N := 3) C (sdX4_settle C.2.2.2.2.2.1 C.2.2.2.2.2.2 Ls0 Ks0 h) (cwV 2 C.1.2.2.2.2 gX0_divideByLimb_X4_settle rfl rfl rfl (by decide +kernel) (q_room (by decide) (by decide))) Ls0 (qc4 Ks0 _) rfl rfl rfl (Nat.le_of_ble_eq_true rfl) dX0_divideByLimb_108 (fun σ22 h => ?_)
  refine q_aload_n (pc := 111) C dX0_divideByLimb_111 rfl 0 rfl ?_
  obtain ⟨Lr24, Kr24⟩ := qw_0_1 C.2.2.2.2.2.2 Lh0 Kh0
  refine q_g0_1 (pc := 112) C Lh0 Kh0 mwX0_divideByLimb_4 mwX0_divideByLimb_7 dX0_divideByLimb_112 ?_
  obtain ⟨Lr25, Kr25⟩ := qw_4_0 C.2.2.2.2.2.2 Lr24 Kr24
  refine q_g4_0 (pc := 115) C Lr24 Kr24 mwX0_divideByLimb_0 mwX0_divideByLimb_1 dX0_divideByLimb_115 ?_
  refine q_iconst (pc := 118) (v := 0) C dX0_divideByLimb_118 (by decide) ?_
  refine q_lload (pc := 119) C dX0_divideByLimb_119 2 rfl ?_
  refine q_l2i (pc := 121) C dX0_divideByLimb_121 ?_
  obtain ⟨b26, h⟩ := h
  refine q_iast (pc := 122) C Lr25 Kr25 b26 dX0_divideByLimb_122 (fun σ27 eσ27 => ?_)
  replace h := h σ27 eσ27
  refine q_aload_n (pc := 123) C dX0_divideByLimb_123 rfl 0 rfl ?_
  refine q_g0_1 (pc := 124) C Lh0 Kh0 mwX0_divideByLimb_4 mwX0_divideByLimb_7 dX0_divideByLimb_124 ?_
  refine q_iconst (pc := 127) (v := 1) C dX0_divideByLimb_127 (by decide) ?_
  refine q_aload_n (pc := 128) C dX0_divideByLimb_128 rfl 1 rfl ?_
  refine q_g4_2 (pc := 129) C Lh1 Kh1 mwX0_divideByLimb_0 mwX0_divideByLimb_6 dX0_divideByLimb_129 ?_
  refine q_cVv (pc := 132) (As := [.int 1, .int (σ27 h1 2)]) (ci := 4) (Cn := RX4) (T := TX4) (N := 3) C (sdX4_settle C.2.2.2.2.2.1 C.2.2.2.2.2.2 Lr24 Kr24 h) (cwV 2 C.1.2.2.2.2 gX0_divideByLimb_X4_settle rfl rfl rfl (by decide +kernel) (q_room (by decide) (by decide))) Lr24 (qc4 Kr24 _) rfl rfl rfl (Nat.le_of_ble_eq_true rfl) dX0_divideByLimb_132 (fun σ28 h => ?_)
  exact q_vret (pc := 135) C dX0_divideByLimb_135 h
def wpX0_divideByLimb (G : qG) (h0 : Nat) (h1 : Nat) (h2 : Nat) (σ : qS) (post : qS → Prop) : Prop := vp_in 0 (G.2.2 ((G.2.1 h2 0))) ∧ ∀ v3 : Int64, v3 = ((σ ((G.2.1 h2 0)) (0 : Int32).toNatClampNeg).toInt64) &&& 4294967295 → ∀ v4 : Int64, v4 = 0 → ∀ v5 : Int32, v5 = (σ h1 1) - 1 → ∃ n30 : Nat, lpX0_divideByLimb_23 G h0 h1 h2 v3 post (fun (w18 : Int64) (σ19 : qS) => (((σ19 h1 2) = (σ19 h2 2) → bkX0_divideByLimb_108 G h0 h1 w18 ((G.2.1 h0 0)) (σ19 h1 1) 0 post σ19) ∧ (¬ (σ19 h1 2) = (σ19 h2 2) → bkX0_divideByLimb_108 G h0 h1 w18 ((G.2.1 h0 0)) (σ19 h1 1) 1 post σ19))) n30 v4 v5 σ
set_option maxHeartbeats 4000000 in
set_option maxRecDepth 100000 in
theorem sdX0_divideByLimb {l : Launch} {E : qE} {L : List Nat} {G : qG} (hN : L.Nodup) (hG : q_WF G L) {h0 : Nat} {h1 : Nat} {h2 : Nat} (Lh0 : h0 ∈ L) (Kh0 : G.1 h0 = 0) (Lh1 : h1 ∈ L) (Kh1 : G.1 h1 = 4) (Lh2 : h2 ∈ L) (Kh2 : G.1 h2 = 4) {σ : qS} {post : qS → Prop} (h : wpX0_divideByLimb G h0 h1 h2 σ post) : MtV l E L G yX0_divideByLimb wsX0_divideByLimb (q_rm 2) [.ref h0, .ref h1, .ref h2] σ post := by
  refine q_met (Qc := fun sz => va_Qv post (q_B E L G) (q_free L sz)) (cc := cX0_divideByLimb) (maxL := 12) (ret := none) (own := RX0) (by decide) rfl rfl (Nat.le_of_ble_eq_true rfl) hN hG ?_
  intro p e s m below meth c C
  unfold wpX0_divideByLimb at h
  refine q_aload_n (pc := 0) C dX0_divideByLimb_0 rfl 2 rfl ?_
  obtain ⟨Lr1, Kr1⟩ := qw_4_0 C.2.2.2.2.2.2 Lh2 Kh2
  refine q_g4_0 (pc := 1) C Lh2 Kh2 mwX0_divideByLimb_0 mwX0_divideByLimb_1 dX0_divideByLimb_1 ?_
  refine q_iconst (pc := 4) (v := 0) C dX0_divideByLimb_4 (by decide) ?_
  obtain ⟨b2, h⟩ := h
  refine q_iald (pc := 5) C Lr1 Kr1 b2 dX0_divideByLimb_5 ?_
  refine q_i2l (pc := 6) C dX0_divideByLimb_6 ?_
  refine q_ldc2 (pc := 7) (v := 4294967295) C dX0_divideByLimb_7 mwX0_divideByLimb_2 ?_
  refine q_land (pc := 10) C dX0_divideByLimb_10 ?_
  refine q_topl (fun v3 ev3 => ?_)
  replace h := h v3 ev3
  refine q_lstore_n (pc := 11) (lv' := [(3, .long v3), (0, .ref h0), (1, .ref h1), (2, .ref h2)]) C dX0_divideByLimb_11 rfl (by decide) rfl ?_
  refine q_lconst (pc := 12) (v := 0) C dX0_divideByLimb_12 (by decide) ?_
  refine q_topl (fun v4 ev4 => ?_)
  replace h := h v4 ev4
  refine q_lstore (pc := 13) (lv' := [(5, .long v4), (3, .long v3), (0, .ref h0), (1, .ref h1), (2, .ref h2)]) C dX0_divideByLimb_13 (by decide) rfl ?_
  refine q_aload_n (pc := 15) C dX0_divideByLimb_15 rfl 3 rfl ?_
  refine q_g4_1 (pc := 16) C Lh1 Kh1 mwX0_divideByLimb_0 mwX0_divideByLimb_3 dX0_divideByLimb_16 ?_
  refine q_iconst (pc := 19) (v := 1) C dX0_divideByLimb_19 (by decide) ?_
  refine q_isub (pc := 20) C dX0_divideByLimb_20 ?_
  refine q_topi (fun v5 ev5 => ?_)
  replace h := h v5 ev5
  refine q_istore (pc := 21) (lv' := [(7, .int v5), (5, .long v4), (3, .long v3), (0, .ref h0), (1, .ref h1), (2, .ref h2)]) C dX0_divideByLimb_21 (by decide) rfl ?_
  refine q_lv (lv' := [(0, .ref h0), (1, .ref h1), (2, .ref h2), (3, .long v3), (5, .long v4), (7, .int v5)]) [3, 4, 5, 2, 1, 0] rfl ?_
  obtain ⟨n30, h⟩ := h
  refine slX0_divideByLimb_23 C Lh0 Kh0 Lh1 Kh1 Lh2 Kh2 ?_ n30 v4 v5 σ h
  · intro w18 σ19 h
    refine q_aload_n (pc := 84) C dX0_divideByLimb_84 rfl 0 rfl ?_
    obtain ⟨Lr20, Kr20⟩ := qw_0_0 C.2.2.2.2.2.2 Lh0 Kh0
    refine q_g0_0 (pc := 85) C Lh0 Kh0 mwX0_divideByLimb_4 mwX0_divideByLimb_5 dX0_divideByLimb_85 ?_
    refine q_aload_n (pc := 88) C dX0_divideByLimb_88 rfl 1 rfl ?_
    refine q_g4_1 (pc := 89) C Lh1 Kh1 mwX0_divideByLimb_0 mwX0_divideByLimb_3 dX0_divideByLimb_89 ?_
    refine q_aload_n (pc := 92) C dX0_divideByLimb_92 rfl 1 rfl ?_
    refine q_g4_2 (pc := 93) C Lh1 Kh1 mwX0_divideByLimb_0 mwX0_divideByLimb_6 dX0_divideByLimb_93 ?_
    refine q_aload_n (pc := 96) C dX0_divideByLimb_96 rfl 2 rfl ?_
    refine q_g4_2 (pc := 97) C Lh2 Kh2 mwX0_divideByLimb_0 mwX0_divideByLimb_6 dX0_divideByLimb_97 ?_
    refine q_icmp_eq (tgt := 107) (pc := 100) C dX0_divideByLimb_100 (by decide) (fun c21 => ?_) (fun c21 => ?_)
    · replace h := h.1 c21
      refine q_iconst (pc := 107) (v := 0) C dX0_divideByLimb_107 (by decide) ?_
      refine q_lv (lv' := [(0, .ref h0), (1, .ref h1), (5, .long w18)]) [0, 1, 3] rfl ?_
      exact sbX0_divideByLimb_108 C Lh0 Kh0 Lh1 Kh1 Lr20 Kr20 h
    · replace h := h.2 c21
      refine q_iconst (pc := 103) (v := 1) C dX0_divideByLimb_103 (by decide) ?_
      refine q_goto (tgt := 108) (pc := 104) C dX0_divideByLimb_104 (by decide) ?_
      refine q_lv (lv' := [(0, .ref h0), (1, .ref h1), (5, .long w18)]) [0, 1, 3] rfl ?_
      exact sbX0_divideByLimb_108 C Lh0 Kh0 Lh1 Kh1 Lr20 Kr20 h
theorem mwX0_giveBack_0 : ∀ w ∈ wsX00, w ∈ wsX0_giveBack := by decide +kernel
theorem mwX0_giveBack_1 : Cond.fieldLink RX0 21 "IntFile$Division" "over" "[I" ∈ wsX0_giveBack := by decide +kernel
theorem mwX0_giveBack_2 : Cond.constantLong RX0 57 (4294967295) ∈ wsX0_giveBack := by decide +kernel
theorem mwX0_giveBack_3 : Cond.fieldLink RX0 25 "IntFile$Division" "under" "[I" ∈ wsX0_giveBack := by decide +kernel
def lpX0_giveBack_5 (G : qG) (h0 : Nat) (x1 : Int32) (x2 : Int32) (post : qS → Prop) (kx66 : qS → Prop) : Nat → Int64 → Int32 → qS → Prop
  | 0, _, _, _ => False
  | n + 1, x3, x5, σ => ((x2 ≤ x5 → kx66 σ) ∧ (¬ x2 ≤ x5 → vp_in (x1 + x5) (G.2.2 ((G.2.1 h0 2))) ∧ vp_in x5 (G.2.2 ((G.2.1 h0 3))) ∧ ∀ v8 : Int64, v8 = ((((σ ((G.2.1 h0 2)) (x1 + x5).toNatClampNeg).toInt64) &&& 4294967295) + (((σ ((G.2.1 h0 3)) x5.toNatClampNeg).toInt64) &&& 4294967295)) + x3 → vp_in (x1 + x5) (G.2.2 ((G.2.1 h0 2))) ∧ ∀ σ10 : qS, σ10 = q_st σ ((G.2.1 h0 2)) (x1 + x5).toNatClampNeg v8.toInt32 → ∀ v11 : Int64, v11 = (v8.toUInt64 >>> ((32 : Int32).toInt64.toUInt64 &&& Int64.toUInt64 63)).toInt64 → ∀ v12 : Int32, v12 = x5 + 1 → lpX0_giveBack_5 G h0 x1 x2 post kx66 n v11 v12 σ10))
set_option maxHeartbeats 4000000 in
set_option maxRecDepth 100000 in
theorem slX0_giveBack_5 {p : Program} {l : Launch} {e : Env} {s : State} {m : MethodId} {args : Array Value} {below : List Frame} {meth : Method} {c : Code} {E : qE} {L : List Nat} {G : qG} {A : Nat → Prop} (C : q_C p s m args meth c cX0_giveBack 8 wsX0_giveBack RX0 none E L G A) {h0 : Nat} {x1 : Int32} {x2 : Int32} (Lh0 : h0 ∈ L) (Kh0 : G.1 h0 = 0) {post : qS → Prop} {kx66 : qS → Prop} (Hkx66 : ∀  (τ : qS), kx66  τ → Wd p l e (q_rm 1) s m args below meth c E L G A (MQ below (va_Qv post (q_B E L G) A) args s 0 0 A) 8 τ 66 [] []) : ∀ (n : Nat) (x3 : Int64) (x5 : Int32) (σ : qS), lpX0_giveBack_5 G h0 x1 x2 post kx66 n x3 x5 σ → Wd p l e (q_rm 1) s m args below meth c E L G A (MQ below (va_Qv post (q_B E L G) A) args s 0 0 A) 8 σ 5 [(0, .ref h0), (1, .int x1), (2, .int x2), (3, .long x3), (5, .int x5)] [] := by
  intro n
  induction n with
  | zero => intro x3 x5 σ h; exact h.elim
  | succ n ih =>
    intro x3 x5 σ h
    unfold lpX0_giveBack_5 at h
    refine q_iload (pc := 5) C dX0_giveBack_5 4 rfl ?_
    refine q_iload_n (pc := 7) C dX0_giveBack_7 rfl 2 rfl ?_
    refine q_icmp_ge (tgt := 66) (pc := 8) C dX0_giveBack_8 (by decide) (fun c3 => ?_) (fun c3 => ?_)
    · replace h := h.1 c3
      refine q_lv (lv' := []) [] rfl ?_
      exact Hkx66  σ h
    · replace h := h.2 c3
      refine q_aload_n (pc := 11) C dX0_giveBack_11 rfl 0 rfl ?_
      obtain ⟨Lr4, Kr4⟩ := qw_0_2 C.2.2.2.2.2.2 Lh0 Kh0
      refine q_g0_2 (pc := 12) C Lh0 Kh0 mwX0_giveBack_0 mwX0_giveBack_1 dX0_giveBack_12 ?_
      refine q_iload_n (pc := 15) C dX0_giveBack_15 rfl 1 rfl ?_
      refine q_iload (pc := 16) C dX0_giveBack_16 4 rfl ?_
      refine q_iadd (pc := 18) C dX0_giveBack_18 ?_
      obtain ⟨b5, h⟩ := h
      refine q_iald (pc := 19) C Lr4 Kr4 b5 dX0_giveBack_19 ?_
      refine q_i2l (pc := 20) C dX0_giveBack_20 ?_
      refine q_ldc2 (pc := 21) (v := 4294967295) C dX0_giveBack_21 mwX0_giveBack_2 ?_
      refine q_land (pc := 24) C dX0_giveBack_24 ?_
      refine q_aload_n (pc := 25) C dX0_giveBack_25 rfl 0 rfl ?_
      obtain ⟨Lr6, Kr6⟩ := qw_0_3 C.2.2.2.2.2.2 Lh0 Kh0
      refine q_g0_3 (pc := 26) C Lh0 Kh0 mwX0_giveBack_0 mwX0_giveBack_3 dX0_giveBack_26 ?_
      refine q_iload (pc := 29) C dX0_giveBack_29 4 rfl ?_
      obtain ⟨b7, h⟩ := h
      refine q_iald (pc := 31) C Lr6 Kr6 b7 dX0_giveBack_31 ?_
      refine q_i2l (pc := 32) C dX0_giveBack_32 ?_
      refine q_ldc2 (pc := 33) (v := 4294967295) C dX0_giveBack_33 mwX0_giveBack_2 ?_
      refine q_land (pc := 36) C dX0_giveBack_36 ?_
      refine q_ladd (pc := 37) C dX0_giveBack_37 ?_
      refine q_lload_n (pc := 38) C dX0_giveBack_38 rfl 3 rfl ?_
      refine q_ladd (pc := 39) C dX0_giveBack_39 ?_
      refine q_topl (fun v8 ev8 => ?_)
      replace h := h v8 ev8
      refine q_lstore (pc := 40) (lv' := [(6, .long v8), (0, .ref h0), (1, .int x1), (2, .int x2), (3, .long x3), (5, .int x5)]) C dX0_giveBack_40 (by decide) rfl ?_
      refine q_aload_n (pc := 42) C dX0_giveBack_42 rfl 1 rfl ?_
      refine q_g0_2 (pc := 43) C Lh0 Kh0 mwX0_giveBack_0 mwX0_giveBack_1 dX0_giveBack_43 ?_
      refine q_iload_n (pc := 46) C dX0_giveBack_46 rfl 2 rfl ?_
      refine q_iload (pc := 47) C dX0_giveBack_47 5 rfl ?_
      refine q_iadd (pc := 49) C dX0_giveBack_49 ?_
      refine q_lload (pc := 50) C dX0_giveBack_50 0 rfl ?_
      refine q_l2i (pc := 52) C dX0_giveBack_52 ?_
      obtain ⟨b9, h⟩ := h
      refine q_iast (pc := 53) C Lr4 Kr4 b9 dX0_giveBack_53 (fun σ10 eσ10 => ?_)
      replace h := h σ10 eσ10
      refine q_lload (pc := 54) C dX0_giveBack_54 0 rfl ?_
      refine q_bipush (pc := 56) (v := 32) C dX0_giveBack_56 (by decide) ?_
      refine q_lushr (pc := 58) C dX0_giveBack_58 ?_
      refine q_topl (fun v11 ev11 => ?_)
      replace h := h v11 ev11
      refine q_lstore_n (pc := 59) (lv' := [(3, .long v11), (6, .long v8), (0, .ref h0), (1, .int x1), (2, .int x2), (5, .int x5)]) C dX0_giveBack_59 rfl (by decide) rfl ?_
      obtain ⟨v12, ev12⟩ : ∃ z : Int32, z = x5 + 1 := ⟨_, rfl⟩
      replace h := h v12 ev12
      refine q_iinc (pc := 60) (v := v12) (j := 5) (lv' := [(5, .int v12), (3, .long v11), (6, .long v8), (0, .ref h0), (1, .int x1), (2, .int x2)]) C dX0_giveBack_60 rfl (by rw [ev12]; rfl) (by decide) rfl ?_
      refine q_goto (tgt := 5) (pc := 63) C dX0_giveBack_63 (by decide) ?_
      refine q_lv (lv' := [(0, .ref h0), (1, .int x1), (2, .int x2), (3, .long v11), (5, .int v12)]) [3, 4, 5, 1, 0] rfl ?_
      exact ih v11 v12 σ10 h
def wpX0_giveBack (G : qG) (h0 : Nat) (x1 : Int32) (x2 : Int32) (σ : qS) (post : qS → Prop) : Prop := ∀ v1 : Int64, v1 = 0 → ∀ v2 : Int32, v2 = 0 → ∃ n14 : Nat, lpX0_giveBack_5 G h0 x1 x2 post (fun  (σ13 : qS) => post σ13) n14 v1 v2 σ
set_option maxHeartbeats 4000000 in
set_option maxRecDepth 100000 in
theorem sdX0_giveBack {l : Launch} {E : qE} {L : List Nat} {G : qG} (hN : L.Nodup) (hG : q_WF G L) {h0 : Nat} {x1 : Int32} {x2 : Int32} (Lh0 : h0 ∈ L) (Kh0 : G.1 h0 = 0) {σ : qS} {post : qS → Prop} (h : wpX0_giveBack G h0 x1 x2 σ post) : MtV l E L G yX0_giveBack wsX0_giveBack (q_rm 1) [.ref h0, .int x1, .int x2] σ post := by
  refine q_met (Qc := fun sz => va_Qv post (q_B E L G) (q_free L sz)) (cc := cX0_giveBack) (maxL := 8) (ret := none) (own := RX0) (by decide) rfl rfl (Nat.le_of_ble_eq_true rfl) hN hG ?_
  intro p e s m below meth c C
  unfold wpX0_giveBack at h
  refine q_lconst (pc := 0) (v := 0) C dX0_giveBack_0 (by decide) ?_
  refine q_topl (fun v1 ev1 => ?_)
  replace h := h v1 ev1
  refine q_lstore_n (pc := 1) (lv' := [(3, .long v1), (0, .ref h0), (1, .int x1), (2, .int x2)]) C dX0_giveBack_1 rfl (by decide) rfl ?_
  refine q_iconst (pc := 2) (v := 0) C dX0_giveBack_2 (by decide) ?_
  refine q_topi (fun v2 ev2 => ?_)
  replace h := h v2 ev2
  refine q_istore (pc := 3) (lv' := [(5, .int v2), (3, .long v1), (0, .ref h0), (1, .int x1), (2, .int x2)]) C dX0_giveBack_3 (by decide) rfl ?_
  refine q_lv (lv' := [(0, .ref h0), (1, .int x1), (2, .int x2), (3, .long v1), (5, .int v2)]) [2, 3, 4, 1, 0] rfl ?_
  obtain ⟨n14, h⟩ := h
  refine slX0_giveBack_5 C Lh0 Kh0 ?_ n14 v1 v2 σ h
  · intro σ13 h
    exact q_vret (pc := 66) C dX0_giveBack_66 h
theorem mwX0_isAbove_0 : Cond.constantLong RX0 101 (-9223372036854775808) ∈ wsX0_isAbove := by decide +kernel
def wpX0_isAbove (G : qG) (x0 : Int64) (x2 : Int64) (σ : qS) (post : Int32 → qS → Prop) : Prop := (((lg_cmp (x0 ^^^ ((-9223372036854775808))) (x2 ^^^ ((-9223372036854775808)))) ≤ 0 → post 0 σ) ∧ (¬ (lg_cmp (x0 ^^^ ((-9223372036854775808))) (x2 ^^^ ((-9223372036854775808)))) ≤ 0 → post 1 σ))
set_option maxHeartbeats 4000000 in
set_option maxRecDepth 100000 in
theorem sdX0_isAbove {l : Launch} {E : qE} {L : List Nat} {G : qG} (hN : L.Nodup) (hG : q_WF G L) {x0 : Int64} {x2 : Int64} {σ : qS} {post : Int32 → qS → Prop} (h : wpX0_isAbove G x0 x2 σ post) : MtI l E L G yX0_isAbove wsX0_isAbove (q_rm 1) [.long x0, .long x2] σ post := by
  refine q_met (Qc := fun sz => va_Qi post (q_B E L G) (q_free L sz)) (cc := cX0_isAbove) (maxL := 4) (ret := (some .boolean)) (own := RX0) (by decide) rfl rfl (Nat.le_of_ble_eq_true rfl) hN hG ?_
  intro p e s m below meth c C
  unfold wpX0_isAbove at h
  refine q_lload_n (pc := 0) C dX0_isAbove_0 rfl 0 rfl ?_
  refine q_ldc2 (pc := 1) (v := (-9223372036854775808)) C dX0_isAbove_1 mwX0_isAbove_0 ?_
  refine q_lxor (pc := 4) C dX0_isAbove_4 ?_
  refine q_lload_n (pc := 5) C dX0_isAbove_5 rfl 1 rfl ?_
  refine q_ldc2 (pc := 6) (v := (-9223372036854775808)) C dX0_isAbove_6 mwX0_isAbove_0 ?_
  refine q_lxor (pc := 9) C dX0_isAbove_9 ?_
  refine q_lcmp (pc := 10) C dX0_isAbove_10 ?_
  refine q_if_le (tgt := 18) (pc := 11) C dX0_isAbove_11 (by decide) (fun c1 => ?_) (fun c1 => ?_)
  · replace h := h.1 c1
    refine q_iconst (pc := 18) (v := 0) C dX0_isAbove_18 (by decide) ?_
    exact q_zret (pc := 19) C dX0_isAbove_19 (Or.inl rfl) h
  · replace h := h.2 c1
    refine q_iconst (pc := 14) (v := 1) C dX0_isAbove_14 (by decide) ?_
    refine q_goto (tgt := 19) (pc := 15) C dX0_isAbove_15 (by decide) ?_
    exact q_zret (pc := 19) C dX0_isAbove_19 (Or.inr rfl) h
theorem mwX0_guessDigit_0 : ∀ w ∈ wsX00, w ∈ wsX0_guessDigit := by decide +kernel
theorem mwX0_guessDigit_1 : Cond.fieldLink RX0 25 "IntFile$Division" "under" "[I" ∈ wsX0_guessDigit := by decide +kernel
theorem mwX0_guessDigit_2 : Cond.constantLong RX0 57 (4294967295) ∈ wsX0_guessDigit := by decide +kernel
theorem mwX0_guessDigit_3 : Cond.fieldLink RX0 21 "IntFile$Division" "over" "[I" ∈ wsX0_guessDigit := by decide +kernel
def lpX0_guessDigit_111 (G : qG) (x3 : Int64) (x5 : Int64) (x11 : Int64) (post : Int64 → qS → Prop) (kx145 : Int64 → qS → Prop) (kx166 : Int64 → qS → Prop) : Nat → Int64 → Int64 → Int32 → qS → Prop
  | 0, _, _, _, _ => False
  | n + 1, x13, x15, x17, σ => ((2 ≤ x17 → kx166 x13 σ) ∧ (¬ 2 ≤ x17 → ((0 < (lg_cmp x15 4294967295) → kx166 x13 σ) ∧ (¬ 0 < (lg_cmp x15 4294967295) → wpX0_isAbove G (x13 * x5) ((x15 <<< ((32 : Int32).toInt64 &&& 63)) ||| x11) σ (fun (u21 : Int32) (σ20 : qS) => ((u21 = 0 → kx145 x13 σ20) ∧ (¬ u21 = 0 → ∀ v23 : Int64, v23 = x13 - 1 → ∀ v24 : Int64, v24 = x15 + x3 → ∀ v25 : Int32, v25 = x17 + 1 → lpX0_guessDigit_111 G x3 x5 x11 post kx145 kx166 n v23 v24 v25 σ20)))))))
set_option maxHeartbeats 4000000 in
set_option maxRecDepth 100000 in
theorem slX0_guessDigit_111 {p : Program} {l : Launch} {e : Env} {s : State} {m : MethodId} {args : Array Value} {below : List Frame} {meth : Method} {c : Code} {E : qE} {L : List Nat} {G : qG} {A : Nat → Prop} (C : q_C p s m args meth c cX0_guessDigit 18 wsX0_guessDigit RX0 (some .long) E L G A) {x3 : Int64} {x5 : Int64} {x11 : Int64} {post : Int64 → qS → Prop} {kx145 : Int64 → qS → Prop} {kx166 : Int64 → qS → Prop} (Hkx145 : ∀ (y13 : Int64) (τ : qS), kx145 y13 τ → Wd p l e (q_rm 2) s m args below meth c E L G A (MQ below (va_Ql post (q_B E L G) A) args s 0 0 A) 18 τ 145 [(13, .long y13)] []) (Hkx166 : ∀ (y13 : Int64) (τ : qS), kx166 y13 τ → Wd p l e (q_rm 2) s m args below meth c E L G A (MQ below (va_Ql post (q_B E L G) A) args s 0 0 A) 18 τ 166 [(13, .long y13)] []) : ∀ (n : Nat) (x13 : Int64) (x15 : Int64) (x17 : Int32) (σ : qS), lpX0_guessDigit_111 G x3 x5 x11 post kx145 kx166 n x13 x15 x17 σ → Wd p l e (q_rm 2) s m args below meth c E L G A (MQ below (va_Ql post (q_B E L G) A) args s 0 0 A) 18 σ 111 [(3, .long x3), (5, .long x5), (11, .long x11), (13, .long x13), (15, .long x15), (17, .int x17)] [] := by
  intro n
  induction n with
  | zero => intro x13 x15 x17 σ h; exact h.elim
  | succ n ih =>
    intro x13 x15 x17 σ h
    unfold lpX0_guessDigit_111 at h
    refine q_iload (pc := 111) C dX0_guessDigit_111 5 rfl ?_
    refine q_iconst (pc := 113) (v := 2) C dX0_guessDigit_113 (by decide) ?_
    refine q_icmp_ge (tgt := 166) (pc := 114) C dX0_guessDigit_114 (by decide) (fun c18 => ?_) (fun c18 => ?_)
    · replace h := h.1 c18
      refine q_lv (lv' := [(13, .long x13)]) [3] rfl ?_
      exact Hkx166 x13 σ h
    · replace h := h.2 c18
      refine q_lload (pc := 117) C dX0_guessDigit_117 4 rfl ?_
      refine q_ldc2 (pc := 119) (v := 4294967295) C dX0_guessDigit_119 mwX0_guessDigit_2 ?_
      refine q_lcmp (pc := 122) C dX0_guessDigit_122 ?_
      refine q_if_gt (tgt := 166) (pc := 123) C dX0_guessDigit_123 (by decide) (fun c19 => ?_) (fun c19 => ?_)
      · replace h := h.1 c19
        refine q_lv (lv' := [(13, .long x13)]) [3] rfl ?_
        exact Hkx166 x13 σ h
      · replace h := h.2 c19
        refine q_lload (pc := 126) C dX0_guessDigit_126 3 rfl ?_
        refine q_lload (pc := 128) C dX0_guessDigit_128 1 rfl ?_
        refine q_lmul (pc := 130) C dX0_guessDigit_130 ?_
        refine q_lload (pc := 131) C dX0_guessDigit_131 4 rfl ?_
        refine q_bipush (pc := 133) (v := 32) C dX0_guessDigit_133 (by decide) ?_
        refine q_lshl (pc := 135) C dX0_guessDigit_135 ?_
        refine q_lload (pc := 136) C dX0_guessDigit_136 2 rfl ?_
        refine q_lor (pc := 138) C dX0_guessDigit_138 ?_
        refine q_cSi (pc := 139) (As := [.long (x13 * x5), .long ((x15 <<< ((32 : Int32).toInt64 &&& 63)) ||| x11)]) C (sdX0_isAbove C.2.2.2.2.2.1 C.2.2.2.2.2.2 h) (va_cwS 2 C.1.2.2.2.2 gX0_guessDigit_X0_isAbove rfl rfl rfl (by decide +kernel) (q_room (by decide) (by decide))) rfl rfl (Nat.le_of_ble_eq_true rfl) dX0_guessDigit_139 (fun u21 σ20 h => ?_)
        refine q_if_ne (tgt := 148) (pc := 142) C dX0_guessDigit_142 (by decide) (fun c22 => ?_) (fun c22 => ?_)
        · replace h := h.2 c22
          refine q_lload (pc := 148) C dX0_guessDigit_148 3 rfl ?_
          refine q_lconst (pc := 150) (v := 1) C dX0_guessDigit_150 (by decide) ?_
          refine q_lsub (pc := 151) C dX0_guessDigit_151 ?_
          refine q_topl (fun v23 ev23 => ?_)
          replace h := h v23 ev23
          refine q_lstore (pc := 152) (lv' := [(13, .long v23), (3, .long x3), (5, .long x5), (11, .long x11), (15, .long x15), (17, .int x17)]) C dX0_guessDigit_152 (by decide) rfl ?_
          refine q_lload (pc := 154) C dX0_guessDigit_154 4 rfl ?_
          refine q_lload_n (pc := 156) C dX0_guessDigit_156 rfl 1 rfl ?_
          refine q_ladd (pc := 157) C dX0_guessDigit_157 ?_
          refine q_topl (fun v24 ev24 => ?_)
          replace h := h v24 ev24
          refine q_lstore (pc := 158) (lv' := [(15, .long v24), (13, .long v23), (3, .long x3), (5, .long x5), (11, .long x11), (17, .int x17)]) C dX0_guessDigit_158 (by decide) rfl ?_
          obtain ⟨v25, ev25⟩ : ∃ z : Int32, z = x17 + 1 := ⟨_, rfl⟩
          replace h := h v25 ev25
          refine q_iinc (pc := 160) (v := v25) (j := 5) (lv' := [(17, .int v25), (15, .long v24), (13, .long v23), (3, .long x3), (5, .long x5), (11, .long x11)]) C dX0_guessDigit_160 rfl (by rw [ev25]; rfl) (by decide) rfl ?_
          refine q_goto (tgt := 111) (pc := 163) C dX0_guessDigit_163 (by decide) ?_
          refine q_lv (lv' := [(3, .long x3), (5, .long x5), (11, .long x11), (13, .long v23), (15, .long v24), (17, .int v25)]) [3, 4, 5, 2, 1, 0] rfl ?_
          exact ih v23 v24 v25 σ20 h
        · replace h := h.1 c22
          refine q_lv (lv' := [(13, .long x13)]) [3] rfl ?_
          exact Hkx145 x13 σ20 h
def bkX0_guessDigit_97 (G : qG) (x3 : Int64) (x5 : Int64) (x9 : Int64) (x11 : Int64) (s0 : Int64) (post : Int64 → qS → Prop) (σ : qS) : Prop := ∀ v16 : Int64, v16 = x9 - (s0 * x3) → ∀ v17 : Int32, v17 = 0 → ∃ n30 : Nat, lpX0_guessDigit_111 G x3 x5 x11 post (fun (w26 : Int64) (σ27 : qS) => post w26 σ27) (fun (w28 : Int64) (σ29 : qS) => post w28 σ29) n30 s0 v16 v17 σ
set_option maxHeartbeats 4000000 in
set_option maxRecDepth 100000 in
theorem sbX0_guessDigit_97 {p : Program} {l : Launch} {e : Env} {s : State} {m : MethodId} {args : Array Value} {below : List Frame} {meth : Method} {c : Code} {E : qE} {L : List Nat} {G : qG} {A : Nat → Prop} (C : q_C p s m args meth c cX0_guessDigit 18 wsX0_guessDigit RX0 (some .long) E L G A) {x3 : Int64} {x5 : Int64} {x9 : Int64} {x11 : Int64} {s0 : Int64} {post : Int64 → qS → Prop} {σ : qS} (h : bkX0_guessDigit_97 G x3 x5 x9 x11 s0 post σ) : Wd p l e (q_rm 2) s m args below meth c E L G A (MQ below (va_Ql post (q_B E L G) A) args s 0 0 A) 18 σ 97 [(3, .long x3), (5, .long x5), (9, .long x9), (11, .long x11)] [.long s0] := by
  unfold bkX0_guessDigit_97 at h
  refine q_lstore (pc := 97) (lv' := [(13, .long s0), (3, .long x3), (5, .long x5), (9, .long x9), (11, .long x11)]) C dX0_guessDigit_97 (by decide) rfl ?_
  refine q_lload (pc := 99) C dX0_guessDigit_99 3 rfl ?_
  refine q_lload (pc := 101) C dX0_guessDigit_101 0 rfl ?_
  refine q_lload_n (pc := 103) C dX0_guessDigit_103 rfl 1 rfl ?_
  refine q_lmul (pc := 104) C dX0_guessDigit_104 ?_
  refine q_lsub (pc := 105) C dX0_guessDigit_105 ?_
  refine q_topl (fun v16 ev16 => ?_)
  replace h := h v16 ev16
  refine q_lstore (pc := 106) (lv' := [(15, .long v16), (13, .long s0), (3, .long x3), (5, .long x5), (9, .long x9), (11, .long x11)]) C dX0_guessDigit_106 (by decide) rfl ?_
  refine q_iconst (pc := 108) (v := 0) C dX0_guessDigit_108 (by decide) ?_
  refine q_topi (fun v17 ev17 => ?_)
  replace h := h v17 ev17
  refine q_istore (pc := 109) (lv' := [(17, .int v17), (15, .long v16), (13, .long s0), (3, .long x3), (5, .long x5), (9, .long x9), (11, .long x11)]) C dX0_guessDigit_109 (by decide) rfl ?_
  refine q_lv (lv' := [(3, .long x3), (5, .long x5), (11, .long x11), (13, .long s0), (15, .long v16), (17, .int v17)]) [3, 4, 6, 2, 1, 0] rfl ?_
  obtain ⟨n30, h⟩ := h
  refine slX0_guessDigit_111 C ?_ ?_ n30 s0 v16 v17 σ h
  · intro w26 σ27 h
    refine q_goto (tgt := 166) (pc := 145) C dX0_guessDigit_145 (by decide) ?_
    refine q_lload (pc := 166) C dX0_guessDigit_166 0 rfl ?_
    exact q_lret (pc := 168) C dX0_guessDigit_168 h
  · intro w28 σ29 h
    refine q_lload (pc := 166) C dX0_guessDigit_166 0 rfl ?_
    exact q_lret (pc := 168) C dX0_guessDigit_168 h
def wpX0_guessDigit (G : qG) (h0 : Nat) (x1 : Int32) (x2 : Int32) (σ : qS) (post : Int64 → qS → Prop) : Prop := vp_in (x2 - 1) (G.2.2 ((G.2.1 h0 3))) ∧ ∀ v3 : Int64, v3 = ((σ ((G.2.1 h0 3)) (x2 - 1).toNatClampNeg).toInt64) &&& 4294967295 → vp_in (x2 - 2) (G.2.2 ((G.2.1 h0 3))) ∧ ∀ v5 : Int64, v5 = ((σ ((G.2.1 h0 3)) (x2 - 2).toNatClampNeg).toInt64) &&& 4294967295 → vp_in x1 (G.2.2 ((G.2.1 h0 2))) ∧ ∀ v8 : Int64, v8 = ((σ ((G.2.1 h0 2)) x1.toNatClampNeg).toInt64) &&& 4294967295 → vp_in (x1 - 1) (G.2.2 ((G.2.1 h0 2))) ∧ ∀ v10 : Int64, v10 = (v8 <<< ((32 : Int32).toInt64 &&& 63)) ||| (((σ ((G.2.1 h0 2)) (x1 - 1).toNatClampNeg).toInt64) &&& 4294967295) → vp_in (x1 - 2) (G.2.2 ((G.2.1 h0 2))) ∧ ∀ v12 : Int64, v12 = ((σ ((G.2.1 h0 2)) (x1 - 2).toNatClampNeg).toInt64) &&& 4294967295 → (((lg_cmp v8 v3) < 0 → wpX0_divideUnsigned G v10 v3 σ (fun (u15 : Int64) (σ14 : qS) => bkX0_guessDigit_97 G v3 v5 v10 v12 u15 post σ14)) ∧ (¬ (lg_cmp v8 v3) < 0 → bkX0_guessDigit_97 G v3 v5 v10 v12 4294967295 post σ))
set_option maxHeartbeats 4000000 in
set_option maxRecDepth 100000 in
theorem sdX0_guessDigit {l : Launch} {E : qE} {L : List Nat} {G : qG} (hN : L.Nodup) (hG : q_WF G L) {h0 : Nat} {x1 : Int32} {x2 : Int32} (Lh0 : h0 ∈ L) (Kh0 : G.1 h0 = 0) {σ : qS} {post : Int64 → qS → Prop} (h : wpX0_guessDigit G h0 x1 x2 σ post) : MtL l E L G yX0_guessDigit wsX0_guessDigit (q_rm 2) [.ref h0, .int x1, .int x2] σ post := by
  refine q_met (Qc := fun sz => va_Ql post (q_B E L G) (q_free L sz)) (cc := cX0_guessDigit) (maxL := 18) (ret := (some .long)) (own := RX0) (by decide) rfl rfl (Nat.le_of_ble_eq_true rfl) hN hG ?_
  intro p e s m below meth c C
  unfold wpX0_guessDigit at h
  refine q_aload_n (pc := 0) C dX0_guessDigit_0 rfl 0 rfl ?_
  obtain ⟨Lr1, Kr1⟩ := qw_0_3 C.2.2.2.2.2.2 Lh0 Kh0
  refine q_g0_3 (pc := 1) C Lh0 Kh0 mwX0_guessDigit_0 mwX0_guessDigit_1 dX0_guessDigit_1 ?_
  refine q_iload_n (pc := 4) C dX0_guessDigit_4 rfl 2 rfl ?_
  refine q_iconst (pc := 5) (v := 1) C dX0_guessDigit_5 (by decide) ?_
  refine q_isub (pc := 6) C dX0_guessDigit_6 ?_
  obtain ⟨b2, h⟩ := h
  refine q_iald (pc := 7) C Lr1 Kr1 b2 dX0_guessDigit_7 ?_
  refine q_i2l (pc := 8) C dX0_guessDigit_8 ?_
  refine q_ldc2 (pc := 9) (v := 4294967295) C dX0_guessDigit_9 mwX0_guessDigit_2 ?_
  refine q_land (pc := 12) C dX0_guessDigit_12 ?_
  refine q_topl (fun v3 ev3 => ?_)
  replace h := h v3 ev3
  refine q_lstore_n (pc := 13) (lv' := [(3, .long v3), (0, .ref h0), (1, .int x1), (2, .int x2)]) C dX0_guessDigit_13 rfl (by decide) rfl ?_
  refine q_aload_n (pc := 14) C dX0_guessDigit_14 rfl 1 rfl ?_
  refine q_g0_3 (pc := 15) C Lh0 Kh0 mwX0_guessDigit_0 mwX0_guessDigit_1 dX0_guessDigit_15 ?_
  refine q_iload_n (pc := 18) C dX0_guessDigit_18 rfl 3 rfl ?_
  refine q_iconst (pc := 19) (v := 2) C dX0_guessDigit_19 (by decide) ?_
  refine q_isub (pc := 20) C dX0_guessDigit_20 ?_
  obtain ⟨b4, h⟩ := h
  refine q_iald (pc := 21) C Lr1 Kr1 b4 dX0_guessDigit_21 ?_
  refine q_i2l (pc := 22) C dX0_guessDigit_22 ?_
  refine q_ldc2 (pc := 23) (v := 4294967295) C dX0_guessDigit_23 mwX0_guessDigit_2 ?_
  refine q_land (pc := 26) C dX0_guessDigit_26 ?_
  refine q_topl (fun v5 ev5 => ?_)
  replace h := h v5 ev5
  refine q_lstore (pc := 27) (lv' := [(5, .long v5), (3, .long v3), (0, .ref h0), (1, .int x1), (2, .int x2)]) C dX0_guessDigit_27 (by decide) rfl ?_
  refine q_aload_n (pc := 29) C dX0_guessDigit_29 rfl 2 rfl ?_
  obtain ⟨Lr6, Kr6⟩ := qw_0_2 C.2.2.2.2.2.2 Lh0 Kh0
  refine q_g0_2 (pc := 30) C Lh0 Kh0 mwX0_guessDigit_0 mwX0_guessDigit_3 dX0_guessDigit_30 ?_
  refine q_iload_n (pc := 33) C dX0_guessDigit_33 rfl 3 rfl ?_
  obtain ⟨b7, h⟩ := h
  refine q_iald (pc := 34) C Lr6 Kr6 b7 dX0_guessDigit_34 ?_
  refine q_i2l (pc := 35) C dX0_guessDigit_35 ?_
  refine q_ldc2 (pc := 36) (v := 4294967295) C dX0_guessDigit_36 mwX0_guessDigit_2 ?_
  refine q_land (pc := 39) C dX0_guessDigit_39 ?_
  refine q_topl (fun v8 ev8 => ?_)
  replace h := h v8 ev8
  refine q_lstore (pc := 40) (lv' := [(7, .long v8), (5, .long v5), (3, .long v3), (0, .ref h0), (1, .int x1), (2, .int x2)]) C dX0_guessDigit_40 (by decide) rfl ?_
  refine q_lload (pc := 42) C dX0_guessDigit_42 0 rfl ?_
  refine q_bipush (pc := 44) (v := 32) C dX0_guessDigit_44 (by decide) ?_
  refine q_lshl (pc := 46) C dX0_guessDigit_46 ?_
  refine q_aload_n (pc := 47) C dX0_guessDigit_47 rfl 3 rfl ?_
  refine q_g0_2 (pc := 48) C Lh0 Kh0 mwX0_guessDigit_0 mwX0_guessDigit_3 dX0_guessDigit_48 ?_
  refine q_iload_n (pc := 51) C dX0_guessDigit_51 rfl 4 rfl ?_
  refine q_iconst (pc := 52) (v := 1) C dX0_guessDigit_52 (by decide) ?_
  refine q_isub (pc := 53) C dX0_guessDigit_53 ?_
  obtain ⟨b9, h⟩ := h
  refine q_iald (pc := 54) C Lr6 Kr6 b9 dX0_guessDigit_54 ?_
  refine q_i2l (pc := 55) C dX0_guessDigit_55 ?_
  refine q_ldc2 (pc := 56) (v := 4294967295) C dX0_guessDigit_56 mwX0_guessDigit_2 ?_
  refine q_land (pc := 59) C dX0_guessDigit_59 ?_
  refine q_lor (pc := 60) C dX0_guessDigit_60 ?_
  refine q_topl (fun v10 ev10 => ?_)
  replace h := h v10 ev10
  refine q_lstore (pc := 61) (lv' := [(9, .long v10), (7, .long v8), (5, .long v5), (3, .long v3), (0, .ref h0), (1, .int x1), (2, .int x2)]) C dX0_guessDigit_61 (by decide) rfl ?_
  refine q_aload_n (pc := 63) C dX0_guessDigit_63 rfl 4 rfl ?_
  refine q_g0_2 (pc := 64) C Lh0 Kh0 mwX0_guessDigit_0 mwX0_guessDigit_3 dX0_guessDigit_64 ?_
  refine q_iload_n (pc := 67) C dX0_guessDigit_67 rfl 5 rfl ?_
  refine q_iconst (pc := 68) (v := 2) C dX0_guessDigit_68 (by decide) ?_
  refine q_isub (pc := 69) C dX0_guessDigit_69 ?_
  obtain ⟨b11, h⟩ := h
  refine q_iald (pc := 70) C Lr6 Kr6 b11 dX0_guessDigit_70 ?_
  refine q_i2l (pc := 71) C dX0_guessDigit_71 ?_
  refine q_ldc2 (pc := 72) (v := 4294967295) C dX0_guessDigit_72 mwX0_guessDigit_2 ?_
  refine q_land (pc := 75) C dX0_guessDigit_75 ?_
  refine q_topl (fun v12 ev12 => ?_)
  replace h := h v12 ev12
  refine q_lstore (pc := 76) (lv' := [(11, .long v12), (9, .long v10), (7, .long v8), (5, .long v5), (3, .long v3), (0, .ref h0), (1, .int x1), (2, .int x2)]) C dX0_guessDigit_76 (by decide) rfl ?_
  refine q_lload (pc := 78) C dX0_guessDigit_78 2 rfl ?_
  refine q_lload_n (pc := 80) C dX0_guessDigit_80 rfl 4 rfl ?_
  refine q_lcmp (pc := 81) C dX0_guessDigit_81 ?_
  refine q_if_lt (tgt := 91) (pc := 82) C dX0_guessDigit_82 (by decide) (fun c13 => ?_) (fun c13 => ?_)
  · replace h := h.1 c13
    refine q_lload (pc := 91) C dX0_guessDigit_91 1 rfl ?_
    refine q_lload_n (pc := 93) C dX0_guessDigit_93 rfl 4 rfl ?_
    refine q_cSl (pc := 94) (As := [.long v10, .long v3]) C (sdX0_divideUnsigned C.2.2.2.2.2.1 C.2.2.2.2.2.2 h) (va_cwS 2 C.1.2.2.2.2 gX0_guessDigit_X0_divideUnsigned rfl rfl rfl (by decide +kernel) (q_room (by decide) (by decide))) rfl rfl (Nat.le_of_ble_eq_true rfl) dX0_guessDigit_94 (fun u15 σ14 h => ?_)
    refine q_lv (lv' := [(3, .long v3), (5, .long v5), (9, .long v10), (11, .long v12)]) [4, 3, 1, 0] rfl ?_
    exact sbX0_guessDigit_97 C h
  · replace h := h.2 c13
    refine q_ldc2 (pc := 85) (v := 4294967295) C dX0_guessDigit_85 mwX0_guessDigit_2 ?_
    refine q_goto (tgt := 97) (pc := 88) C dX0_guessDigit_88 (by decide) ?_
    refine q_lv (lv' := [(3, .long v3), (5, .long v5), (9, .long v10), (11, .long v12)]) [4, 3, 1, 0] rfl ?_
    exact sbX0_guessDigit_97 C h
theorem mwX0_takeProduct_0 : ∀ w ∈ wsX00, w ∈ wsX0_takeProduct := by decide +kernel
theorem mwX0_takeProduct_1 : Cond.fieldLink RX0 25 "IntFile$Division" "under" "[I" ∈ wsX0_takeProduct := by decide +kernel
theorem mwX0_takeProduct_2 : Cond.constantLong RX0 57 (4294967295) ∈ wsX0_takeProduct := by decide +kernel
theorem mwX0_takeProduct_3 : Cond.fieldLink RX0 21 "IntFile$Division" "over" "[I" ∈ wsX0_takeProduct := by decide +kernel
def bkX0_takeProduct_84 (G : qG) (h0 : Nat) (x1 : Int64) (x3 : Int32) (x4 : Int32) (x7 : Int32) (s0 : Int64) (s1 : Int32) (post : Int32 → qS → Prop) (kb6 : Int64 → Int32 → qS → Prop) (σ : qS) : Prop := ∀ v13 : Int64, v13 = s0 + s1.toInt64 → ∀ v14 : Int32, v14 = x7 + 1 → kb6 v13 v14 σ
set_option maxHeartbeats 4000000 in
set_option maxRecDepth 100000 in
theorem sbX0_takeProduct_84 {p : Program} {l : Launch} {e : Env} {s : State} {m : MethodId} {args : Array Value} {below : List Frame} {meth : Method} {c : Code} {E : qE} {L : List Nat} {G : qG} {A : Nat → Prop} (C : q_C p s m args meth c cX0_takeProduct 12 wsX0_takeProduct RX0 (some .boolean) E L G A) {h0 : Nat} {x1 : Int64} {x3 : Int32} {x4 : Int32} {x7 : Int32} {s0 : Int64} {s1 : Int32} (Lh0 : h0 ∈ L) (Kh0 : G.1 h0 = 0) {post : Int32 → qS → Prop} {kb6 : Int64 → Int32 → qS → Prop} (Hkb6 : ∀ (y5 : Int64) (y7 : Int32) (τ : qS), kb6 y5 y7 τ → Wd p l e (q_rm 1) s m args below meth c E L G A (MQ below (va_Qi post (q_B E L G) A) args s 0 0 A) 12 τ 6 [(0, .ref h0), (1, .long x1), (3, .int x3), (4, .int x4), (5, .long y5), (7, .int y7)] []) {σ : qS} (h : bkX0_takeProduct_84 G h0 x1 x3 x4 x7 s0 s1 post kb6 σ) : Wd p l e (q_rm 1) s m args below meth c E L G A (MQ below (va_Qi post (q_B E L G) A) args s 0 0 A) 12 σ 84 [(0, .ref h0), (1, .long x1), (3, .int x3), (4, .int x4), (7, .int x7)] [.int s1, .long s0] := by
  unfold bkX0_takeProduct_84 at h
  refine q_i2l (pc := 84) C dX0_takeProduct_84 ?_
  refine q_ladd (pc := 85) C dX0_takeProduct_85 ?_
  refine q_topl (fun v13 ev13 => ?_)
  replace h := h v13 ev13
  refine q_lstore (pc := 86) (lv' := [(5, .long v13), (0, .ref h0), (1, .long x1), (3, .int x3), (4, .int x4), (7, .int x7)]) C dX0_takeProduct_86 (by decide) rfl ?_
  obtain ⟨v14, ev14⟩ : ∃ z : Int32, z = x7 + 1 := ⟨_, rfl⟩
  replace h := h v14 ev14
  refine q_iinc (pc := 88) (v := v14) (j := 5) (lv' := [(7, .int v14), (5, .long v13), (0, .ref h0), (1, .long x1), (3, .int x3), (4, .int x4)]) C dX0_takeProduct_88 rfl (by rw [ev14]; rfl) (by decide) rfl ?_
  refine q_goto (tgt := 6) (pc := 91) C dX0_takeProduct_91 (by decide) ?_
  refine q_lv (lv' := [(0, .ref h0), (1, .long x1), (3, .int x3), (4, .int x4), (5, .long v13), (7, .int v14)]) [2, 3, 4, 5, 1, 0] rfl ?_
  exact Hkb6 v13 v14 σ h
def lpX0_takeProduct_6 (G : qG) (h0 : Nat) (x1 : Int64) (x3 : Int32) (x4 : Int32) (post : Int32 → qS → Prop) (kx94 : Int64 → qS → Prop) : Nat → Int64 → Int32 → qS → Prop
  | 0, _, _, _ => False
  | n + 1, x5, x7, σ => ((x4 ≤ x7 → kx94 x5 σ) ∧ (¬ x4 ≤ x7 → vp_in x7 (G.2.2 ((G.2.1 h0 3))) ∧ ∀ v6 : Int64, v6 = ((((σ ((G.2.1 h0 3)) x7.toNatClampNeg).toInt64) &&& 4294967295) * x1) + x5 → vp_in (x3 + x7) (G.2.2 ((G.2.1 h0 2))) ∧ ∀ v9 : Int64, v9 = (((σ ((G.2.1 h0 2)) (x3 + x7).toNatClampNeg).toInt64) &&& 4294967295) - (v6 &&& 4294967295) → vp_in (x3 + x7) (G.2.2 ((G.2.1 h0 2))) ∧ ∀ σ11 : qS, σ11 = q_st σ ((G.2.1 h0 2)) (x3 + x7).toNatClampNeg v9.toInt32 → ((0 ≤ (lg_cmp v9 0) → bkX0_takeProduct_84 G h0 x1 x3 x4 x7 ((v6.toUInt64 >>> ((32 : Int32).toInt64.toUInt64 &&& Int64.toUInt64 63)).toInt64) 0 post (lpX0_takeProduct_6 G h0 x1 x3 x4 post kx94 n) σ11) ∧ (¬ 0 ≤ (lg_cmp v9 0) → bkX0_takeProduct_84 G h0 x1 x3 x4 x7 ((v6.toUInt64 >>> ((32 : Int32).toInt64.toUInt64 &&& Int64.toUInt64 63)).toInt64) 1 post (lpX0_takeProduct_6 G h0 x1 x3 x4 post kx94 n) σ11))))
set_option maxHeartbeats 4000000 in
set_option maxRecDepth 100000 in
theorem slX0_takeProduct_6 {p : Program} {l : Launch} {e : Env} {s : State} {m : MethodId} {args : Array Value} {below : List Frame} {meth : Method} {c : Code} {E : qE} {L : List Nat} {G : qG} {A : Nat → Prop} (C : q_C p s m args meth c cX0_takeProduct 12 wsX0_takeProduct RX0 (some .boolean) E L G A) {h0 : Nat} {x1 : Int64} {x3 : Int32} {x4 : Int32} (Lh0 : h0 ∈ L) (Kh0 : G.1 h0 = 0) {post : Int32 → qS → Prop} {kx94 : Int64 → qS → Prop} (Hkx94 : ∀ (y5 : Int64) (τ : qS), kx94 y5 τ → Wd p l e (q_rm 1) s m args below meth c E L G A (MQ below (va_Qi post (q_B E L G) A) args s 0 0 A) 12 τ 94 [(0, .ref h0), (3, .int x3), (4, .int x4), (5, .long y5)] []) : ∀ (n : Nat) (x5 : Int64) (x7 : Int32) (σ : qS), lpX0_takeProduct_6 G h0 x1 x3 x4 post kx94 n x5 x7 σ → Wd p l e (q_rm 1) s m args below meth c E L G A (MQ below (va_Qi post (q_B E L G) A) args s 0 0 A) 12 σ 6 [(0, .ref h0), (1, .long x1), (3, .int x3), (4, .int x4), (5, .long x5), (7, .int x7)] [] := by
  intro n
  induction n with
  | zero => intro x5 x7 σ h; exact h.elim
  | succ n ih =>
    intro x5 x7 σ h
    unfold lpX0_takeProduct_6 at h
    refine q_iload (pc := 6) C dX0_takeProduct_6 5 rfl ?_
    refine q_iload (pc := 8) C dX0_takeProduct_8 3 rfl ?_
    refine q_icmp_ge (tgt := 94) (pc := 10) C dX0_takeProduct_10 (by decide) (fun c3 => ?_) (fun c3 => ?_)
    · replace h := h.1 c3
      refine q_lv (lv' := [(0, .ref h0), (3, .int x3), (4, .int x4), (5, .long x5)]) [0, 2, 3, 4] rfl ?_
      exact Hkx94 x5 σ h
    · replace h := h.2 c3
      refine q_aload_n (pc := 13) C dX0_takeProduct_13 rfl 0 rfl ?_
      obtain ⟨Lr4, Kr4⟩ := qw_0_3 C.2.2.2.2.2.2 Lh0 Kh0
      refine q_g0_3 (pc := 14) C Lh0 Kh0 mwX0_takeProduct_0 mwX0_takeProduct_1 dX0_takeProduct_14 ?_
      refine q_iload (pc := 17) C dX0_takeProduct_17 5 rfl ?_
      obtain ⟨b5, h⟩ := h
      refine q_iald (pc := 19) C Lr4 Kr4 b5 dX0_takeProduct_19 ?_
      refine q_i2l (pc := 20) C dX0_takeProduct_20 ?_
      refine q_ldc2 (pc := 21) (v := 4294967295) C dX0_takeProduct_21 mwX0_takeProduct_2 ?_
      refine q_land (pc := 24) C dX0_takeProduct_24 ?_
      refine q_lload_n (pc := 25) C dX0_takeProduct_25 rfl 1 rfl ?_
      refine q_lmul (pc := 26) C dX0_takeProduct_26 ?_
      refine q_lload (pc := 27) C dX0_takeProduct_27 4 rfl ?_
      refine q_ladd (pc := 29) C dX0_takeProduct_29 ?_
      refine q_topl (fun v6 ev6 => ?_)
      replace h := h v6 ev6
      refine q_lstore (pc := 30) (lv' := [(8, .long v6), (0, .ref h0), (1, .long x1), (3, .int x3), (4, .int x4), (5, .long x5), (7, .int x7)]) C dX0_takeProduct_30 (by decide) rfl ?_
      refine q_aload_n (pc := 32) C dX0_takeProduct_32 rfl 1 rfl ?_
      obtain ⟨Lr7, Kr7⟩ := qw_0_2 C.2.2.2.2.2.2 Lh0 Kh0
      refine q_g0_2 (pc := 33) C Lh0 Kh0 mwX0_takeProduct_0 mwX0_takeProduct_3 dX0_takeProduct_33 ?_
      refine q_iload_n (pc := 36) C dX0_takeProduct_36 rfl 3 rfl ?_
      refine q_iload (pc := 37) C dX0_takeProduct_37 6 rfl ?_
      refine q_iadd (pc := 39) C dX0_takeProduct_39 ?_
      obtain ⟨b8, h⟩ := h
      refine q_iald (pc := 40) C Lr7 Kr7 b8 dX0_takeProduct_40 ?_
      refine q_i2l (pc := 41) C dX0_takeProduct_41 ?_
      refine q_ldc2 (pc := 42) (v := 4294967295) C dX0_takeProduct_42 mwX0_takeProduct_2 ?_
      refine q_land (pc := 45) C dX0_takeProduct_45 ?_
      refine q_lload (pc := 46) C dX0_takeProduct_46 0 rfl ?_
      refine q_ldc2 (pc := 48) (v := 4294967295) C dX0_takeProduct_48 mwX0_takeProduct_2 ?_
      refine q_land (pc := 51) C dX0_takeProduct_51 ?_
      refine q_lsub (pc := 52) C dX0_takeProduct_52 ?_
      refine q_topl (fun v9 ev9 => ?_)
      replace h := h v9 ev9
      refine q_lstore (pc := 53) (lv' := [(10, .long v9), (8, .long v6), (0, .ref h0), (1, .long x1), (3, .int x3), (4, .int x4), (5, .long x5), (7, .int x7)]) C dX0_takeProduct_53 (by decide) rfl ?_
      refine q_aload_n (pc := 55) C dX0_takeProduct_55 rfl 2 rfl ?_
      refine q_g0_2 (pc := 56) C Lh0 Kh0 mwX0_takeProduct_0 mwX0_takeProduct_3 dX0_takeProduct_56 ?_
      refine q_iload_n (pc := 59) C dX0_takeProduct_59 rfl 4 rfl ?_
      refine q_iload (pc := 60) C dX0_takeProduct_60 7 rfl ?_
      refine q_iadd (pc := 62) C dX0_takeProduct_62 ?_
      refine q_lload (pc := 63) C dX0_takeProduct_63 0 rfl ?_
      refine q_l2i (pc := 65) C dX0_takeProduct_65 ?_
      obtain ⟨b10, h⟩ := h
      refine q_iast (pc := 66) C Lr7 Kr7 b10 dX0_takeProduct_66 (fun σ11 eσ11 => ?_)
      replace h := h σ11 eσ11
      refine q_lload (pc := 67) C dX0_takeProduct_67 1 rfl ?_
      refine q_bipush (pc := 69) (v := 32) C dX0_takeProduct_69 (by decide) ?_
      refine q_lushr (pc := 71) C dX0_takeProduct_71 ?_
      refine q_lload (pc := 72) C dX0_takeProduct_72 0 rfl ?_
      refine q_lconst (pc := 74) (v := 0) C dX0_takeProduct_74 (by decide) ?_
      refine q_lcmp (pc := 75) C dX0_takeProduct_75 ?_
      refine q_if_ge (tgt := 83) (pc := 76) C dX0_takeProduct_76 (by decide) (fun c12 => ?_) (fun c12 => ?_)
      · replace h := h.1 c12
        refine q_iconst (pc := 83) (v := 0) C dX0_takeProduct_83 (by decide) ?_
        refine q_lv (lv' := [(0, .ref h0), (1, .long x1), (3, .int x3), (4, .int x4), (7, .int x7)]) [2, 3, 4, 5, 7] rfl ?_
        exact sbX0_takeProduct_84 C Lh0 Kh0 ih h
      · replace h := h.2 c12
        refine q_iconst (pc := 79) (v := 1) C dX0_takeProduct_79 (by decide) ?_
        refine q_goto (tgt := 84) (pc := 80) C dX0_takeProduct_80 (by decide) ?_
        refine q_lv (lv' := [(0, .ref h0), (1, .long x1), (3, .int x3), (4, .int x4), (7, .int x7)]) [2, 3, 4, 5, 7] rfl ?_
        exact sbX0_takeProduct_84 C Lh0 Kh0 ih h
def wpX0_takeProduct (G : qG) (h0 : Nat) (x1 : Int64) (x3 : Int32) (x4 : Int32) (σ : qS) (post : Int32 → qS → Prop) : Prop := ∀ v1 : Int64, v1 = 0 → ∀ v2 : Int32, v2 = 0 → ∃ n20 : Nat, lpX0_takeProduct_6 G h0 x1 x3 x4 post (fun (w15 : Int64) (σ16 : qS) => vp_in (x3 + x4) (G.2.2 ((G.2.1 h0 2))) ∧ ((0 ≤ (lg_cmp (((σ16 ((G.2.1 h0 2)) (x3 + x4).toNatClampNeg).toInt64) &&& 4294967295) w15) → post 0 σ16) ∧ (¬ 0 ≤ (lg_cmp (((σ16 ((G.2.1 h0 2)) (x3 + x4).toNatClampNeg).toInt64) &&& 4294967295) w15) → post 1 σ16))) n20 v1 v2 σ
set_option maxHeartbeats 4000000 in
set_option maxRecDepth 100000 in
theorem sdX0_takeProduct {l : Launch} {E : qE} {L : List Nat} {G : qG} (hN : L.Nodup) (hG : q_WF G L) {h0 : Nat} {x1 : Int64} {x3 : Int32} {x4 : Int32} (Lh0 : h0 ∈ L) (Kh0 : G.1 h0 = 0) {σ : qS} {post : Int32 → qS → Prop} (h : wpX0_takeProduct G h0 x1 x3 x4 σ post) : MtI l E L G yX0_takeProduct wsX0_takeProduct (q_rm 1) [.ref h0, .long x1, .int x3, .int x4] σ post := by
  refine q_met (Qc := fun sz => va_Qi post (q_B E L G) (q_free L sz)) (cc := cX0_takeProduct) (maxL := 12) (ret := (some .boolean)) (own := RX0) (by decide) rfl rfl (Nat.le_of_ble_eq_true rfl) hN hG ?_
  intro p e s m below meth c C
  unfold wpX0_takeProduct at h
  refine q_lconst (pc := 0) (v := 0) C dX0_takeProduct_0 (by decide) ?_
  refine q_topl (fun v1 ev1 => ?_)
  replace h := h v1 ev1
  refine q_lstore (pc := 1) (lv' := [(5, .long v1), (0, .ref h0), (1, .long x1), (3, .int x3), (4, .int x4)]) C dX0_takeProduct_1 (by decide) rfl ?_
  refine q_iconst (pc := 3) (v := 0) C dX0_takeProduct_3 (by decide) ?_
  refine q_topi (fun v2 ev2 => ?_)
  replace h := h v2 ev2
  refine q_istore (pc := 4) (lv' := [(7, .int v2), (5, .long v1), (0, .ref h0), (1, .long x1), (3, .int x3), (4, .int x4)]) C dX0_takeProduct_4 (by decide) rfl ?_
  refine q_lv (lv' := [(0, .ref h0), (1, .long x1), (3, .int x3), (4, .int x4), (5, .long v1), (7, .int v2)]) [2, 3, 4, 5, 1, 0] rfl ?_
  obtain ⟨n20, h⟩ := h
  refine slX0_takeProduct_6 C Lh0 Kh0 ?_ n20 v1 v2 σ h
  · intro w15 σ16 h
    refine q_aload_n (pc := 94) C dX0_takeProduct_94 rfl 0 rfl ?_
    obtain ⟨Lr17, Kr17⟩ := qw_0_2 C.2.2.2.2.2.2 Lh0 Kh0
    refine q_g0_2 (pc := 95) C Lh0 Kh0 mwX0_takeProduct_0 mwX0_takeProduct_3 dX0_takeProduct_95 ?_
    refine q_iload_n (pc := 98) C dX0_takeProduct_98 rfl 1 rfl ?_
    refine q_iload (pc := 99) C dX0_takeProduct_99 2 rfl ?_
    refine q_iadd (pc := 101) C dX0_takeProduct_101 ?_
    obtain ⟨b18, h⟩ := h
    refine q_iald (pc := 102) C Lr17 Kr17 b18 dX0_takeProduct_102 ?_
    refine q_i2l (pc := 103) C dX0_takeProduct_103 ?_
    refine q_ldc2 (pc := 104) (v := 4294967295) C dX0_takeProduct_104 mwX0_takeProduct_2 ?_
    refine q_land (pc := 107) C dX0_takeProduct_107 ?_
    refine q_lload (pc := 108) C dX0_takeProduct_108 3 rfl ?_
    refine q_lcmp (pc := 110) C dX0_takeProduct_110 ?_
    refine q_if_ge (tgt := 118) (pc := 111) C dX0_takeProduct_111 (by decide) (fun c19 => ?_) (fun c19 => ?_)
    · replace h := h.1 c19
      refine q_iconst (pc := 118) (v := 0) C dX0_takeProduct_118 (by decide) ?_
      exact q_zret (pc := 119) C dX0_takeProduct_119 (Or.inl rfl) h
    · replace h := h.2 c19
      refine q_iconst (pc := 114) (v := 1) C dX0_takeProduct_114 (by decide) ?_
      refine q_goto (tgt := 119) (pc := 115) C dX0_takeProduct_115 (by decide) ?_
      exact q_zret (pc := 119) C dX0_takeProduct_119 (Or.inr rfl) h
theorem mwX0_divideLong_0 : ∀ w ∈ wsX40, w ∈ wsX0_divideLong := by decide +kernel
theorem mwX0_divideLong_1 : Cond.fieldLink RX0 54 "IntFile$Whole" "limbs" "[I" ∈ wsX0_divideLong := by decide +kernel
theorem mwX0_divideLong_2 : Cond.fieldLink RX0 43 "IntFile$Whole" "count" "I" ∈ wsX0_divideLong := by decide +kernel
theorem mwX0_divideLong_3 : ∀ w ∈ wsX00, w ∈ wsX0_divideLong := by decide +kernel
theorem mwX0_divideLong_4 : Cond.fieldLink RX0 21 "IntFile$Division" "over" "[I" ∈ wsX0_divideLong := by decide +kernel
theorem mwX0_divideLong_5 : Cond.fieldLink RX0 25 "IntFile$Division" "under" "[I" ∈ wsX0_divideLong := by decide +kernel
theorem mwX0_divideLong_6 : Cond.fieldLink RX0 12 "IntFile$Division" "quotient" "LIntFile$Whole;" ∈ wsX0_divideLong := by decide +kernel
theorem mwX0_divideLong_7 : Cond.fieldLink RX0 63 "IntFile$Whole" "below" "Z" ∈ wsX0_divideLong := by decide +kernel
theorem mwX0_divideLong_8 : Cond.fieldLink RX0 18 "IntFile$Division" "rest" "LIntFile$Whole;" ∈ wsX0_divideLong := by decide +kernel
def bkX0_divideLong_109 (G : qG) (h0 : Nat) (h1 : Nat) (h2 : Nat) (x3 : Int32) (x4 : Int32) (x5 : Int64) (post : qS → Prop) (kb56 : Int32 → qS → Prop) (σ : qS) : Prop := vp_in x4 (G.2.2 ((G.2.1 ((G.2.1 h0 0)) 0))) ∧ ∀ σ23 : qS, σ23 = q_st σ ((G.2.1 ((G.2.1 h0 0)) 0)) x4.toNatClampNeg x5.toInt32 → ∀ v24 : Int32, v24 = x4 + (-1) → kb56 v24 σ23
set_option maxHeartbeats 4000000 in
set_option maxRecDepth 100000 in
theorem sbX0_divideLong_109 {p : Program} {l : Launch} {e : Env} {s : State} {m : MethodId} {args : Array Value} {below : List Frame} {meth : Method} {c : Code} {E : qE} {L : List Nat} {G : qG} {A : Nat → Prop} (C : q_C p s m args meth c cX0_divideLong 7 wsX0_divideLong RX0 none E L G A) {h0 : Nat} {h1 : Nat} {h2 : Nat} {x3 : Int32} {x4 : Int32} {x5 : Int64} (Lh0 : h0 ∈ L) (Kh0 : G.1 h0 = 0) (Lh1 : h1 ∈ L) (Kh1 : G.1 h1 = 4) (Lh2 : h2 ∈ L) (Kh2 : G.1 h2 = 4) {post : qS → Prop} {kb56 : Int32 → qS → Prop} (Hkb56 : ∀ (y4 : Int32) (τ : qS), kb56 y4 τ → Wd p l e (q_rm 3) s m args below meth c E L G A (MQ below (va_Qv post (q_B E L G) A) args s 0 0 A) 7 τ 56 [(0, .ref h0), (1, .ref h1), (2, .ref h2), (3, .int x3), (4, .int y4)] []) {σ : qS} (h : bkX0_divideLong_109 G h0 h1 h2 x3 x4 x5 post kb56 σ) : Wd p l e (q_rm 3) s m args below meth c E L G A (MQ below (va_Qv post (q_B E L G) A) args s 0 0 A) 7 σ 109 [(0, .ref h0), (1, .ref h1), (2, .ref h2), (3, .int x3), (4, .int x4), (5, .long x5)] [] := by
  unfold bkX0_divideLong_109 at h
  refine q_aload_n (pc := 109) C dX0_divideLong_109 rfl 0 rfl ?_
  obtain ⟨Lr20, Kr20⟩ := qw_0_0 C.2.2.2.2.2.2 Lh0 Kh0
  refine q_g0_0 (pc := 110) C Lh0 Kh0 mwX0_divideLong_3 mwX0_divideLong_6 dX0_divideLong_110 ?_
  obtain ⟨Lr21, Kr21⟩ := qw_4_0 C.2.2.2.2.2.2 Lr20 Kr20
  refine q_g4_0 (pc := 113) C Lr20 Kr20 mwX0_divideLong_0 mwX0_divideLong_1 dX0_divideLong_113 ?_
  refine q_iload (pc := 116) C dX0_divideLong_116 4 rfl ?_
  refine q_lload (pc := 118) C dX0_divideLong_118 5 rfl ?_
  refine q_l2i (pc := 120) C dX0_divideLong_120 ?_
  obtain ⟨b22, h⟩ := h
  refine q_iast (pc := 121) C Lr21 Kr21 b22 dX0_divideLong_121 (fun σ23 eσ23 => ?_)
  replace h := h σ23 eσ23
  obtain ⟨v24, ev24⟩ : ∃ z : Int32, z = x4 + (-1) := ⟨_, rfl⟩
  replace h := h v24 ev24
  refine q_iinc (pc := 122) (v := v24) (j := 4) (lv' := [(4, .int v24), (0, .ref h0), (1, .ref h1), (2, .ref h2), (3, .int x3), (5, .long x5)]) C dX0_divideLong_122 rfl (by rw [ev24]; rfl) (by decide) rfl ?_
  refine q_goto (tgt := 56) (pc := 125) C dX0_divideLong_125 (by decide) ?_
  refine q_lv (lv' := [(0, .ref h0), (1, .ref h1), (2, .ref h2), (3, .int x3), (4, .int v24)]) [1, 2, 3, 4, 0] rfl ?_
  exact Hkb56 v24 σ23 h
def lpX0_divideLong_56 (G : qG) (h0 : Nat) (h1 : Nat) (h2 : Nat) (x3 : Int32) (post : qS → Prop) (kx128 : qS → Prop) : Nat → Int32 → qS → Prop
  | 0, _, _ => False
  | n + 1, x4, σ => ((x4 < 0 → kx128 σ) ∧ (¬ x4 < 0 → wpX0_guessDigit G h0 (x4 + (σ h2 1)) (σ h2 1) σ (fun (u16 : Int64) (σ15 : qS) => wpX0_takeProduct G h0 u16 x4 (σ15 h2 1) σ15 (fun (u18 : Int32) (σ17 : qS) => ((u18 = 0 → bkX0_divideLong_109 G h0 h1 h2 x3 x4 u16 post (lpX0_divideLong_56 G h0 h1 h2 x3 post kx128 n) σ17) ∧ (¬ u18 = 0 → ∀ v25 : Int64, v25 = u16 - 1 → wpX0_giveBack G h0 x4 (σ17 h2 1) σ17 (fun (σ26 : qS) => bkX0_divideLong_109 G h0 h1 h2 x3 x4 v25 post (lpX0_divideLong_56 G h0 h1 h2 x3 post kx128 n) σ26)))))))
set_option maxHeartbeats 4000000 in
set_option maxRecDepth 100000 in
theorem slX0_divideLong_56 {p : Program} {l : Launch} {e : Env} {s : State} {m : MethodId} {args : Array Value} {below : List Frame} {meth : Method} {c : Code} {E : qE} {L : List Nat} {G : qG} {A : Nat → Prop} (C : q_C p s m args meth c cX0_divideLong 7 wsX0_divideLong RX0 none E L G A) {h0 : Nat} {h1 : Nat} {h2 : Nat} {x3 : Int32} (Lh0 : h0 ∈ L) (Kh0 : G.1 h0 = 0) (Lh1 : h1 ∈ L) (Kh1 : G.1 h1 = 4) (Lh2 : h2 ∈ L) (Kh2 : G.1 h2 = 4) {post : qS → Prop} {kx128 : qS → Prop} (Hkx128 : ∀  (τ : qS), kx128  τ → Wd p l e (q_rm 3) s m args below meth c E L G A (MQ below (va_Qv post (q_B E L G) A) args s 0 0 A) 7 τ 128 [(0, .ref h0), (1, .ref h1), (2, .ref h2), (3, .int x3)] []) : ∀ (n : Nat) (x4 : Int32) (σ : qS), lpX0_divideLong_56 G h0 h1 h2 x3 post kx128 n x4 σ → Wd p l e (q_rm 3) s m args below meth c E L G A (MQ below (va_Qv post (q_B E L G) A) args s 0 0 A) 7 σ 56 [(0, .ref h0), (1, .ref h1), (2, .ref h2), (3, .int x3), (4, .int x4)] [] := by
  intro n
  induction n with
  | zero => intro x4 σ h; exact h.elim
  | succ n ih =>
    intro x4 σ h
    unfold lpX0_divideLong_56 at h
    refine q_iload (pc := 56) C dX0_divideLong_56 4 rfl ?_
    refine q_if_lt (tgt := 128) (pc := 58) C dX0_divideLong_58 (by decide) (fun c14 => ?_) (fun c14 => ?_)
    · replace h := h.1 c14
      refine q_lv (lv' := [(0, .ref h0), (1, .ref h1), (2, .ref h2), (3, .int x3)]) [0, 1, 2, 3] rfl ?_
      exact Hkx128  σ h
    · replace h := h.2 c14
      refine q_aload_n (pc := 61) C dX0_divideLong_61 rfl 0 rfl ?_
      refine q_iload (pc := 62) C dX0_divideLong_62 4 rfl ?_
      refine q_aload_n (pc := 64) C dX0_divideLong_64 rfl 2 rfl ?_
      refine q_g4_1 (pc := 65) C Lh2 Kh2 mwX0_divideLong_0 mwX0_divideLong_2 dX0_divideLong_65 ?_
      refine q_iadd (pc := 68) C dX0_divideLong_68 ?_
      refine q_aload_n (pc := 69) C dX0_divideLong_69 rfl 2 rfl ?_
      refine q_g4_1 (pc := 70) C Lh2 Kh2 mwX0_divideLong_0 mwX0_divideLong_2 dX0_divideLong_70 ?_
      refine q_cVl (pc := 73) (As := [.int (x4 + (σ h2 1)), .int (σ h2 1)]) (ci := 0) (Cn := RX0) (T := TX0) (N := 4) C (sdX0_guessDigit C.2.2.2.2.2.1 C.2.2.2.2.2.2 Lh0 Kh0 h) (cwV 2 C.1.2.2.2.2 gX0_divideLong_X0_guessDigit rfl rfl rfl (by decide +kernel) (q_room (by decide) (by decide))) Lh0 (qc0 Kh0 _) rfl rfl rfl (Nat.le_of_ble_eq_true rfl) dX0_divideLong_73 (fun u16 σ15 h => ?_)
      refine q_lstore (pc := 76) (lv' := [(5, .long u16), (0, .ref h0), (1, .ref h1), (2, .ref h2), (3, .int x3), (4, .int x4)]) C dX0_divideLong_76 (by decide) rfl ?_
      refine q_aload_n (pc := 78) C dX0_divideLong_78 rfl 1 rfl ?_
      refine q_lload (pc := 79) C dX0_divideLong_79 0 rfl ?_
      refine q_iload (pc := 81) C dX0_divideLong_81 5 rfl ?_
      refine q_aload_n (pc := 83) C dX0_divideLong_83 rfl 3 rfl ?_
      refine q_g4_1 (pc := 84) C Lh2 Kh2 mwX0_divideLong_0 mwX0_divideLong_2 dX0_divideLong_84 ?_
      refine q_cVi (pc := 87) (As := [.long u16, .int x4, .int (σ15 h2 1)]) (ci := 0) (Cn := RX0) (T := TX0) (N := 4) C (sdX0_takeProduct C.2.2.2.2.2.1 C.2.2.2.2.2.2 Lh0 Kh0 h) (cwV 3 C.1.2.2.2.2 gX0_divideLong_X0_takeProduct rfl rfl rfl (by decide +kernel) (q_room (by decide) (by decide))) Lh0 (qc0 Kh0 _) rfl rfl rfl (Nat.le_of_ble_eq_true rfl) dX0_divideLong_87 (fun u18 σ17 h => ?_)
      refine q_if_eq (tgt := 109) (pc := 90) C dX0_divideLong_90 (by decide) (fun c19 => ?_) (fun c19 => ?_)
      · replace h := h.1 c19
        refine q_lv (lv' := [(0, .ref h0), (1, .ref h1), (2, .ref h2), (3, .int x3), (4, .int x4), (5, .long u16)]) [1, 2, 3, 4, 5, 0] rfl ?_
        exact sbX0_divideLong_109 C Lh0 Kh0 Lh1 Kh1 Lh2 Kh2 ih h
      · replace h := h.2 c19
        refine q_lload (pc := 93) C dX0_divideLong_93 0 rfl ?_
        refine q_lconst (pc := 95) (v := 1) C dX0_divideLong_95 (by decide) ?_
        refine q_lsub (pc := 96) C dX0_divideLong_96 ?_
        refine q_topl (fun v25 ev25 => ?_)
        replace h := h v25 ev25
        refine q_lstore (pc := 97) (lv' := [(5, .long v25), (0, .ref h0), (1, .ref h1), (2, .ref h2), (3, .int x3), (4, .int x4)]) C dX0_divideLong_97 (by decide) rfl ?_
        refine q_aload_n (pc := 99) C dX0_divideLong_99 rfl 1 rfl ?_
        refine q_iload (pc := 100) C dX0_divideLong_100 5 rfl ?_
        refine q_aload_n (pc := 102) C dX0_divideLong_102 rfl 3 rfl ?_
        refine q_g4_1 (pc := 103) C Lh2 Kh2 mwX0_divideLong_0 mwX0_divideLong_2 dX0_divideLong_103 ?_
        refine q_cVv (pc := 106) (As := [.int x4, .int (σ17 h2 1)]) (ci := 0) (Cn := RX0) (T := TX0) (N := 4) C (sdX0_giveBack C.2.2.2.2.2.1 C.2.2.2.2.2.2 Lh0 Kh0 h) (cwV 2 C.1.2.2.2.2 gX0_divideLong_X0_giveBack rfl rfl rfl (by decide +kernel) (q_room (by decide) (by decide))) Lh0 (qc0 Kh0 _) rfl rfl rfl (Nat.le_of_ble_eq_true rfl) dX0_divideLong_106 (fun σ26 h => ?_)
        refine q_lv (lv' := [(0, .ref h0), (1, .ref h1), (2, .ref h2), (3, .int x3), (4, .int x4), (5, .long v25)]) [1, 2, 3, 4, 5, 0] rfl ?_
        exact sbX0_divideLong_109 C Lh0 Kh0 Lh1 Kh1 Lh2 Kh2 ih h
def bkX0_divideLong_159 (G : qG) (h0 : Nat) (h1 : Nat) (h2 : Nat) (x3 : Int32) (s0 : Nat) (s1 : Int32) (s2 : Int32) (post : qS → Prop) (σ : qS) : Prop := wpX4_settle G s0 s1 s2 σ (fun (σ31 : qS) => wpX4_shiftDown G ((G.2.1 h0 1)) ((G.2.1 h0 2)) 0 (σ31 h2 1) x3 σ31 (fun (σ35 : qS) => wpX4_settle G ((G.2.1 h0 1)) (σ35 h2 1) (σ35 h1 2) σ35 (fun (σ37 : qS) => post σ37)))
set_option maxHeartbeats 4000000 in
set_option maxRecDepth 100000 in
theorem sbX0_divideLong_159 {p : Program} {l : Launch} {e : Env} {s : State} {m : MethodId} {args : Array Value} {below : List Frame} {meth : Method} {c : Code} {E : qE} {L : List Nat} {G : qG} {A : Nat → Prop} (C : q_C p s m args meth c cX0_divideLong 7 wsX0_divideLong RX0 none E L G A) {h0 : Nat} {h1 : Nat} {h2 : Nat} {x3 : Int32} {s0 : Nat} {s1 : Int32} {s2 : Int32} (Lh0 : h0 ∈ L) (Kh0 : G.1 h0 = 0) (Lh1 : h1 ∈ L) (Kh1 : G.1 h1 = 4) (Lh2 : h2 ∈ L) (Kh2 : G.1 h2 = 4) (Ls0 : s0 ∈ L) (Ks0 : G.1 s0 = 4) {post : qS → Prop} {σ : qS} (h : bkX0_divideLong_159 G h0 h1 h2 x3 s0 s1 s2 post σ) : Wd p l e (q_rm 3) s m args below meth c E L G A (MQ below (va_Qv post (q_B E L G) A) args s 0 0 A) 7 σ 159 [(0, .ref h0), (1, .ref h1), (2, .ref h2), (3, .int x3)] [.int s2, .int s1, .ref s0] := by
  unfold bkX0_divideLong_159 at h
  refine q_cVv (pc := 159) (As := [.int s1, .int s2]) (ci := 4) (Cn := RX4) (T := TX4) (N := 3) C (sdX4_settle C.2.2.2.2.2.1 C.2.2.2.2.2.2 Ls0 Ks0 h) (cwV 2 C.1.2.2.2.2 gX0_divideLong_X4_settle rfl rfl rfl (by decide +kernel) (q_room (by decide) (by decide))) Ls0 (qc4 Ks0 _) rfl rfl rfl (Nat.le_of_ble_eq_true rfl) dX0_divideLong_159 (fun σ31 h => ?_)
  refine q_aload_n (pc := 162) C dX0_divideLong_162 rfl 0 rfl ?_
  obtain ⟨Lr33, Kr33⟩ := qw_0_1 C.2.2.2.2.2.2 Lh0 Kh0
  refine q_g0_1 (pc := 163) C Lh0 Kh0 mwX0_divideLong_3 mwX0_divideLong_8 dX0_divideLong_163 ?_
  refine q_aload_n (pc := 166) C dX0_divideLong_166 rfl 0 rfl ?_
  obtain ⟨Lr34, Kr34⟩ := qw_0_2 C.2.2.2.2.2.2 Lh0 Kh0
  refine q_g0_2 (pc := 167) C Lh0 Kh0 mwX0_divideLong_3 mwX0_divideLong_4 dX0_divideLong_167 ?_
  refine q_iconst (pc := 170) (v := 0) C dX0_divideLong_170 (by decide) ?_
  refine q_aload_n (pc := 171) C dX0_divideLong_171 rfl 2 rfl ?_
  refine q_g4_1 (pc := 172) C Lh2 Kh2 mwX0_divideLong_0 mwX0_divideLong_2 dX0_divideLong_172 ?_
  refine q_iload_n (pc := 175) C dX0_divideLong_175 rfl 3 rfl ?_
  refine q_cVv (pc := 176) (As := [.ref ((G.2.1 h0 2)), .int 0, .int (σ31 h2 1), .int x3]) (ci := 4) (Cn := RX4) (T := TX4) (N := 3) C (sdX4_shiftDown C.2.2.2.2.2.1 C.2.2.2.2.2.2 Lr33 Kr33 Lr34 Kr34 h) (cwV 4 C.1.2.2.2.2 gX0_divideLong_X4_shiftDown rfl rfl rfl (by decide +kernel) (q_room (by decide) (by decide))) Lr33 (qc4 Kr33 _) rfl rfl rfl (Nat.le_of_ble_eq_true rfl) dX0_divideLong_176 (fun σ35 h => ?_)
  refine q_aload_n (pc := 179) C dX0_divideLong_179 rfl 0 rfl ?_
  refine q_g0_1 (pc := 180) C Lh0 Kh0 mwX0_divideLong_3 mwX0_divideLong_8 dX0_divideLong_180 ?_
  refine q_aload_n (pc := 183) C dX0_divideLong_183 rfl 2 rfl ?_
  refine q_g4_1 (pc := 184) C Lh2 Kh2 mwX0_divideLong_0 mwX0_divideLong_2 dX0_divideLong_184 ?_
  refine q_aload_n (pc := 187) C dX0_divideLong_187 rfl 1 rfl ?_
  refine q_g4_2 (pc := 188) C Lh1 Kh1 mwX0_divideLong_0 mwX0_divideLong_7 dX0_divideLong_188 ?_
  refine q_cVv (pc := 191) (As := [.int (σ35 h2 1), .int (σ35 h1 2)]) (ci := 4) (Cn := RX4) (T := TX4) (N := 3) C (sdX4_settle C.2.2.2.2.2.1 C.2.2.2.2.2.2 Lr33 Kr33 h) (cwV 2 C.1.2.2.2.2 gX0_divideLong_X4_settle rfl rfl rfl (by decide +kernel) (q_room (by decide) (by decide))) Lr33 (qc4 Kr33 _) rfl rfl rfl (Nat.le_of_ble_eq_true rfl) dX0_divideLong_191 (fun σ37 h => ?_)
  exact q_vret (pc := 194) C dX0_divideLong_194 h
def wpX0_divideLong (G : qG) (h0 : Nat) (h1 : Nat) (h2 : Nat) (σ : qS) (post : qS → Prop) : Prop := vp_in ((σ h2 1) - 1) (G.2.2 ((G.2.1 h2 0))) ∧ wpJ6_numberOfLeadingZeros_0f7a4 G (σ ((G.2.1 h2 0)) ((σ h2 1) - 1).toNatClampNeg) σ (fun (u4 : Int32) (σ3 : qS) => wpX4_shiftUp G h1 u4 ((G.2.1 h0 2)) 0 σ3 (fun (u7 : Int32) (σ6 : qS) => vp_in (σ3 h1 1) (G.2.2 ((G.2.1 h0 2))) ∧ ∀ σ9 : qS, σ9 = q_st σ6 ((G.2.1 h0 2)) (σ3 h1 1).toNatClampNeg u7 → wpX4_shiftUp G h2 u4 ((G.2.1 h0 3)) 0 σ9 (fun (u12 : Int32) (σ11 : qS) => ∀ v13 : Int32, v13 = (σ11 h1 1) - (σ11 h2 1) → ∃ n39 : Nat, lpX0_divideLong_56 G h0 h1 h2 u4 post (fun  (σ28 : qS) => (((σ28 h1 2) = (σ28 h2 2) → bkX0_divideLong_159 G h0 h1 h2 u4 ((G.2.1 h0 0)) (((σ28 h1 1) - (σ28 h2 1)) + 1) 0 post σ28) ∧ (¬ (σ28 h1 2) = (σ28 h2 2) → bkX0_divideLong_159 G h0 h1 h2 u4 ((G.2.1 h0 0)) (((σ28 h1 1) - (σ28 h2 1)) + 1) 1 post σ28))) n39 v13 σ11)))
set_option maxHeartbeats 4000000 in
set_option maxRecDepth 100000 in
theorem sdX0_divideLong {l : Launch} {E : qE} {L : List Nat} {G : qG} (hN : L.Nodup) (hG : q_WF G L) {h0 : Nat} {h1 : Nat} {h2 : Nat} (Lh0 : h0 ∈ L) (Kh0 : G.1 h0 = 0) (Lh1 : h1 ∈ L) (Kh1 : G.1 h1 = 4) (Lh2 : h2 ∈ L) (Kh2 : G.1 h2 = 4) {σ : qS} {post : qS → Prop} (h : wpX0_divideLong G h0 h1 h2 σ post) : MtV l E L G yX0_divideLong wsX0_divideLong (q_rm 3) [.ref h0, .ref h1, .ref h2] σ post := by
  refine q_met (Qc := fun sz => va_Qv post (q_B E L G) (q_free L sz)) (cc := cX0_divideLong) (maxL := 7) (ret := none) (own := RX0) (by decide) rfl rfl (Nat.le_of_ble_eq_true rfl) hN hG ?_
  intro p e s m below meth c C
  unfold wpX0_divideLong at h
  refine q_aload_n (pc := 0) C dX0_divideLong_0 rfl 2 rfl ?_
  obtain ⟨Lr1, Kr1⟩ := qw_4_0 C.2.2.2.2.2.2 Lh2 Kh2
  refine q_g4_0 (pc := 1) C Lh2 Kh2 mwX0_divideLong_0 mwX0_divideLong_1 dX0_divideLong_1 ?_
  refine q_aload_n (pc := 4) C dX0_divideLong_4 rfl 2 rfl ?_
  refine q_g4_1 (pc := 5) C Lh2 Kh2 mwX0_divideLong_0 mwX0_divideLong_2 dX0_divideLong_5 ?_
  refine q_iconst (pc := 8) (v := 1) C dX0_divideLong_8 (by decide) ?_
  refine q_isub (pc := 9) C dX0_divideLong_9 ?_
  obtain ⟨b2, h⟩ := h
  refine q_iald (pc := 10) C Lr1 Kr1 b2 dX0_divideLong_10 ?_
  refine q_cSi (pc := 11) (As := [.int (σ ((G.2.1 h2 0)) ((σ h2 1) - 1).toNatClampNeg)]) C (sdJ6_numberOfLeadingZeros_0f7a4 C.2.2.2.2.2.1 C.2.2.2.2.2.2 h) (va_cwS 1 C.1.2.2.2.2 gX0_divideLong_J6_numberOfLeadingZeros_0f7a4 rfl rfl rfl (by decide +kernel) (q_room (by decide) (by decide))) rfl rfl (Nat.le_of_ble_eq_true rfl) dX0_divideLong_11 (fun u4 σ3 h => ?_)
  refine q_istore_n (pc := 14) (lv' := [(3, .int u4), (0, .ref h0), (1, .ref h1), (2, .ref h2)]) C dX0_divideLong_14 rfl (by decide) rfl ?_
  refine q_aload_n (pc := 15) C dX0_divideLong_15 rfl 1 rfl ?_
  obtain ⟨Lr5, Kr5⟩ := qw_0_2 C.2.2.2.2.2.2 Lh0 Kh0
  refine q_g0_2 (pc := 16) C Lh0 Kh0 mwX0_divideLong_3 mwX0_divideLong_4 dX0_divideLong_16 ?_
  refine q_aload_n (pc := 19) C dX0_divideLong_19 rfl 2 rfl ?_
  refine q_g4_1 (pc := 20) C Lh1 Kh1 mwX0_divideLong_0 mwX0_divideLong_2 dX0_divideLong_20 ?_
  refine q_aload_n (pc := 23) C dX0_divideLong_23 rfl 2 rfl ?_
  refine q_iload_n (pc := 24) C dX0_divideLong_24 rfl 0 rfl ?_
  refine q_aload_n (pc := 25) C dX0_divideLong_25 rfl 1 rfl ?_
  refine q_g0_2 (pc := 26) C Lh0 Kh0 mwX0_divideLong_3 mwX0_divideLong_4 dX0_divideLong_26 ?_
  refine q_iconst (pc := 29) (v := 0) C dX0_divideLong_29 (by decide) ?_
  refine q_cSi (pc := 30) (As := [.ref h1, .int u4, .ref ((G.2.1 h0 2)), .int 0]) C (sdX4_shiftUp C.2.2.2.2.2.1 C.2.2.2.2.2.2 Lh1 Kh1 Lr5 Kr5 h) (va_cwS 4 C.1.2.2.2.2 gX0_divideLong_X4_shiftUp rfl rfl rfl (by decide +kernel) (q_room (by decide) (by decide))) rfl rfl (Nat.le_of_ble_eq_true rfl) dX0_divideLong_30 (fun u7 σ6 h => ?_)
  obtain ⟨b8, h⟩ := h
  refine q_iast (pc := 33) C Lr5 Kr5 b8 dX0_divideLong_33 (fun σ9 eσ9 => ?_)
  replace h := h σ9 eσ9
  refine q_aload_n (pc := 34) C dX0_divideLong_34 rfl 3 rfl ?_
  refine q_iload_n (pc := 35) C dX0_divideLong_35 rfl 0 rfl ?_
  refine q_aload_n (pc := 36) C dX0_divideLong_36 rfl 1 rfl ?_
  obtain ⟨Lr10, Kr10⟩ := qw_0_3 C.2.2.2.2.2.2 Lh0 Kh0
  refine q_g0_3 (pc := 37) C Lh0 Kh0 mwX0_divideLong_3 mwX0_divideLong_5 dX0_divideLong_37 ?_
  refine q_iconst (pc := 40) (v := 0) C dX0_divideLong_40 (by decide) ?_
  refine q_cSi (pc := 41) (As := [.ref h2, .int u4, .ref ((G.2.1 h0 3)), .int 0]) C (sdX4_shiftUp C.2.2.2.2.2.1 C.2.2.2.2.2.2 Lh2 Kh2 Lr10 Kr10 h) (va_cwS 4 C.1.2.2.2.2 gX0_divideLong_X4_shiftUp rfl rfl rfl (by decide +kernel) (q_room (by decide) (by decide))) rfl rfl (Nat.le_of_ble_eq_true rfl) dX0_divideLong_41 (fun u12 σ11 h => ?_)
  refine q_pop (pc := 44) C dX0_divideLong_44 rfl ?_
  refine q_aload_n (pc := 45) C dX0_divideLong_45 rfl 2 rfl ?_
  refine q_g4_1 (pc := 46) C Lh1 Kh1 mwX0_divideLong_0 mwX0_divideLong_2 dX0_divideLong_46 ?_
  refine q_aload_n (pc := 49) C dX0_divideLong_49 rfl 3 rfl ?_
  refine q_g4_1 (pc := 50) C Lh2 Kh2 mwX0_divideLong_0 mwX0_divideLong_2 dX0_divideLong_50 ?_
  refine q_isub (pc := 53) C dX0_divideLong_53 ?_
  refine q_topi (fun v13 ev13 => ?_)
  replace h := h v13 ev13
  refine q_istore (pc := 54) (lv' := [(4, .int v13), (3, .int u4), (0, .ref h0), (1, .ref h1), (2, .ref h2)]) C dX0_divideLong_54 (by decide) rfl ?_
  refine q_lv (lv' := [(0, .ref h0), (1, .ref h1), (2, .ref h2), (3, .int u4), (4, .int v13)]) [2, 3, 4, 1, 0] rfl ?_
  obtain ⟨n39, h⟩ := h
  refine slX0_divideLong_56 C Lh0 Kh0 Lh1 Kh1 Lh2 Kh2 ?_ n39 v13 σ11 h
  · intro σ28 h
    refine q_aload_n (pc := 128) C dX0_divideLong_128 rfl 0 rfl ?_
    obtain ⟨Lr29, Kr29⟩ := qw_0_0 C.2.2.2.2.2.2 Lh0 Kh0
    refine q_g0_0 (pc := 129) C Lh0 Kh0 mwX0_divideLong_3 mwX0_divideLong_6 dX0_divideLong_129 ?_
    refine q_aload_n (pc := 132) C dX0_divideLong_132 rfl 1 rfl ?_
    refine q_g4_1 (pc := 133) C Lh1 Kh1 mwX0_divideLong_0 mwX0_divideLong_2 dX0_divideLong_133 ?_
    refine q_aload_n (pc := 136) C dX0_divideLong_136 rfl 2 rfl ?_
    refine q_g4_1 (pc := 137) C Lh2 Kh2 mwX0_divideLong_0 mwX0_divideLong_2 dX0_divideLong_137 ?_
    refine q_isub (pc := 140) C dX0_divideLong_140 ?_
    refine q_iconst (pc := 141) (v := 1) C dX0_divideLong_141 (by decide) ?_
    refine q_iadd (pc := 142) C dX0_divideLong_142 ?_
    refine q_aload_n (pc := 143) C dX0_divideLong_143 rfl 1 rfl ?_
    refine q_g4_2 (pc := 144) C Lh1 Kh1 mwX0_divideLong_0 mwX0_divideLong_7 dX0_divideLong_144 ?_
    refine q_aload_n (pc := 147) C dX0_divideLong_147 rfl 2 rfl ?_
    refine q_g4_2 (pc := 148) C Lh2 Kh2 mwX0_divideLong_0 mwX0_divideLong_7 dX0_divideLong_148 ?_
    refine q_icmp_eq (tgt := 158) (pc := 151) C dX0_divideLong_151 (by decide) (fun c30 => ?_) (fun c30 => ?_)
    · replace h := h.1 c30
      refine q_iconst (pc := 158) (v := 0) C dX0_divideLong_158 (by decide) ?_
      exact sbX0_divideLong_159 C Lh0 Kh0 Lh1 Kh1 Lh2 Kh2 Lr29 Kr29 h
    · replace h := h.2 c30
      refine q_iconst (pc := 154) (v := 1) C dX0_divideLong_154 (by decide) ?_
      refine q_goto (tgt := 159) (pc := 155) C dX0_divideLong_155 (by decide) ?_
      exact sbX0_divideLong_159 C Lh0 Kh0 Lh1 Kh1 Lh2 Kh2 Lr29 Kr29 h
theorem mwX0_divide_0 : ∀ w ∈ wsX40, w ∈ wsX0_divide := by decide +kernel
theorem mwX0_divide_1 : Cond.fieldLink RX0 43 "IntFile$Whole" "count" "I" ∈ wsX0_divide := by decide +kernel
theorem mwX0_divide_2 : ∀ w ∈ wsX00, w ∈ wsX0_divide := by decide +kernel
theorem mwX0_divide_3 : Cond.fieldLink RX0 12 "IntFile$Division" "quotient" "LIntFile$Whole;" ∈ wsX0_divide := by decide +kernel
theorem mwX0_divide_4 : Cond.fieldLink RX0 18 "IntFile$Division" "rest" "LIntFile$Whole;" ∈ wsX0_divide := by decide +kernel
def wpX0_divide (G : qG) (h0 : Nat) (h1 : Nat) (h2 : Nat) (σ : qS) (post : qS → Prop) : Prop := wpX4_isZero G h2 σ (fun (u2 : Int32) (σ1 : qS) => ((u2 = 0 → wpX4_compareSize G h1 h2 σ1 (fun (u5 : Int32) (σ4 : qS) => ((0 ≤ u5 → (((σ4 h2 1) = 1 → wpX0_divideByLimb G h0 h1 h2 σ4 (fun (σ10 : qS) => post σ10)) ∧ (¬ (σ4 h2 1) = 1 → wpX0_divideLong G h0 h1 h2 σ4 (fun (σ8 : qS) => post σ8)))) ∧ (¬ 0 ≤ u5 → wpX4_becomeInt G ((G.2.1 h0 0)) 0 σ4 (fun (σ13 : qS) => wpX4_become G ((G.2.1 h0 1)) h1 σ13 (fun (σ16 : qS) => post σ16)))))) ∧ (¬ u2 = 0 → wpX4_becomeInt G ((G.2.1 h0 0)) 0 σ1 (fun (σ19 : qS) => wpX4_becomeInt G ((G.2.1 h0 1)) 0 σ19 (fun (σ22 : qS) => post σ22)))))
set_option maxHeartbeats 4000000 in
set_option maxRecDepth 100000 in
theorem sdX0_divide {l : Launch} {E : qE} {L : List Nat} {G : qG} (hN : L.Nodup) (hG : q_WF G L) {h0 : Nat} {h1 : Nat} {h2 : Nat} (Lh0 : h0 ∈ L) (Kh0 : G.1 h0 = 0) (Lh1 : h1 ∈ L) (Kh1 : G.1 h1 = 4) (Lh2 : h2 ∈ L) (Kh2 : G.1 h2 = 4) {σ : qS} {post : qS → Prop} (h : wpX0_divide G h0 h1 h2 σ post) : MtV l E L G yX0_divide wsX0_divide (q_rm 4) [.ref h0, .ref h1, .ref h2] σ post := by
  refine q_met (Qc := fun sz => va_Qv post (q_B E L G) (q_free L sz)) (cc := cX0_divide) (maxL := 3) (ret := none) (own := RX0) (by decide) rfl rfl (Nat.le_of_ble_eq_true rfl) hN hG ?_
  intro p e s m below meth c C
  unfold wpX0_divide at h
  refine q_aload_n (pc := 0) C dX0_divide_0 rfl 2 rfl ?_
  refine q_cVi (pc := 1) (As := []) (ci := 4) (Cn := RX4) (T := TX4) (N := 3) C (sdX4_isZero C.2.2.2.2.2.1 C.2.2.2.2.2.2 Lh2 Kh2 h) (cwV 0 C.1.2.2.2.2 gX0_divide_X4_isZero rfl rfl rfl (by decide +kernel) (q_room (by decide) (by decide))) Lh2 (qc4 Kh2 _) rfl rfl rfl (Nat.le_of_ble_eq_true rfl) dX0_divide_1 (fun u2 σ1 h => ?_)
  refine q_if_eq (tgt := 26) (pc := 4) C dX0_divide_4 (by decide) (fun c3 => ?_) (fun c3 => ?_)
  · replace h := h.1 c3
    refine q_aload_n (pc := 26) C dX0_divide_26 rfl 1 rfl ?_
    refine q_aload_n (pc := 27) C dX0_divide_27 rfl 2 rfl ?_
    refine q_cVi (pc := 28) (As := [.ref h2]) (ci := 4) (Cn := RX4) (T := TX4) (N := 3) C (sdX4_compareSize C.2.2.2.2.2.1 C.2.2.2.2.2.2 Lh1 Kh1 Lh2 Kh2 h) (cwV 1 C.1.2.2.2.2 gX0_divide_X4_compareSize rfl rfl rfl (by decide +kernel) (q_room (by decide) (by decide))) Lh1 (qc4 Kh1 _) rfl rfl rfl (Nat.le_of_ble_eq_true rfl) dX0_divide_28 (fun u5 σ4 h => ?_)
    refine q_if_ge (tgt := 53) (pc := 31) C dX0_divide_31 (by decide) (fun c6 => ?_) (fun c6 => ?_)
    · replace h := h.1 c6
      refine q_aload_n (pc := 53) C dX0_divide_53 rfl 2 rfl ?_
      refine q_g4_1 (pc := 54) C Lh2 Kh2 mwX0_divide_0 mwX0_divide_1 dX0_divide_54 ?_
      refine q_iconst (pc := 57) (v := 1) C dX0_divide_57 (by decide) ?_
      refine q_icmp_ne (tgt := 70) (pc := 58) C dX0_divide_58 (by decide) (fun c7 => ?_) (fun c7 => ?_)
      · replace h := h.2 c7
        refine q_aload_n (pc := 70) C dX0_divide_70 rfl 0 rfl ?_
        refine q_aload_n (pc := 71) C dX0_divide_71 rfl 1 rfl ?_
        refine q_aload_n (pc := 72) C dX0_divide_72 rfl 2 rfl ?_
        refine q_cVv (pc := 73) (As := [.ref h1, .ref h2]) (ci := 0) (Cn := RX0) (T := TX0) (N := 4) C (sdX0_divideLong C.2.2.2.2.2.1 C.2.2.2.2.2.2 Lh0 Kh0 Lh1 Kh1 Lh2 Kh2 h) (cwV 2 C.1.2.2.2.2 gX0_divide_X0_divideLong rfl rfl rfl (by decide +kernel) (q_room (by decide) (by decide))) Lh0 (qc0 Kh0 _) rfl rfl rfl (Nat.le_of_ble_eq_true rfl) dX0_divide_73 (fun σ8 h => ?_)
        exact q_vret (pc := 76) C dX0_divide_76 h
      · replace h := h.1 c7
        refine q_aload_n (pc := 61) C dX0_divide_61 rfl 0 rfl ?_
        refine q_aload_n (pc := 62) C dX0_divide_62 rfl 1 rfl ?_
        refine q_aload_n (pc := 63) C dX0_divide_63 rfl 2 rfl ?_
        refine q_cVv (pc := 64) (As := [.ref h1, .ref h2]) (ci := 0) (Cn := RX0) (T := TX0) (N := 4) C (sdX0_divideByLimb C.2.2.2.2.2.1 C.2.2.2.2.2.2 Lh0 Kh0 Lh1 Kh1 Lh2 Kh2 h) (cwV 2 C.1.2.2.2.2 gX0_divide_X0_divideByLimb rfl rfl rfl (by decide +kernel) (q_room (by decide) (by decide))) Lh0 (qc0 Kh0 _) rfl rfl rfl (Nat.le_of_ble_eq_true rfl) dX0_divide_64 (fun σ10 h => ?_)
        refine q_goto (tgt := 76) (pc := 67) C dX0_divide_67 (by decide) ?_
        exact q_vret (pc := 76) C dX0_divide_76 h
    · replace h := h.2 c6
      refine q_aload_n (pc := 34) C dX0_divide_34 rfl 0 rfl ?_
      obtain ⟨Lr12, Kr12⟩ := qw_0_0 C.2.2.2.2.2.2 Lh0 Kh0
      refine q_g0_0 (pc := 35) C Lh0 Kh0 mwX0_divide_2 mwX0_divide_3 dX0_divide_35 ?_
      refine q_iconst (pc := 38) (v := 0) C dX0_divide_38 (by decide) ?_
      refine q_cVv (pc := 39) (As := [.int 0]) (ci := 4) (Cn := RX4) (T := TX4) (N := 3) C (sdX4_becomeInt C.2.2.2.2.2.1 C.2.2.2.2.2.2 Lr12 Kr12 h) (cwV 1 C.1.2.2.2.2 gX0_divide_X4_becomeInt rfl rfl rfl (by decide +kernel) (q_room (by decide) (by decide))) Lr12 (qc4 Kr12 _) rfl rfl rfl (Nat.le_of_ble_eq_true rfl) dX0_divide_39 (fun σ13 h => ?_)
      refine q_aload_n (pc := 42) C dX0_divide_42 rfl 0 rfl ?_
      obtain ⟨Lr15, Kr15⟩ := qw_0_1 C.2.2.2.2.2.2 Lh0 Kh0
      refine q_g0_1 (pc := 43) C Lh0 Kh0 mwX0_divide_2 mwX0_divide_4 dX0_divide_43 ?_
      refine q_aload_n (pc := 46) C dX0_divide_46 rfl 1 rfl ?_
      refine q_cVv (pc := 47) (As := [.ref h1]) (ci := 4) (Cn := RX4) (T := TX4) (N := 3) C (sdX4_become C.2.2.2.2.2.1 C.2.2.2.2.2.2 Lr15 Kr15 Lh1 Kh1 h) (cwV 1 C.1.2.2.2.2 gX0_divide_X4_become rfl rfl rfl (by decide +kernel) (q_room (by decide) (by decide))) Lr15 (qc4 Kr15 _) rfl rfl rfl (Nat.le_of_ble_eq_true rfl) dX0_divide_47 (fun σ16 h => ?_)
      refine q_goto (tgt := 76) (pc := 50) C dX0_divide_50 (by decide) ?_
      exact q_vret (pc := 76) C dX0_divide_76 h
  · replace h := h.2 c3
    refine q_aload_n (pc := 7) C dX0_divide_7 rfl 0 rfl ?_
    obtain ⟨Lr18, Kr18⟩ := qw_0_0 C.2.2.2.2.2.2 Lh0 Kh0
    refine q_g0_0 (pc := 8) C Lh0 Kh0 mwX0_divide_2 mwX0_divide_3 dX0_divide_8 ?_
    refine q_iconst (pc := 11) (v := 0) C dX0_divide_11 (by decide) ?_
    refine q_cVv (pc := 12) (As := [.int 0]) (ci := 4) (Cn := RX4) (T := TX4) (N := 3) C (sdX4_becomeInt C.2.2.2.2.2.1 C.2.2.2.2.2.2 Lr18 Kr18 h) (cwV 1 C.1.2.2.2.2 gX0_divide_X4_becomeInt rfl rfl rfl (by decide +kernel) (q_room (by decide) (by decide))) Lr18 (qc4 Kr18 _) rfl rfl rfl (Nat.le_of_ble_eq_true rfl) dX0_divide_12 (fun σ19 h => ?_)
    refine q_aload_n (pc := 15) C dX0_divide_15 rfl 0 rfl ?_
    obtain ⟨Lr21, Kr21⟩ := qw_0_1 C.2.2.2.2.2.2 Lh0 Kh0
    refine q_g0_1 (pc := 16) C Lh0 Kh0 mwX0_divide_2 mwX0_divide_4 dX0_divide_16 ?_
    refine q_iconst (pc := 19) (v := 0) C dX0_divide_19 (by decide) ?_
    refine q_cVv (pc := 20) (As := [.int 0]) (ci := 4) (Cn := RX4) (T := TX4) (N := 3) C (sdX4_becomeInt C.2.2.2.2.2.1 C.2.2.2.2.2.2 Lr21 Kr21 h) (cwV 1 C.1.2.2.2.2 gX0_divide_X4_becomeInt rfl rfl rfl (by decide +kernel) (q_room (by decide) (by decide))) Lr21 (qc4 Kr21 _) rfl rfl rfl (Nat.le_of_ble_eq_true rfl) dX0_divide_20 (fun σ22 h => ?_)
    refine q_goto (tgt := 76) (pc := 23) C dX0_divide_23 (by decide) ?_
    exact q_vret (pc := 76) C dX0_divide_76 h

def lpX1_roomForHalves_6 (G : qG) (post : Int32 → qS → Prop) (kx32 : Int32 → qS → Prop) : Nat → Int32 → Int32 → Int32 → qS → Prop
  | 0, _, _, _, _ => False
  | n + 1, x1, x2, x3, σ => ((8 ≤ x3 → kx32 x1 σ) ∧ (¬ 8 ≤ x3 → ∀ v4 : Int32, v4 = ((x2 + 1) / 2) + 1 → ∀ v5 : Int32, v5 = x1 + ((4 : Int32) * v4) → ∀ v6 : Int32, v6 = x3 + 1 → lpX1_roomForHalves_6 G post kx32 n v5 v4 v6 σ))
set_option maxHeartbeats 4000000 in
set_option maxRecDepth 100000 in
theorem slX1_roomForHalves_6 {p : Program} {l : Launch} {e : Env} {s : State} {m : MethodId} {args : Array Value} {below : List Frame} {meth : Method} {c : Code} {E : qE} {L : List Nat} {G : qG} {A : Nat → Prop} (C : q_C p s m args meth c cX1_roomForHalves 4 wsX1_roomForHalves RX1 (some .int) E L G A) {post : Int32 → qS → Prop} {kx32 : Int32 → qS → Prop} (Hkx32 : ∀ (y1 : Int32) (τ : qS), kx32 y1 τ → Wd p l e (q_rm 1) s m args below meth c E L G A (MQ below (va_Qi post (q_B E L G) A) args s 0 0 A) 4 τ 32 [(1, .int y1)] []) : ∀ (n : Nat) (x1 : Int32) (x2 : Int32) (x3 : Int32) (σ : qS), lpX1_roomForHalves_6 G post kx32 n x1 x2 x3 σ → Wd p l e (q_rm 1) s m args below meth c E L G A (MQ below (va_Qi post (q_B E L G) A) args s 0 0 A) 4 σ 6 [(1, .int x1), (2, .int x2), (3, .int x3)] [] := by
  intro n
  induction n with
  | zero => intro x1 x2 x3 σ h; exact h.elim
  | succ n ih =>
    intro x1 x2 x3 σ h
    unfold lpX1_roomForHalves_6 at h
    refine q_iload_n (pc := 6) C dX1_roomForHalves_6 rfl 2 rfl ?_
    refine q_bipush (pc := 7) (v := 8) C dX1_roomForHalves_7 (by decide) ?_
    refine q_icmp_ge (tgt := 32) (pc := 9) C dX1_roomForHalves_9 (by decide) (fun c3 => ?_) (fun c3 => ?_)
    · replace h := h.1 c3
      refine q_lv (lv' := [(1, .int x1)]) [0] rfl ?_
      exact Hkx32 x1 σ h
    · replace h := h.2 c3
      refine q_iload_n (pc := 12) C dX1_roomForHalves_12 rfl 1 rfl ?_
      refine q_iconst (pc := 13) (v := 1) C dX1_roomForHalves_13 (by decide) ?_
      refine q_iadd (pc := 14) C dX1_roomForHalves_14 ?_
      refine q_iconst (pc := 15) (v := 2) C dX1_roomForHalves_15 (by decide) ?_
      refine q_idiv (pc := 16) C dX1_roomForHalves_16 (by decide) ?_
      refine q_iconst (pc := 17) (v := 1) C dX1_roomForHalves_17 (by decide) ?_
      refine q_iadd (pc := 18) C dX1_roomForHalves_18 ?_
      refine q_topi (fun v4 ev4 => ?_)
      replace h := h v4 ev4
      refine q_istore_n (pc := 19) (lv' := [(2, .int v4), (1, .int x1), (3, .int x3)]) C dX1_roomForHalves_19 rfl (by decide) rfl ?_
      refine q_iload_n (pc := 20) C dX1_roomForHalves_20 rfl 1 rfl ?_
      refine q_iconst (pc := 21) (v := 4) C dX1_roomForHalves_21 (by decide) ?_
      refine q_iload_n (pc := 22) C dX1_roomForHalves_22 rfl 0 rfl ?_
      refine q_imul (pc := 23) C dX1_roomForHalves_23 ?_
      refine q_iadd (pc := 24) C dX1_roomForHalves_24 ?_
      refine q_topi (fun v5 ev5 => ?_)
      replace h := h v5 ev5
      refine q_istore_n (pc := 25) (lv' := [(1, .int v5), (2, .int v4), (3, .int x3)]) C dX1_roomForHalves_25 rfl (by decide) rfl ?_
      obtain ⟨v6, ev6⟩ : ∃ z : Int32, z = x3 + 1 := ⟨_, rfl⟩
      replace h := h v6 ev6
      refine q_iinc (pc := 26) (v := v6) (j := 2) (lv' := [(3, .int v6), (1, .int v5), (2, .int v4)]) C dX1_roomForHalves_26 rfl (by rw [ev6]; rfl) (by decide) rfl ?_
      refine q_goto (tgt := 6) (pc := 29) C dX1_roomForHalves_29 (by decide) ?_
      refine q_lv (lv' := [(1, .int v5), (2, .int v4), (3, .int v6)]) [1, 2, 0] rfl ?_
      exact ih v5 v4 v6 σ h
def wpX1_roomForHalves (G : qG) (x0 : Int32) (σ : qS) (post : Int32 → qS → Prop) : Prop := ∀ v1 : Int32, v1 = 0 → ∀ v2 : Int32, v2 = 0 → ∃ n9 : Nat, lpX1_roomForHalves_6 G post (fun (w7 : Int32) (σ8 : qS) => post w7 σ8) n9 v1 x0 v2 σ
set_option maxHeartbeats 4000000 in
set_option maxRecDepth 100000 in
theorem sdX1_roomForHalves {l : Launch} {E : qE} {L : List Nat} {G : qG} (hN : L.Nodup) (hG : q_WF G L) {x0 : Int32} {σ : qS} {post : Int32 → qS → Prop} (h : wpX1_roomForHalves G x0 σ post) : MtI l E L G yX1_roomForHalves wsX1_roomForHalves (q_rm 1) [.int x0] σ post := by
  refine q_met (Qc := fun sz => va_Qi post (q_B E L G) (q_free L sz)) (cc := cX1_roomForHalves) (maxL := 4) (ret := (some .int)) (own := RX1) (by decide) rfl rfl (Nat.le_of_ble_eq_true rfl) hN hG ?_
  intro p e s m below meth c C
  unfold wpX1_roomForHalves at h
  refine q_iconst (pc := 0) (v := 0) C dX1_roomForHalves_0 (by decide) ?_
  refine q_topi (fun v1 ev1 => ?_)
  replace h := h v1 ev1
  refine q_istore_n (pc := 1) (lv' := [(1, .int v1), (0, .int x0)]) C dX1_roomForHalves_1 rfl (by decide) rfl ?_
  refine q_iload_n (pc := 2) C dX1_roomForHalves_2 rfl 1 rfl ?_
  refine q_istore_n (pc := 3) (lv' := [(2, .int x0), (1, .int v1), (0, .int x0)]) C dX1_roomForHalves_3 rfl (by decide) rfl ?_
  refine q_iconst (pc := 4) (v := 0) C dX1_roomForHalves_4 (by decide) ?_
  refine q_topi (fun v2 ev2 => ?_)
  replace h := h v2 ev2
  refine q_istore_n (pc := 5) (lv' := [(3, .int v2), (2, .int x0), (1, .int v1), (0, .int x0)]) C dX1_roomForHalves_5 rfl (by decide) rfl ?_
  refine q_lv (lv' := [(1, .int v1), (2, .int x0), (3, .int v2)]) [2, 1, 0] rfl ?_
  obtain ⟨n9, h⟩ := h
  refine slX1_roomForHalves_6 C ?_ n9 v1 x0 v2 σ h
  · intro w7 σ8 h
    refine q_iload_n (pc := 32) C dX1_roomForHalves_32 rfl 0 rfl ?_
    exact q_iret (pc := 33) C dX1_roomForHalves_33 h
theorem mwX1_addAt_0 : ∀ w ∈ wsX10, w ∈ wsX1_addAt := by decide +kernel
theorem mwX1_addAt_1 : Cond.fieldLink RX1 29 "IntFile$Products" "row" "[I" ∈ wsX1_addAt := by decide +kernel
theorem mwX1_addAt_2 : Cond.constantLong RX1 72 (4294967295) ∈ wsX1_addAt := by decide +kernel
def lpX1_addAt_6 (G : qG) (h0 : Nat) (x1 : Int32) (x2 : Int32) (x3 : Int32) (x4 : Int32) (post : qS → Prop) (kx72 : Int64 → qS → Prop) : Nat → Int64 → Int32 → qS → Prop
  | 0, _, _, _ => False
  | n + 1, x5, x7, σ => ((x4 ≤ x7 → kx72 x5 σ) ∧ (¬ x4 ≤ x7 → vp_in (x1 + x7) (G.2.2 ((G.2.1 h0 1))) ∧ vp_in (x3 + x7) (G.2.2 ((G.2.1 h0 1))) ∧ ∀ v7 : Int64, v7 = ((((σ ((G.2.1 h0 1)) (x1 + x7).toNatClampNeg).toInt64) &&& 4294967295) + (((σ ((G.2.1 h0 1)) (x3 + x7).toNatClampNeg).toInt64) &&& 4294967295)) + x5 → vp_in (x1 + x7) (G.2.2 ((G.2.1 h0 1))) ∧ ∀ σ9 : qS, σ9 = q_st σ ((G.2.1 h0 1)) (x1 + x7).toNatClampNeg v7.toInt32 → ∀ v10 : Int64, v10 = (v7.toUInt64 >>> ((32 : Int32).toInt64.toUInt64 &&& Int64.toUInt64 63)).toInt64 → ∀ v11 : Int32, v11 = x7 + 1 → lpX1_addAt_6 G h0 x1 x2 x3 x4 post kx72 n v10 v11 σ9))
set_option maxHeartbeats 4000000 in
set_option maxRecDepth 100000 in
theorem slX1_addAt_6 {p : Program} {l : Launch} {e : Env} {s : State} {m : MethodId} {args : Array Value} {below : List Frame} {meth : Method} {c : Code} {E : qE} {L : List Nat} {G : qG} {A : Nat → Prop} (C : q_C p s m args meth c cX1_addAt 10 wsX1_addAt RX1 none E L G A) {h0 : Nat} {x1 : Int32} {x2 : Int32} {x3 : Int32} {x4 : Int32} (Lh0 : h0 ∈ L) (Kh0 : G.1 h0 = 1) {post : qS → Prop} {kx72 : Int64 → qS → Prop} (Hkx72 : ∀ (y5 : Int64) (τ : qS), kx72 y5 τ → Wd p l e (q_rm 1) s m args below meth c E L G A (MQ below (va_Qv post (q_B E L G) A) args s 0 0 A) 10 τ 72 [(0, .ref h0), (1, .int x1), (2, .int x2), (4, .int x4), (5, .long y5)] []) : ∀ (n : Nat) (x5 : Int64) (x7 : Int32) (σ : qS), lpX1_addAt_6 G h0 x1 x2 x3 x4 post kx72 n x5 x7 σ → Wd p l e (q_rm 1) s m args below meth c E L G A (MQ below (va_Qv post (q_B E L G) A) args s 0 0 A) 10 σ 6 [(0, .ref h0), (1, .int x1), (2, .int x2), (3, .int x3), (4, .int x4), (5, .long x5), (7, .int x7)] [] := by
  intro n
  induction n with
  | zero => intro x5 x7 σ h; exact h.elim
  | succ n ih =>
    intro x5 x7 σ h
    unfold lpX1_addAt_6 at h
    refine q_iload (pc := 6) C dX1_addAt_6 6 rfl ?_
    refine q_iload (pc := 8) C dX1_addAt_8 4 rfl ?_
    refine q_icmp_ge (tgt := 72) (pc := 10) C dX1_addAt_10 (by decide) (fun c3 => ?_) (fun c3 => ?_)
    · replace h := h.1 c3
      refine q_lv (lv' := [(0, .ref h0), (1, .int x1), (2, .int x2), (4, .int x4), (5, .long x5)]) [0, 1, 2, 4, 5] rfl ?_
      exact Hkx72 x5 σ h
    · replace h := h.2 c3
      refine q_aload_n (pc := 13) C dX1_addAt_13 rfl 0 rfl ?_
      obtain ⟨Lr4, Kr4⟩ := qw_1_1 C.2.2.2.2.2.2 Lh0 Kh0
      refine q_g1_1 (pc := 14) C Lh0 Kh0 mwX1_addAt_0 mwX1_addAt_1 dX1_addAt_14 ?_
      refine q_iload_n (pc := 17) C dX1_addAt_17 rfl 1 rfl ?_
      refine q_iload (pc := 18) C dX1_addAt_18 6 rfl ?_
      refine q_iadd (pc := 20) C dX1_addAt_20 ?_
      obtain ⟨b5, h⟩ := h
      refine q_iald (pc := 21) C Lr4 Kr4 b5 dX1_addAt_21 ?_
      refine q_i2l (pc := 22) C dX1_addAt_22 ?_
      refine q_ldc2 (pc := 23) (v := 4294967295) C dX1_addAt_23 mwX1_addAt_2 ?_
      refine q_land (pc := 26) C dX1_addAt_26 ?_
      refine q_aload_n (pc := 27) C dX1_addAt_27 rfl 0 rfl ?_
      refine q_g1_1 (pc := 28) C Lh0 Kh0 mwX1_addAt_0 mwX1_addAt_1 dX1_addAt_28 ?_
      refine q_iload_n (pc := 31) C dX1_addAt_31 rfl 3 rfl ?_
      refine q_iload (pc := 32) C dX1_addAt_32 6 rfl ?_
      refine q_iadd (pc := 34) C dX1_addAt_34 ?_
      obtain ⟨b6, h⟩ := h
      refine q_iald (pc := 35) C Lr4 Kr4 b6 dX1_addAt_35 ?_
      refine q_i2l (pc := 36) C dX1_addAt_36 ?_
      refine q_ldc2 (pc := 37) (v := 4294967295) C dX1_addAt_37 mwX1_addAt_2 ?_
      refine q_land (pc := 40) C dX1_addAt_40 ?_
      refine q_ladd (pc := 41) C dX1_addAt_41 ?_
      refine q_lload (pc := 42) C dX1_addAt_42 5 rfl ?_
      refine q_ladd (pc := 44) C dX1_addAt_44 ?_
      refine q_topl (fun v7 ev7 => ?_)
      replace h := h v7 ev7
      refine q_lstore (pc := 45) (lv' := [(8, .long v7), (0, .ref h0), (1, .int x1), (2, .int x2), (3, .int x3), (4, .int x4), (5, .long x5), (7, .int x7)]) C dX1_addAt_45 (by decide) rfl ?_
      refine q_aload_n (pc := 47) C dX1_addAt_47 rfl 1 rfl ?_
      refine q_g1_1 (pc := 48) C Lh0 Kh0 mwX1_addAt_0 mwX1_addAt_1 dX1_addAt_48 ?_
      refine q_iload_n (pc := 51) C dX1_addAt_51 rfl 2 rfl ?_
      refine q_iload (pc := 52) C dX1_addAt_52 7 rfl ?_
      refine q_iadd (pc := 54) C dX1_addAt_54 ?_
      refine q_lload (pc := 55) C dX1_addAt_55 0 rfl ?_
      refine q_l2i (pc := 57) C dX1_addAt_57 ?_
      obtain ⟨b8, h⟩ := h
      refine q_iast (pc := 58) C Lr4 Kr4 b8 dX1_addAt_58 (fun σ9 eσ9 => ?_)
      replace h := h σ9 eσ9
      refine q_lload (pc := 59) C dX1_addAt_59 0 rfl ?_
      refine q_bipush (pc := 61) (v := 32) C dX1_addAt_61 (by decide) ?_
      refine q_lushr (pc := 63) C dX1_addAt_63 ?_
      refine q_topl (fun v10 ev10 => ?_)
      replace h := h v10 ev10
      refine q_lstore (pc := 64) (lv' := [(5, .long v10), (8, .long v7), (0, .ref h0), (1, .int x1), (2, .int x2), (3, .int x3), (4, .int x4), (7, .int x7)]) C dX1_addAt_64 (by decide) rfl ?_
      obtain ⟨v11, ev11⟩ : ∃ z : Int32, z = x7 + 1 := ⟨_, rfl⟩
      replace h := h v11 ev11
      refine q_iinc (pc := 66) (v := v11) (j := 7) (lv' := [(7, .int v11), (5, .long v10), (8, .long v7), (0, .ref h0), (1, .int x1), (2, .int x2), (3, .int x3), (4, .int x4)]) C dX1_addAt_66 rfl (by rw [ev11]; rfl) (by decide) rfl ?_
      refine q_goto (tgt := 6) (pc := 69) C dX1_addAt_69 (by decide) ?_
      refine q_lv (lv' := [(0, .ref h0), (1, .int x1), (2, .int x2), (3, .int x3), (4, .int x4), (5, .long v10), (7, .int v11)]) [3, 4, 5, 6, 7, 1, 0] rfl ?_
      exact ih v10 v11 σ9 h
def bkX1_addAt_119 (G : qG) (h0 : Nat) (x1 : Int32) (x2 : Int32) (x7 : Int32) (s0 : Int64) (post : qS → Prop) (kb76 : Int64 → Int32 → qS → Prop) (σ : qS) : Prop := ∀ v22 : Int32, v22 = x7 + 1 → kb76 s0 v22 σ
set_option maxHeartbeats 4000000 in
set_option maxRecDepth 100000 in
theorem sbX1_addAt_119 {p : Program} {l : Launch} {e : Env} {s : State} {m : MethodId} {args : Array Value} {below : List Frame} {meth : Method} {c : Code} {E : qE} {L : List Nat} {G : qG} {A : Nat → Prop} (C : q_C p s m args meth c cX1_addAt 10 wsX1_addAt RX1 none E L G A) {h0 : Nat} {x1 : Int32} {x2 : Int32} {x7 : Int32} {s0 : Int64} (Lh0 : h0 ∈ L) (Kh0 : G.1 h0 = 1) {post : qS → Prop} {kb76 : Int64 → Int32 → qS → Prop} (Hkb76 : ∀ (y5 : Int64) (y7 : Int32) (τ : qS), kb76 y5 y7 τ → Wd p l e (q_rm 1) s m args below meth c E L G A (MQ below (va_Qv post (q_B E L G) A) args s 0 0 A) 10 τ 76 [(0, .ref h0), (1, .int x1), (2, .int x2), (5, .long y5), (7, .int y7)] []) {σ : qS} (h : bkX1_addAt_119 G h0 x1 x2 x7 s0 post kb76 σ) : Wd p l e (q_rm 1) s m args below meth c E L G A (MQ below (va_Qv post (q_B E L G) A) args s 0 0 A) 10 σ 119 [(0, .ref h0), (1, .int x1), (2, .int x2), (7, .int x7)] [.long s0] := by
  unfold bkX1_addAt_119 at h
  refine q_lstore (pc := 119) (lv' := [(5, .long s0), (0, .ref h0), (1, .int x1), (2, .int x2), (7, .int x7)]) C dX1_addAt_119 (by decide) rfl ?_
  obtain ⟨v22, ev22⟩ : ∃ z : Int32, z = x7 + 1 := ⟨_, rfl⟩
  replace h := h v22 ev22
  refine q_iinc (pc := 121) (v := v22) (j := 4) (lv' := [(7, .int v22), (5, .long s0), (0, .ref h0), (1, .int x1), (2, .int x2)]) C dX1_addAt_121 rfl (by rw [ev22]; rfl) (by decide) rfl ?_
  refine q_goto (tgt := 76) (pc := 124) C dX1_addAt_124 (by decide) ?_
  refine q_lv (lv' := [(0, .ref h0), (1, .int x1), (2, .int x2), (5, .long s0), (7, .int v22)]) [2, 3, 4, 1, 0] rfl ?_
  exact Hkb76 s0 v22 σ h
def lpX1_addAt_76 (G : qG) (h0 : Nat) (x1 : Int32) (x2 : Int32) (post : qS → Prop) (kx127 : qS → Prop) : Nat → Int64 → Int32 → qS → Prop
  | 0, _, _, _ => False
  | n + 1, x5, x7, σ => ((x2 ≤ x7 → kx127 σ) ∧ (¬ x2 ≤ x7 → (((lg_cmp x5 0) = 0 → kx127 σ) ∧ (¬ (lg_cmp x5 0) = 0 → vp_in (x1 + x7) (G.2.2 ((G.2.1 h0 1))) ∧ vp_in (x1 + x7) (G.2.2 ((G.2.1 h0 1))) ∧ ∀ σ19 : qS, σ19 = q_st σ ((G.2.1 h0 1)) (x1 + x7).toNatClampNeg (((σ ((G.2.1 h0 1)) (x1 + x7).toNatClampNeg) + 1)) → vp_in (x1 + x7) (G.2.2 ((G.2.1 h0 1))) ∧ (((σ19 ((G.2.1 h0 1)) (x1 + x7).toNatClampNeg) = 0 → bkX1_addAt_119 G h0 x1 x2 x7 1 post (lpX1_addAt_76 G h0 x1 x2 post kx127 n) σ19) ∧ (¬ (σ19 ((G.2.1 h0 1)) (x1 + x7).toNatClampNeg) = 0 → bkX1_addAt_119 G h0 x1 x2 x7 0 post (lpX1_addAt_76 G h0 x1 x2 post kx127 n) σ19))))))
set_option maxHeartbeats 4000000 in
set_option maxRecDepth 100000 in
theorem slX1_addAt_76 {p : Program} {l : Launch} {e : Env} {s : State} {m : MethodId} {args : Array Value} {below : List Frame} {meth : Method} {c : Code} {E : qE} {L : List Nat} {G : qG} {A : Nat → Prop} (C : q_C p s m args meth c cX1_addAt 10 wsX1_addAt RX1 none E L G A) {h0 : Nat} {x1 : Int32} {x2 : Int32} (Lh0 : h0 ∈ L) (Kh0 : G.1 h0 = 1) {post : qS → Prop} {kx127 : qS → Prop} (Hkx127 : ∀  (τ : qS), kx127  τ → Wd p l e (q_rm 1) s m args below meth c E L G A (MQ below (va_Qv post (q_B E L G) A) args s 0 0 A) 10 τ 127 [] []) : ∀ (n : Nat) (x5 : Int64) (x7 : Int32) (σ : qS), lpX1_addAt_76 G h0 x1 x2 post kx127 n x5 x7 σ → Wd p l e (q_rm 1) s m args below meth c E L G A (MQ below (va_Qv post (q_B E L G) A) args s 0 0 A) 10 σ 76 [(0, .ref h0), (1, .int x1), (2, .int x2), (5, .long x5), (7, .int x7)] [] := by
  intro n
  induction n with
  | zero => intro x5 x7 σ h; exact h.elim
  | succ n ih =>
    intro x5 x7 σ h
    unfold lpX1_addAt_76 at h
    refine q_iload (pc := 76) C dX1_addAt_76 4 rfl ?_
    refine q_iload_n (pc := 78) C dX1_addAt_78 rfl 2 rfl ?_
    refine q_icmp_ge (tgt := 127) (pc := 79) C dX1_addAt_79 (by decide) (fun c14 => ?_) (fun c14 => ?_)
    · replace h := h.1 c14
      refine q_lv (lv' := []) [] rfl ?_
      exact Hkx127  σ h
    · replace h := h.2 c14
      refine q_lload (pc := 82) C dX1_addAt_82 3 rfl ?_
      refine q_lconst (pc := 84) (v := 0) C dX1_addAt_84 (by decide) ?_
      refine q_lcmp (pc := 85) C dX1_addAt_85 ?_
      refine q_if_eq (tgt := 127) (pc := 86) C dX1_addAt_86 (by decide) (fun c15 => ?_) (fun c15 => ?_)
      · replace h := h.1 c15
        refine q_lv (lv' := []) [] rfl ?_
        exact Hkx127  σ h
      · replace h := h.2 c15
        refine q_aload_n (pc := 89) C dX1_addAt_89 rfl 0 rfl ?_
        obtain ⟨Lr16, Kr16⟩ := qw_1_1 C.2.2.2.2.2.2 Lh0 Kh0
        refine q_g1_1 (pc := 90) C Lh0 Kh0 mwX1_addAt_0 mwX1_addAt_1 dX1_addAt_90 ?_
        refine q_iload_n (pc := 93) C dX1_addAt_93 rfl 1 rfl ?_
        refine q_iload (pc := 94) C dX1_addAt_94 4 rfl ?_
        refine q_iadd (pc := 96) C dX1_addAt_96 ?_
        refine q_dup2_11 (pc := 97) C dX1_addAt_97 rfl rfl ?_
        obtain ⟨b17, h⟩ := h
        refine q_iald (pc := 98) C Lr16 Kr16 b17 dX1_addAt_98 ?_
        refine q_iconst (pc := 99) (v := 1) C dX1_addAt_99 (by decide) ?_
        refine q_iadd (pc := 100) C dX1_addAt_100 ?_
        obtain ⟨b18, h⟩ := h
        refine q_iast (pc := 101) C Lr16 Kr16 b18 dX1_addAt_101 (fun σ19 eσ19 => ?_)
        replace h := h σ19 eσ19
        refine q_aload_n (pc := 102) C dX1_addAt_102 rfl 0 rfl ?_
        refine q_g1_1 (pc := 103) C Lh0 Kh0 mwX1_addAt_0 mwX1_addAt_1 dX1_addAt_103 ?_
        refine q_iload_n (pc := 106) C dX1_addAt_106 rfl 1 rfl ?_
        refine q_iload (pc := 107) C dX1_addAt_107 4 rfl ?_
        refine q_iadd (pc := 109) C dX1_addAt_109 ?_
        obtain ⟨b20, h⟩ := h
        refine q_iald (pc := 110) C Lr16 Kr16 b20 dX1_addAt_110 ?_
        refine q_if_ne (tgt := 118) (pc := 111) C dX1_addAt_111 (by decide) (fun c21 => ?_) (fun c21 => ?_)
        · replace h := h.2 c21
          refine q_lconst (pc := 118) (v := 0) C dX1_addAt_118 (by decide) ?_
          refine q_lv (lv' := [(0, .ref h0), (1, .int x1), (2, .int x2), (7, .int x7)]) [0, 1, 2, 4] rfl ?_
          exact sbX1_addAt_119 C Lh0 Kh0 ih h
        · replace h := h.1 c21
          refine q_lconst (pc := 114) (v := 1) C dX1_addAt_114 (by decide) ?_
          refine q_goto (tgt := 119) (pc := 115) C dX1_addAt_115 (by decide) ?_
          refine q_lv (lv' := [(0, .ref h0), (1, .int x1), (2, .int x2), (7, .int x7)]) [0, 1, 2, 4] rfl ?_
          exact sbX1_addAt_119 C Lh0 Kh0 ih h
def wpX1_addAt (G : qG) (h0 : Nat) (x1 : Int32) (x2 : Int32) (x3 : Int32) (x4 : Int32) (σ : qS) (post : qS → Prop) : Prop := ∀ v1 : Int64, v1 = 0 → ∀ v2 : Int32, v2 = 0 → ∃ n25 : Nat, lpX1_addAt_6 G h0 x1 x2 x3 x4 post (fun (w12 : Int64) (σ13 : qS) => ∃ n24 : Nat, lpX1_addAt_76 G h0 x1 x2 post (fun  (σ23 : qS) => post σ23) n24 w12 x4 σ13) n25 v1 v2 σ
set_option maxHeartbeats 4000000 in
set_option maxRecDepth 100000 in
theorem sdX1_addAt {l : Launch} {E : qE} {L : List Nat} {G : qG} (hN : L.Nodup) (hG : q_WF G L) {h0 : Nat} {x1 : Int32} {x2 : Int32} {x3 : Int32} {x4 : Int32} (Lh0 : h0 ∈ L) (Kh0 : G.1 h0 = 1) {σ : qS} {post : qS → Prop} (h : wpX1_addAt G h0 x1 x2 x3 x4 σ post) : MtV l E L G yX1_addAt wsX1_addAt (q_rm 1) [.ref h0, .int x1, .int x2, .int x3, .int x4] σ post := by
  refine q_met (Qc := fun sz => va_Qv post (q_B E L G) (q_free L sz)) (cc := cX1_addAt) (maxL := 10) (ret := none) (own := RX1) (by decide) rfl rfl (Nat.le_of_ble_eq_true rfl) hN hG ?_
  intro p e s m below meth c C
  unfold wpX1_addAt at h
  refine q_lconst (pc := 0) (v := 0) C dX1_addAt_0 (by decide) ?_
  refine q_topl (fun v1 ev1 => ?_)
  replace h := h v1 ev1
  refine q_lstore (pc := 1) (lv' := [(5, .long v1), (0, .ref h0), (1, .int x1), (2, .int x2), (3, .int x3), (4, .int x4)]) C dX1_addAt_1 (by decide) rfl ?_
  refine q_iconst (pc := 3) (v := 0) C dX1_addAt_3 (by decide) ?_
  refine q_topi (fun v2 ev2 => ?_)
  replace h := h v2 ev2
  refine q_istore (pc := 4) (lv' := [(7, .int v2), (5, .long v1), (0, .ref h0), (1, .int x1), (2, .int x2), (3, .int x3), (4, .int x4)]) C dX1_addAt_4 (by decide) rfl ?_
  refine q_lv (lv' := [(0, .ref h0), (1, .int x1), (2, .int x2), (3, .int x3), (4, .int x4), (5, .long v1), (7, .int v2)]) [2, 3, 4, 5, 6, 1, 0] rfl ?_
  obtain ⟨n25, h⟩ := h
  refine slX1_addAt_6 C Lh0 Kh0 ?_ n25 v1 v2 σ h
  · intro w12 σ13 h
    refine q_iload (pc := 72) C dX1_addAt_72 3 rfl ?_
    refine q_istore (pc := 74) (lv' := [(7, .int x4), (0, .ref h0), (1, .int x1), (2, .int x2), (4, .int x4), (5, .long w12)]) C dX1_addAt_74 (by decide) rfl ?_
    refine q_lv (lv' := [(0, .ref h0), (1, .int x1), (2, .int x2), (5, .long w12), (7, .int x4)]) [1, 2, 3, 5, 0] rfl ?_
    obtain ⟨n24, h⟩ := h
    refine slX1_addAt_76 C Lh0 Kh0 ?_ n24 w12 x4 σ13 h
    · intro σ23 h
      exact q_vret (pc := 127) C dX1_addAt_127 h
theorem mwX1_subtractAt_0 : ∀ w ∈ wsX10, w ∈ wsX1_subtractAt := by decide +kernel
theorem mwX1_subtractAt_1 : Cond.fieldLink RX1 29 "IntFile$Products" "row" "[I" ∈ wsX1_subtractAt := by decide +kernel
theorem mwX1_subtractAt_2 : Cond.constantLong RX1 72 (4294967295) ∈ wsX1_subtractAt := by decide +kernel
def bkX1_subtractAt_71 (G : qG) (h0 : Nat) (x1 : Int32) (x2 : Int32) (x3 : Int32) (x4 : Int32) (x7 : Int32) (s0 : Int64) (post : qS → Prop) (kb6 : Int64 → Int32 → qS → Prop) (σ : qS) : Prop := ∀ v11 : Int32, v11 = x7 + 1 → kb6 s0 v11 σ
set_option maxHeartbeats 4000000 in
set_option maxRecDepth 100000 in
theorem sbX1_subtractAt_71 {p : Program} {l : Launch} {e : Env} {s : State} {m : MethodId} {args : Array Value} {below : List Frame} {meth : Method} {c : Code} {E : qE} {L : List Nat} {G : qG} {A : Nat → Prop} (C : q_C p s m args meth c cX1_subtractAt 10 wsX1_subtractAt RX1 none E L G A) {h0 : Nat} {x1 : Int32} {x2 : Int32} {x3 : Int32} {x4 : Int32} {x7 : Int32} {s0 : Int64} (Lh0 : h0 ∈ L) (Kh0 : G.1 h0 = 1) {post : qS → Prop} {kb6 : Int64 → Int32 → qS → Prop} (Hkb6 : ∀ (y5 : Int64) (y7 : Int32) (τ : qS), kb6 y5 y7 τ → Wd p l e (q_rm 1) s m args below meth c E L G A (MQ below (va_Qv post (q_B E L G) A) args s 0 0 A) 10 τ 6 [(0, .ref h0), (1, .int x1), (2, .int x2), (3, .int x3), (4, .int x4), (5, .long y5), (7, .int y7)] []) {σ : qS} (h : bkX1_subtractAt_71 G h0 x1 x2 x3 x4 x7 s0 post kb6 σ) : Wd p l e (q_rm 1) s m args below meth c E L G A (MQ below (va_Qv post (q_B E L G) A) args s 0 0 A) 10 σ 71 [(0, .ref h0), (1, .int x1), (2, .int x2), (3, .int x3), (4, .int x4), (7, .int x7)] [.long s0] := by
  unfold bkX1_subtractAt_71 at h
  refine q_lstore (pc := 71) (lv' := [(5, .long s0), (0, .ref h0), (1, .int x1), (2, .int x2), (3, .int x3), (4, .int x4), (7, .int x7)]) C dX1_subtractAt_71 (by decide) rfl ?_
  obtain ⟨v11, ev11⟩ : ∃ z : Int32, z = x7 + 1 := ⟨_, rfl⟩
  replace h := h v11 ev11
  refine q_iinc (pc := 73) (v := v11) (j := 6) (lv' := [(7, .int v11), (5, .long s0), (0, .ref h0), (1, .int x1), (2, .int x2), (3, .int x3), (4, .int x4)]) C dX1_subtractAt_73 rfl (by rw [ev11]; rfl) (by decide) rfl ?_
  refine q_goto (tgt := 6) (pc := 76) C dX1_subtractAt_76 (by decide) ?_
  refine q_lv (lv' := [(0, .ref h0), (1, .int x1), (2, .int x2), (3, .int x3), (4, .int x4), (5, .long s0), (7, .int v11)]) [2, 3, 4, 5, 6, 1, 0] rfl ?_
  exact Hkb6 s0 v11 σ h
def lpX1_subtractAt_6 (G : qG) (h0 : Nat) (x1 : Int32) (x2 : Int32) (x3 : Int32) (x4 : Int32) (post : qS → Prop) (kx79 : Int64 → qS → Prop) : Nat → Int64 → Int32 → qS → Prop
  | 0, _, _, _ => False
  | n + 1, x5, x7, σ => ((x4 ≤ x7 → kx79 x5 σ) ∧ (¬ x4 ≤ x7 → vp_in (x1 + x7) (G.2.2 ((G.2.1 h0 1))) ∧ vp_in (x3 + x7) (G.2.2 ((G.2.1 h0 1))) ∧ ∀ v7 : Int64, v7 = ((((σ ((G.2.1 h0 1)) (x1 + x7).toNatClampNeg).toInt64) &&& 4294967295) - (((σ ((G.2.1 h0 1)) (x3 + x7).toNatClampNeg).toInt64) &&& 4294967295)) - x5 → vp_in (x1 + x7) (G.2.2 ((G.2.1 h0 1))) ∧ ∀ σ9 : qS, σ9 = q_st σ ((G.2.1 h0 1)) (x1 + x7).toNatClampNeg v7.toInt32 → ((0 ≤ (lg_cmp v7 0) → bkX1_subtractAt_71 G h0 x1 x2 x3 x4 x7 0 post (lpX1_subtractAt_6 G h0 x1 x2 x3 x4 post kx79 n) σ9) ∧ (¬ 0 ≤ (lg_cmp v7 0) → bkX1_subtractAt_71 G h0 x1 x2 x3 x4 x7 1 post (lpX1_subtractAt_6 G h0 x1 x2 x3 x4 post kx79 n) σ9))))
set_option maxHeartbeats 4000000 in
set_option maxRecDepth 100000 in
theorem slX1_subtractAt_6 {p : Program} {l : Launch} {e : Env} {s : State} {m : MethodId} {args : Array Value} {below : List Frame} {meth : Method} {c : Code} {E : qE} {L : List Nat} {G : qG} {A : Nat → Prop} (C : q_C p s m args meth c cX1_subtractAt 10 wsX1_subtractAt RX1 none E L G A) {h0 : Nat} {x1 : Int32} {x2 : Int32} {x3 : Int32} {x4 : Int32} (Lh0 : h0 ∈ L) (Kh0 : G.1 h0 = 1) {post : qS → Prop} {kx79 : Int64 → qS → Prop} (Hkx79 : ∀ (y5 : Int64) (τ : qS), kx79 y5 τ → Wd p l e (q_rm 1) s m args below meth c E L G A (MQ below (va_Qv post (q_B E L G) A) args s 0 0 A) 10 τ 79 [(0, .ref h0), (1, .int x1), (2, .int x2), (4, .int x4), (5, .long y5)] []) : ∀ (n : Nat) (x5 : Int64) (x7 : Int32) (σ : qS), lpX1_subtractAt_6 G h0 x1 x2 x3 x4 post kx79 n x5 x7 σ → Wd p l e (q_rm 1) s m args below meth c E L G A (MQ below (va_Qv post (q_B E L G) A) args s 0 0 A) 10 σ 6 [(0, .ref h0), (1, .int x1), (2, .int x2), (3, .int x3), (4, .int x4), (5, .long x5), (7, .int x7)] [] := by
  intro n
  induction n with
  | zero => intro x5 x7 σ h; exact h.elim
  | succ n ih =>
    intro x5 x7 σ h
    unfold lpX1_subtractAt_6 at h
    refine q_iload (pc := 6) C dX1_subtractAt_6 6 rfl ?_
    refine q_iload (pc := 8) C dX1_subtractAt_8 4 rfl ?_
    refine q_icmp_ge (tgt := 79) (pc := 10) C dX1_subtractAt_10 (by decide) (fun c3 => ?_) (fun c3 => ?_)
    · replace h := h.1 c3
      refine q_lv (lv' := [(0, .ref h0), (1, .int x1), (2, .int x2), (4, .int x4), (5, .long x5)]) [0, 1, 2, 4, 5] rfl ?_
      exact Hkx79 x5 σ h
    · replace h := h.2 c3
      refine q_aload_n (pc := 13) C dX1_subtractAt_13 rfl 0 rfl ?_
      obtain ⟨Lr4, Kr4⟩ := qw_1_1 C.2.2.2.2.2.2 Lh0 Kh0
      refine q_g1_1 (pc := 14) C Lh0 Kh0 mwX1_subtractAt_0 mwX1_subtractAt_1 dX1_subtractAt_14 ?_
      refine q_iload_n (pc := 17) C dX1_subtractAt_17 rfl 1 rfl ?_
      refine q_iload (pc := 18) C dX1_subtractAt_18 6 rfl ?_
      refine q_iadd (pc := 20) C dX1_subtractAt_20 ?_
      obtain ⟨b5, h⟩ := h
      refine q_iald (pc := 21) C Lr4 Kr4 b5 dX1_subtractAt_21 ?_
      refine q_i2l (pc := 22) C dX1_subtractAt_22 ?_
      refine q_ldc2 (pc := 23) (v := 4294967295) C dX1_subtractAt_23 mwX1_subtractAt_2 ?_
      refine q_land (pc := 26) C dX1_subtractAt_26 ?_
      refine q_aload_n (pc := 27) C dX1_subtractAt_27 rfl 0 rfl ?_
      refine q_g1_1 (pc := 28) C Lh0 Kh0 mwX1_subtractAt_0 mwX1_subtractAt_1 dX1_subtractAt_28 ?_
      refine q_iload_n (pc := 31) C dX1_subtractAt_31 rfl 3 rfl ?_
      refine q_iload (pc := 32) C dX1_subtractAt_32 6 rfl ?_
      refine q_iadd (pc := 34) C dX1_subtractAt_34 ?_
      obtain ⟨b6, h⟩ := h
      refine q_iald (pc := 35) C Lr4 Kr4 b6 dX1_subtractAt_35 ?_
      refine q_i2l (pc := 36) C dX1_subtractAt_36 ?_
      refine q_ldc2 (pc := 37) (v := 4294967295) C dX1_subtractAt_37 mwX1_subtractAt_2 ?_
      refine q_land (pc := 40) C dX1_subtractAt_40 ?_
      refine q_lsub (pc := 41) C dX1_subtractAt_41 ?_
      refine q_lload (pc := 42) C dX1_subtractAt_42 5 rfl ?_
      refine q_lsub (pc := 44) C dX1_subtractAt_44 ?_
      refine q_topl (fun v7 ev7 => ?_)
      replace h := h v7 ev7
      refine q_lstore (pc := 45) (lv' := [(8, .long v7), (0, .ref h0), (1, .int x1), (2, .int x2), (3, .int x3), (4, .int x4), (5, .long x5), (7, .int x7)]) C dX1_subtractAt_45 (by decide) rfl ?_
      refine q_aload_n (pc := 47) C dX1_subtractAt_47 rfl 1 rfl ?_
      refine q_g1_1 (pc := 48) C Lh0 Kh0 mwX1_subtractAt_0 mwX1_subtractAt_1 dX1_subtractAt_48 ?_
      refine q_iload_n (pc := 51) C dX1_subtractAt_51 rfl 2 rfl ?_
      refine q_iload (pc := 52) C dX1_subtractAt_52 7 rfl ?_
      refine q_iadd (pc := 54) C dX1_subtractAt_54 ?_
      refine q_lload (pc := 55) C dX1_subtractAt_55 0 rfl ?_
      refine q_l2i (pc := 57) C dX1_subtractAt_57 ?_
      obtain ⟨b8, h⟩ := h
      refine q_iast (pc := 58) C Lr4 Kr4 b8 dX1_subtractAt_58 (fun σ9 eσ9 => ?_)
      replace h := h σ9 eσ9
      refine q_lload (pc := 59) C dX1_subtractAt_59 0 rfl ?_
      refine q_lconst (pc := 61) (v := 0) C dX1_subtractAt_61 (by decide) ?_
      refine q_lcmp (pc := 62) C dX1_subtractAt_62 ?_
      refine q_if_ge (tgt := 70) (pc := 63) C dX1_subtractAt_63 (by decide) (fun c10 => ?_) (fun c10 => ?_)
      · replace h := h.1 c10
        refine q_lconst (pc := 70) (v := 0) C dX1_subtractAt_70 (by decide) ?_
        refine q_lv (lv' := [(0, .ref h0), (1, .int x1), (2, .int x2), (3, .int x3), (4, .int x4), (7, .int x7)]) [1, 2, 3, 4, 5, 7] rfl ?_
        exact sbX1_subtractAt_71 C Lh0 Kh0 ih h
      · replace h := h.2 c10
        refine q_lconst (pc := 66) (v := 1) C dX1_subtractAt_66 (by decide) ?_
        refine q_goto (tgt := 71) (pc := 67) C dX1_subtractAt_67 (by decide) ?_
        refine q_lv (lv' := [(0, .ref h0), (1, .int x1), (2, .int x2), (3, .int x3), (4, .int x4), (7, .int x7)]) [1, 2, 3, 4, 5, 7] rfl ?_
        exact sbX1_subtractAt_71 C Lh0 Kh0 ih h
def bkX1_subtractAt_127 (G : qG) (h0 : Nat) (x1 : Int32) (x2 : Int32) (x7 : Int32) (s0 : Int64) (post : qS → Prop) (kb83 : Int64 → Int32 → qS → Prop) (σ : qS) : Prop := ∀ v22 : Int32, v22 = x7 + 1 → kb83 s0 v22 σ
set_option maxHeartbeats 4000000 in
set_option maxRecDepth 100000 in
theorem sbX1_subtractAt_127 {p : Program} {l : Launch} {e : Env} {s : State} {m : MethodId} {args : Array Value} {below : List Frame} {meth : Method} {c : Code} {E : qE} {L : List Nat} {G : qG} {A : Nat → Prop} (C : q_C p s m args meth c cX1_subtractAt 10 wsX1_subtractAt RX1 none E L G A) {h0 : Nat} {x1 : Int32} {x2 : Int32} {x7 : Int32} {s0 : Int64} (Lh0 : h0 ∈ L) (Kh0 : G.1 h0 = 1) {post : qS → Prop} {kb83 : Int64 → Int32 → qS → Prop} (Hkb83 : ∀ (y5 : Int64) (y7 : Int32) (τ : qS), kb83 y5 y7 τ → Wd p l e (q_rm 1) s m args below meth c E L G A (MQ below (va_Qv post (q_B E L G) A) args s 0 0 A) 10 τ 83 [(0, .ref h0), (1, .int x1), (2, .int x2), (5, .long y5), (7, .int y7)] []) {σ : qS} (h : bkX1_subtractAt_127 G h0 x1 x2 x7 s0 post kb83 σ) : Wd p l e (q_rm 1) s m args below meth c E L G A (MQ below (va_Qv post (q_B E L G) A) args s 0 0 A) 10 σ 127 [(0, .ref h0), (1, .int x1), (2, .int x2), (7, .int x7)] [.long s0] := by
  unfold bkX1_subtractAt_127 at h
  refine q_lstore (pc := 127) (lv' := [(5, .long s0), (0, .ref h0), (1, .int x1), (2, .int x2), (7, .int x7)]) C dX1_subtractAt_127 (by decide) rfl ?_
  obtain ⟨v22, ev22⟩ : ∃ z : Int32, z = x7 + 1 := ⟨_, rfl⟩
  replace h := h v22 ev22
  refine q_iinc (pc := 129) (v := v22) (j := 4) (lv' := [(7, .int v22), (5, .long s0), (0, .ref h0), (1, .int x1), (2, .int x2)]) C dX1_subtractAt_129 rfl (by rw [ev22]; rfl) (by decide) rfl ?_
  refine q_goto (tgt := 83) (pc := 132) C dX1_subtractAt_132 (by decide) ?_
  refine q_lv (lv' := [(0, .ref h0), (1, .int x1), (2, .int x2), (5, .long s0), (7, .int v22)]) [2, 3, 4, 1, 0] rfl ?_
  exact Hkb83 s0 v22 σ h
def lpX1_subtractAt_83 (G : qG) (h0 : Nat) (x1 : Int32) (x2 : Int32) (post : qS → Prop) (kx135 : qS → Prop) : Nat → Int64 → Int32 → qS → Prop
  | 0, _, _, _ => False
  | n + 1, x5, x7, σ => ((x2 ≤ x7 → kx135 σ) ∧ (¬ x2 ≤ x7 → (((lg_cmp x5 0) = 0 → kx135 σ) ∧ (¬ (lg_cmp x5 0) = 0 → vp_in (x1 + x7) (G.2.2 ((G.2.1 h0 1))) ∧ vp_in (x1 + x7) (G.2.2 ((G.2.1 h0 1))) ∧ ∀ σ19 : qS, σ19 = q_st σ ((G.2.1 h0 1)) (x1 + x7).toNatClampNeg (((σ ((G.2.1 h0 1)) (x1 + x7).toNatClampNeg) - 1)) → vp_in (x1 + x7) (G.2.2 ((G.2.1 h0 1))) ∧ (((σ19 ((G.2.1 h0 1)) (x1 + x7).toNatClampNeg) = ((-1)) → bkX1_subtractAt_127 G h0 x1 x2 x7 1 post (lpX1_subtractAt_83 G h0 x1 x2 post kx135 n) σ19) ∧ (¬ (σ19 ((G.2.1 h0 1)) (x1 + x7).toNatClampNeg) = ((-1)) → bkX1_subtractAt_127 G h0 x1 x2 x7 0 post (lpX1_subtractAt_83 G h0 x1 x2 post kx135 n) σ19))))))
set_option maxHeartbeats 4000000 in
set_option maxRecDepth 100000 in
theorem slX1_subtractAt_83 {p : Program} {l : Launch} {e : Env} {s : State} {m : MethodId} {args : Array Value} {below : List Frame} {meth : Method} {c : Code} {E : qE} {L : List Nat} {G : qG} {A : Nat → Prop} (C : q_C p s m args meth c cX1_subtractAt 10 wsX1_subtractAt RX1 none E L G A) {h0 : Nat} {x1 : Int32} {x2 : Int32} (Lh0 : h0 ∈ L) (Kh0 : G.1 h0 = 1) {post : qS → Prop} {kx135 : qS → Prop} (Hkx135 : ∀  (τ : qS), kx135  τ → Wd p l e (q_rm 1) s m args below meth c E L G A (MQ below (va_Qv post (q_B E L G) A) args s 0 0 A) 10 τ 135 [] []) : ∀ (n : Nat) (x5 : Int64) (x7 : Int32) (σ : qS), lpX1_subtractAt_83 G h0 x1 x2 post kx135 n x5 x7 σ → Wd p l e (q_rm 1) s m args below meth c E L G A (MQ below (va_Qv post (q_B E L G) A) args s 0 0 A) 10 σ 83 [(0, .ref h0), (1, .int x1), (2, .int x2), (5, .long x5), (7, .int x7)] [] := by
  intro n
  induction n with
  | zero => intro x5 x7 σ h; exact h.elim
  | succ n ih =>
    intro x5 x7 σ h
    unfold lpX1_subtractAt_83 at h
    refine q_iload (pc := 83) C dX1_subtractAt_83 4 rfl ?_
    refine q_iload_n (pc := 85) C dX1_subtractAt_85 rfl 2 rfl ?_
    refine q_icmp_ge (tgt := 135) (pc := 86) C dX1_subtractAt_86 (by decide) (fun c14 => ?_) (fun c14 => ?_)
    · replace h := h.1 c14
      refine q_lv (lv' := []) [] rfl ?_
      exact Hkx135  σ h
    · replace h := h.2 c14
      refine q_lload (pc := 89) C dX1_subtractAt_89 3 rfl ?_
      refine q_lconst (pc := 91) (v := 0) C dX1_subtractAt_91 (by decide) ?_
      refine q_lcmp (pc := 92) C dX1_subtractAt_92 ?_
      refine q_if_eq (tgt := 135) (pc := 93) C dX1_subtractAt_93 (by decide) (fun c15 => ?_) (fun c15 => ?_)
      · replace h := h.1 c15
        refine q_lv (lv' := []) [] rfl ?_
        exact Hkx135  σ h
      · replace h := h.2 c15
        refine q_aload_n (pc := 96) C dX1_subtractAt_96 rfl 0 rfl ?_
        obtain ⟨Lr16, Kr16⟩ := qw_1_1 C.2.2.2.2.2.2 Lh0 Kh0
        refine q_g1_1 (pc := 97) C Lh0 Kh0 mwX1_subtractAt_0 mwX1_subtractAt_1 dX1_subtractAt_97 ?_
        refine q_iload_n (pc := 100) C dX1_subtractAt_100 rfl 1 rfl ?_
        refine q_iload (pc := 101) C dX1_subtractAt_101 4 rfl ?_
        refine q_iadd (pc := 103) C dX1_subtractAt_103 ?_
        refine q_dup2_11 (pc := 104) C dX1_subtractAt_104 rfl rfl ?_
        obtain ⟨b17, h⟩ := h
        refine q_iald (pc := 105) C Lr16 Kr16 b17 dX1_subtractAt_105 ?_
        refine q_iconst (pc := 106) (v := 1) C dX1_subtractAt_106 (by decide) ?_
        refine q_isub (pc := 107) C dX1_subtractAt_107 ?_
        obtain ⟨b18, h⟩ := h
        refine q_iast (pc := 108) C Lr16 Kr16 b18 dX1_subtractAt_108 (fun σ19 eσ19 => ?_)
        replace h := h σ19 eσ19
        refine q_aload_n (pc := 109) C dX1_subtractAt_109 rfl 0 rfl ?_
        refine q_g1_1 (pc := 110) C Lh0 Kh0 mwX1_subtractAt_0 mwX1_subtractAt_1 dX1_subtractAt_110 ?_
        refine q_iload_n (pc := 113) C dX1_subtractAt_113 rfl 1 rfl ?_
        refine q_iload (pc := 114) C dX1_subtractAt_114 4 rfl ?_
        refine q_iadd (pc := 116) C dX1_subtractAt_116 ?_
        obtain ⟨b20, h⟩ := h
        refine q_iald (pc := 117) C Lr16 Kr16 b20 dX1_subtractAt_117 ?_
        refine q_iconst (pc := 118) (v := (-1)) C dX1_subtractAt_118 (by decide) ?_
        refine q_icmp_ne (tgt := 126) (pc := 119) C dX1_subtractAt_119 (by decide) (fun c21 => ?_) (fun c21 => ?_)
        · replace h := h.2 c21
          refine q_lconst (pc := 126) (v := 0) C dX1_subtractAt_126 (by decide) ?_
          refine q_lv (lv' := [(0, .ref h0), (1, .int x1), (2, .int x2), (7, .int x7)]) [0, 1, 2, 4] rfl ?_
          exact sbX1_subtractAt_127 C Lh0 Kh0 ih h
        · replace h := h.1 c21
          refine q_lconst (pc := 122) (v := 1) C dX1_subtractAt_122 (by decide) ?_
          refine q_goto (tgt := 127) (pc := 123) C dX1_subtractAt_123 (by decide) ?_
          refine q_lv (lv' := [(0, .ref h0), (1, .int x1), (2, .int x2), (7, .int x7)]) [0, 1, 2, 4] rfl ?_
          exact sbX1_subtractAt_127 C Lh0 Kh0 ih h
def wpX1_subtractAt (G : qG) (h0 : Nat) (x1 : Int32) (x2 : Int32) (x3 : Int32) (x4 : Int32) (σ : qS) (post : qS → Prop) : Prop := ∀ v1 : Int64, v1 = 0 → ∀ v2 : Int32, v2 = 0 → ∃ n25 : Nat, lpX1_subtractAt_6 G h0 x1 x2 x3 x4 post (fun (w12 : Int64) (σ13 : qS) => ∃ n24 : Nat, lpX1_subtractAt_83 G h0 x1 x2 post (fun  (σ23 : qS) => post σ23) n24 w12 x4 σ13) n25 v1 v2 σ
set_option maxHeartbeats 4000000 in
set_option maxRecDepth 100000 in
theorem sdX1_subtractAt {l : Launch} {E : qE} {L : List Nat} {G : qG} (hN : L.Nodup) (hG : q_WF G L) {h0 : Nat} {x1 : Int32} {x2 : Int32} {x3 : Int32} {x4 : Int32} (Lh0 : h0 ∈ L) (Kh0 : G.1 h0 = 1) {σ : qS} {post : qS → Prop} (h : wpX1_subtractAt G h0 x1 x2 x3 x4 σ post) : MtV l E L G yX1_subtractAt wsX1_subtractAt (q_rm 1) [.ref h0, .int x1, .int x2, .int x3, .int x4] σ post := by
  refine q_met (Qc := fun sz => va_Qv post (q_B E L G) (q_free L sz)) (cc := cX1_subtractAt) (maxL := 10) (ret := none) (own := RX1) (by decide) rfl rfl (Nat.le_of_ble_eq_true rfl) hN hG ?_
  intro p e s m below meth c C
  unfold wpX1_subtractAt at h
  refine q_lconst (pc := 0) (v := 0) C dX1_subtractAt_0 (by decide) ?_
  refine q_topl (fun v1 ev1 => ?_)
  replace h := h v1 ev1
  refine q_lstore (pc := 1) (lv' := [(5, .long v1), (0, .ref h0), (1, .int x1), (2, .int x2), (3, .int x3), (4, .int x4)]) C dX1_subtractAt_1 (by decide) rfl ?_
  refine q_iconst (pc := 3) (v := 0) C dX1_subtractAt_3 (by decide) ?_
  refine q_topi (fun v2 ev2 => ?_)
  replace h := h v2 ev2
  refine q_istore (pc := 4) (lv' := [(7, .int v2), (5, .long v1), (0, .ref h0), (1, .int x1), (2, .int x2), (3, .int x3), (4, .int x4)]) C dX1_subtractAt_4 (by decide) rfl ?_
  refine q_lv (lv' := [(0, .ref h0), (1, .int x1), (2, .int x2), (3, .int x3), (4, .int x4), (5, .long v1), (7, .int v2)]) [2, 3, 4, 5, 6, 1, 0] rfl ?_
  obtain ⟨n25, h⟩ := h
  refine slX1_subtractAt_6 C Lh0 Kh0 ?_ n25 v1 v2 σ h
  · intro w12 σ13 h
    refine q_iload (pc := 79) C dX1_subtractAt_79 3 rfl ?_
    refine q_istore (pc := 81) (lv' := [(7, .int x4), (0, .ref h0), (1, .int x1), (2, .int x2), (4, .int x4), (5, .long w12)]) C dX1_subtractAt_81 (by decide) rfl ?_
    refine q_lv (lv' := [(0, .ref h0), (1, .int x1), (2, .int x2), (5, .long w12), (7, .int x4)]) [1, 2, 3, 5, 0] rfl ?_
    obtain ⟨n24, h⟩ := h
    refine slX1_subtractAt_83 C Lh0 Kh0 ?_ n24 w12 x4 σ13 h
    · intro σ23 h
      exact q_vret (pc := 135) C dX1_subtractAt_135 h
theorem mwX1_sumHalves_0 : ∀ w ∈ wsX10, w ∈ wsX1_sumHalves := by decide +kernel
theorem mwX1_sumHalves_1 : Cond.fieldLink RX1 29 "IntFile$Products" "row" "[I" ∈ wsX1_sumHalves := by decide +kernel
theorem mwX1_sumHalves_2 : Cond.methodLink RX1 41 arraycopyName ∈ wsX1_sumHalves := by decide +kernel
theorem mwX1_sumHalves_3 : Cond.native arraycopyName ∈ wsX1_sumHalves := by decide +kernel
theorem mwX1_sumHalves_4 : Cond.static arraycopyName ∈ wsX1_sumHalves := by decide +kernel
theorem mwX1_sumHalves_5 : Cond.initialized "java/lang/System" ∈ wsX1_sumHalves := by decide +kernel
def wpX1_sumHalves (G : qG) (h0 : Nat) (x1 : Int32) (x2 : Int32) (x3 : Int32) (x4 : Int32) (σ : qS) (post : qS → Prop) : Prop := ¬ x1 < 0 ∧ ¬ x4 < 0 ∧ ¬ x3 < 0 ∧ x1.toNatClampNeg + x3.toNatClampNeg ≤ G.2.2 ((G.2.1 h0 1)) ∧ x4.toNatClampNeg + x3.toNatClampNeg ≤ G.2.2 ((G.2.1 h0 1)) ∧ ∀ σ2 : qS, σ2 = q_cp σ ((G.2.1 h0 1)) x1.toNatClampNeg ((G.2.1 h0 1)) x4.toNatClampNeg x3.toNatClampNeg → vp_in (x4 + x3) (G.2.2 ((G.2.1 h0 1))) ∧ ∀ σ9 : qS, σ9 = q_st σ2 ((G.2.1 h0 1)) (x4 + x3).toNatClampNeg 0 → wpX1_addAt G h0 x4 (x3 + 1) (x1 + x3) (x2 - x3) σ9 (fun (σ10 : qS) => post σ10)
set_option maxHeartbeats 4000000 in
set_option maxRecDepth 100000 in
theorem sdX1_sumHalves {l : Launch} {E : qE} {L : List Nat} {G : qG} (hN : L.Nodup) (hG : q_WF G L) {h0 : Nat} {x1 : Int32} {x2 : Int32} {x3 : Int32} {x4 : Int32} (Lh0 : h0 ∈ L) (Kh0 : G.1 h0 = 1) {σ : qS} {post : qS → Prop} (h : wpX1_sumHalves G h0 x1 x2 x3 x4 σ post) : MtV l E L G yX1_sumHalves wsX1_sumHalves (q_rm 2) [.ref h0, .int x1, .int x2, .int x3, .int x4] σ post := by
  refine q_met (Qc := fun sz => va_Qv post (q_B E L G) (q_free L sz)) (cc := cX1_sumHalves) (maxL := 5) (ret := none) (own := RX1) (by decide) rfl rfl (Nat.le_of_ble_eq_true rfl) hN hG ?_
  intro p e s m below meth c C
  unfold wpX1_sumHalves at h
  refine q_aload_n (pc := 0) C dX1_sumHalves_0 rfl 0 rfl ?_
  obtain ⟨Lr1, Kr1⟩ := qw_1_1 C.2.2.2.2.2.2 Lh0 Kh0
  refine q_g1_1 (pc := 1) C Lh0 Kh0 mwX1_sumHalves_0 mwX1_sumHalves_1 dX1_sumHalves_1 ?_
  refine q_iload_n (pc := 4) C dX1_sumHalves_4 rfl 1 rfl ?_
  refine q_aload_n (pc := 5) C dX1_sumHalves_5 rfl 0 rfl ?_
  refine q_g1_1 (pc := 6) C Lh0 Kh0 mwX1_sumHalves_0 mwX1_sumHalves_1 dX1_sumHalves_6 ?_
  refine q_iload (pc := 9) C dX1_sumHalves_9 4 rfl ?_
  refine q_iload_n (pc := 11) C dX1_sumHalves_11 rfl 3 rfl ?_
  obtain ⟨b3, b4, b5, b6, b7, h⟩ := h
  refine q_copy (pc := 12) C mwX1_sumHalves_2 mwX1_sumHalves_3 mwX1_sumHalves_4 mwX1_sumHalves_5 Lr1 Kr1 Lr1 Kr1 b3 b4 b5 b6 b7 (by decide) (Nat.le_of_ble_eq_true rfl) dX1_sumHalves_12 (fun σ2 eσ2 => ?_)
  replace h := h σ2 eσ2
  refine q_aload_n (pc := 15) C dX1_sumHalves_15 rfl 0 rfl ?_
  refine q_g1_1 (pc := 16) C Lh0 Kh0 mwX1_sumHalves_0 mwX1_sumHalves_1 dX1_sumHalves_16 ?_
  refine q_iload (pc := 19) C dX1_sumHalves_19 4 rfl ?_
  refine q_iload_n (pc := 21) C dX1_sumHalves_21 rfl 3 rfl ?_
  refine q_iadd (pc := 22) C dX1_sumHalves_22 ?_
  refine q_iconst (pc := 23) (v := 0) C dX1_sumHalves_23 (by decide) ?_
  obtain ⟨b8, h⟩ := h
  refine q_iast (pc := 24) C Lr1 Kr1 b8 dX1_sumHalves_24 (fun σ9 eσ9 => ?_)
  replace h := h σ9 eσ9
  refine q_aload_n (pc := 25) C dX1_sumHalves_25 rfl 0 rfl ?_
  refine q_iload (pc := 26) C dX1_sumHalves_26 4 rfl ?_
  refine q_iload_n (pc := 28) C dX1_sumHalves_28 rfl 3 rfl ?_
  refine q_iconst (pc := 29) (v := 1) C dX1_sumHalves_29 (by decide) ?_
  refine q_iadd (pc := 30) C dX1_sumHalves_30 ?_
  refine q_iload_n (pc := 31) C dX1_sumHalves_31 rfl 1 rfl ?_
  refine q_iload_n (pc := 32) C dX1_sumHalves_32 rfl 3 rfl ?_
  refine q_iadd (pc := 33) C dX1_sumHalves_33 ?_
  refine q_iload_n (pc := 34) C dX1_sumHalves_34 rfl 2 rfl ?_
  refine q_iload_n (pc := 35) C dX1_sumHalves_35 rfl 3 rfl ?_
  refine q_isub (pc := 36) C dX1_sumHalves_36 ?_
  refine q_cVv (pc := 37) (As := [.int x4, .int (x3 + 1), .int (x1 + x3), .int (x2 - x3)]) (ci := 1) (Cn := RX1) (T := TX1) (N := 6) C (sdX1_addAt C.2.2.2.2.2.1 C.2.2.2.2.2.2 Lh0 Kh0 h) (cwV 4 C.1.2.2.2.2 gX1_sumHalves_X1_addAt rfl rfl rfl (by decide +kernel) (q_room (by decide) (by decide))) Lh0 (qc1 Kh0 _) rfl rfl rfl (Nat.le_of_ble_eq_true rfl) dX1_sumHalves_37 (fun σ10 h => ?_)
  exact q_vret (pc := 40) C dX1_sumHalves_40 h
theorem mwX1_multiplyLong_0 : ∀ w ∈ wsX10, w ∈ wsX1_multiplyLong := by decide +kernel
theorem mwX1_multiplyLong_1 : Cond.fieldLink RX1 29 "IntFile$Products" "row" "[I" ∈ wsX1_multiplyLong := by decide +kernel
theorem mwX1_multiplyLong_2 : Cond.constantLong RX1 72 (4294967295) ∈ wsX1_multiplyLong := by decide +kernel
def lpX1_multiplyLong_49 (G : qG) (h0 : Nat) (x1 : Int32) (x2 : Int32) (x3 : Int32) (x4 : Int32) (x5 : Int32) (x6 : Int32) (x7 : Int64) (post : qS → Prop) (kx125 : Int64 → qS → Prop) : Nat → Int64 → Int32 → qS → Prop
  | 0, _, _, _ => False
  | n + 1, x9, x11, σ => ((x2 ≤ x11 → kx125 x9 σ) ∧ (¬ x2 ≤ x11 → vp_in (x1 + x11) (G.2.2 ((G.2.1 h0 1))) ∧ vp_in ((x5 + x11) + x6) (G.2.2 ((G.2.1 h0 1))) ∧ ∀ v15 : Int64, v15 = (((((σ ((G.2.1 h0 1)) (x1 + x11).toNatClampNeg).toInt64) &&& 4294967295) * x7) + (((σ ((G.2.1 h0 1)) ((x5 + x11) + x6).toNatClampNeg).toInt64) &&& 4294967295)) + x9 → vp_in ((x5 + x11) + x6) (G.2.2 ((G.2.1 h0 1))) ∧ ∀ σ17 : qS, σ17 = q_st σ ((G.2.1 h0 1)) ((x5 + x11) + x6).toNatClampNeg v15.toInt32 → ∀ v18 : Int64, v18 = (v15.toUInt64 >>> ((32 : Int32).toInt64.toUInt64 &&& Int64.toUInt64 63)).toInt64 → ∀ v19 : Int32, v19 = x11 + 1 → lpX1_multiplyLong_49 G h0 x1 x2 x3 x4 x5 x6 x7 post kx125 n v18 v19 σ17))
set_option maxHeartbeats 4000000 in
set_option maxRecDepth 100000 in
theorem slX1_multiplyLong_49 {p : Program} {l : Launch} {e : Env} {s : State} {m : MethodId} {args : Array Value} {below : List Frame} {meth : Method} {c : Code} {E : qE} {L : List Nat} {G : qG} {A : Nat → Prop} (C : q_C p s m args meth c cX1_multiplyLong 14 wsX1_multiplyLong RX1 none E L G A) {h0 : Nat} {x1 : Int32} {x2 : Int32} {x3 : Int32} {x4 : Int32} {x5 : Int32} {x6 : Int32} {x7 : Int64} (Lh0 : h0 ∈ L) (Kh0 : G.1 h0 = 1) {post : qS → Prop} {kx125 : Int64 → qS → Prop} (Hkx125 : ∀ (y9 : Int64) (τ : qS), kx125 y9 τ → Wd p l e (q_rm 3) s m args below meth c E L G A (MQ below (va_Qv post (q_B E L G) A) args s 0 0 A) 14 τ 125 [(0, .ref h0), (1, .int x1), (2, .int x2), (3, .int x3), (4, .int x4), (5, .int x5), (6, .int x6), (9, .long y9)] []) : ∀ (n : Nat) (x9 : Int64) (x11 : Int32) (σ : qS), lpX1_multiplyLong_49 G h0 x1 x2 x3 x4 x5 x6 x7 post kx125 n x9 x11 σ → Wd p l e (q_rm 3) s m args below meth c E L G A (MQ below (va_Qv post (q_B E L G) A) args s 0 0 A) 14 σ 49 [(0, .ref h0), (1, .int x1), (2, .int x2), (3, .int x3), (4, .int x4), (5, .int x5), (6, .int x6), (7, .long x7), (9, .long x9), (11, .int x11)] [] := by
  intro n
  induction n with
  | zero => intro x9 x11 σ h; exact h.elim
  | succ n ih =>
    intro x9 x11 σ h
    unfold lpX1_multiplyLong_49 at h
    refine q_iload (pc := 49) C dX1_multiplyLong_49 9 rfl ?_
    refine q_iload_n (pc := 51) C dX1_multiplyLong_51 rfl 2 rfl ?_
    refine q_icmp_ge (tgt := 125) (pc := 52) C dX1_multiplyLong_52 (by decide) (fun c11 => ?_) (fun c11 => ?_)
    · replace h := h.1 c11
      refine q_lv (lv' := [(0, .ref h0), (1, .int x1), (2, .int x2), (3, .int x3), (4, .int x4), (5, .int x5), (6, .int x6), (9, .long x9)]) [0, 1, 2, 3, 4, 5, 6, 8] rfl ?_
      exact Hkx125 x9 σ h
    · replace h := h.2 c11
      refine q_aload_n (pc := 55) C dX1_multiplyLong_55 rfl 0 rfl ?_
      obtain ⟨Lr12, Kr12⟩ := qw_1_1 C.2.2.2.2.2.2 Lh0 Kh0
      refine q_g1_1 (pc := 56) C Lh0 Kh0 mwX1_multiplyLong_0 mwX1_multiplyLong_1 dX1_multiplyLong_56 ?_
      refine q_iload_n (pc := 59) C dX1_multiplyLong_59 rfl 1 rfl ?_
      refine q_iload (pc := 60) C dX1_multiplyLong_60 9 rfl ?_
      refine q_iadd (pc := 62) C dX1_multiplyLong_62 ?_
      obtain ⟨b13, h⟩ := h
      refine q_iald (pc := 63) C Lr12 Kr12 b13 dX1_multiplyLong_63 ?_
      refine q_i2l (pc := 64) C dX1_multiplyLong_64 ?_
      refine q_ldc2 (pc := 65) (v := 4294967295) C dX1_multiplyLong_65 mwX1_multiplyLong_2 ?_
      refine q_land (pc := 68) C dX1_multiplyLong_68 ?_
      refine q_lload (pc := 69) C dX1_multiplyLong_69 7 rfl ?_
      refine q_lmul (pc := 71) C dX1_multiplyLong_71 ?_
      refine q_aload_n (pc := 72) C dX1_multiplyLong_72 rfl 0 rfl ?_
      refine q_g1_1 (pc := 73) C Lh0 Kh0 mwX1_multiplyLong_0 mwX1_multiplyLong_1 dX1_multiplyLong_73 ?_
      refine q_iload (pc := 76) C dX1_multiplyLong_76 5 rfl ?_
      refine q_iload (pc := 78) C dX1_multiplyLong_78 9 rfl ?_
      refine q_iadd (pc := 80) C dX1_multiplyLong_80 ?_
      refine q_iload (pc := 81) C dX1_multiplyLong_81 6 rfl ?_
      refine q_iadd (pc := 83) C dX1_multiplyLong_83 ?_
      obtain ⟨b14, h⟩ := h
      refine q_iald (pc := 84) C Lr12 Kr12 b14 dX1_multiplyLong_84 ?_
      refine q_i2l (pc := 85) C dX1_multiplyLong_85 ?_
      refine q_ldc2 (pc := 86) (v := 4294967295) C dX1_multiplyLong_86 mwX1_multiplyLong_2 ?_
      refine q_land (pc := 89) C dX1_multiplyLong_89 ?_
      refine q_ladd (pc := 90) C dX1_multiplyLong_90 ?_
      refine q_lload (pc := 91) C dX1_multiplyLong_91 8 rfl ?_
      refine q_ladd (pc := 93) C dX1_multiplyLong_93 ?_
      refine q_topl (fun v15 ev15 => ?_)
      replace h := h v15 ev15
      refine q_lstore (pc := 94) (lv' := [(12, .long v15), (0, .ref h0), (1, .int x1), (2, .int x2), (3, .int x3), (4, .int x4), (5, .int x5), (6, .int x6), (7, .long x7), (9, .long x9), (11, .int x11)]) C dX1_multiplyLong_94 (by decide) rfl ?_
      refine q_aload_n (pc := 96) C dX1_multiplyLong_96 rfl 1 rfl ?_
      refine q_g1_1 (pc := 97) C Lh0 Kh0 mwX1_multiplyLong_0 mwX1_multiplyLong_1 dX1_multiplyLong_97 ?_
      refine q_iload (pc := 100) C dX1_multiplyLong_100 6 rfl ?_
      refine q_iload (pc := 102) C dX1_multiplyLong_102 10 rfl ?_
      refine q_iadd (pc := 104) C dX1_multiplyLong_104 ?_
      refine q_iload (pc := 105) C dX1_multiplyLong_105 7 rfl ?_
      refine q_iadd (pc := 107) C dX1_multiplyLong_107 ?_
      refine q_lload (pc := 108) C dX1_multiplyLong_108 0 rfl ?_
      refine q_l2i (pc := 110) C dX1_multiplyLong_110 ?_
      obtain ⟨b16, h⟩ := h
      refine q_iast (pc := 111) C Lr12 Kr12 b16 dX1_multiplyLong_111 (fun σ17 eσ17 => ?_)
      replace h := h σ17 eσ17
      refine q_lload (pc := 112) C dX1_multiplyLong_112 0 rfl ?_
      refine q_bipush (pc := 114) (v := 32) C dX1_multiplyLong_114 (by decide) ?_
      refine q_lushr (pc := 116) C dX1_multiplyLong_116 ?_
      refine q_topl (fun v18 ev18 => ?_)
      replace h := h v18 ev18
      refine q_lstore (pc := 117) (lv' := [(9, .long v18), (12, .long v15), (0, .ref h0), (1, .int x1), (2, .int x2), (3, .int x3), (4, .int x4), (5, .int x5), (6, .int x6), (7, .long x7), (11, .int x11)]) C dX1_multiplyLong_117 (by decide) rfl ?_
      obtain ⟨v19, ev19⟩ : ∃ z : Int32, z = x11 + 1 := ⟨_, rfl⟩
      replace h := h v19 ev19
      refine q_iinc (pc := 119) (v := v19) (j := 10) (lv' := [(11, .int v19), (9, .long v18), (12, .long v15), (0, .ref h0), (1, .int x1), (2, .int x2), (3, .int x3), (4, .int x4), (5, .int x5), (6, .int x6), (7, .long x7)]) C dX1_multiplyLong_119 rfl (by rw [ev19]; rfl) (by decide) rfl ?_
      refine q_goto (tgt := 49) (pc := 122) C dX1_multiplyLong_122 (by decide) ?_
      refine q_lv (lv' := [(0, .ref h0), (1, .int x1), (2, .int x2), (3, .int x3), (4, .int x4), (5, .int x5), (6, .int x6), (7, .long x7), (9, .long v18), (11, .int v19)]) [3, 4, 5, 6, 7, 8, 9, 10, 1, 0] rfl ?_
      exact ih v18 v19 σ17 h
def lpX1_multiplyLong_20 (G : qG) (h0 : Nat) (x1 : Int32) (x2 : Int32) (x3 : Int32) (x4 : Int32) (x5 : Int32) (post : qS → Prop) (kx146 : qS → Prop) : Nat → Int32 → qS → Prop
  | 0, _, _ => False
  | n + 1, x6, σ => ((x4 ≤ x6 → kx146 σ) ∧ (¬ x4 ≤ x6 → vp_in (x3 + x6) (G.2.2 ((G.2.1 h0 1))) ∧ ∀ v8 : Int64, v8 = ((σ ((G.2.1 h0 1)) (x3 + x6).toNatClampNeg).toInt64) &&& 4294967295 → ∀ v9 : Int64, v9 = 0 → ∀ v10 : Int32, v10 = 0 → ∃ n25 : Nat, lpX1_multiplyLong_49 G h0 x1 x2 x3 x4 x5 x6 v8 post (fun (w20 : Int64) (σ21 : qS) => vp_in ((x5 + x2) + x6) (G.2.2 ((G.2.1 h0 1))) ∧ ∀ σ23 : qS, σ23 = q_st σ21 ((G.2.1 h0 1)) ((x5 + x2) + x6).toNatClampNeg w20.toInt32 → ∀ v24 : Int32, v24 = x6 + 1 → lpX1_multiplyLong_20 G h0 x1 x2 x3 x4 x5 post kx146 n v24 σ23) n25 v9 v10 σ))
set_option maxHeartbeats 4000000 in
set_option maxRecDepth 100000 in
theorem slX1_multiplyLong_20 {p : Program} {l : Launch} {e : Env} {s : State} {m : MethodId} {args : Array Value} {below : List Frame} {meth : Method} {c : Code} {E : qE} {L : List Nat} {G : qG} {A : Nat → Prop} (C : q_C p s m args meth c cX1_multiplyLong 14 wsX1_multiplyLong RX1 none E L G A) {h0 : Nat} {x1 : Int32} {x2 : Int32} {x3 : Int32} {x4 : Int32} {x5 : Int32} (Lh0 : h0 ∈ L) (Kh0 : G.1 h0 = 1) {post : qS → Prop} {kx146 : qS → Prop} (Hkx146 : ∀  (τ : qS), kx146  τ → Wd p l e (q_rm 3) s m args below meth c E L G A (MQ below (va_Qv post (q_B E L G) A) args s 0 0 A) 14 τ 146 [] []) : ∀ (n : Nat) (x6 : Int32) (σ : qS), lpX1_multiplyLong_20 G h0 x1 x2 x3 x4 x5 post kx146 n x6 σ → Wd p l e (q_rm 3) s m args below meth c E L G A (MQ below (va_Qv post (q_B E L G) A) args s 0 0 A) 14 σ 20 [(0, .ref h0), (1, .int x1), (2, .int x2), (3, .int x3), (4, .int x4), (5, .int x5), (6, .int x6)] [] := by
  intro n
  induction n with
  | zero => intro x6 σ h; exact h.elim
  | succ n ih =>
    intro x6 σ h
    unfold lpX1_multiplyLong_20 at h
    refine q_iload (pc := 20) C dX1_multiplyLong_20 6 rfl ?_
    refine q_iload (pc := 22) C dX1_multiplyLong_22 4 rfl ?_
    refine q_icmp_ge (tgt := 146) (pc := 24) C dX1_multiplyLong_24 (by decide) (fun c5 => ?_) (fun c5 => ?_)
    · replace h := h.1 c5
      refine q_lv (lv' := []) [] rfl ?_
      exact Hkx146  σ h
    · replace h := h.2 c5
      refine q_aload_n (pc := 27) C dX1_multiplyLong_27 rfl 0 rfl ?_
      obtain ⟨Lr6, Kr6⟩ := qw_1_1 C.2.2.2.2.2.2 Lh0 Kh0
      refine q_g1_1 (pc := 28) C Lh0 Kh0 mwX1_multiplyLong_0 mwX1_multiplyLong_1 dX1_multiplyLong_28 ?_
      refine q_iload_n (pc := 31) C dX1_multiplyLong_31 rfl 3 rfl ?_
      refine q_iload (pc := 32) C dX1_multiplyLong_32 6 rfl ?_
      refine q_iadd (pc := 34) C dX1_multiplyLong_34 ?_
      obtain ⟨b7, h⟩ := h
      refine q_iald (pc := 35) C Lr6 Kr6 b7 dX1_multiplyLong_35 ?_
      refine q_i2l (pc := 36) C dX1_multiplyLong_36 ?_
      refine q_ldc2 (pc := 37) (v := 4294967295) C dX1_multiplyLong_37 mwX1_multiplyLong_2 ?_
      refine q_land (pc := 40) C dX1_multiplyLong_40 ?_
      refine q_topl (fun v8 ev8 => ?_)
      replace h := h v8 ev8
      refine q_lstore (pc := 41) (lv' := [(7, .long v8), (0, .ref h0), (1, .int x1), (2, .int x2), (3, .int x3), (4, .int x4), (5, .int x5), (6, .int x6)]) C dX1_multiplyLong_41 (by decide) rfl ?_
      refine q_lconst (pc := 43) (v := 0) C dX1_multiplyLong_43 (by decide) ?_
      refine q_topl (fun v9 ev9 => ?_)
      replace h := h v9 ev9
      refine q_lstore (pc := 44) (lv' := [(9, .long v9), (7, .long v8), (0, .ref h0), (1, .int x1), (2, .int x2), (3, .int x3), (4, .int x4), (5, .int x5), (6, .int x6)]) C dX1_multiplyLong_44 (by decide) rfl ?_
      refine q_iconst (pc := 46) (v := 0) C dX1_multiplyLong_46 (by decide) ?_
      refine q_topi (fun v10 ev10 => ?_)
      replace h := h v10 ev10
      refine q_istore (pc := 47) (lv' := [(11, .int v10), (9, .long v9), (7, .long v8), (0, .ref h0), (1, .int x1), (2, .int x2), (3, .int x3), (4, .int x4), (5, .int x5), (6, .int x6)]) C dX1_multiplyLong_47 (by decide) rfl ?_
      refine q_lv (lv' := [(0, .ref h0), (1, .int x1), (2, .int x2), (3, .int x3), (4, .int x4), (5, .int x5), (6, .int x6), (7, .long v8), (9, .long v9), (11, .int v10)]) [3, 4, 5, 6, 7, 8, 9, 2, 1, 0] rfl ?_
      obtain ⟨n25, h⟩ := h
      refine slX1_multiplyLong_49 C Lh0 Kh0 ?_ n25 v9 v10 σ h
      · intro w20 σ21 h
        refine q_aload_n (pc := 125) C dX1_multiplyLong_125 rfl 0 rfl ?_
        refine q_g1_1 (pc := 126) C Lh0 Kh0 mwX1_multiplyLong_0 mwX1_multiplyLong_1 dX1_multiplyLong_126 ?_
        refine q_iload (pc := 129) C dX1_multiplyLong_129 5 rfl ?_
        refine q_iload_n (pc := 131) C dX1_multiplyLong_131 rfl 2 rfl ?_
        refine q_iadd (pc := 132) C dX1_multiplyLong_132 ?_
        refine q_iload (pc := 133) C dX1_multiplyLong_133 6 rfl ?_
        refine q_iadd (pc := 135) C dX1_multiplyLong_135 ?_
        refine q_lload (pc := 136) C dX1_multiplyLong_136 7 rfl ?_
        refine q_l2i (pc := 138) C dX1_multiplyLong_138 ?_
        obtain ⟨b22, h⟩ := h
        refine q_iast (pc := 139) C Lr6 Kr6 b22 dX1_multiplyLong_139 (fun σ23 eσ23 => ?_)
        replace h := h σ23 eσ23
        obtain ⟨v24, ev24⟩ : ∃ z : Int32, z = x6 + 1 := ⟨_, rfl⟩
        replace h := h v24 ev24
        refine q_iinc (pc := 140) (v := v24) (j := 6) (lv' := [(6, .int v24), (0, .ref h0), (1, .int x1), (2, .int x2), (3, .int x3), (4, .int x4), (5, .int x5), (9, .long w20)]) C dX1_multiplyLong_140 rfl (by rw [ev24]; rfl) (by decide) rfl ?_
        refine q_goto (tgt := 20) (pc := 143) C dX1_multiplyLong_143 (by decide) ?_
        refine q_lv (lv' := [(0, .ref h0), (1, .int x1), (2, .int x2), (3, .int x3), (4, .int x4), (5, .int x5), (6, .int v24)]) [1, 2, 3, 4, 5, 6, 0] rfl ?_
        exact ih v24 σ23 h
def wpX1_multiplyLong (G : qG) (h0 : Nat) (x1 : Int32) (x2 : Int32) (x3 : Int32) (x4 : Int32) (x5 : Int32) (σ : qS) (post : qS → Prop) : Prop := wpJ7_fill_fda19 G ((G.2.1 h0 1)) x5 ((x5 + x2) + x4) 0 σ (fun (σ2 : qS) => ∀ v4 : Int32, v4 = 0 → ∃ n27 : Nat, lpX1_multiplyLong_20 G h0 x1 x2 x3 x4 x5 post (fun  (σ26 : qS) => post σ26) n27 v4 σ2)
set_option maxHeartbeats 4000000 in
set_option maxRecDepth 100000 in
theorem sdX1_multiplyLong {l : Launch} {E : qE} {L : List Nat} {G : qG} (hN : L.Nodup) (hG : q_WF G L) {h0 : Nat} {x1 : Int32} {x2 : Int32} {x3 : Int32} {x4 : Int32} {x5 : Int32} (Lh0 : h0 ∈ L) (Kh0 : G.1 h0 = 1) {σ : qS} {post : qS → Prop} (h : wpX1_multiplyLong G h0 x1 x2 x3 x4 x5 σ post) : MtV l E L G yX1_multiplyLong wsX1_multiplyLong (q_rm 3) [.ref h0, .int x1, .int x2, .int x3, .int x4, .int x5] σ post := by
  refine q_met (Qc := fun sz => va_Qv post (q_B E L G) (q_free L sz)) (cc := cX1_multiplyLong) (maxL := 14) (ret := none) (own := RX1) (by decide) rfl rfl (Nat.le_of_ble_eq_true rfl) hN hG ?_
  intro p e s m below meth c C
  unfold wpX1_multiplyLong at h
  refine q_aload_n (pc := 0) C dX1_multiplyLong_0 rfl 0 rfl ?_
  obtain ⟨Lr1, Kr1⟩ := qw_1_1 C.2.2.2.2.2.2 Lh0 Kh0
  refine q_g1_1 (pc := 1) C Lh0 Kh0 mwX1_multiplyLong_0 mwX1_multiplyLong_1 dX1_multiplyLong_1 ?_
  refine q_iload (pc := 4) C dX1_multiplyLong_4 5 rfl ?_
  refine q_iload (pc := 6) C dX1_multiplyLong_6 5 rfl ?_
  refine q_iload_n (pc := 8) C dX1_multiplyLong_8 rfl 2 rfl ?_
  refine q_iadd (pc := 9) C dX1_multiplyLong_9 ?_
  refine q_iload (pc := 10) C dX1_multiplyLong_10 4 rfl ?_
  refine q_iadd (pc := 12) C dX1_multiplyLong_12 ?_
  refine q_iconst (pc := 13) (v := 0) C dX1_multiplyLong_13 (by decide) ?_
  refine q_cSv (pc := 14) (As := [.ref ((G.2.1 h0 1)), .int x5, .int ((x5 + x2) + x4), .int 0]) C (sdJ7_fill_fda19 C.2.2.2.2.2.1 C.2.2.2.2.2.2 Lr1 Kr1 h) (va_cwS 4 C.1.2.2.2.2 gX1_multiplyLong_J7_fill_fda19 rfl rfl rfl (by decide +kernel) (q_room (by decide) (by decide))) rfl rfl (Nat.le_of_ble_eq_true rfl) dX1_multiplyLong_14 (fun σ2 h => ?_)
  refine q_iconst (pc := 17) (v := 0) C dX1_multiplyLong_17 (by decide) ?_
  refine q_topi (fun v4 ev4 => ?_)
  replace h := h v4 ev4
  refine q_istore (pc := 18) (lv' := [(6, .int v4), (0, .ref h0), (1, .int x1), (2, .int x2), (3, .int x3), (4, .int x4), (5, .int x5)]) C dX1_multiplyLong_18 (by decide) rfl ?_
  refine q_lv (lv' := [(0, .ref h0), (1, .int x1), (2, .int x2), (3, .int x3), (4, .int x4), (5, .int x5), (6, .int v4)]) [1, 2, 3, 4, 5, 6, 0] rfl ?_
  obtain ⟨n27, h⟩ := h
  refine slX1_multiplyLong_20 C Lh0 Kh0 ?_ n27 v4 σ2 h
  · intro σ26 h
    exact q_vret (pc := 146) C dX1_multiplyLong_146 h
theorem mwX1_multiplyByThree_0 : Cond.methodLink RX1 81 Lib.Math.min.name ∈ wsX1_multiplyByThree := by decide +kernel
theorem mwX1_multiplyByThree_1 : Cond.static Lib.Math.min.name ∈ wsX1_multiplyByThree := by decide +kernel
theorem mwX1_multiplyByThree_2 : Cond.initialized "java/lang/Math" ∈ wsX1_multiplyByThree := by decide +kernel
theorem mwX1_multiplyByThree_3 : Cond.code Lib.Math.min.name Lib.Math.min.code 2 (some .int) ∈ wsX1_multiplyByThree := by decide +kernel
def wpX1_multiplyByThree (G : qG) (wm : Nat → Int32 → Int32 → Int32 → Int32 → Int32 → Int32 → Int32 → qS → (qS → Prop) → Prop) (h0 : Nat) (x1 : Int32) (x2 : Int32) (x3 : Int32) (x4 : Int32) (x5 : Int32) (x6 : Int32) (x7 : Int32) (σ : qS) (post : qS → Prop) : Prop := ∀ v1 : Int32, v1 = (x2 + 1) / 2 → ∀ v2 : Int32, v2 = v1 + 1 → ∀ v3 : Int32, v3 = x5 + ((2 : Int32) * v1) → ∀ v4 : Int32, v4 = (x2 + x4) - ((2 : Int32) * v1) → ∀ v5 : Int32, v5 = x6 + v2 → ∀ v6 : Int32, v6 = x6 + ((2 : Int32) * v2) → wm h0 x1 v1 x3 v1 x5 x6 (x7 - 1) σ (fun (σ7 : qS) => wm h0 (x1 + v1) (x2 - v1) (x3 + v1) (x4 - v1) v3 x6 (x7 - 1) σ7 (fun (σ9 : qS) => wpX1_sumHalves G h0 x1 x2 v1 x6 σ9 (fun (σ11 : qS) => wpX1_sumHalves G h0 x3 x4 v1 v5 σ11 (fun (σ13 : qS) => wm h0 x6 v2 v5 v2 v6 (x6 + ((4 : Int32) * v2)) (x7 - 1) σ13 (fun (σ15 : qS) => wpX1_subtractAt G h0 v6 ((2 : Int32) * v2) x5 ((2 : Int32) * v1) σ15 (fun (σ17 : qS) => wpX1_subtractAt G h0 v6 ((2 : Int32) * v2) v3 v4 σ17 (fun (σ19 : qS) => ∀ v21 : Int32, v21 = v4 + v1 → wpX1_addAt G h0 (x5 + v1) v21 v6 ((if v21 < ((2 : Int32) * v2) then v21 else ((2 : Int32) * v2))) σ19 (fun (σ22 : qS) => post σ22))))))))
set_option maxHeartbeats 4000000 in
set_option maxRecDepth 100000 in
theorem sdX1_multiplyByThree {l : Launch} {E : qE} {L : List Nat} {G : qG} {wm : Nat → Int32 → Int32 → Int32 → Int32 → Int32 → Int32 → Int32 → qS → (qS → Prop) → Prop} {k : Nat} (hk : 6 ≤ k) (hwm : ∀ {h0 : Nat} {x1 x2 x3 x4 x5 x6 x7 : Int32} {σ : qS} {post : qS → Prop}, h0 ∈ L → G.1 h0 = 1 → wm h0 x1 x2 x3 x4 x5 x6 x7 σ post → MtV l E L G yX1_multiply wsX1_multiply (q_rm k) [.ref h0, .int x1, .int x2, .int x3, .int x4, .int x5, .int x6, .int x7] σ post) (hN : L.Nodup) (hG : q_WF G L) {h0 : Nat} {x1 : Int32} {x2 : Int32} {x3 : Int32} {x4 : Int32} {x5 : Int32} {x6 : Int32} {x7 : Int32} (Lh0 : h0 ∈ L) (Kh0 : G.1 h0 = 1) {σ : qS} {post : qS → Prop} (h : wpX1_multiplyByThree G wm h0 x1 x2 x3 x4 x5 x6 x7 σ post) : MtV l E L G yX1_multiplyByThree wsX1_multiplyByThree (q_rm (k + 1)) [.ref h0, .int x1, .int x2, .int x3, .int x4, .int x5, .int x6, .int x7] σ post := by
  refine q_met (Qc := fun sz => va_Qv post (q_B E L G) (q_free L sz)) (cc := cX1_multiplyByThree) (maxL := 15) (ret := none) (own := RX1) (by decide) rfl rfl (Nat.le_of_ble_eq_true rfl) hN hG ?_
  intro p e s m below meth c C
  unfold wpX1_multiplyByThree at h
  refine q_iload_n (pc := 0) C dX1_multiplyByThree_0 rfl 2 rfl ?_
  refine q_iconst (pc := 1) (v := 1) C dX1_multiplyByThree_1 (by decide) ?_
  refine q_iadd (pc := 2) C dX1_multiplyByThree_2 ?_
  refine q_iconst (pc := 3) (v := 2) C dX1_multiplyByThree_3 (by decide) ?_
  refine q_idiv (pc := 4) C dX1_multiplyByThree_4 (by decide) ?_
  refine q_topi (fun v1 ev1 => ?_)
  replace h := h v1 ev1
  refine q_istore (pc := 5) (lv' := [(8, .int v1), (0, .ref h0), (1, .int x1), (2, .int x2), (3, .int x3), (4, .int x4), (5, .int x5), (6, .int x6), (7, .int x7)]) C dX1_multiplyByThree_5 (by decide) rfl ?_
  refine q_iload (pc := 7) C dX1_multiplyByThree_7 0 rfl ?_
  refine q_iconst (pc := 9) (v := 1) C dX1_multiplyByThree_9 (by decide) ?_
  refine q_iadd (pc := 10) C dX1_multiplyByThree_10 ?_
  refine q_topi (fun v2 ev2 => ?_)
  replace h := h v2 ev2
  refine q_istore (pc := 11) (lv' := [(9, .int v2), (8, .int v1), (0, .ref h0), (1, .int x1), (2, .int x2), (3, .int x3), (4, .int x4), (5, .int x5), (6, .int x6), (7, .int x7)]) C dX1_multiplyByThree_11 (by decide) rfl ?_
  refine q_iload (pc := 13) C dX1_multiplyByThree_13 7 rfl ?_
  refine q_iconst (pc := 15) (v := 2) C dX1_multiplyByThree_15 (by decide) ?_
  refine q_iload (pc := 16) C dX1_multiplyByThree_16 1 rfl ?_
  refine q_imul (pc := 18) C dX1_multiplyByThree_18 ?_
  refine q_iadd (pc := 19) C dX1_multiplyByThree_19 ?_
  refine q_topi (fun v3 ev3 => ?_)
  replace h := h v3 ev3
  refine q_istore (pc := 20) (lv' := [(10, .int v3), (9, .int v2), (8, .int v1), (0, .ref h0), (1, .int x1), (2, .int x2), (3, .int x3), (4, .int x4), (5, .int x5), (6, .int x6), (7, .int x7)]) C dX1_multiplyByThree_20 (by decide) rfl ?_
  refine q_iload_n (pc := 22) C dX1_multiplyByThree_22 rfl 5 rfl ?_
  refine q_iload (pc := 23) C dX1_multiplyByThree_23 7 rfl ?_
  refine q_iadd (pc := 25) C dX1_multiplyByThree_25 ?_
  refine q_iconst (pc := 26) (v := 2) C dX1_multiplyByThree_26 (by decide) ?_
  refine q_iload (pc := 27) C dX1_multiplyByThree_27 2 rfl ?_
  refine q_imul (pc := 29) C dX1_multiplyByThree_29 ?_
  refine q_isub (pc := 30) C dX1_multiplyByThree_30 ?_
  refine q_topi (fun v4 ev4 => ?_)
  replace h := h v4 ev4
  refine q_istore (pc := 31) (lv' := [(11, .int v4), (10, .int v3), (9, .int v2), (8, .int v1), (0, .ref h0), (1, .int x1), (2, .int x2), (3, .int x3), (4, .int x4), (5, .int x5), (6, .int x6), (7, .int x7)]) C dX1_multiplyByThree_31 (by decide) rfl ?_
  refine q_iload (pc := 33) C dX1_multiplyByThree_33 10 rfl ?_
  refine q_iload (pc := 35) C dX1_multiplyByThree_35 2 rfl ?_
  refine q_iadd (pc := 37) C dX1_multiplyByThree_37 ?_
  refine q_topi (fun v5 ev5 => ?_)
  replace h := h v5 ev5
  refine q_istore (pc := 38) (lv' := [(12, .int v5), (11, .int v4), (10, .int v3), (9, .int v2), (8, .int v1), (0, .ref h0), (1, .int x1), (2, .int x2), (3, .int x3), (4, .int x4), (5, .int x5), (6, .int x6), (7, .int x7)]) C dX1_multiplyByThree_38 (by decide) rfl ?_
  refine q_iload (pc := 40) C dX1_multiplyByThree_40 11 rfl ?_
  refine q_iconst (pc := 42) (v := 2) C dX1_multiplyByThree_42 (by decide) ?_
  refine q_iload (pc := 43) C dX1_multiplyByThree_43 3 rfl ?_
  refine q_imul (pc := 45) C dX1_multiplyByThree_45 ?_
  refine q_iadd (pc := 46) C dX1_multiplyByThree_46 ?_
  refine q_topi (fun v6 ev6 => ?_)
  replace h := h v6 ev6
  refine q_istore (pc := 47) (lv' := [(13, .int v6), (12, .int v5), (11, .int v4), (10, .int v3), (9, .int v2), (8, .int v1), (0, .ref h0), (1, .int x1), (2, .int x2), (3, .int x3), (4, .int x4), (5, .int x5), (6, .int x6), (7, .int x7)]) C dX1_multiplyByThree_47 (by decide) rfl ?_
  refine q_aload_n (pc := 49) C dX1_multiplyByThree_49 rfl 6 rfl ?_
  refine q_iload_n (pc := 50) C dX1_multiplyByThree_50 rfl 7 rfl ?_
  refine q_iload (pc := 51) C dX1_multiplyByThree_51 5 rfl ?_
  refine q_iload_n (pc := 53) C dX1_multiplyByThree_53 rfl 9 rfl ?_
  refine q_iload (pc := 54) C dX1_multiplyByThree_54 5 rfl ?_
  refine q_iload (pc := 56) C dX1_multiplyByThree_56 11 rfl ?_
  refine q_iload (pc := 58) C dX1_multiplyByThree_58 12 rfl ?_
  refine q_iload (pc := 60) C dX1_multiplyByThree_60 13 rfl ?_
  refine q_iconst (pc := 62) (v := 1) C dX1_multiplyByThree_62 (by decide) ?_
  refine q_isub (pc := 63) C dX1_multiplyByThree_63 ?_
  refine q_cVv (pc := 64) (As := [.int x1, .int v1, .int x3, .int v1, .int x5, .int x6, .int (x7 - 1)]) (ci := 1) (Cn := RX1) (T := TX1) (N := 6) C (hwm Lh0 Kh0 h) (cwV 7 C.1.2.2.2.2 gX1_multiplyByThree_X1_multiply rfl rfl rfl (by decide +kernel) (q_room (by omega) (by decide))) Lh0 (qc1 Kh0 _) rfl rfl rfl (Nat.le_of_ble_eq_true rfl) dX1_multiplyByThree_64 (fun σ7 h => ?_)
  refine q_aload_n (pc := 67) C dX1_multiplyByThree_67 rfl 6 rfl ?_
  refine q_iload_n (pc := 68) C dX1_multiplyByThree_68 rfl 7 rfl ?_
  refine q_iload (pc := 69) C dX1_multiplyByThree_69 5 rfl ?_
  refine q_iadd (pc := 71) C dX1_multiplyByThree_71 ?_
  refine q_iload_n (pc := 72) C dX1_multiplyByThree_72 rfl 8 rfl ?_
  refine q_iload (pc := 73) C dX1_multiplyByThree_73 5 rfl ?_
  refine q_isub (pc := 75) C dX1_multiplyByThree_75 ?_
  refine q_iload_n (pc := 76) C dX1_multiplyByThree_76 rfl 9 rfl ?_
  refine q_iload (pc := 77) C dX1_multiplyByThree_77 5 rfl ?_
  refine q_iadd (pc := 79) C dX1_multiplyByThree_79 ?_
  refine q_iload (pc := 80) C dX1_multiplyByThree_80 10 rfl ?_
  refine q_iload (pc := 82) C dX1_multiplyByThree_82 5 rfl ?_
  refine q_isub (pc := 84) C dX1_multiplyByThree_84 ?_
  refine q_iload (pc := 85) C dX1_multiplyByThree_85 3 rfl ?_
  refine q_iload (pc := 87) C dX1_multiplyByThree_87 12 rfl ?_
  refine q_iload (pc := 89) C dX1_multiplyByThree_89 13 rfl ?_
  refine q_iconst (pc := 91) (v := 1) C dX1_multiplyByThree_91 (by decide) ?_
  refine q_isub (pc := 92) C dX1_multiplyByThree_92 ?_
  refine q_cVv (pc := 93) (As := [.int (x1 + v1), .int (x2 - v1), .int (x3 + v1), .int (x4 - v1), .int v3, .int x6, .int (x7 - 1)]) (ci := 1) (Cn := RX1) (T := TX1) (N := 6) C (hwm Lh0 Kh0 h) (cwV 7 C.1.2.2.2.2 gX1_multiplyByThree_X1_multiply rfl rfl rfl (by decide +kernel) (q_room (by omega) (by decide))) Lh0 (qc1 Kh0 _) rfl rfl rfl (Nat.le_of_ble_eq_true rfl) dX1_multiplyByThree_93 (fun σ9 h => ?_)
  refine q_aload_n (pc := 96) C dX1_multiplyByThree_96 rfl 6 rfl ?_
  refine q_iload_n (pc := 97) C dX1_multiplyByThree_97 rfl 7 rfl ?_
  refine q_iload_n (pc := 98) C dX1_multiplyByThree_98 rfl 8 rfl ?_
  refine q_iload (pc := 99) C dX1_multiplyByThree_99 5 rfl ?_
  refine q_iload (pc := 101) C dX1_multiplyByThree_101 12 rfl ?_
  refine q_cVv (pc := 103) (As := [.int x1, .int x2, .int v1, .int x6]) (ci := 1) (Cn := RX1) (T := TX1) (N := 6) C (sdX1_sumHalves C.2.2.2.2.2.1 C.2.2.2.2.2.2 Lh0 Kh0 h) (cwV 4 C.1.2.2.2.2 gX1_multiplyByThree_X1_sumHalves rfl rfl rfl (by decide +kernel) (q_room (by omega) (by decide))) Lh0 (qc1 Kh0 _) rfl rfl rfl (Nat.le_of_ble_eq_true rfl) dX1_multiplyByThree_103 (fun σ11 h => ?_)
  refine q_aload_n (pc := 106) C dX1_multiplyByThree_106 rfl 6 rfl ?_
  refine q_iload_n (pc := 107) C dX1_multiplyByThree_107 rfl 9 rfl ?_
  refine q_iload (pc := 108) C dX1_multiplyByThree_108 10 rfl ?_
  refine q_iload (pc := 110) C dX1_multiplyByThree_110 5 rfl ?_
  refine q_iload (pc := 112) C dX1_multiplyByThree_112 1 rfl ?_
  refine q_cVv (pc := 114) (As := [.int x3, .int x4, .int v1, .int v5]) (ci := 1) (Cn := RX1) (T := TX1) (N := 6) C (sdX1_sumHalves C.2.2.2.2.2.1 C.2.2.2.2.2.2 Lh0 Kh0 h) (cwV 4 C.1.2.2.2.2 gX1_multiplyByThree_X1_sumHalves rfl rfl rfl (by decide +kernel) (q_room (by omega) (by decide))) Lh0 (qc1 Kh0 _) rfl rfl rfl (Nat.le_of_ble_eq_true rfl) dX1_multiplyByThree_114 (fun σ13 h => ?_)
  refine q_aload_n (pc := 117) C dX1_multiplyByThree_117 rfl 6 rfl ?_
  refine q_iload (pc := 118) C dX1_multiplyByThree_118 12 rfl ?_
  refine q_iload (pc := 120) C dX1_multiplyByThree_120 4 rfl ?_
  refine q_iload (pc := 122) C dX1_multiplyByThree_122 1 rfl ?_
  refine q_iload (pc := 124) C dX1_multiplyByThree_124 4 rfl ?_
  refine q_iload (pc := 126) C dX1_multiplyByThree_126 0 rfl ?_
  refine q_iload (pc := 128) C dX1_multiplyByThree_128 12 rfl ?_
  refine q_iconst (pc := 130) (v := 4) C dX1_multiplyByThree_130 (by decide) ?_
  refine q_iload (pc := 131) C dX1_multiplyByThree_131 4 rfl ?_
  refine q_imul (pc := 133) C dX1_multiplyByThree_133 ?_
  refine q_iadd (pc := 134) C dX1_multiplyByThree_134 ?_
  refine q_iload (pc := 135) C dX1_multiplyByThree_135 13 rfl ?_
  refine q_iconst (pc := 137) (v := 1) C dX1_multiplyByThree_137 (by decide) ?_
  refine q_isub (pc := 138) C dX1_multiplyByThree_138 ?_
  refine q_cVv (pc := 139) (As := [.int x6, .int v2, .int v5, .int v2, .int v6, .int (x6 + ((4 : Int32) * v2)), .int (x7 - 1)]) (ci := 1) (Cn := RX1) (T := TX1) (N := 6) C (hwm Lh0 Kh0 h) (cwV 7 C.1.2.2.2.2 gX1_multiplyByThree_X1_multiply rfl rfl rfl (by decide +kernel) (q_room (by omega) (by decide))) Lh0 (qc1 Kh0 _) rfl rfl rfl (Nat.le_of_ble_eq_true rfl) dX1_multiplyByThree_139 (fun σ15 h => ?_)
  refine q_aload_n (pc := 142) C dX1_multiplyByThree_142 rfl 6 rfl ?_
  refine q_iload (pc := 143) C dX1_multiplyByThree_143 0 rfl ?_
  refine q_iconst (pc := 145) (v := 2) C dX1_multiplyByThree_145 (by decide) ?_
  refine q_iload (pc := 146) C dX1_multiplyByThree_146 4 rfl ?_
  refine q_imul (pc := 148) C dX1_multiplyByThree_148 ?_
  refine q_iload (pc := 149) C dX1_multiplyByThree_149 11 rfl ?_
  refine q_iconst (pc := 151) (v := 2) C dX1_multiplyByThree_151 (by decide) ?_
  refine q_iload (pc := 152) C dX1_multiplyByThree_152 5 rfl ?_
  refine q_imul (pc := 154) C dX1_multiplyByThree_154 ?_
  refine q_cVv (pc := 155) (As := [.int v6, .int ((2 : Int32) * v2), .int x5, .int ((2 : Int32) * v1)]) (ci := 1) (Cn := RX1) (T := TX1) (N := 6) C (sdX1_subtractAt C.2.2.2.2.2.1 C.2.2.2.2.2.2 Lh0 Kh0 h) (cwV 4 C.1.2.2.2.2 gX1_multiplyByThree_X1_subtractAt rfl rfl rfl (by decide +kernel) (q_room (by omega) (by decide))) Lh0 (qc1 Kh0 _) rfl rfl rfl (Nat.le_of_ble_eq_true rfl) dX1_multiplyByThree_155 (fun σ17 h => ?_)
  refine q_aload_n (pc := 158) C dX1_multiplyByThree_158 rfl 6 rfl ?_
  refine q_iload (pc := 159) C dX1_multiplyByThree_159 0 rfl ?_
  refine q_iconst (pc := 161) (v := 2) C dX1_multiplyByThree_161 (by decide) ?_
  refine q_iload (pc := 162) C dX1_multiplyByThree_162 4 rfl ?_
  refine q_imul (pc := 164) C dX1_multiplyByThree_164 ?_
  refine q_iload (pc := 165) C dX1_multiplyByThree_165 3 rfl ?_
  refine q_iload (pc := 167) C dX1_multiplyByThree_167 2 rfl ?_
  refine q_cVv (pc := 169) (As := [.int v6, .int ((2 : Int32) * v2), .int v3, .int v4]) (ci := 1) (Cn := RX1) (T := TX1) (N := 6) C (sdX1_subtractAt C.2.2.2.2.2.1 C.2.2.2.2.2.2 Lh0 Kh0 h) (cwV 4 C.1.2.2.2.2 gX1_multiplyByThree_X1_subtractAt rfl rfl rfl (by decide +kernel) (q_room (by omega) (by decide))) Lh0 (qc1 Kh0 _) rfl rfl rfl (Nat.le_of_ble_eq_true rfl) dX1_multiplyByThree_169 (fun σ19 h => ?_)
  refine q_iload (pc := 172) C dX1_multiplyByThree_172 2 rfl ?_
  refine q_iload (pc := 174) C dX1_multiplyByThree_174 5 rfl ?_
  refine q_iadd (pc := 176) C dX1_multiplyByThree_176 ?_
  refine q_topi (fun v21 ev21 => ?_)
  replace h := h v21 ev21
  refine q_istore (pc := 177) (lv' := [(14, .int v21), (13, .int v6), (12, .int v5), (11, .int v4), (10, .int v3), (9, .int v2), (8, .int v1), (0, .ref h0), (1, .int x1), (2, .int x2), (3, .int x3), (4, .int x4), (5, .int x5), (6, .int x6), (7, .int x7)]) C dX1_multiplyByThree_177 (by decide) rfl ?_
  refine q_aload_n (pc := 179) C dX1_multiplyByThree_179 rfl 7 rfl ?_
  refine q_iload (pc := 180) C dX1_multiplyByThree_180 12 rfl ?_
  refine q_iload (pc := 182) C dX1_multiplyByThree_182 6 rfl ?_
  refine q_iadd (pc := 184) C dX1_multiplyByThree_184 ?_
  refine q_iload (pc := 185) C dX1_multiplyByThree_185 0 rfl ?_
  refine q_iload (pc := 187) C dX1_multiplyByThree_187 1 rfl ?_
  refine q_iconst (pc := 189) (v := 2) C dX1_multiplyByThree_189 (by decide) ?_
  refine q_iload (pc := 190) C dX1_multiplyByThree_190 5 rfl ?_
  refine q_imul (pc := 192) C dX1_multiplyByThree_192 ?_
  refine q_iload (pc := 193) C dX1_multiplyByThree_193 0 rfl ?_
  refine q_mmin (pc := 195) C mwX1_multiplyByThree_0 mwX1_multiplyByThree_1 mwX1_multiplyByThree_2 mwX1_multiplyByThree_3 (by simp only [q_rm]; omega) (Nat.le_trans (m := 60) (Nat.le_of_ble_eq_true rfl) (by simp only [q_rm]; omega)) dX1_multiplyByThree_195 ?_
  refine q_cVv (pc := 198) (As := [.int (x5 + v1), .int v21, .int v6, .int ((if v21 < ((2 : Int32) * v2) then v21 else ((2 : Int32) * v2)))]) (ci := 1) (Cn := RX1) (T := TX1) (N := 6) C (sdX1_addAt C.2.2.2.2.2.1 C.2.2.2.2.2.2 Lh0 Kh0 h) (cwV 4 C.1.2.2.2.2 gX1_multiplyByThree_X1_addAt rfl rfl rfl (by decide +kernel) (q_room (by omega) (by decide))) Lh0 (qc1 Kh0 _) rfl rfl rfl (Nat.le_of_ble_eq_true rfl) dX1_multiplyByThree_198 (fun σ22 h => ?_)
  exact q_vret (pc := 201) C dX1_multiplyByThree_201 h
theorem mwX1_multiply_0 : ∀ w ∈ wsX10, w ∈ wsX1_multiply := by decide +kernel
theorem mwX1_multiply_1 : Cond.fieldLink RX1 7 "IntFile$Products" "cut" "I" ∈ wsX1_multiply := by decide +kernel
def bkX1_multiply_54 (G : qG) (wm : Nat → Int32 → Int32 → Int32 → Int32 → Int32 → Int32 → Int32 → qS → (qS → Prop) → Prop) (h0 : Nat) (x1 : Int32) (x2 : Int32) (x3 : Int32) (x4 : Int32) (x5 : Int32) (post : qS → Prop) (σ : qS) : Prop := wpX1_multiplyLong G h0 x1 x2 x3 x4 x5 σ (fun (σ3 : qS) => post σ3)
set_option maxHeartbeats 4000000 in
set_option maxRecDepth 100000 in
theorem sbX1_multiply_54 {p : Program} {l : Launch} {e : Env} {s : State} {m : MethodId} {args : Array Value} {below : List Frame} {meth : Method} {c : Code} {E : qE} {L : List Nat} {G : qG} {A : Nat → Prop} (C : q_C p s m args meth c cX1_multiply 9 wsX1_multiply RX1 none E L G A) {wm : Nat → Int32 → Int32 → Int32 → Int32 → Int32 → Int32 → Int32 → qS → (qS → Prop) → Prop} {k : Nat} (hk : 6 ≤ k) (hwm : ∀ {h0 : Nat} {x1 x2 x3 x4 x5 x6 x7 : Int32} {σ : qS} {post : qS → Prop}, h0 ∈ L → G.1 h0 = 1 → wm h0 x1 x2 x3 x4 x5 x6 x7 σ post → MtV l E L G yX1_multiply wsX1_multiply (q_rm k) [.ref h0, .int x1, .int x2, .int x3, .int x4, .int x5, .int x6, .int x7] σ post) {h0 : Nat} {x1 : Int32} {x2 : Int32} {x3 : Int32} {x4 : Int32} {x5 : Int32} (Lh0 : h0 ∈ L) (Kh0 : G.1 h0 = 1) {post : qS → Prop} {σ : qS} (h : bkX1_multiply_54 G wm h0 x1 x2 x3 x4 x5 post σ) : Wd p l e (q_rm (k + 2)) s m args below meth c E L G A (MQ below (va_Qv post (q_B E L G) A) args s 0 0 A) 9 σ 54 [(0, .ref h0), (1, .int x1), (2, .int x2), (3, .int x3), (4, .int x4), (5, .int x5)] [] := by
  unfold bkX1_multiply_54 at h
  refine q_aload_n (pc := 54) C dX1_multiply_54 rfl 0 rfl ?_
  refine q_iload_n (pc := 55) C dX1_multiply_55 rfl 1 rfl ?_
  refine q_iload_n (pc := 56) C dX1_multiply_56 rfl 2 rfl ?_
  refine q_iload_n (pc := 57) C dX1_multiply_57 rfl 3 rfl ?_
  refine q_iload (pc := 58) C dX1_multiply_58 4 rfl ?_
  refine q_iload (pc := 60) C dX1_multiply_60 5 rfl ?_
  refine q_cVv (pc := 62) (As := [.int x1, .int x2, .int x3, .int x4, .int x5]) (ci := 1) (Cn := RX1) (T := TX1) (N := 6) C (sdX1_multiplyLong C.2.2.2.2.2.1 C.2.2.2.2.2.2 Lh0 Kh0 h) (cwV 5 C.1.2.2.2.2 gX1_multiply_X1_multiplyLong rfl rfl rfl (by decide +kernel) (q_room (by omega) (by decide))) Lh0 (qc1 Kh0 _) rfl rfl rfl (Nat.le_of_ble_eq_true rfl) dX1_multiply_62 (fun σ3 h => ?_)
  exact q_vret (pc := 65) C dX1_multiply_65 h
def bkX1_multiply_15 (G : qG) (wm : Nat → Int32 → Int32 → Int32 → Int32 → Int32 → Int32 → Int32 → qS → (qS → Prop) → Prop) (h0 : Nat) (x1 : Int32) (x2 : Int32) (x3 : Int32) (x4 : Int32) (x5 : Int32) (x6 : Int32) (x7 : Int32) (s0 : Int32) (post : qS → Prop) (σ : qS) : Prop := ((x7 ≤ 0 → bkX1_multiply_54 G wm h0 x1 x2 x3 x4 x5 post σ) ∧ (¬ x7 ≤ 0 → ((x4 < (σ h0 0) → bkX1_multiply_54 G wm h0 x1 x2 x3 x4 x5 post σ) ∧ (¬ x4 < (σ h0 0) → ((s0 = 0 → bkX1_multiply_54 G wm h0 x1 x2 x3 x4 x5 post σ) ∧ (¬ s0 = 0 → wpX1_multiplyByThree G wm h0 x1 x2 x3 x4 x5 x6 x7 σ (fun (σ7 : qS) => post σ7)))))))
set_option maxHeartbeats 4000000 in
set_option maxRecDepth 100000 in
theorem sbX1_multiply_15 {p : Program} {l : Launch} {e : Env} {s : State} {m : MethodId} {args : Array Value} {below : List Frame} {meth : Method} {c : Code} {E : qE} {L : List Nat} {G : qG} {A : Nat → Prop} (C : q_C p s m args meth c cX1_multiply 9 wsX1_multiply RX1 none E L G A) {wm : Nat → Int32 → Int32 → Int32 → Int32 → Int32 → Int32 → Int32 → qS → (qS → Prop) → Prop} {k : Nat} (hk : 6 ≤ k) (hwm : ∀ {h0 : Nat} {x1 x2 x3 x4 x5 x6 x7 : Int32} {σ : qS} {post : qS → Prop}, h0 ∈ L → G.1 h0 = 1 → wm h0 x1 x2 x3 x4 x5 x6 x7 σ post → MtV l E L G yX1_multiply wsX1_multiply (q_rm k) [.ref h0, .int x1, .int x2, .int x3, .int x4, .int x5, .int x6, .int x7] σ post) {h0 : Nat} {x1 : Int32} {x2 : Int32} {x3 : Int32} {x4 : Int32} {x5 : Int32} {x6 : Int32} {x7 : Int32} {s0 : Int32} (Lh0 : h0 ∈ L) (Kh0 : G.1 h0 = 1) {post : qS → Prop} {σ : qS} (h : bkX1_multiply_15 G wm h0 x1 x2 x3 x4 x5 x6 x7 s0 post σ) : Wd p l e (q_rm (k + 2)) s m args below meth c E L G A (MQ below (va_Qv post (q_B E L G) A) args s 0 0 A) 9 σ 15 [(0, .ref h0), (1, .int x1), (2, .int x2), (3, .int x3), (4, .int x4), (5, .int x5), (6, .int x6), (7, .int x7)] [.int s0] := by
  unfold bkX1_multiply_15 at h
  refine q_istore (pc := 15) (lv' := [(8, .int s0), (0, .ref h0), (1, .int x1), (2, .int x2), (3, .int x3), (4, .int x4), (5, .int x5), (6, .int x6), (7, .int x7)]) C dX1_multiply_15 (by decide) rfl ?_
  refine q_iload (pc := 17) C dX1_multiply_17 8 rfl ?_
  refine q_if_le (tgt := 54) (pc := 19) C dX1_multiply_19 (by decide) (fun c2 => ?_) (fun c2 => ?_)
  · replace h := h.1 c2
    refine q_lv (lv' := [(0, .ref h0), (1, .int x1), (2, .int x2), (3, .int x3), (4, .int x4), (5, .int x5)]) [1, 2, 3, 4, 5, 6] rfl ?_
    exact sbX1_multiply_54 C hk hwm Lh0 Kh0 h
  · replace h := h.2 c2
    refine q_iload (pc := 22) C dX1_multiply_22 5 rfl ?_
    refine q_aload_n (pc := 24) C dX1_multiply_24 rfl 1 rfl ?_
    refine q_g1_0 (pc := 25) C Lh0 Kh0 mwX1_multiply_0 mwX1_multiply_1 dX1_multiply_25 ?_
    refine q_icmp_lt (tgt := 54) (pc := 28) C dX1_multiply_28 (by decide) (fun c5 => ?_) (fun c5 => ?_)
    · replace h := h.1 c5
      refine q_lv (lv' := [(0, .ref h0), (1, .int x1), (2, .int x2), (3, .int x3), (4, .int x4), (5, .int x5)]) [1, 2, 3, 4, 5, 6] rfl ?_
      exact sbX1_multiply_54 C hk hwm Lh0 Kh0 h
    · replace h := h.2 c5
      refine q_iload (pc := 31) C dX1_multiply_31 0 rfl ?_
      refine q_if_eq (tgt := 54) (pc := 33) C dX1_multiply_33 (by decide) (fun c6 => ?_) (fun c6 => ?_)
      · replace h := h.1 c6
        refine q_lv (lv' := [(0, .ref h0), (1, .int x1), (2, .int x2), (3, .int x3), (4, .int x4), (5, .int x5)]) [1, 2, 3, 4, 5, 6] rfl ?_
        exact sbX1_multiply_54 C hk hwm Lh0 Kh0 h
      · replace h := h.2 c6
        refine q_aload_n (pc := 36) C dX1_multiply_36 rfl 1 rfl ?_
        refine q_iload_n (pc := 37) C dX1_multiply_37 rfl 2 rfl ?_
        refine q_iload_n (pc := 38) C dX1_multiply_38 rfl 3 rfl ?_
        refine q_iload_n (pc := 39) C dX1_multiply_39 rfl 4 rfl ?_
        refine q_iload (pc := 40) C dX1_multiply_40 5 rfl ?_
        refine q_iload (pc := 42) C dX1_multiply_42 6 rfl ?_
        refine q_iload (pc := 44) C dX1_multiply_44 7 rfl ?_
        refine q_iload (pc := 46) C dX1_multiply_46 8 rfl ?_
        refine q_cVv (pc := 48) (As := [.int x1, .int x2, .int x3, .int x4, .int x5, .int x6, .int x7]) (ci := 1) (Cn := RX1) (T := TX1) (N := 6) C (sdX1_multiplyByThree hk hwm C.2.2.2.2.2.1 C.2.2.2.2.2.2 Lh0 Kh0 h) (cwV 7 C.1.2.2.2.2 gX1_multiply_X1_multiplyByThree rfl rfl rfl (by decide +kernel) (q_room (by omega) (by decide))) Lh0 (qc1 Kh0 _) rfl rfl rfl (Nat.le_of_ble_eq_true rfl) dX1_multiply_48 (fun σ7 h => ?_)
        refine q_goto (tgt := 65) (pc := 51) C dX1_multiply_51 (by decide) ?_
        exact q_vret (pc := 65) C dX1_multiply_65 h
def wpX1_multiplyB (G : qG) (wm : Nat → Int32 → Int32 → Int32 → Int32 → Int32 → Int32 → Int32 → qS → (qS → Prop) → Prop) (h0 : Nat) (x1 : Int32) (x2 : Int32) (x3 : Int32) (x4 : Int32) (x5 : Int32) (x6 : Int32) (x7 : Int32) (σ : qS) (post : qS → Prop) : Prop := ((x4 ≤ ((x2 + 1) / 2) → bkX1_multiply_15 G wm h0 x1 x2 x3 x4 x5 x6 x7 0 post σ) ∧ (¬ x4 ≤ ((x2 + 1) / 2) → bkX1_multiply_15 G wm h0 x1 x2 x3 x4 x5 x6 x7 1 post σ))
set_option maxHeartbeats 4000000 in
set_option maxRecDepth 100000 in
theorem sdX1_multiplyB {l : Launch} {E : qE} {L : List Nat} {G : qG} {wm : Nat → Int32 → Int32 → Int32 → Int32 → Int32 → Int32 → Int32 → qS → (qS → Prop) → Prop} {k : Nat} (hk : 6 ≤ k) (hwm : ∀ {h0 : Nat} {x1 x2 x3 x4 x5 x6 x7 : Int32} {σ : qS} {post : qS → Prop}, h0 ∈ L → G.1 h0 = 1 → wm h0 x1 x2 x3 x4 x5 x6 x7 σ post → MtV l E L G yX1_multiply wsX1_multiply (q_rm k) [.ref h0, .int x1, .int x2, .int x3, .int x4, .int x5, .int x6, .int x7] σ post) (hN : L.Nodup) (hG : q_WF G L) {h0 : Nat} {x1 : Int32} {x2 : Int32} {x3 : Int32} {x4 : Int32} {x5 : Int32} {x6 : Int32} {x7 : Int32} (Lh0 : h0 ∈ L) (Kh0 : G.1 h0 = 1) {σ : qS} {post : qS → Prop} (h : wpX1_multiplyB G wm h0 x1 x2 x3 x4 x5 x6 x7 σ post) : MtV l E L G yX1_multiply wsX1_multiply (q_rm (k + 2)) [.ref h0, .int x1, .int x2, .int x3, .int x4, .int x5, .int x6, .int x7] σ post := by
  refine q_met (Qc := fun sz => va_Qv post (q_B E L G) (q_free L sz)) (cc := cX1_multiply) (maxL := 9) (ret := none) (own := RX1) (by decide) rfl rfl (Nat.le_of_ble_eq_true rfl) hN hG ?_
  intro p e s m below meth c C
  unfold wpX1_multiplyB at h
  refine q_iload (pc := 0) C dX1_multiply_0 4 rfl ?_
  refine q_iload_n (pc := 2) C dX1_multiply_2 rfl 2 rfl ?_
  refine q_iconst (pc := 3) (v := 1) C dX1_multiply_3 (by decide) ?_
  refine q_iadd (pc := 4) C dX1_multiply_4 ?_
  refine q_iconst (pc := 5) (v := 2) C dX1_multiply_5 (by decide) ?_
  refine q_idiv (pc := 6) C dX1_multiply_6 (by decide) ?_
  refine q_icmp_le (tgt := 14) (pc := 7) C dX1_multiply_7 (by decide) (fun c1 => ?_) (fun c1 => ?_)
  · replace h := h.1 c1
    refine q_iconst (pc := 14) (v := 0) C dX1_multiply_14 (by decide) ?_
    exact sbX1_multiply_15 C hk hwm Lh0 Kh0 h
  · replace h := h.2 c1
    refine q_iconst (pc := 10) (v := 1) C dX1_multiply_10 (by decide) ?_
    refine q_goto (tgt := 15) (pc := 11) C dX1_multiply_11 (by decide) ?_
    exact sbX1_multiply_15 C hk hwm Lh0 Kh0 h
def wpX1_multiply (G : qG) : Nat → Nat → Int32 → Int32 → Int32 → Int32 → Int32 → Int32 → Int32 → qS → (qS → Prop) → Prop
  | 0, _, _, _, _, _, _, _, _, _, _ => False
  | n + 1, h0, x1, x2, x3, x4, x5, x6, x7, σ, post => wpX1_multiplyB G (wpX1_multiply G n) h0 x1 x2 x3 x4 x5 x6 x7 σ post
theorem sdX1_multiply {l : Launch} {E : qE} {L : List Nat} {G : qG} (n : Nat) (hN : L.Nodup) (hG : q_WF G L) : ∀ {h0 : Nat} {x1 x2 x3 x4 x5 x6 x7 : Int32} (_ : h0 ∈ L) (_ : G.1 h0 = 1) {σ : qS} {post : qS → Prop} (_ : wpX1_multiply G n h0 x1 x2 x3 x4 x5 x6 x7 σ post), MtV l E L G yX1_multiply wsX1_multiply (q_rm (2 * n + 6)) [.ref h0, .int x1, .int x2, .int x3, .int x4, .int x5, .int x6, .int x7] σ post := by
  induction n with
  | zero => intro h0 x1 x2 x3 x4 x5 x6 x7 h1 h2 σ post h; exact h.elim
  | succ n ih =>
    intro h0 x1 x2 x3 x4 x5 x6 x7 h1 h2 σ post h
    unfold wpX1_multiply at h
    have h3 := sdX1_multiplyB (l := l) (E := E) (k := 2 * n + 6) (by omega) (fun h1 h2 h => ih h1 h2 h) hN hG h1 h2 h
    exact h3
theorem mwX1_product_0 : ∀ w ∈ wsX40, w ∈ wsX1_product := by decide +kernel
theorem mwX1_product_1 : Cond.fieldLink RX1 33 "IntFile$Whole" "count" "I" ∈ wsX1_product := by decide +kernel
theorem mwX1_product_2 : Cond.fieldLink RX1 38 "IntFile$Whole" "limbs" "[I" ∈ wsX1_product := by decide +kernel
theorem mwX1_product_3 : ∀ w ∈ wsX10, w ∈ wsX1_product := by decide +kernel
theorem mwX1_product_4 : Cond.fieldLink RX1 29 "IntFile$Products" "row" "[I" ∈ wsX1_product := by decide +kernel
theorem mwX1_product_5 : Cond.fieldLink RX1 13 "IntFile$Products" "left" "I" ∈ wsX1_product := by decide +kernel
theorem mwX1_product_6 : Cond.methodLink RX1 41 arraycopyName ∈ wsX1_product := by decide +kernel
theorem mwX1_product_7 : Cond.native arraycopyName ∈ wsX1_product := by decide +kernel
theorem mwX1_product_8 : Cond.static arraycopyName ∈ wsX1_product := by decide +kernel
theorem mwX1_product_9 : Cond.initialized "java/lang/System" ∈ wsX1_product := by decide +kernel
theorem mwX1_product_10 : Cond.fieldLink RX1 16 "IntFile$Products" "right" "I" ∈ wsX1_product := by decide +kernel
theorem mwX1_product_11 : Cond.fieldLink RX1 19 "IntFile$Products" "outcome" "I" ∈ wsX1_product := by decide +kernel
theorem mwX1_product_12 : Cond.fieldLink RX1 22 "IntFile$Products" "free" "I" ∈ wsX1_product := by decide +kernel
theorem mwX1_product_13 : Cond.fieldLink RX1 51 "IntFile$Whole" "below" "Z" ∈ wsX1_product := by decide +kernel
def bkX1_product_34 (G : qG) (h0 : Nat) (h1 : Nat) (h2 : Nat) (h3 : Nat) (h4 : Nat) (s0 : Nat) (post : qS → Prop) (σ : qS) : Prop := ¬ (0 : Int32) < 0 ∧ ¬ (σ h0 2) < 0 ∧ ¬ (σ h4 1) < 0 ∧ (0 : Int32).toNatClampNeg + (σ h4 1).toNatClampNeg ≤ G.2.2 ((G.2.1 h4 0)) ∧ (σ h0 2).toNatClampNeg + (σ h4 1).toNatClampNeg ≤ G.2.2 ((G.2.1 h0 1)) ∧ ∀ σ5 : qS, σ5 = q_cp σ ((G.2.1 h4 0)) (0 : Int32).toNatClampNeg ((G.2.1 h0 1)) (σ h0 2).toNatClampNeg (σ h4 1).toNatClampNeg → ¬ (0 : Int32) < 0 ∧ ¬ (σ5 h0 3) < 0 ∧ ¬ (σ5 s0 1) < 0 ∧ (0 : Int32).toNatClampNeg + (σ5 s0 1).toNatClampNeg ≤ G.2.2 ((G.2.1 s0 0)) ∧ (σ5 h0 3).toNatClampNeg + (σ5 s0 1).toNatClampNeg ≤ G.2.2 ((G.2.1 h0 1)) ∧ ∀ σ12 : qS, σ12 = q_cp σ5 ((G.2.1 s0 0)) (0 : Int32).toNatClampNeg ((G.2.1 h0 1)) (σ5 h0 3).toNatClampNeg (σ5 s0 1).toNatClampNeg → wpX1_multiply G 9 h0 (σ12 h0 2) (σ12 h4 1) (σ12 h0 3) (σ12 s0 1) (σ12 h0 4) (σ12 h0 5) 8 σ12 (fun (σ18 : qS) => ∀ v20 : Int32, v20 = (σ18 h4 1) + (σ18 s0 1) → ¬ (σ18 h0 4) < 0 ∧ ¬ (0 : Int32) < 0 ∧ ¬ v20 < 0 ∧ (σ18 h0 4).toNatClampNeg + v20.toNatClampNeg ≤ G.2.2 ((G.2.1 h0 1)) ∧ (0 : Int32).toNatClampNeg + v20.toNatClampNeg ≤ G.2.2 ((G.2.1 h1 0)) ∧ ∀ σ22 : qS, σ22 = q_cp σ18 ((G.2.1 h0 1)) (σ18 h0 4).toNatClampNeg ((G.2.1 h1 0)) (0 : Int32).toNatClampNeg v20.toNatClampNeg → (((σ22 h2 2) = (σ22 h3 2) → wpX4_settle G h1 v20 0 σ22 (fun (σ29 : qS) => post σ29)) ∧ (¬ (σ22 h2 2) = (σ22 h3 2) → wpX4_settle G h1 v20 1 σ22 (fun (σ31 : qS) => post σ31))))
set_option maxHeartbeats 4000000 in
set_option maxRecDepth 100000 in
theorem sbX1_product_34 {p : Program} {l : Launch} {e : Env} {s : State} {m : MethodId} {args : Array Value} {below : List Frame} {meth : Method} {c : Code} {E : qE} {L : List Nat} {G : qG} {A : Nat → Prop} (C : q_C p s m args meth c cX1_product 7 wsX1_product RX1 none E L G A) {h0 : Nat} {h1 : Nat} {h2 : Nat} {h3 : Nat} {h4 : Nat} {s0 : Nat} (Lh0 : h0 ∈ L) (Kh0 : G.1 h0 = 1) (Lh1 : h1 ∈ L) (Kh1 : G.1 h1 = 4) (Lh2 : h2 ∈ L) (Kh2 : G.1 h2 = 4) (Lh3 : h3 ∈ L) (Kh3 : G.1 h3 = 4) (Lh4 : h4 ∈ L) (Kh4 : G.1 h4 = 4) (Ls0 : s0 ∈ L) (Ks0 : G.1 s0 = 4) {post : qS → Prop} {σ : qS} (h : bkX1_product_34 G h0 h1 h2 h3 h4 s0 post σ) : Wd p l e (q_rm 25) s m args below meth c E L G A (MQ below (va_Qv post (q_B E L G) A) args s 0 0 A) 7 σ 34 [(0, .ref h0), (1, .ref h1), (2, .ref h2), (3, .ref h3), (4, .ref h4)] [.ref s0] := by
  unfold bkX1_product_34 at h
  refine q_astore (pc := 34) (lv' := [(5, .ref s0), (0, .ref h0), (1, .ref h1), (2, .ref h2), (3, .ref h3), (4, .ref h4)]) C dX1_product_34 (by decide) rfl ?_
  refine q_aload (pc := 36) C dX1_product_36 5 rfl ?_
  obtain ⟨Lr3, Kr3⟩ := qw_4_0 C.2.2.2.2.2.2 Lh4 Kh4
  refine q_g4_0 (pc := 38) C Lh4 Kh4 mwX1_product_0 mwX1_product_2 dX1_product_38 ?_
  refine q_iconst (pc := 41) (v := 0) C dX1_product_41 (by decide) ?_
  refine q_aload_n (pc := 42) C dX1_product_42 rfl 1 rfl ?_
  obtain ⟨Lr4, Kr4⟩ := qw_1_1 C.2.2.2.2.2.2 Lh0 Kh0
  refine q_g1_1 (pc := 43) C Lh0 Kh0 mwX1_product_3 mwX1_product_4 dX1_product_43 ?_
  refine q_aload_n (pc := 46) C dX1_product_46 rfl 1 rfl ?_
  refine q_g1_2 (pc := 47) C Lh0 Kh0 mwX1_product_3 mwX1_product_5 dX1_product_47 ?_
  refine q_aload (pc := 50) C dX1_product_50 5 rfl ?_
  refine q_g4_1 (pc := 52) C Lh4 Kh4 mwX1_product_0 mwX1_product_1 dX1_product_52 ?_
  obtain ⟨b6, b7, b8, b9, b10, h⟩ := h
  refine q_copy (pc := 55) C mwX1_product_6 mwX1_product_7 mwX1_product_8 mwX1_product_9 Lr3 Kr3 Lr4 Kr4 b6 b7 b8 b9 b10 (by decide) (Nat.le_of_ble_eq_true rfl) dX1_product_55 (fun σ5 eσ5 => ?_)
  replace h := h σ5 eσ5
  refine q_aload (pc := 58) C dX1_product_58 0 rfl ?_
  obtain ⟨Lr11, Kr11⟩ := qw_4_0 C.2.2.2.2.2.2 Ls0 Ks0
  refine q_g4_0 (pc := 60) C Ls0 Ks0 mwX1_product_0 mwX1_product_2 dX1_product_60 ?_
  refine q_iconst (pc := 63) (v := 0) C dX1_product_63 (by decide) ?_
  refine q_aload_n (pc := 64) C dX1_product_64 rfl 1 rfl ?_
  refine q_g1_1 (pc := 65) C Lh0 Kh0 mwX1_product_3 mwX1_product_4 dX1_product_65 ?_
  refine q_aload_n (pc := 68) C dX1_product_68 rfl 1 rfl ?_
  refine q_g1_3 (pc := 69) C Lh0 Kh0 mwX1_product_3 mwX1_product_10 dX1_product_69 ?_
  refine q_aload (pc := 72) C dX1_product_72 0 rfl ?_
  refine q_g4_1 (pc := 74) C Ls0 Ks0 mwX1_product_0 mwX1_product_1 dX1_product_74 ?_
  obtain ⟨b13, b14, b15, b16, b17, h⟩ := h
  refine q_copy (pc := 77) C mwX1_product_6 mwX1_product_7 mwX1_product_8 mwX1_product_9 Lr11 Kr11 Lr4 Kr4 b13 b14 b15 b16 b17 (by decide) (Nat.le_of_ble_eq_true rfl) dX1_product_77 (fun σ12 eσ12 => ?_)
  replace h := h σ12 eσ12
  refine q_aload_n (pc := 80) C dX1_product_80 rfl 1 rfl ?_
  refine q_aload_n (pc := 81) C dX1_product_81 rfl 1 rfl ?_
  refine q_g1_2 (pc := 82) C Lh0 Kh0 mwX1_product_3 mwX1_product_5 dX1_product_82 ?_
  refine q_aload (pc := 85) C dX1_product_85 5 rfl ?_
  refine q_g4_1 (pc := 87) C Lh4 Kh4 mwX1_product_0 mwX1_product_1 dX1_product_87 ?_
  refine q_aload_n (pc := 90) C dX1_product_90 rfl 1 rfl ?_
  refine q_g1_3 (pc := 91) C Lh0 Kh0 mwX1_product_3 mwX1_product_10 dX1_product_91 ?_
  refine q_aload (pc := 94) C dX1_product_94 0 rfl ?_
  refine q_g4_1 (pc := 96) C Ls0 Ks0 mwX1_product_0 mwX1_product_1 dX1_product_96 ?_
  refine q_aload_n (pc := 99) C dX1_product_99 rfl 1 rfl ?_
  refine q_g1_4 (pc := 100) C Lh0 Kh0 mwX1_product_3 mwX1_product_11 dX1_product_100 ?_
  refine q_aload_n (pc := 103) C dX1_product_103 rfl 1 rfl ?_
  refine q_g1_5 (pc := 104) C Lh0 Kh0 mwX1_product_3 mwX1_product_12 dX1_product_104 ?_
  refine q_bipush (pc := 107) (v := 8) C dX1_product_107 (by decide) ?_
  refine q_cVv (pc := 109) (As := [.int (σ12 h0 2), .int (σ12 h4 1), .int (σ12 h0 3), .int (σ12 s0 1), .int (σ12 h0 4), .int (σ12 h0 5), .int 8]) (ci := 1) (Cn := RX1) (T := TX1) (N := 6) C (sdX1_multiply 9 C.2.2.2.2.2.1 C.2.2.2.2.2.2 Lh0 Kh0 h) (cwV 7 C.1.2.2.2.2 gX1_product_X1_multiply rfl rfl rfl (by decide +kernel) (q_room (by decide) (by decide))) Lh0 (qc1 Kh0 _) rfl rfl rfl (Nat.le_of_ble_eq_true rfl) dX1_product_109 (fun σ18 h => ?_)
  refine q_aload (pc := 112) C dX1_product_112 5 rfl ?_
  refine q_g4_1 (pc := 114) C Lh4 Kh4 mwX1_product_0 mwX1_product_1 dX1_product_114 ?_
  refine q_aload (pc := 117) C dX1_product_117 0 rfl ?_
  refine q_g4_1 (pc := 119) C Ls0 Ks0 mwX1_product_0 mwX1_product_1 dX1_product_119 ?_
  refine q_iadd (pc := 122) C dX1_product_122 ?_
  refine q_topi (fun v20 ev20 => ?_)
  replace h := h v20 ev20
  refine q_istore (pc := 123) (lv' := [(6, .int v20), (5, .ref s0), (0, .ref h0), (1, .ref h1), (2, .ref h2), (3, .ref h3), (4, .ref h4)]) C dX1_product_123 (by decide) rfl ?_
  refine q_aload_n (pc := 125) C dX1_product_125 rfl 2 rfl ?_
  refine q_g1_1 (pc := 126) C Lh0 Kh0 mwX1_product_3 mwX1_product_4 dX1_product_126 ?_
  refine q_aload_n (pc := 129) C dX1_product_129 rfl 2 rfl ?_
  refine q_g1_4 (pc := 130) C Lh0 Kh0 mwX1_product_3 mwX1_product_11 dX1_product_130 ?_
  refine q_aload_n (pc := 133) C dX1_product_133 rfl 3 rfl ?_
  obtain ⟨Lr21, Kr21⟩ := qw_4_0 C.2.2.2.2.2.2 Lh1 Kh1
  refine q_g4_0 (pc := 134) C Lh1 Kh1 mwX1_product_0 mwX1_product_2 dX1_product_134 ?_
  refine q_iconst (pc := 137) (v := 0) C dX1_product_137 (by decide) ?_
  refine q_iload (pc := 138) C dX1_product_138 0 rfl ?_
  obtain ⟨b23, b24, b25, b26, b27, h⟩ := h
  refine q_copy (pc := 140) C mwX1_product_6 mwX1_product_7 mwX1_product_8 mwX1_product_9 Lr4 Kr4 Lr21 Kr21 b23 b24 b25 b26 b27 (by decide) (Nat.le_of_ble_eq_true rfl) dX1_product_140 (fun σ22 eσ22 => ?_)
  replace h := h σ22 eσ22
  refine q_aload_n (pc := 143) C dX1_product_143 rfl 3 rfl ?_
  refine q_iload (pc := 144) C dX1_product_144 0 rfl ?_
  refine q_aload_n (pc := 146) C dX1_product_146 rfl 4 rfl ?_
  refine q_g4_2 (pc := 147) C Lh2 Kh2 mwX1_product_0 mwX1_product_13 dX1_product_147 ?_
  refine q_aload_n (pc := 150) C dX1_product_150 rfl 5 rfl ?_
  refine q_g4_2 (pc := 151) C Lh3 Kh3 mwX1_product_0 mwX1_product_13 dX1_product_151 ?_
  refine q_icmp_eq (tgt := 161) (pc := 154) C dX1_product_154 (by decide) (fun c28 => ?_) (fun c28 => ?_)
  · replace h := h.1 c28
    refine q_iconst (pc := 161) (v := 0) C dX1_product_161 (by decide) ?_
    refine q_cVv (pc := 162) (As := [.int v20, .int 0]) (ci := 4) (Cn := RX4) (T := TX4) (N := 3) C (sdX4_settle C.2.2.2.2.2.1 C.2.2.2.2.2.2 Lh1 Kh1 h) (cwV 2 C.1.2.2.2.2 gX1_product_X4_settle rfl rfl rfl (by decide +kernel) (q_room (by decide) (by decide))) Lh1 (qc4 Kh1 _) rfl rfl rfl (Nat.le_of_ble_eq_true rfl) dX1_product_162 (fun σ29 h => ?_)
    exact q_vret (pc := 165) C dX1_product_165 h
  · replace h := h.2 c28
    refine q_iconst (pc := 157) (v := 1) C dX1_product_157 (by decide) ?_
    refine q_goto (tgt := 162) (pc := 158) C dX1_product_158 (by decide) ?_
    refine q_cVv (pc := 162) (As := [.int v20, .int 1]) (ci := 4) (Cn := RX4) (T := TX4) (N := 3) C (sdX4_settle C.2.2.2.2.2.1 C.2.2.2.2.2.2 Lh1 Kh1 h) (cwV 2 C.1.2.2.2.2 gX1_product_X4_settle rfl rfl rfl (by decide +kernel) (q_room (by decide) (by decide))) Lh1 (qc4 Kh1 _) rfl rfl rfl (Nat.le_of_ble_eq_true rfl) dX1_product_162 (fun σ31 h => ?_)
    exact q_vret (pc := 165) C dX1_product_165 h
def bkX1_product_16 (G : qG) (h0 : Nat) (h1 : Nat) (h2 : Nat) (h3 : Nat) (s0 : Nat) (post : qS → Prop) (σ : qS) : Prop := (((σ h2 1) < (σ h3 1) → bkX1_product_34 G h0 h1 h2 h3 s0 h2 post σ) ∧ (¬ (σ h2 1) < (σ h3 1) → bkX1_product_34 G h0 h1 h2 h3 s0 h3 post σ))
set_option maxHeartbeats 4000000 in
set_option maxRecDepth 100000 in
theorem sbX1_product_16 {p : Program} {l : Launch} {e : Env} {s : State} {m : MethodId} {args : Array Value} {below : List Frame} {meth : Method} {c : Code} {E : qE} {L : List Nat} {G : qG} {A : Nat → Prop} (C : q_C p s m args meth c cX1_product 7 wsX1_product RX1 none E L G A) {h0 : Nat} {h1 : Nat} {h2 : Nat} {h3 : Nat} {s0 : Nat} (Lh0 : h0 ∈ L) (Kh0 : G.1 h0 = 1) (Lh1 : h1 ∈ L) (Kh1 : G.1 h1 = 4) (Lh2 : h2 ∈ L) (Kh2 : G.1 h2 = 4) (Lh3 : h3 ∈ L) (Kh3 : G.1 h3 = 4) (Ls0 : s0 ∈ L) (Ks0 : G.1 s0 = 4) {post : qS → Prop} {σ : qS} (h : bkX1_product_16 G h0 h1 h2 h3 s0 post σ) : Wd p l e (q_rm 25) s m args below meth c E L G A (MQ below (va_Qv post (q_B E L G) A) args s 0 0 A) 7 σ 16 [(0, .ref h0), (1, .ref h1), (2, .ref h2), (3, .ref h3)] [.ref s0] := by
  unfold bkX1_product_16 at h
  refine q_astore (pc := 16) (lv' := [(4, .ref s0), (0, .ref h0), (1, .ref h1), (2, .ref h2), (3, .ref h3)]) C dX1_product_16 (by decide) rfl ?_
  refine q_aload_n (pc := 18) C dX1_product_18 rfl 3 rfl ?_
  refine q_g4_1 (pc := 19) C Lh2 Kh2 mwX1_product_0 mwX1_product_1 dX1_product_19 ?_
  refine q_aload_n (pc := 22) C dX1_product_22 rfl 4 rfl ?_
  refine q_g4_1 (pc := 23) C Lh3 Kh3 mwX1_product_0 mwX1_product_1 dX1_product_23 ?_
  refine q_icmp_lt (tgt := 33) (pc := 26) C dX1_product_26 (by decide) (fun c2 => ?_) (fun c2 => ?_)
  · replace h := h.1 c2
    refine q_aload_n (pc := 33) C dX1_product_33 rfl 3 rfl ?_
    refine q_lv (lv' := [(0, .ref h0), (1, .ref h1), (2, .ref h2), (3, .ref h3), (4, .ref s0)]) [1, 2, 3, 4, 0] rfl ?_
    exact sbX1_product_34 C Lh0 Kh0 Lh1 Kh1 Lh2 Kh2 Lh3 Kh3 Ls0 Ks0 Lh2 Kh2 h
  · replace h := h.2 c2
    refine q_aload_n (pc := 29) C dX1_product_29 rfl 4 rfl ?_
    refine q_goto (tgt := 34) (pc := 30) C dX1_product_30 (by decide) ?_
    refine q_lv (lv' := [(0, .ref h0), (1, .ref h1), (2, .ref h2), (3, .ref h3), (4, .ref s0)]) [1, 2, 3, 4, 0] rfl ?_
    exact sbX1_product_34 C Lh0 Kh0 Lh1 Kh1 Lh2 Kh2 Lh3 Kh3 Ls0 Ks0 Lh3 Kh3 h
def wpX1_product (G : qG) (h0 : Nat) (h1 : Nat) (h2 : Nat) (h3 : Nat) (σ : qS) (post : qS → Prop) : Prop := (((σ h2 1) < (σ h3 1) → bkX1_product_16 G h0 h1 h2 h3 h3 post σ) ∧ (¬ (σ h2 1) < (σ h3 1) → bkX1_product_16 G h0 h1 h2 h3 h2 post σ))
set_option maxHeartbeats 4000000 in
set_option maxRecDepth 100000 in
theorem sdX1_product {l : Launch} {E : qE} {L : List Nat} {G : qG} (hN : L.Nodup) (hG : q_WF G L) {h0 : Nat} {h1 : Nat} {h2 : Nat} {h3 : Nat} (Lh0 : h0 ∈ L) (Kh0 : G.1 h0 = 1) (Lh1 : h1 ∈ L) (Kh1 : G.1 h1 = 4) (Lh2 : h2 ∈ L) (Kh2 : G.1 h2 = 4) (Lh3 : h3 ∈ L) (Kh3 : G.1 h3 = 4) {σ : qS} {post : qS → Prop} (h : wpX1_product G h0 h1 h2 h3 σ post) : MtV l E L G yX1_product wsX1_product (q_rm 25) [.ref h0, .ref h1, .ref h2, .ref h3] σ post := by
  refine q_met (Qc := fun sz => va_Qv post (q_B E L G) (q_free L sz)) (cc := cX1_product) (maxL := 7) (ret := none) (own := RX1) (by decide) rfl rfl (Nat.le_of_ble_eq_true rfl) hN hG ?_
  intro p e s m below meth c C
  unfold wpX1_product at h
  refine q_aload_n (pc := 0) C dX1_product_0 rfl 2 rfl ?_
  refine q_g4_1 (pc := 1) C Lh2 Kh2 mwX1_product_0 mwX1_product_1 dX1_product_1 ?_
  refine q_aload_n (pc := 4) C dX1_product_4 rfl 3 rfl ?_
  refine q_g4_1 (pc := 5) C Lh3 Kh3 mwX1_product_0 mwX1_product_1 dX1_product_5 ?_
  refine q_icmp_lt (tgt := 15) (pc := 8) C dX1_product_8 (by decide) (fun c1 => ?_) (fun c1 => ?_)
  · replace h := h.1 c1
    refine q_aload_n (pc := 15) C dX1_product_15 rfl 3 rfl ?_
    exact sbX1_product_16 C Lh0 Kh0 Lh1 Kh1 Lh2 Kh2 Lh3 Kh3 Lh3 Kh3 h
  · replace h := h.2 c1
    refine q_aload_n (pc := 11) C dX1_product_11 rfl 2 rfl ?_
    refine q_goto (tgt := 16) (pc := 12) C dX1_product_12 (by decide) ?_
    exact sbX1_product_16 C Lh0 Kh0 Lh1 Kh1 Lh2 Kh2 Lh3 Kh3 Lh2 Kh2 h

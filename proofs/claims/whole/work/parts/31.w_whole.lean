theorem mwX4_settle_0 : ∀ w ∈ wsX40, w ∈ wsX4_settle := by decide +kernel
theorem mwX4_settle_1 : Cond.fieldLink RX4 13 "IntFile$Whole" "count" "I" ∈ wsX4_settle := by decide +kernel
theorem mwX4_settle_2 : Cond.fieldLink RX4 7 "IntFile$Whole" "limbs" "[I" ∈ wsX4_settle := by decide +kernel
theorem mwX4_settle_3 : Cond.fieldLink RX4 17 "IntFile$Whole" "below" "Z" ∈ wsX4_settle := by decide +kernel
def lpX4_settle_5 (G : qG) (h0 : Nat) (x2 : Int32) (post : qS → Prop) (kx39 : qS → Prop) : Nat → qS → Prop
  | 0, _ => False
  | n + 1, σ => (((σ h0 1) ≤ 0 → kx39 σ) ∧ (¬ (σ h0 1) ≤ 0 → vp_in ((σ h0 1) - 1) (G.2.2 ((G.2.1 h0 0))) ∧ (((σ ((G.2.1 h0 0)) ((σ h0 1) - 1).toNatClampNeg) = 0 → ∀ σ6 : qS, σ6 = q_st σ h0 1 ((σ h0 1) - 1) → lpX4_settle_5 G h0 x2 post kx39 n  σ6) ∧ (¬ (σ ((G.2.1 h0 0)) ((σ h0 1) - 1).toNatClampNeg) = 0 → kx39 σ))))
set_option maxHeartbeats 4000000 in
set_option maxRecDepth 100000 in
theorem slX4_settle_5 {p : Program} {l : Launch} {e : Env} {s : State} {m : MethodId} {args : Array Value} {below : List Frame} {meth : Method} {c : Code} {E : qE} {L : List Nat} {G : qG} {A : Nat → Prop} (C : q_C p s m args meth c cX4_settle 3 wsX4_settle RX4 none E L G A) {h0 : Nat} {x2 : Int32} (Lh0 : h0 ∈ L) (Kh0 : G.1 h0 = 4) {post : qS → Prop} {kx39 : qS → Prop} (Hkx39 : ∀  (τ : qS), kx39  τ → Wd p l e (q_rm 1) s m args below meth c E L G A (MQ below (va_Qv post (q_B E L G) A) args s 0 0 A) 3 τ 39 [(0, .ref h0), (2, .int x2)] []) : ∀ (n : Nat)  (σ : qS), lpX4_settle_5 G h0 x2 post kx39 n  σ → Wd p l e (q_rm 1) s m args below meth c E L G A (MQ below (va_Qv post (q_B E L G) A) args s 0 0 A) 3 σ 5 [(0, .ref h0), (2, .int x2)] [] := by
  intro n
  induction n with
  | zero => intro  σ h; exact h.elim
  | succ n ih =>
    intro  σ h
    unfold lpX4_settle_5 at h
    refine q_aload_n (pc := 5) C dX4_settle_5 rfl 0 rfl ?_
    refine q_g4_1 (pc := 6) C Lh0 Kh0 mwX4_settle_0 mwX4_settle_1 dX4_settle_6 ?_
    refine q_if_le (tgt := 39) (pc := 9) C dX4_settle_9 (by decide) (fun c2 => ?_) (fun c2 => ?_)
    · replace h := h.1 c2
      exact Hkx39  σ h
    · replace h := h.2 c2
      refine q_aload_n (pc := 12) C dX4_settle_12 rfl 0 rfl ?_
      obtain ⟨Lr3, Kr3⟩ := qw_4_0 C.2.2.2.2.2.2 Lh0 Kh0
      refine q_g4_0 (pc := 13) C Lh0 Kh0 mwX4_settle_0 mwX4_settle_2 dX4_settle_13 ?_
      refine q_aload_n (pc := 16) C dX4_settle_16 rfl 0 rfl ?_
      refine q_g4_1 (pc := 17) C Lh0 Kh0 mwX4_settle_0 mwX4_settle_1 dX4_settle_17 ?_
      refine q_iconst (pc := 20) (v := 1) C dX4_settle_20 (by decide) ?_
      refine q_isub (pc := 21) C dX4_settle_21 ?_
      obtain ⟨b4, h⟩ := h
      refine q_iald (pc := 22) C Lr3 Kr3 b4 dX4_settle_22 ?_
      refine q_if_ne (tgt := 39) (pc := 23) C dX4_settle_23 (by decide) (fun c5 => ?_) (fun c5 => ?_)
      · replace h := h.2 c5
        exact Hkx39  σ h
      · replace h := h.1 c5
        refine q_aload_n (pc := 26) C dX4_settle_26 rfl 0 rfl ?_
        refine q_dup (pc := 27) C dX4_settle_27 rfl ?_
        refine q_g4_1 (pc := 28) C Lh0 Kh0 mwX4_settle_0 mwX4_settle_1 dX4_settle_28 ?_
        refine q_iconst (pc := 31) (v := 1) C dX4_settle_31 (by decide) ?_
        refine q_isub (pc := 32) C dX4_settle_32 ?_
        refine q_p4_1 (pc := 33) C Lh0 Kh0 mwX4_settle_0 mwX4_settle_1 dX4_settle_33 (fun σ6 eσ6 => ?_)
        replace h := h σ6 eσ6
        refine q_goto (tgt := 5) (pc := 36) C dX4_settle_36 (by decide) ?_
        exact ih  σ6 h
def bkX4_settle_55 (G : qG) (s0 : Nat) (post : qS → Prop) (σ : qS) : Prop := ∀ σ9 : qS, σ9 = q_st σ s0 2 0 → post σ9
set_option maxHeartbeats 4000000 in
set_option maxRecDepth 100000 in
theorem sbX4_settle_55 {p : Program} {l : Launch} {e : Env} {s : State} {m : MethodId} {args : Array Value} {below : List Frame} {meth : Method} {c : Code} {E : qE} {L : List Nat} {G : qG} {A : Nat → Prop} (C : q_C p s m args meth c cX4_settle 3 wsX4_settle RX4 none E L G A) {s0 : Nat} (Ls0 : s0 ∈ L) (Ks0 : G.1 s0 = 4) {post : qS → Prop} {σ : qS} (h : bkX4_settle_55 G s0 post σ) : Wd p l e (q_rm 1) s m args below meth c E L G A (MQ below (va_Qv post (q_B E L G) A) args s 0 0 A) 3 σ 55 [] [.ref s0] := by
  unfold bkX4_settle_55 at h
  refine q_iconst (pc := 55) (v := 0) C dX4_settle_55 (by decide) ?_
  refine q_p4_2 (pc := 56) C Ls0 Ks0 mwX4_settle_0 mwX4_settle_3 (Or.inl rfl) dX4_settle_56 (fun σ9 eσ9 => ?_)
  replace h := h σ9 eσ9
  exact q_vret (pc := 59) C dX4_settle_59 h
def bkX4_settle_39 (G : qG) (h0 : Nat) (x2 : Int32) (post : qS → Prop) (σ : qS) : Prop := ((x2 = 0 → bkX4_settle_55 G h0 post σ) ∧ (¬ x2 = 0 → (((σ h0 1) ≤ 0 → bkX4_settle_55 G h0 post σ) ∧ (¬ (σ h0 1) ≤ 0 → ∀ σ11 : qS, σ11 = q_st σ h0 2 1 → post σ11))))
set_option maxHeartbeats 4000000 in
set_option maxRecDepth 100000 in
theorem sbX4_settle_39 {p : Program} {l : Launch} {e : Env} {s : State} {m : MethodId} {args : Array Value} {below : List Frame} {meth : Method} {c : Code} {E : qE} {L : List Nat} {G : qG} {A : Nat → Prop} (C : q_C p s m args meth c cX4_settle 3 wsX4_settle RX4 none E L G A) {h0 : Nat} {x2 : Int32} (Lh0 : h0 ∈ L) (Kh0 : G.1 h0 = 4) {post : qS → Prop} {σ : qS} (h : bkX4_settle_39 G h0 x2 post σ) : Wd p l e (q_rm 1) s m args below meth c E L G A (MQ below (va_Qv post (q_B E L G) A) args s 0 0 A) 3 σ 39 [(0, .ref h0), (2, .int x2)] [] := by
  unfold bkX4_settle_39 at h
  refine q_aload_n (pc := 39) C dX4_settle_39 rfl 0 rfl ?_
  refine q_iload_n (pc := 40) C dX4_settle_40 rfl 1 rfl ?_
  refine q_if_eq (tgt := 55) (pc := 41) C dX4_settle_41 (by decide) (fun c8 => ?_) (fun c8 => ?_)
  · replace h := h.1 c8
    refine q_lv (lv' := []) [] rfl ?_
    exact sbX4_settle_55 C Lh0 Kh0 h
  · replace h := h.2 c8
    refine q_aload_n (pc := 44) C dX4_settle_44 rfl 0 rfl ?_
    refine q_g4_1 (pc := 45) C Lh0 Kh0 mwX4_settle_0 mwX4_settle_1 dX4_settle_45 ?_
    refine q_if_le (tgt := 55) (pc := 48) C dX4_settle_48 (by decide) (fun c10 => ?_) (fun c10 => ?_)
    · replace h := h.1 c10
      refine q_lv (lv' := []) [] rfl ?_
      exact sbX4_settle_55 C Lh0 Kh0 h
    · replace h := h.2 c10
      refine q_iconst (pc := 51) (v := 1) C dX4_settle_51 (by decide) ?_
      refine q_goto (tgt := 56) (pc := 52) C dX4_settle_52 (by decide) ?_
      refine q_p4_2 (pc := 56) C Lh0 Kh0 mwX4_settle_0 mwX4_settle_3 (Or.inr rfl) dX4_settle_56 (fun σ11 eσ11 => ?_)
      replace h := h σ11 eσ11
      exact q_vret (pc := 59) C dX4_settle_59 h
def wpX4_settle (G : qG) (h0 : Nat) (x1 : Int32) (x2 : Int32) (σ : qS) (post : qS → Prop) : Prop := ∀ σ1 : qS, σ1 = q_st σ h0 1 x1 → ∃ n12 : Nat, lpX4_settle_5 G h0 x2 post (fun  (σ7 : qS) => bkX4_settle_39 G h0 x2 post σ7) n12  σ1
set_option maxHeartbeats 4000000 in
set_option maxRecDepth 100000 in
theorem sdX4_settle {l : Launch} {E : qE} {L : List Nat} {G : qG} (hN : L.Nodup) (hG : q_WF G L) {h0 : Nat} {x1 : Int32} {x2 : Int32} (Lh0 : h0 ∈ L) (Kh0 : G.1 h0 = 4) {σ : qS} {post : qS → Prop} (h : wpX4_settle G h0 x1 x2 σ post) : MtV l E L G yX4_settle wsX4_settle (q_rm 1) [.ref h0, .int x1, .int x2] σ post := by
  refine q_met (Qc := fun sz => va_Qv post (q_B E L G) (q_free L sz)) (cc := cX4_settle) (maxL := 3) (ret := none) (own := RX4) (by decide) rfl rfl (Nat.le_of_ble_eq_true rfl) hN hG ?_
  intro p e s m below meth c C
  unfold wpX4_settle at h
  refine q_aload_n (pc := 0) C dX4_settle_0 rfl 0 rfl ?_
  refine q_iload_n (pc := 1) C dX4_settle_1 rfl 1 rfl ?_
  refine q_p4_1 (pc := 2) C Lh0 Kh0 mwX4_settle_0 mwX4_settle_1 dX4_settle_2 (fun σ1 eσ1 => ?_)
  replace h := h σ1 eσ1
  refine q_lv (lv' := [(0, .ref h0), (2, .int x2)]) [0, 2] rfl ?_
  obtain ⟨n12, h⟩ := h
  refine slX4_settle_5 C Lh0 Kh0 ?_ n12  σ1 h
  · intro σ7 h
    exact sbX4_settle_39 C Lh0 Kh0 h
theorem mwX4_shiftDown_0 : Cond.constantLong RX4 31 (4294967295) ∈ wsX4_shiftDown := by decide +kernel
theorem mwX4_shiftDown_1 : ∀ w ∈ wsX40, w ∈ wsX4_shiftDown := by decide +kernel
theorem mwX4_shiftDown_2 : Cond.fieldLink RX4 7 "IntFile$Whole" "limbs" "[I" ∈ wsX4_shiftDown := by decide +kernel
def lpX4_shiftDown_8 (G : qG) (h0 : Nat) (h1 : Nat) (x2 : Int32) (x4 : Int32) (post : qS → Prop) (kx55 : qS → Prop) : Nat → Int64 → Int32 → qS → Prop
  | 0, _, _, _ => False
  | n + 1, x5, x7, σ => ((x7 < 0 → kx55 σ) ∧ (¬ x7 < 0 → vp_in (x2 + x7) (G.2.2 h1) ∧ ∀ v5 : Int64, v5 = ((σ h1 (x2 + x7).toNatClampNeg).toInt64) &&& 4294967295 → vp_in x7 (G.2.2 ((G.2.1 h0 0))) ∧ ∀ σ8 : qS, σ8 = q_st σ ((G.2.1 h0 0)) x7.toNatClampNeg ((((((x5 <<< ((32 : Int32).toInt64 &&& 63)) ||| v5).toUInt64 >>> (x4.toInt64.toUInt64 &&& Int64.toUInt64 63)).toInt64).toInt32)) → ∀ v9 : Int32, v9 = x7 + (-1) → lpX4_shiftDown_8 G h0 h1 x2 x4 post kx55 n v5 v9 σ8))
set_option maxHeartbeats 4000000 in
set_option maxRecDepth 100000 in
theorem slX4_shiftDown_8 {p : Program} {l : Launch} {e : Env} {s : State} {m : MethodId} {args : Array Value} {below : List Frame} {meth : Method} {c : Code} {E : qE} {L : List Nat} {G : qG} {A : Nat → Prop} (C : q_C p s m args meth c cX4_shiftDown 10 wsX4_shiftDown RX4 none E L G A) {h0 : Nat} {h1 : Nat} {x2 : Int32} {x4 : Int32} (Lh0 : h0 ∈ L) (Kh0 : G.1 h0 = 4) (Lh1 : h1 ∈ L) (Kh1 : G.1 h1 = 7) {post : qS → Prop} {kx55 : qS → Prop} (Hkx55 : ∀  (τ : qS), kx55  τ → Wd p l e (q_rm 1) s m args below meth c E L G A (MQ below (va_Qv post (q_B E L G) A) args s 0 0 A) 10 τ 55 [] []) : ∀ (n : Nat) (x5 : Int64) (x7 : Int32) (σ : qS), lpX4_shiftDown_8 G h0 h1 x2 x4 post kx55 n x5 x7 σ → Wd p l e (q_rm 1) s m args below meth c E L G A (MQ below (va_Qv post (q_B E L G) A) args s 0 0 A) 10 σ 8 [(0, .ref h0), (1, .ref h1), (2, .int x2), (4, .int x4), (5, .long x5), (7, .int x7)] [] := by
  intro n
  induction n with
  | zero => intro x5 x7 σ h; exact h.elim
  | succ n ih =>
    intro x5 x7 σ h
    unfold lpX4_shiftDown_8 at h
    refine q_iload (pc := 8) C dX4_shiftDown_8 5 rfl ?_
    refine q_if_lt (tgt := 55) (pc := 10) C dX4_shiftDown_10 (by decide) (fun c3 => ?_) (fun c3 => ?_)
    · replace h := h.1 c3
      refine q_lv (lv' := []) [] rfl ?_
      exact Hkx55  σ h
    · replace h := h.2 c3
      refine q_aload_n (pc := 13) C dX4_shiftDown_13 rfl 1 rfl ?_
      refine q_iload_n (pc := 14) C dX4_shiftDown_14 rfl 2 rfl ?_
      refine q_iload (pc := 15) C dX4_shiftDown_15 5 rfl ?_
      refine q_iadd (pc := 17) C dX4_shiftDown_17 ?_
      obtain ⟨b4, h⟩ := h
      refine q_iald (pc := 18) C Lh1 Kh1 b4 dX4_shiftDown_18 ?_
      refine q_i2l (pc := 19) C dX4_shiftDown_19 ?_
      refine q_ldc2 (pc := 20) (v := 4294967295) C dX4_shiftDown_20 mwX4_shiftDown_0 ?_
      refine q_land (pc := 23) C dX4_shiftDown_23 ?_
      refine q_topl (fun v5 ev5 => ?_)
      replace h := h v5 ev5
      refine q_lstore (pc := 24) (lv' := [(8, .long v5), (0, .ref h0), (1, .ref h1), (2, .int x2), (4, .int x4), (5, .long x5), (7, .int x7)]) C dX4_shiftDown_24 (by decide) rfl ?_
      refine q_aload_n (pc := 26) C dX4_shiftDown_26 rfl 1 rfl ?_
      obtain ⟨Lr6, Kr6⟩ := qw_4_0 C.2.2.2.2.2.2 Lh0 Kh0
      refine q_g4_0 (pc := 27) C Lh0 Kh0 mwX4_shiftDown_1 mwX4_shiftDown_2 dX4_shiftDown_27 ?_
      refine q_iload (pc := 30) C dX4_shiftDown_30 6 rfl ?_
      refine q_lload (pc := 32) C dX4_shiftDown_32 5 rfl ?_
      refine q_bipush (pc := 34) (v := 32) C dX4_shiftDown_34 (by decide) ?_
      refine q_lshl (pc := 36) C dX4_shiftDown_36 ?_
      refine q_lload (pc := 37) C dX4_shiftDown_37 0 rfl ?_
      refine q_lor (pc := 39) C dX4_shiftDown_39 ?_
      refine q_iload (pc := 40) C dX4_shiftDown_40 4 rfl ?_
      refine q_lushr (pc := 42) C dX4_shiftDown_42 ?_
      refine q_l2i (pc := 43) C dX4_shiftDown_43 ?_
      obtain ⟨b7, h⟩ := h
      refine q_iast (pc := 44) C Lr6 Kr6 b7 dX4_shiftDown_44 (fun σ8 eσ8 => ?_)
      replace h := h σ8 eσ8
      refine q_lload (pc := 45) C dX4_shiftDown_45 0 rfl ?_
      refine q_lstore (pc := 47) (lv' := [(5, .long v5), (8, .long v5), (0, .ref h0), (1, .ref h1), (2, .int x2), (4, .int x4), (7, .int x7)]) C dX4_shiftDown_47 (by decide) rfl ?_
      obtain ⟨v9, ev9⟩ : ∃ z : Int32, z = x7 + (-1) := ⟨_, rfl⟩
      replace h := h v9 ev9
      refine q_iinc (pc := 49) (v := v9) (j := 6) (lv' := [(7, .int v9), (5, .long v5), (8, .long v5), (0, .ref h0), (1, .ref h1), (2, .int x2), (4, .int x4)]) C dX4_shiftDown_49 rfl (by rw [ev9]; rfl) (by decide) rfl ?_
      refine q_goto (tgt := 8) (pc := 52) C dX4_shiftDown_52 (by decide) ?_
      refine q_lv (lv' := [(0, .ref h0), (1, .ref h1), (2, .int x2), (4, .int x4), (5, .long v5), (7, .int v9)]) [3, 4, 5, 6, 1, 0] rfl ?_
      exact ih v5 v9 σ8 h
def wpX4_shiftDown (G : qG) (h0 : Nat) (h1 : Nat) (x2 : Int32) (x3 : Int32) (x4 : Int32) (σ : qS) (post : qS → Prop) : Prop := ∀ v1 : Int64, v1 = 0 → ∀ v2 : Int32, v2 = x3 - 1 → ∃ n11 : Nat, lpX4_shiftDown_8 G h0 h1 x2 x4 post (fun  (σ10 : qS) => post σ10) n11 v1 v2 σ
set_option maxHeartbeats 4000000 in
set_option maxRecDepth 100000 in
theorem sdX4_shiftDown {l : Launch} {E : qE} {L : List Nat} {G : qG} (hN : L.Nodup) (hG : q_WF G L) {h0 : Nat} {h1 : Nat} {x2 : Int32} {x3 : Int32} {x4 : Int32} (Lh0 : h0 ∈ L) (Kh0 : G.1 h0 = 4) (Lh1 : h1 ∈ L) (Kh1 : G.1 h1 = 7) {σ : qS} {post : qS → Prop} (h : wpX4_shiftDown G h0 h1 x2 x3 x4 σ post) : MtV l E L G yX4_shiftDown wsX4_shiftDown (q_rm 1) [.ref h0, .ref h1, .int x2, .int x3, .int x4] σ post := by
  refine q_met (Qc := fun sz => va_Qv post (q_B E L G) (q_free L sz)) (cc := cX4_shiftDown) (maxL := 10) (ret := none) (own := RX4) (by decide) rfl rfl (Nat.le_of_ble_eq_true rfl) hN hG ?_
  intro p e s m below meth c C
  unfold wpX4_shiftDown at h
  refine q_lconst (pc := 0) (v := 0) C dX4_shiftDown_0 (by decide) ?_
  refine q_topl (fun v1 ev1 => ?_)
  replace h := h v1 ev1
  refine q_lstore (pc := 1) (lv' := [(5, .long v1), (0, .ref h0), (1, .ref h1), (2, .int x2), (3, .int x3), (4, .int x4)]) C dX4_shiftDown_1 (by decide) rfl ?_
  refine q_iload_n (pc := 3) C dX4_shiftDown_3 rfl 4 rfl ?_
  refine q_iconst (pc := 4) (v := 1) C dX4_shiftDown_4 (by decide) ?_
  refine q_isub (pc := 5) C dX4_shiftDown_5 ?_
  refine q_topi (fun v2 ev2 => ?_)
  replace h := h v2 ev2
  refine q_istore (pc := 6) (lv' := [(7, .int v2), (5, .long v1), (0, .ref h0), (1, .ref h1), (2, .int x2), (3, .int x3), (4, .int x4)]) C dX4_shiftDown_6 (by decide) rfl ?_
  refine q_lv (lv' := [(0, .ref h0), (1, .ref h1), (2, .int x2), (4, .int x4), (5, .long v1), (7, .int v2)]) [2, 3, 4, 6, 1, 0] rfl ?_
  obtain ⟨n11, h⟩ := h
  refine slX4_shiftDown_8 C Lh0 Kh0 Lh1 Kh1 ?_ n11 v1 v2 σ h
  · intro σ10 h
    exact q_vret (pc := 55) C dX4_shiftDown_55 h
theorem mwX4_shiftUp_0 : ∀ w ∈ wsX40, w ∈ wsX4_shiftUp := by decide +kernel
theorem mwX4_shiftUp_1 : Cond.fieldLink RX4 13 "IntFile$Whole" "count" "I" ∈ wsX4_shiftUp := by decide +kernel
theorem mwX4_shiftUp_2 : Cond.fieldLink RX4 7 "IntFile$Whole" "limbs" "[I" ∈ wsX4_shiftUp := by decide +kernel
theorem mwX4_shiftUp_3 : Cond.constantLong RX4 31 (4294967295) ∈ wsX4_shiftUp := by decide +kernel
def lpX4_shiftUp_6 (G : qG) (h0 : Nat) (x1 : Int32) (h2 : Nat) (x3 : Int32) (post : Int32 → qS → Prop) (kx56 : Int64 → qS → Prop) : Nat → Int64 → Int32 → qS → Prop
  | 0, _, _, _ => False
  | n + 1, x4, x6, σ => (((σ h0 1) ≤ x6 → kx56 x4 σ) ∧ (¬ (σ h0 1) ≤ x6 → vp_in x6 (G.2.2 ((G.2.1 h0 0))) ∧ ∀ v6 : Int64, v6 = ((((σ ((G.2.1 h0 0)) x6.toNatClampNeg).toInt64) &&& 4294967295) <<< (x1.toInt64 &&& 63)) ||| x4 → vp_in (x3 + x6) (G.2.2 h2) ∧ ∀ σ8 : qS, σ8 = q_st σ h2 (x3 + x6).toNatClampNeg v6.toInt32 → ∀ v9 : Int64, v9 = (v6.toUInt64 >>> ((32 : Int32).toInt64.toUInt64 &&& Int64.toUInt64 63)).toInt64 → ∀ v10 : Int32, v10 = x6 + 1 → lpX4_shiftUp_6 G h0 x1 h2 x3 post kx56 n v9 v10 σ8))
set_option maxHeartbeats 4000000 in
set_option maxRecDepth 100000 in
theorem slX4_shiftUp_6 {p : Program} {l : Launch} {e : Env} {s : State} {m : MethodId} {args : Array Value} {below : List Frame} {meth : Method} {c : Code} {E : qE} {L : List Nat} {G : qG} {A : Nat → Prop} (C : q_C p s m args meth c cX4_shiftUp 9 wsX4_shiftUp RX4 (some .int) E L G A) {h0 : Nat} {x1 : Int32} {h2 : Nat} {x3 : Int32} (Lh0 : h0 ∈ L) (Kh0 : G.1 h0 = 4) (Lh2 : h2 ∈ L) (Kh2 : G.1 h2 = 7) {post : Int32 → qS → Prop} {kx56 : Int64 → qS → Prop} (Hkx56 : ∀ (y4 : Int64) (τ : qS), kx56 y4 τ → Wd p l e (q_rm 1) s m args below meth c E L G A (MQ below (va_Qi post (q_B E L G) A) args s 0 0 A) 9 τ 56 [(4, .long y4)] []) : ∀ (n : Nat) (x4 : Int64) (x6 : Int32) (σ : qS), lpX4_shiftUp_6 G h0 x1 h2 x3 post kx56 n x4 x6 σ → Wd p l e (q_rm 1) s m args below meth c E L G A (MQ below (va_Qi post (q_B E L G) A) args s 0 0 A) 9 σ 6 [(0, .ref h0), (1, .int x1), (2, .ref h2), (3, .int x3), (4, .long x4), (6, .int x6)] [] := by
  intro n
  induction n with
  | zero => intro x4 x6 σ h; exact h.elim
  | succ n ih =>
    intro x4 x6 σ h
    unfold lpX4_shiftUp_6 at h
    refine q_iload (pc := 6) C dX4_shiftUp_6 5 rfl ?_
    refine q_aload_n (pc := 8) C dX4_shiftUp_8 rfl 0 rfl ?_
    refine q_g4_1 (pc := 9) C Lh0 Kh0 mwX4_shiftUp_0 mwX4_shiftUp_1 dX4_shiftUp_9 ?_
    refine q_icmp_ge (tgt := 56) (pc := 12) C dX4_shiftUp_12 (by decide) (fun c3 => ?_) (fun c3 => ?_)
    · replace h := h.1 c3
      refine q_lv (lv' := [(4, .long x4)]) [4] rfl ?_
      exact Hkx56 x4 σ h
    · replace h := h.2 c3
      refine q_aload_n (pc := 15) C dX4_shiftUp_15 rfl 0 rfl ?_
      obtain ⟨Lr4, Kr4⟩ := qw_4_0 C.2.2.2.2.2.2 Lh0 Kh0
      refine q_g4_0 (pc := 16) C Lh0 Kh0 mwX4_shiftUp_0 mwX4_shiftUp_2 dX4_shiftUp_16 ?_
      refine q_iload (pc := 19) C dX4_shiftUp_19 5 rfl ?_
      obtain ⟨b5, h⟩ := h
      refine q_iald (pc := 21) C Lr4 Kr4 b5 dX4_shiftUp_21 ?_
      refine q_i2l (pc := 22) C dX4_shiftUp_22 ?_
      refine q_ldc2 (pc := 23) (v := 4294967295) C dX4_shiftUp_23 mwX4_shiftUp_3 ?_
      refine q_land (pc := 26) C dX4_shiftUp_26 ?_
      refine q_iload_n (pc := 27) C dX4_shiftUp_27 rfl 1 rfl ?_
      refine q_lshl (pc := 28) C dX4_shiftUp_28 ?_
      refine q_lload (pc := 29) C dX4_shiftUp_29 4 rfl ?_
      refine q_lor (pc := 31) C dX4_shiftUp_31 ?_
      refine q_topl (fun v6 ev6 => ?_)
      replace h := h v6 ev6
      refine q_lstore (pc := 32) (lv' := [(7, .long v6), (0, .ref h0), (1, .int x1), (2, .ref h2), (3, .int x3), (4, .long x4), (6, .int x6)]) C dX4_shiftUp_32 (by decide) rfl ?_
      refine q_aload_n (pc := 34) C dX4_shiftUp_34 rfl 3 rfl ?_
      refine q_iload_n (pc := 35) C dX4_shiftUp_35 rfl 4 rfl ?_
      refine q_iload (pc := 36) C dX4_shiftUp_36 6 rfl ?_
      refine q_iadd (pc := 38) C dX4_shiftUp_38 ?_
      refine q_lload (pc := 39) C dX4_shiftUp_39 0 rfl ?_
      refine q_l2i (pc := 41) C dX4_shiftUp_41 ?_
      obtain ⟨b7, h⟩ := h
      refine q_iast (pc := 42) C Lh2 Kh2 b7 dX4_shiftUp_42 (fun σ8 eσ8 => ?_)
      replace h := h σ8 eσ8
      refine q_lload (pc := 43) C dX4_shiftUp_43 0 rfl ?_
      refine q_bipush (pc := 45) (v := 32) C dX4_shiftUp_45 (by decide) ?_
      refine q_lushr (pc := 47) C dX4_shiftUp_47 ?_
      refine q_topl (fun v9 ev9 => ?_)
      replace h := h v9 ev9
      refine q_lstore (pc := 48) (lv' := [(4, .long v9), (7, .long v6), (0, .ref h0), (1, .int x1), (2, .ref h2), (3, .int x3), (6, .int x6)]) C dX4_shiftUp_48 (by decide) rfl ?_
      obtain ⟨v10, ev10⟩ : ∃ z : Int32, z = x6 + 1 := ⟨_, rfl⟩
      replace h := h v10 ev10
      refine q_iinc (pc := 50) (v := v10) (j := 6) (lv' := [(6, .int v10), (4, .long v9), (7, .long v6), (0, .ref h0), (1, .int x1), (2, .ref h2), (3, .int x3)]) C dX4_shiftUp_50 rfl (by rw [ev10]; rfl) (by decide) rfl ?_
      refine q_goto (tgt := 6) (pc := 53) C dX4_shiftUp_53 (by decide) ?_
      refine q_lv (lv' := [(0, .ref h0), (1, .int x1), (2, .ref h2), (3, .int x3), (4, .long v9), (6, .int v10)]) [3, 4, 5, 6, 1, 0] rfl ?_
      exact ih v9 v10 σ8 h
def wpX4_shiftUp (G : qG) (h0 : Nat) (x1 : Int32) (h2 : Nat) (x3 : Int32) (σ : qS) (post : Int32 → qS → Prop) : Prop := ∀ v1 : Int64, v1 = 0 → ∀ v2 : Int32, v2 = 0 → ∃ n13 : Nat, lpX4_shiftUp_6 G h0 x1 h2 x3 post (fun (w11 : Int64) (σ12 : qS) => post w11.toInt32 σ12) n13 v1 v2 σ
set_option maxHeartbeats 4000000 in
set_option maxRecDepth 100000 in
theorem sdX4_shiftUp {l : Launch} {E : qE} {L : List Nat} {G : qG} (hN : L.Nodup) (hG : q_WF G L) {h0 : Nat} {x1 : Int32} {h2 : Nat} {x3 : Int32} (Lh0 : h0 ∈ L) (Kh0 : G.1 h0 = 4) (Lh2 : h2 ∈ L) (Kh2 : G.1 h2 = 7) {σ : qS} {post : Int32 → qS → Prop} (h : wpX4_shiftUp G h0 x1 h2 x3 σ post) : MtI l E L G yX4_shiftUp wsX4_shiftUp (q_rm 1) [.ref h0, .int x1, .ref h2, .int x3] σ post := by
  refine q_met (Qc := fun sz => va_Qi post (q_B E L G) (q_free L sz)) (cc := cX4_shiftUp) (maxL := 9) (ret := (some .int)) (own := RX4) (by decide) rfl rfl (Nat.le_of_ble_eq_true rfl) hN hG ?_
  intro p e s m below meth c C
  unfold wpX4_shiftUp at h
  refine q_lconst (pc := 0) (v := 0) C dX4_shiftUp_0 (by decide) ?_
  refine q_topl (fun v1 ev1 => ?_)
  replace h := h v1 ev1
  refine q_lstore (pc := 1) (lv' := [(4, .long v1), (0, .ref h0), (1, .int x1), (2, .ref h2), (3, .int x3)]) C dX4_shiftUp_1 (by decide) rfl ?_
  refine q_iconst (pc := 3) (v := 0) C dX4_shiftUp_3 (by decide) ?_
  refine q_topi (fun v2 ev2 => ?_)
  replace h := h v2 ev2
  refine q_istore (pc := 4) (lv' := [(6, .int v2), (4, .long v1), (0, .ref h0), (1, .int x1), (2, .ref h2), (3, .int x3)]) C dX4_shiftUp_4 (by decide) rfl ?_
  refine q_lv (lv' := [(0, .ref h0), (1, .int x1), (2, .ref h2), (3, .int x3), (4, .long v1), (6, .int v2)]) [2, 3, 4, 5, 1, 0] rfl ?_
  obtain ⟨n13, h⟩ := h
  refine slX4_shiftUp_6 C Lh0 Kh0 Lh2 Kh2 ?_ n13 v1 v2 σ h
  · intro w11 σ12 h
    refine q_lload (pc := 56) C dX4_shiftUp_56 0 rfl ?_
    refine q_l2i (pc := 58) C dX4_shiftUp_58 ?_
    exact q_iret (pc := 59) C dX4_shiftUp_59 h
theorem mwX4_become_0 : ∀ w ∈ wsX40, w ∈ wsX4_become := by decide +kernel
theorem mwX4_become_1 : Cond.fieldLink RX4 7 "IntFile$Whole" "limbs" "[I" ∈ wsX4_become := by decide +kernel
theorem mwX4_become_2 : Cond.fieldLink RX4 13 "IntFile$Whole" "count" "I" ∈ wsX4_become := by decide +kernel
theorem mwX4_become_3 : Cond.methodLink RX4 33 arraycopyName ∈ wsX4_become := by decide +kernel
theorem mwX4_become_4 : Cond.native arraycopyName ∈ wsX4_become := by decide +kernel
theorem mwX4_become_5 : Cond.static arraycopyName ∈ wsX4_become := by decide +kernel
theorem mwX4_become_6 : Cond.initialized "java/lang/System" ∈ wsX4_become := by decide +kernel
theorem mwX4_become_7 : Cond.fieldLink RX4 17 "IntFile$Whole" "below" "Z" ∈ wsX4_become := by decide +kernel
def wpX4_become (G : qG) (h0 : Nat) (h1 : Nat) (σ : qS) (post : qS → Prop) : Prop := ¬ (0 : Int32) < 0 ∧ ¬ (0 : Int32) < 0 ∧ ¬ (σ h1 1) < 0 ∧ (0 : Int32).toNatClampNeg + (σ h1 1).toNatClampNeg ≤ G.2.2 ((G.2.1 h1 0)) ∧ (0 : Int32).toNatClampNeg + (σ h1 1).toNatClampNeg ≤ G.2.2 ((G.2.1 h0 0)) ∧ ∀ σ3 : qS, σ3 = q_cp σ ((G.2.1 h1 0)) (0 : Int32).toNatClampNeg ((G.2.1 h0 0)) (0 : Int32).toNatClampNeg (σ h1 1).toNatClampNeg → ∀ σ9 : qS, σ9 = q_st σ3 h0 1 (σ3 h1 1) → (σ9 h1 2 = 0 ∨ σ9 h1 2 = 1) ∧ ∀ σ11 : qS, σ11 = q_st σ9 h0 2 (σ9 h1 2) → post σ11
set_option maxHeartbeats 4000000 in
set_option maxRecDepth 100000 in
theorem sdX4_become {l : Launch} {E : qE} {L : List Nat} {G : qG} (hN : L.Nodup) (hG : q_WF G L) {h0 : Nat} {h1 : Nat} (Lh0 : h0 ∈ L) (Kh0 : G.1 h0 = 4) (Lh1 : h1 ∈ L) (Kh1 : G.1 h1 = 4) {σ : qS} {post : qS → Prop} (h : wpX4_become G h0 h1 σ post) : MtV l E L G yX4_become wsX4_become (q_rm 1) [.ref h0, .ref h1] σ post := by
  refine q_met (Qc := fun sz => va_Qv post (q_B E L G) (q_free L sz)) (cc := cX4_become) (maxL := 2) (ret := none) (own := RX4) (by decide) rfl rfl (Nat.le_of_ble_eq_true rfl) hN hG ?_
  intro p e s m below meth c C
  unfold wpX4_become at h
  refine q_aload_n (pc := 0) C dX4_become_0 rfl 1 rfl ?_
  obtain ⟨Lr1, Kr1⟩ := qw_4_0 C.2.2.2.2.2.2 Lh1 Kh1
  refine q_g4_0 (pc := 1) C Lh1 Kh1 mwX4_become_0 mwX4_become_1 dX4_become_1 ?_
  refine q_iconst (pc := 4) (v := 0) C dX4_become_4 (by decide) ?_
  refine q_aload_n (pc := 5) C dX4_become_5 rfl 0 rfl ?_
  obtain ⟨Lr2, Kr2⟩ := qw_4_0 C.2.2.2.2.2.2 Lh0 Kh0
  refine q_g4_0 (pc := 6) C Lh0 Kh0 mwX4_become_0 mwX4_become_1 dX4_become_6 ?_
  refine q_iconst (pc := 9) (v := 0) C dX4_become_9 (by decide) ?_
  refine q_aload_n (pc := 10) C dX4_become_10 rfl 1 rfl ?_
  refine q_g4_1 (pc := 11) C Lh1 Kh1 mwX4_become_0 mwX4_become_2 dX4_become_11 ?_
  obtain ⟨b4, b5, b6, b7, b8, h⟩ := h
  refine q_copy (pc := 14) C mwX4_become_3 mwX4_become_4 mwX4_become_5 mwX4_become_6 Lr1 Kr1 Lr2 Kr2 b4 b5 b6 b7 b8 (by decide) (Nat.le_of_ble_eq_true rfl) dX4_become_14 (fun σ3 eσ3 => ?_)
  replace h := h σ3 eσ3
  refine q_aload_n (pc := 17) C dX4_become_17 rfl 0 rfl ?_
  refine q_aload_n (pc := 18) C dX4_become_18 rfl 1 rfl ?_
  refine q_g4_1 (pc := 19) C Lh1 Kh1 mwX4_become_0 mwX4_become_2 dX4_become_19 ?_
  refine q_p4_1 (pc := 22) C Lh0 Kh0 mwX4_become_0 mwX4_become_2 dX4_become_22 (fun σ9 eσ9 => ?_)
  replace h := h σ9 eσ9
  refine q_aload_n (pc := 25) C dX4_become_25 rfl 0 rfl ?_
  refine q_aload_n (pc := 26) C dX4_become_26 rfl 1 rfl ?_
  refine q_g4_2 (pc := 27) C Lh1 Kh1 mwX4_become_0 mwX4_become_7 dX4_become_27 ?_
  obtain ⟨z10, h⟩ := h
  refine q_p4_2 (pc := 30) C Lh0 Kh0 mwX4_become_0 mwX4_become_7 z10 dX4_become_30 (fun σ11 eσ11 => ?_)
  replace h := h σ11 eσ11
  exact q_vret (pc := 33) C dX4_become_33 h
theorem mwX4_becomeInt_0 : ∀ w ∈ wsX40, w ∈ wsX4_becomeInt := by decide +kernel
theorem mwX4_becomeInt_1 : Cond.fieldLink RX4 7 "IntFile$Whole" "limbs" "[I" ∈ wsX4_becomeInt := by decide +kernel
theorem mwX4_becomeInt_2 : Cond.methodLink RX4 39 Lib.MathLoose.abs_long.x ∈ wsX4_becomeInt := by decide +kernel
theorem mwX4_becomeInt_3 : Cond.static Lib.MathLoose.abs_long.x ∈ wsX4_becomeInt := by decide +kernel
theorem mwX4_becomeInt_4 : Cond.initialized "java/lang/Math" ∈ wsX4_becomeInt := by decide +kernel
theorem mwX4_becomeInt_5 : Cond.code Lib.MathLoose.abs_long.x Lib.MathLoose.abs_long.code 2 (some .long) ∈ wsX4_becomeInt := by decide +kernel
def wpX4_becomeInt (G : qG) (h0 : Nat) (x1 : Int32) (σ : qS) (post : qS → Prop) : Prop := vp_in 0 (G.2.2 ((G.2.1 h0 0))) ∧ ∀ σ3 : qS, σ3 = q_st σ ((G.2.1 h0 0)) (0 : Int32).toNatClampNeg ((((if 0 < x1.toInt64 then x1.toInt64 else -x1.toInt64)).toInt32)) → ((0 ≤ x1 → wpX4_settle G h0 1 0 σ3 (fun (σ5 : qS) => post σ5)) ∧ (¬ 0 ≤ x1 → wpX4_settle G h0 1 1 σ3 (fun (σ7 : qS) => post σ7)))
set_option maxHeartbeats 4000000 in
set_option maxRecDepth 100000 in
theorem sdX4_becomeInt {l : Launch} {E : qE} {L : List Nat} {G : qG} (hN : L.Nodup) (hG : q_WF G L) {h0 : Nat} {x1 : Int32} (Lh0 : h0 ∈ L) (Kh0 : G.1 h0 = 4) {σ : qS} {post : qS → Prop} (h : wpX4_becomeInt G h0 x1 σ post) : MtV l E L G yX4_becomeInt wsX4_becomeInt (q_rm 2) [.ref h0, .int x1] σ post := by
  refine q_met (Qc := fun sz => va_Qv post (q_B E L G) (q_free L sz)) (cc := cX4_becomeInt) (maxL := 2) (ret := none) (own := RX4) (by decide) rfl rfl (Nat.le_of_ble_eq_true rfl) hN hG ?_
  intro p e s m below meth c C
  unfold wpX4_becomeInt at h
  refine q_aload_n (pc := 0) C dX4_becomeInt_0 rfl 0 rfl ?_
  obtain ⟨Lr1, Kr1⟩ := qw_4_0 C.2.2.2.2.2.2 Lh0 Kh0
  refine q_g4_0 (pc := 1) C Lh0 Kh0 mwX4_becomeInt_0 mwX4_becomeInt_1 dX4_becomeInt_1 ?_
  refine q_iconst (pc := 4) (v := 0) C dX4_becomeInt_4 (by decide) ?_
  refine q_iload_n (pc := 5) C dX4_becomeInt_5 rfl 1 rfl ?_
  refine q_i2l (pc := 6) C dX4_becomeInt_6 ?_
  refine q_mabs_long (pc := 7) C mwX4_becomeInt_2 mwX4_becomeInt_3 mwX4_becomeInt_4 mwX4_becomeInt_5 (by decide) (Nat.le_of_ble_eq_true rfl) dX4_becomeInt_7 ?_
  refine q_l2i (pc := 10) C dX4_becomeInt_10 ?_
  obtain ⟨b2, h⟩ := h
  refine q_iast (pc := 11) C Lr1 Kr1 b2 dX4_becomeInt_11 (fun σ3 eσ3 => ?_)
  replace h := h σ3 eσ3
  refine q_aload_n (pc := 12) C dX4_becomeInt_12 rfl 0 rfl ?_
  refine q_iconst (pc := 13) (v := 1) C dX4_becomeInt_13 (by decide) ?_
  refine q_iload_n (pc := 14) C dX4_becomeInt_14 rfl 1 rfl ?_
  refine q_if_ge (tgt := 22) (pc := 15) C dX4_becomeInt_15 (by decide) (fun c4 => ?_) (fun c4 => ?_)
  · replace h := h.1 c4
    refine q_iconst (pc := 22) (v := 0) C dX4_becomeInt_22 (by decide) ?_
    refine q_cVv (pc := 23) (As := [.int 1, .int 0]) (ci := 4) (Cn := RX4) (T := TX4) (N := 3) C (sdX4_settle C.2.2.2.2.2.1 C.2.2.2.2.2.2 Lh0 Kh0 h) (cwV 2 C.1.2.2.2.2 gX4_becomeInt_X4_settle rfl rfl rfl (by decide +kernel) (q_room (by decide) (by decide))) Lh0 (qc4 Kh0 _) rfl rfl rfl (Nat.le_of_ble_eq_true rfl) dX4_becomeInt_23 (fun σ5 h => ?_)
    exact q_vret (pc := 26) C dX4_becomeInt_26 h
  · replace h := h.2 c4
    refine q_iconst (pc := 18) (v := 1) C dX4_becomeInt_18 (by decide) ?_
    refine q_goto (tgt := 23) (pc := 19) C dX4_becomeInt_19 (by decide) ?_
    refine q_cVv (pc := 23) (As := [.int 1, .int 1]) (ci := 4) (Cn := RX4) (T := TX4) (N := 3) C (sdX4_settle C.2.2.2.2.2.1 C.2.2.2.2.2.2 Lh0 Kh0 h) (cwV 2 C.1.2.2.2.2 gX4_becomeInt_X4_settle rfl rfl rfl (by decide +kernel) (q_room (by decide) (by decide))) Lh0 (qc4 Kh0 _) rfl rfl rfl (Nat.le_of_ble_eq_true rfl) dX4_becomeInt_23 (fun σ7 h => ?_)
    exact q_vret (pc := 26) C dX4_becomeInt_26 h
theorem mwX4_compareSize_0 : ∀ w ∈ wsX40, w ∈ wsX4_compareSize := by decide +kernel
theorem mwX4_compareSize_1 : Cond.fieldLink RX4 13 "IntFile$Whole" "count" "I" ∈ wsX4_compareSize := by decide +kernel
theorem mwX4_compareSize_2 : Cond.fieldLink RX4 7 "IntFile$Whole" "limbs" "[I" ∈ wsX4_compareSize := by decide +kernel
theorem mwX4_compareSize_3 : Cond.constantLong RX4 31 (4294967295) ∈ wsX4_compareSize := by decide +kernel
def lpX4_compareSize_35 (G : qG) (h0 : Nat) (h1 : Nat) (post : Int32 → qS → Prop) (kx54 : Int32 → qS → Prop) (kx92 : qS → Prop) : Nat → Int32 → qS → Prop
  | 0, _, _ => False
  | n + 1, x2, σ => ((x2 < 0 → kx92 σ) ∧ (¬ x2 < 0 → vp_in x2 (G.2.2 ((G.2.1 h0 0))) ∧ vp_in x2 (G.2.2 ((G.2.1 h1 0))) ∧ (((σ ((G.2.1 h0 0)) x2.toNatClampNeg) = (σ ((G.2.1 h1 0)) x2.toNatClampNeg) → ∀ v9 : Int32, v9 = x2 + (-1) → lpX4_compareSize_35 G h0 h1 post kx54 kx92 n v9 σ) ∧ (¬ (σ ((G.2.1 h0 0)) x2.toNatClampNeg) = (σ ((G.2.1 h1 0)) x2.toNatClampNeg) → kx54 x2 σ))))
set_option maxHeartbeats 4000000 in
set_option maxRecDepth 100000 in
theorem slX4_compareSize_35 {p : Program} {l : Launch} {e : Env} {s : State} {m : MethodId} {args : Array Value} {below : List Frame} {meth : Method} {c : Code} {E : qE} {L : List Nat} {G : qG} {A : Nat → Prop} (C : q_C p s m args meth c cX4_compareSize 3 wsX4_compareSize RX4 (some .int) E L G A) {h0 : Nat} {h1 : Nat} (Lh0 : h0 ∈ L) (Kh0 : G.1 h0 = 4) (Lh1 : h1 ∈ L) (Kh1 : G.1 h1 = 4) {post : Int32 → qS → Prop} {kx54 : Int32 → qS → Prop} {kx92 : qS → Prop} (Hkx54 : ∀ (y2 : Int32) (τ : qS), kx54 y2 τ → Wd p l e (q_rm 1) s m args below meth c E L G A (MQ below (va_Qi post (q_B E L G) A) args s 0 0 A) 3 τ 54 [(0, .ref h0), (1, .ref h1), (2, .int y2)] []) (Hkx92 : ∀  (τ : qS), kx92  τ → Wd p l e (q_rm 1) s m args below meth c E L G A (MQ below (va_Qi post (q_B E L G) A) args s 0 0 A) 3 τ 92 [] []) : ∀ (n : Nat) (x2 : Int32) (σ : qS), lpX4_compareSize_35 G h0 h1 post kx54 kx92 n x2 σ → Wd p l e (q_rm 1) s m args below meth c E L G A (MQ below (va_Qi post (q_B E L G) A) args s 0 0 A) 3 σ 35 [(0, .ref h0), (1, .ref h1), (2, .int x2)] [] := by
  intro n
  induction n with
  | zero => intro x2 σ h; exact h.elim
  | succ n ih =>
    intro x2 σ h
    unfold lpX4_compareSize_35 at h
    refine q_iload_n (pc := 35) C dX4_compareSize_35 rfl 2 rfl ?_
    refine q_if_lt (tgt := 92) (pc := 36) C dX4_compareSize_36 (by decide) (fun c3 => ?_) (fun c3 => ?_)
    · replace h := h.1 c3
      refine q_lv (lv' := []) [] rfl ?_
      exact Hkx92  σ h
    · replace h := h.2 c3
      refine q_aload_n (pc := 39) C dX4_compareSize_39 rfl 0 rfl ?_
      obtain ⟨Lr4, Kr4⟩ := qw_4_0 C.2.2.2.2.2.2 Lh0 Kh0
      refine q_g4_0 (pc := 40) C Lh0 Kh0 mwX4_compareSize_0 mwX4_compareSize_2 dX4_compareSize_40 ?_
      refine q_iload_n (pc := 43) C dX4_compareSize_43 rfl 2 rfl ?_
      obtain ⟨b5, h⟩ := h
      refine q_iald (pc := 44) C Lr4 Kr4 b5 dX4_compareSize_44 ?_
      refine q_aload_n (pc := 45) C dX4_compareSize_45 rfl 1 rfl ?_
      obtain ⟨Lr6, Kr6⟩ := qw_4_0 C.2.2.2.2.2.2 Lh1 Kh1
      refine q_g4_0 (pc := 46) C Lh1 Kh1 mwX4_compareSize_0 mwX4_compareSize_2 dX4_compareSize_46 ?_
      refine q_iload_n (pc := 49) C dX4_compareSize_49 rfl 2 rfl ?_
      obtain ⟨b7, h⟩ := h
      refine q_iald (pc := 50) C Lr6 Kr6 b7 dX4_compareSize_50 ?_
      refine q_icmp_eq (tgt := 86) (pc := 51) C dX4_compareSize_51 (by decide) (fun c8 => ?_) (fun c8 => ?_)
      · replace h := h.1 c8
        obtain ⟨v9, ev9⟩ : ∃ z : Int32, z = x2 + (-1) := ⟨_, rfl⟩
        replace h := h v9 ev9
        refine q_iinc (pc := 86) (v := v9) (j := 2) (lv' := [(2, .int v9), (0, .ref h0), (1, .ref h1)]) C dX4_compareSize_86 rfl (by rw [ev9]; rfl) (by decide) rfl ?_
        refine q_goto (tgt := 35) (pc := 89) C dX4_compareSize_89 (by decide) ?_
        refine q_lv (lv' := [(0, .ref h0), (1, .ref h1), (2, .int v9)]) [1, 2, 0] rfl ?_
        exact ih v9 σ h
      · replace h := h.2 c8
        exact Hkx54 x2 σ h
def wpX4_compareSize (G : qG) (h0 : Nat) (h1 : Nat) (σ : qS) (post : Int32 → qS → Prop) : Prop := (((σ h0 1) = (σ h1 1) → ∀ v2 : Int32, v2 = (σ h0 1) - 1 → ∃ n18 : Nat, lpX4_compareSize_35 G h0 h1 post (fun (w10 : Int32) (σ11 : qS) => vp_in w10 (G.2.2 ((G.2.1 h0 0))) ∧ vp_in w10 (G.2.2 ((G.2.1 h1 0))) ∧ ((0 ≤ (lg_cmp (((σ11 ((G.2.1 h0 0)) w10.toNatClampNeg).toInt64) &&& 4294967295) (((σ11 ((G.2.1 h1 0)) w10.toNatClampNeg).toInt64) &&& 4294967295)) → post 1 σ11) ∧ (¬ 0 ≤ (lg_cmp (((σ11 ((G.2.1 h0 0)) w10.toNatClampNeg).toInt64) &&& 4294967295) (((σ11 ((G.2.1 h1 0)) w10.toNatClampNeg).toInt64) &&& 4294967295)) → post ((-1)) σ11))) (fun  (σ17 : qS) => post 0 σ17) n18 v2 σ) ∧ (¬ (σ h0 1) = (σ h1 1) → (((σ h1 1) ≤ (σ h0 1) → post 1 σ) ∧ (¬ (σ h1 1) ≤ (σ h0 1) → post ((-1)) σ))))
set_option maxHeartbeats 4000000 in
set_option maxRecDepth 100000 in
theorem sdX4_compareSize {l : Launch} {E : qE} {L : List Nat} {G : qG} (hN : L.Nodup) (hG : q_WF G L) {h0 : Nat} {h1 : Nat} (Lh0 : h0 ∈ L) (Kh0 : G.1 h0 = 4) (Lh1 : h1 ∈ L) (Kh1 : G.1 h1 = 4) {σ : qS} {post : Int32 → qS → Prop} (h : wpX4_compareSize G h0 h1 σ post) : MtI l E L G yX4_compareSize wsX4_compareSize (q_rm 1) [.ref h0, .ref h1] σ post := by
  refine q_met (Qc := fun sz => va_Qi post (q_B E L G) (q_free L sz)) (cc := cX4_compareSize) (maxL := 3) (ret := (some .int)) (own := RX4) (by decide) rfl rfl (Nat.le_of_ble_eq_true rfl) hN hG ?_
  intro p e s m below meth c C
  unfold wpX4_compareSize at h
  refine q_aload_n (pc := 0) C dX4_compareSize_0 rfl 0 rfl ?_
  refine q_g4_1 (pc := 1) C Lh0 Kh0 mwX4_compareSize_0 mwX4_compareSize_1 dX4_compareSize_1 ?_
  refine q_aload_n (pc := 4) C dX4_compareSize_4 rfl 1 rfl ?_
  refine q_g4_1 (pc := 5) C Lh1 Kh1 mwX4_compareSize_0 mwX4_compareSize_1 dX4_compareSize_5 ?_
  refine q_icmp_eq (tgt := 28) (pc := 8) C dX4_compareSize_8 (by decide) (fun c1 => ?_) (fun c1 => ?_)
  · replace h := h.1 c1
    refine q_aload_n (pc := 28) C dX4_compareSize_28 rfl 0 rfl ?_
    refine q_g4_1 (pc := 29) C Lh0 Kh0 mwX4_compareSize_0 mwX4_compareSize_1 dX4_compareSize_29 ?_
    refine q_iconst (pc := 32) (v := 1) C dX4_compareSize_32 (by decide) ?_
    refine q_isub (pc := 33) C dX4_compareSize_33 ?_
    refine q_topi (fun v2 ev2 => ?_)
    replace h := h v2 ev2
    refine q_istore_n (pc := 34) (lv' := [(2, .int v2), (0, .ref h0), (1, .ref h1)]) C dX4_compareSize_34 rfl (by decide) rfl ?_
    refine q_lv (lv' := [(0, .ref h0), (1, .ref h1), (2, .int v2)]) [1, 2, 0] rfl ?_
    obtain ⟨n18, h⟩ := h
    refine slX4_compareSize_35 C Lh0 Kh0 Lh1 Kh1 ?_ ?_ n18 v2 σ h
    · intro w10 σ11 h
      refine q_aload_n (pc := 54) C dX4_compareSize_54 rfl 0 rfl ?_
      obtain ⟨Lr12, Kr12⟩ := qw_4_0 C.2.2.2.2.2.2 Lh0 Kh0
      refine q_g4_0 (pc := 55) C Lh0 Kh0 mwX4_compareSize_0 mwX4_compareSize_2 dX4_compareSize_55 ?_
      refine q_iload_n (pc := 58) C dX4_compareSize_58 rfl 2 rfl ?_
      obtain ⟨b13, h⟩ := h
      refine q_iald (pc := 59) C Lr12 Kr12 b13 dX4_compareSize_59 ?_
      refine q_i2l (pc := 60) C dX4_compareSize_60 ?_
      refine q_ldc2 (pc := 61) (v := 4294967295) C dX4_compareSize_61 mwX4_compareSize_3 ?_
      refine q_land (pc := 64) C dX4_compareSize_64 ?_
      refine q_aload_n (pc := 65) C dX4_compareSize_65 rfl 1 rfl ?_
      obtain ⟨Lr14, Kr14⟩ := qw_4_0 C.2.2.2.2.2.2 Lh1 Kh1
      refine q_g4_0 (pc := 66) C Lh1 Kh1 mwX4_compareSize_0 mwX4_compareSize_2 dX4_compareSize_66 ?_
      refine q_iload_n (pc := 69) C dX4_compareSize_69 rfl 2 rfl ?_
      obtain ⟨b15, h⟩ := h
      refine q_iald (pc := 70) C Lr14 Kr14 b15 dX4_compareSize_70 ?_
      refine q_i2l (pc := 71) C dX4_compareSize_71 ?_
      refine q_ldc2 (pc := 72) (v := 4294967295) C dX4_compareSize_72 mwX4_compareSize_3 ?_
      refine q_land (pc := 75) C dX4_compareSize_75 ?_
      refine q_lcmp (pc := 76) C dX4_compareSize_76 ?_
      refine q_if_ge (tgt := 84) (pc := 77) C dX4_compareSize_77 (by decide) (fun c16 => ?_) (fun c16 => ?_)
      · replace h := h.1 c16
        refine q_iconst (pc := 84) (v := 1) C dX4_compareSize_84 (by decide) ?_
        exact q_iret (pc := 85) C dX4_compareSize_85 h
      · replace h := h.2 c16
        refine q_iconst (pc := 80) (v := (-1)) C dX4_compareSize_80 (by decide) ?_
        refine q_goto (tgt := 85) (pc := 81) C dX4_compareSize_81 (by decide) ?_
        exact q_iret (pc := 85) C dX4_compareSize_85 h
    · intro σ17 h
      refine q_iconst (pc := 92) (v := 0) C dX4_compareSize_92 (by decide) ?_
      exact q_iret (pc := 93) C dX4_compareSize_93 h
  · replace h := h.2 c1
    refine q_aload_n (pc := 11) C dX4_compareSize_11 rfl 0 rfl ?_
    refine q_g4_1 (pc := 12) C Lh0 Kh0 mwX4_compareSize_0 mwX4_compareSize_1 dX4_compareSize_12 ?_
    refine q_aload_n (pc := 15) C dX4_compareSize_15 rfl 1 rfl ?_
    refine q_g4_1 (pc := 16) C Lh1 Kh1 mwX4_compareSize_0 mwX4_compareSize_1 dX4_compareSize_16 ?_
    refine q_icmp_ge (tgt := 26) (pc := 19) C dX4_compareSize_19 (by decide) (fun c19 => ?_) (fun c19 => ?_)
    · replace h := h.1 c19
      refine q_iconst (pc := 26) (v := 1) C dX4_compareSize_26 (by decide) ?_
      exact q_iret (pc := 27) C dX4_compareSize_27 h
    · replace h := h.2 c19
      refine q_iconst (pc := 22) (v := (-1)) C dX4_compareSize_22 (by decide) ?_
      refine q_goto (tgt := 27) (pc := 23) C dX4_compareSize_23 (by decide) ?_
      exact q_iret (pc := 27) C dX4_compareSize_27 h
theorem mwX4_isZero_0 : ∀ w ∈ wsX40, w ∈ wsX4_isZero := by decide +kernel
theorem mwX4_isZero_1 : Cond.fieldLink RX4 13 "IntFile$Whole" "count" "I" ∈ wsX4_isZero := by decide +kernel
def wpX4_isZero (G : qG) (h0 : Nat) (σ : qS) (post : Int32 → qS → Prop) : Prop := (((σ h0 1) = 0 → post 1 σ) ∧ (¬ (σ h0 1) = 0 → post 0 σ))
set_option maxHeartbeats 4000000 in
set_option maxRecDepth 100000 in
theorem sdX4_isZero {l : Launch} {E : qE} {L : List Nat} {G : qG} (hN : L.Nodup) (hG : q_WF G L) {h0 : Nat} (Lh0 : h0 ∈ L) (Kh0 : G.1 h0 = 4) {σ : qS} {post : Int32 → qS → Prop} (h : wpX4_isZero G h0 σ post) : MtI l E L G yX4_isZero wsX4_isZero (q_rm 1) [.ref h0] σ post := by
  refine q_met (Qc := fun sz => va_Qi post (q_B E L G) (q_free L sz)) (cc := cX4_isZero) (maxL := 1) (ret := (some .boolean)) (own := RX4) (by decide) rfl rfl (Nat.le_of_ble_eq_true rfl) hN hG ?_
  intro p e s m below meth c C
  unfold wpX4_isZero at h
  refine q_aload_n (pc := 0) C dX4_isZero_0 rfl 0 rfl ?_
  refine q_g4_1 (pc := 1) C Lh0 Kh0 mwX4_isZero_0 mwX4_isZero_1 dX4_isZero_1 ?_
  refine q_if_ne (tgt := 11) (pc := 4) C dX4_isZero_4 (by decide) (fun c1 => ?_) (fun c1 => ?_)
  · replace h := h.2 c1
    refine q_iconst (pc := 11) (v := 0) C dX4_isZero_11 (by decide) ?_
    exact q_zret (pc := 12) C dX4_isZero_12 (Or.inl rfl) h
  · replace h := h.1 c1
    refine q_iconst (pc := 7) (v := 1) C dX4_isZero_7 (by decide) ?_
    refine q_goto (tgt := 12) (pc := 8) C dX4_isZero_8 (by decide) ?_
    exact q_zret (pc := 12) C dX4_isZero_12 (Or.inr rfl) h
theorem mwX4_scaleAndAdd_0 : ∀ w ∈ wsX40, w ∈ wsX4_scaleAndAdd := by decide +kernel
theorem mwX4_scaleAndAdd_1 : Cond.fieldLink RX4 13 "IntFile$Whole" "count" "I" ∈ wsX4_scaleAndAdd := by decide +kernel
theorem mwX4_scaleAndAdd_2 : Cond.fieldLink RX4 7 "IntFile$Whole" "limbs" "[I" ∈ wsX4_scaleAndAdd := by decide +kernel
theorem mwX4_scaleAndAdd_3 : Cond.constantLong RX4 31 (4294967295) ∈ wsX4_scaleAndAdd := by decide +kernel
def lpX4_scaleAndAdd_6 (G : qG) (h0 : Nat) (x1 : Int32) (post : qS → Prop) (kx56 : Int64 → qS → Prop) : Nat → Int64 → Int32 → qS → Prop
  | 0, _, _, _ => False
  | n + 1, x3, x5, σ => (((σ h0 1) ≤ x5 → kx56 x3 σ) ∧ (¬ (σ h0 1) ≤ x5 → vp_in x5 (G.2.2 ((G.2.1 h0 0))) ∧ ∀ v6 : Int64, v6 = ((((σ ((G.2.1 h0 0)) x5.toNatClampNeg).toInt64) &&& 4294967295) * x1.toInt64) + x3 → vp_in x5 (G.2.2 ((G.2.1 h0 0))) ∧ ∀ σ8 : qS, σ8 = q_st σ ((G.2.1 h0 0)) x5.toNatClampNeg v6.toInt32 → ∀ v9 : Int64, v9 = (v6.toUInt64 >>> ((32 : Int32).toInt64.toUInt64 &&& Int64.toUInt64 63)).toInt64 → ∀ v10 : Int32, v10 = x5 + 1 → lpX4_scaleAndAdd_6 G h0 x1 post kx56 n v9 v10 σ8))
set_option maxHeartbeats 4000000 in
set_option maxRecDepth 100000 in
theorem slX4_scaleAndAdd_6 {p : Program} {l : Launch} {e : Env} {s : State} {m : MethodId} {args : Array Value} {below : List Frame} {meth : Method} {c : Code} {E : qE} {L : List Nat} {G : qG} {A : Nat → Prop} (C : q_C p s m args meth c cX4_scaleAndAdd 8 wsX4_scaleAndAdd RX4 none E L G A) {h0 : Nat} {x1 : Int32} (Lh0 : h0 ∈ L) (Kh0 : G.1 h0 = 4) {post : qS → Prop} {kx56 : Int64 → qS → Prop} (Hkx56 : ∀ (y3 : Int64) (τ : qS), kx56 y3 τ → Wd p l e (q_rm 1) s m args below meth c E L G A (MQ below (va_Qv post (q_B E L G) A) args s 0 0 A) 8 τ 56 [(0, .ref h0), (3, .long y3)] []) : ∀ (n : Nat) (x3 : Int64) (x5 : Int32) (σ : qS), lpX4_scaleAndAdd_6 G h0 x1 post kx56 n x3 x5 σ → Wd p l e (q_rm 1) s m args below meth c E L G A (MQ below (va_Qv post (q_B E L G) A) args s 0 0 A) 8 σ 6 [(0, .ref h0), (1, .int x1), (3, .long x3), (5, .int x5)] [] := by
  intro n
  induction n with
  | zero => intro x3 x5 σ h; exact h.elim
  | succ n ih =>
    intro x3 x5 σ h
    unfold lpX4_scaleAndAdd_6 at h
    refine q_iload (pc := 6) C dX4_scaleAndAdd_6 3 rfl ?_
    refine q_aload_n (pc := 8) C dX4_scaleAndAdd_8 rfl 0 rfl ?_
    refine q_g4_1 (pc := 9) C Lh0 Kh0 mwX4_scaleAndAdd_0 mwX4_scaleAndAdd_1 dX4_scaleAndAdd_9 ?_
    refine q_icmp_ge (tgt := 56) (pc := 12) C dX4_scaleAndAdd_12 (by decide) (fun c3 => ?_) (fun c3 => ?_)
    · replace h := h.1 c3
      refine q_lv (lv' := [(0, .ref h0), (3, .long x3)]) [0, 2] rfl ?_
      exact Hkx56 x3 σ h
    · replace h := h.2 c3
      refine q_aload_n (pc := 15) C dX4_scaleAndAdd_15 rfl 0 rfl ?_
      obtain ⟨Lr4, Kr4⟩ := qw_4_0 C.2.2.2.2.2.2 Lh0 Kh0
      refine q_g4_0 (pc := 16) C Lh0 Kh0 mwX4_scaleAndAdd_0 mwX4_scaleAndAdd_2 dX4_scaleAndAdd_16 ?_
      refine q_iload (pc := 19) C dX4_scaleAndAdd_19 3 rfl ?_
      obtain ⟨b5, h⟩ := h
      refine q_iald (pc := 21) C Lr4 Kr4 b5 dX4_scaleAndAdd_21 ?_
      refine q_i2l (pc := 22) C dX4_scaleAndAdd_22 ?_
      refine q_ldc2 (pc := 23) (v := 4294967295) C dX4_scaleAndAdd_23 mwX4_scaleAndAdd_3 ?_
      refine q_land (pc := 26) C dX4_scaleAndAdd_26 ?_
      refine q_iload_n (pc := 27) C dX4_scaleAndAdd_27 rfl 1 rfl ?_
      refine q_i2l (pc := 28) C dX4_scaleAndAdd_28 ?_
      refine q_lmul (pc := 29) C dX4_scaleAndAdd_29 ?_
      refine q_lload_n (pc := 30) C dX4_scaleAndAdd_30 rfl 2 rfl ?_
      refine q_ladd (pc := 31) C dX4_scaleAndAdd_31 ?_
      refine q_topl (fun v6 ev6 => ?_)
      replace h := h v6 ev6
      refine q_lstore (pc := 32) (lv' := [(6, .long v6), (0, .ref h0), (1, .int x1), (3, .long x3), (5, .int x5)]) C dX4_scaleAndAdd_32 (by decide) rfl ?_
      refine q_aload_n (pc := 34) C dX4_scaleAndAdd_34 rfl 1 rfl ?_
      refine q_g4_0 (pc := 35) C Lh0 Kh0 mwX4_scaleAndAdd_0 mwX4_scaleAndAdd_2 dX4_scaleAndAdd_35 ?_
      refine q_iload (pc := 38) C dX4_scaleAndAdd_38 4 rfl ?_
      refine q_lload (pc := 40) C dX4_scaleAndAdd_40 0 rfl ?_
      refine q_l2i (pc := 42) C dX4_scaleAndAdd_42 ?_
      obtain ⟨b7, h⟩ := h
      refine q_iast (pc := 43) C Lr4 Kr4 b7 dX4_scaleAndAdd_43 (fun σ8 eσ8 => ?_)
      replace h := h σ8 eσ8
      refine q_lload (pc := 44) C dX4_scaleAndAdd_44 0 rfl ?_
      refine q_bipush (pc := 46) (v := 32) C dX4_scaleAndAdd_46 (by decide) ?_
      refine q_lushr (pc := 48) C dX4_scaleAndAdd_48 ?_
      refine q_topl (fun v9 ev9 => ?_)
      replace h := h v9 ev9
      refine q_lstore_n (pc := 49) (lv' := [(3, .long v9), (6, .long v6), (0, .ref h0), (1, .int x1), (5, .int x5)]) C dX4_scaleAndAdd_49 rfl (by decide) rfl ?_
      obtain ⟨v10, ev10⟩ : ∃ z : Int32, z = x5 + 1 := ⟨_, rfl⟩
      replace h := h v10 ev10
      refine q_iinc (pc := 50) (v := v10) (j := 4) (lv' := [(5, .int v10), (3, .long v9), (6, .long v6), (0, .ref h0), (1, .int x1)]) C dX4_scaleAndAdd_50 rfl (by rw [ev10]; rfl) (by decide) rfl ?_
      refine q_goto (tgt := 6) (pc := 53) C dX4_scaleAndAdd_53 (by decide) ?_
      refine q_lv (lv' := [(0, .ref h0), (1, .int x1), (3, .long v9), (5, .int v10)]) [3, 4, 1, 0] rfl ?_
      exact ih v9 v10 σ8 h
def wpX4_scaleAndAdd (G : qG) (h0 : Nat) (x1 : Int32) (x2 : Int32) (σ : qS) (post : qS → Prop) : Prop := ∀ v1 : Int64, v1 = x2.toInt64 → ∀ v2 : Int32, v2 = 0 → ∃ n19 : Nat, lpX4_scaleAndAdd_6 G h0 x1 post (fun (w11 : Int64) (σ12 : qS) => (((lg_cmp w11 0) = 0 → post σ12) ∧ (¬ (lg_cmp w11 0) = 0 → (((nI (G.2.2 ((G.2.1 h0 0)))) ≤ (σ12 h0 1) → post σ12) ∧ (¬ (nI (G.2.2 ((G.2.1 h0 0)))) ≤ (σ12 h0 1) → vp_in (σ12 h0 1) (G.2.2 ((G.2.1 h0 0))) ∧ ∀ σ17 : qS, σ17 = q_st σ12 ((G.2.1 h0 0)) (σ12 h0 1).toNatClampNeg w11.toInt32 → ∀ σ18 : qS, σ18 = q_st σ17 h0 1 ((σ17 h0 1) + 1) → post σ18))))) n19 v1 v2 σ
set_option maxHeartbeats 4000000 in
set_option maxRecDepth 100000 in
theorem sdX4_scaleAndAdd {l : Launch} {E : qE} {L : List Nat} {G : qG} (hN : L.Nodup) (hG : q_WF G L) {h0 : Nat} {x1 : Int32} {x2 : Int32} (Lh0 : h0 ∈ L) (Kh0 : G.1 h0 = 4) {σ : qS} {post : qS → Prop} (h : wpX4_scaleAndAdd G h0 x1 x2 σ post) : MtV l E L G yX4_scaleAndAdd wsX4_scaleAndAdd (q_rm 1) [.ref h0, .int x1, .int x2] σ post := by
  refine q_met (Qc := fun sz => va_Qv post (q_B E L G) (q_free L sz)) (cc := cX4_scaleAndAdd) (maxL := 8) (ret := none) (own := RX4) (by decide) rfl rfl (Nat.le_of_ble_eq_true rfl) hN hG ?_
  intro p e s m below meth c C
  unfold wpX4_scaleAndAdd at h
  refine q_iload_n (pc := 0) C dX4_scaleAndAdd_0 rfl 2 rfl ?_
  refine q_i2l (pc := 1) C dX4_scaleAndAdd_1 ?_
  refine q_topl (fun v1 ev1 => ?_)
  replace h := h v1 ev1
  refine q_lstore_n (pc := 2) (lv' := [(3, .long v1), (0, .ref h0), (1, .int x1), (2, .int x2)]) C dX4_scaleAndAdd_2 rfl (by decide) rfl ?_
  refine q_iconst (pc := 3) (v := 0) C dX4_scaleAndAdd_3 (by decide) ?_
  refine q_topi (fun v2 ev2 => ?_)
  replace h := h v2 ev2
  refine q_istore (pc := 4) (lv' := [(5, .int v2), (3, .long v1), (0, .ref h0), (1, .int x1), (2, .int x2)]) C dX4_scaleAndAdd_4 (by decide) rfl ?_
  refine q_lv (lv' := [(0, .ref h0), (1, .int x1), (3, .long v1), (5, .int v2)]) [2, 3, 1, 0] rfl ?_
  obtain ⟨n19, h⟩ := h
  refine slX4_scaleAndAdd_6 C Lh0 Kh0 ?_ n19 v1 v2 σ h
  · intro w11 σ12 h
    refine q_lload_n (pc := 56) C dX4_scaleAndAdd_56 rfl 1 rfl ?_
    refine q_lconst (pc := 57) (v := 0) C dX4_scaleAndAdd_57 (by decide) ?_
    refine q_lcmp (pc := 58) C dX4_scaleAndAdd_58 ?_
    refine q_if_eq (tgt := 95) (pc := 59) C dX4_scaleAndAdd_59 (by decide) (fun c13 => ?_) (fun c13 => ?_)
    · replace h := h.1 c13
      exact q_vret (pc := 95) C dX4_scaleAndAdd_95 h
    · replace h := h.2 c13
      refine q_aload_n (pc := 62) C dX4_scaleAndAdd_62 rfl 0 rfl ?_
      refine q_g4_1 (pc := 63) C Lh0 Kh0 mwX4_scaleAndAdd_0 mwX4_scaleAndAdd_1 dX4_scaleAndAdd_63 ?_
      refine q_aload_n (pc := 66) C dX4_scaleAndAdd_66 rfl 0 rfl ?_
      obtain ⟨Lr14, Kr14⟩ := qw_4_0 C.2.2.2.2.2.2 Lh0 Kh0
      refine q_g4_0 (pc := 67) C Lh0 Kh0 mwX4_scaleAndAdd_0 mwX4_scaleAndAdd_2 dX4_scaleAndAdd_67 ?_
      refine q_alen7 (pc := 70) C Lr14 Kr14 dX4_scaleAndAdd_70 ?_
      refine q_icmp_ge (tgt := 95) (pc := 71) C dX4_scaleAndAdd_71 (by decide) (fun c15 => ?_) (fun c15 => ?_)
      · replace h := h.1 c15
        exact q_vret (pc := 95) C dX4_scaleAndAdd_95 h
      · replace h := h.2 c15
        refine q_aload_n (pc := 74) C dX4_scaleAndAdd_74 rfl 0 rfl ?_
        refine q_g4_0 (pc := 75) C Lh0 Kh0 mwX4_scaleAndAdd_0 mwX4_scaleAndAdd_2 dX4_scaleAndAdd_75 ?_
        refine q_aload_n (pc := 78) C dX4_scaleAndAdd_78 rfl 0 rfl ?_
        refine q_g4_1 (pc := 79) C Lh0 Kh0 mwX4_scaleAndAdd_0 mwX4_scaleAndAdd_1 dX4_scaleAndAdd_79 ?_
        refine q_lload_n (pc := 82) C dX4_scaleAndAdd_82 rfl 1 rfl ?_
        refine q_l2i (pc := 83) C dX4_scaleAndAdd_83 ?_
        obtain ⟨b16, h⟩ := h
        refine q_iast (pc := 84) C Lr14 Kr14 b16 dX4_scaleAndAdd_84 (fun σ17 eσ17 => ?_)
        replace h := h σ17 eσ17
        refine q_aload_n (pc := 85) C dX4_scaleAndAdd_85 rfl 0 rfl ?_
        refine q_dup (pc := 86) C dX4_scaleAndAdd_86 rfl ?_
        refine q_g4_1 (pc := 87) C Lh0 Kh0 mwX4_scaleAndAdd_0 mwX4_scaleAndAdd_1 dX4_scaleAndAdd_87 ?_
        refine q_iconst (pc := 90) (v := 1) C dX4_scaleAndAdd_90 (by decide) ?_
        refine q_iadd (pc := 91) C dX4_scaleAndAdd_91 ?_
        refine q_p4_1 (pc := 92) C Lh0 Kh0 mwX4_scaleAndAdd_0 mwX4_scaleAndAdd_1 dX4_scaleAndAdd_92 (fun σ18 eσ18 => ?_)
        replace h := h σ18 eσ18
        exact q_vret (pc := 95) C dX4_scaleAndAdd_95 h
theorem mwX4_divideAndRest_0 : ∀ w ∈ wsX40, w ∈ wsX4_divideAndRest := by decide +kernel
theorem mwX4_divideAndRest_1 : Cond.fieldLink RX4 13 "IntFile$Whole" "count" "I" ∈ wsX4_divideAndRest := by decide +kernel
theorem mwX4_divideAndRest_2 : Cond.fieldLink RX4 7 "IntFile$Whole" "limbs" "[I" ∈ wsX4_divideAndRest := by decide +kernel
theorem mwX4_divideAndRest_3 : Cond.constantLong RX4 31 (4294967295) ∈ wsX4_divideAndRest := by decide +kernel
theorem mwX4_divideAndRest_4 : Cond.fieldLink RX4 17 "IntFile$Whole" "below" "Z" ∈ wsX4_divideAndRest := by decide +kernel
def lpX4_divideAndRest_16 (G : qG) (h0 : Nat) (x1 : Int32) (post : Int32 → qS → Prop) (kx65 : Int64 → qS → Prop) : Nat → Int64 → Int32 → qS → Prop
  | 0, _, _, _ => False
  | n + 1, x2, x4, σ => ((x4 < 0 → kx65 x2 σ) ∧ (¬ x4 < 0 → vp_in x4 (G.2.2 ((G.2.1 h0 0))) ∧ ∀ v7 : Int64, v7 = (x2 <<< ((32 : Int32).toInt64 &&& 63)) ||| (((σ ((G.2.1 h0 0)) x4.toNatClampNeg).toInt64) &&& 4294967295) → ¬ x1.toInt64 = 0 ∧ vp_in x4 (G.2.2 ((G.2.1 h0 0))) ∧ ∀ σ10 : qS, σ10 = q_st σ ((G.2.1 h0 0)) x4.toNatClampNeg (((v7 / x1.toInt64).toInt32)) → ¬ x1.toInt64 = 0 ∧ ∀ v12 : Int64, v12 = v7 - v7 / x1.toInt64 * x1.toInt64 → ∀ v13 : Int32, v13 = x4 + (-1) → lpX4_divideAndRest_16 G h0 x1 post kx65 n v12 v13 σ10))
set_option maxHeartbeats 4000000 in
set_option maxRecDepth 100000 in
theorem slX4_divideAndRest_16 {p : Program} {l : Launch} {e : Env} {s : State} {m : MethodId} {args : Array Value} {below : List Frame} {meth : Method} {c : Code} {E : qE} {L : List Nat} {G : qG} {A : Nat → Prop} (C : q_C p s m args meth c cX4_divideAndRest 7 wsX4_divideAndRest RX4 (some .int) E L G A) {h0 : Nat} {x1 : Int32} (Lh0 : h0 ∈ L) (Kh0 : G.1 h0 = 4) {post : Int32 → qS → Prop} {kx65 : Int64 → qS → Prop} (Hkx65 : ∀ (y2 : Int64) (τ : qS), kx65 y2 τ → Wd p l e (q_rm 2) s m args below meth c E L G A (MQ below (va_Qi post (q_B E L G) A) args s 0 0 A) 7 τ 65 [(0, .ref h0), (2, .long y2)] []) : ∀ (n : Nat) (x2 : Int64) (x4 : Int32) (σ : qS), lpX4_divideAndRest_16 G h0 x1 post kx65 n x2 x4 σ → Wd p l e (q_rm 2) s m args below meth c E L G A (MQ below (va_Qi post (q_B E L G) A) args s 0 0 A) 7 σ 16 [(0, .ref h0), (1, .int x1), (2, .long x2), (4, .int x4)] [] := by
  intro n
  induction n with
  | zero => intro x2 x4 σ h; exact h.elim
  | succ n ih =>
    intro x2 x4 σ h
    unfold lpX4_divideAndRest_16 at h
    refine q_iload (pc := 16) C dX4_divideAndRest_16 3 rfl ?_
    refine q_if_lt (tgt := 65) (pc := 18) C dX4_divideAndRest_18 (by decide) (fun c4 => ?_) (fun c4 => ?_)
    · replace h := h.1 c4
      refine q_lv (lv' := [(0, .ref h0), (2, .long x2)]) [0, 2] rfl ?_
      exact Hkx65 x2 σ h
    · replace h := h.2 c4
      refine q_lload_n (pc := 21) C dX4_divideAndRest_21 rfl 2 rfl ?_
      refine q_bipush (pc := 22) (v := 32) C dX4_divideAndRest_22 (by decide) ?_
      refine q_lshl (pc := 24) C dX4_divideAndRest_24 ?_
      refine q_aload_n (pc := 25) C dX4_divideAndRest_25 rfl 0 rfl ?_
      obtain ⟨Lr5, Kr5⟩ := qw_4_0 C.2.2.2.2.2.2 Lh0 Kh0
      refine q_g4_0 (pc := 26) C Lh0 Kh0 mwX4_divideAndRest_0 mwX4_divideAndRest_2 dX4_divideAndRest_26 ?_
      refine q_iload (pc := 29) C dX4_divideAndRest_29 3 rfl ?_
      obtain ⟨b6, h⟩ := h
      refine q_iald (pc := 31) C Lr5 Kr5 b6 dX4_divideAndRest_31 ?_
      refine q_i2l (pc := 32) C dX4_divideAndRest_32 ?_
      refine q_ldc2 (pc := 33) (v := 4294967295) C dX4_divideAndRest_33 mwX4_divideAndRest_3 ?_
      refine q_land (pc := 36) C dX4_divideAndRest_36 ?_
      refine q_lor (pc := 37) C dX4_divideAndRest_37 ?_
      refine q_topl (fun v7 ev7 => ?_)
      replace h := h v7 ev7
      refine q_lstore (pc := 38) (lv' := [(5, .long v7), (0, .ref h0), (1, .int x1), (2, .long x2), (4, .int x4)]) C dX4_divideAndRest_38 (by decide) rfl ?_
      refine q_aload_n (pc := 40) C dX4_divideAndRest_40 rfl 1 rfl ?_
      refine q_g4_0 (pc := 41) C Lh0 Kh0 mwX4_divideAndRest_0 mwX4_divideAndRest_2 dX4_divideAndRest_41 ?_
      refine q_iload (pc := 44) C dX4_divideAndRest_44 4 rfl ?_
      refine q_lload (pc := 46) C dX4_divideAndRest_46 0 rfl ?_
      refine q_iload_n (pc := 48) C dX4_divideAndRest_48 rfl 2 rfl ?_
      refine q_i2l (pc := 49) C dX4_divideAndRest_49 ?_
      obtain ⟨z8, h⟩ := h
      refine q_ldiv (pc := 50) C dX4_divideAndRest_50 z8 ?_
      refine q_l2i (pc := 51) C dX4_divideAndRest_51 ?_
      obtain ⟨b9, h⟩ := h
      refine q_iast (pc := 52) C Lr5 Kr5 b9 dX4_divideAndRest_52 (fun σ10 eσ10 => ?_)
      replace h := h σ10 eσ10
      refine q_lload (pc := 53) C dX4_divideAndRest_53 0 rfl ?_
      refine q_iload_n (pc := 55) C dX4_divideAndRest_55 rfl 2 rfl ?_
      refine q_i2l (pc := 56) C dX4_divideAndRest_56 ?_
      obtain ⟨z11, h⟩ := h
      refine q_lrem (pc := 57) C dX4_divideAndRest_57 z11 ?_
      refine q_topl (fun v12 ev12 => ?_)
      replace h := h v12 ev12
      refine q_lstore_n (pc := 58) (lv' := [(2, .long v12), (5, .long v7), (0, .ref h0), (1, .int x1), (4, .int x4)]) C dX4_divideAndRest_58 rfl (by decide) rfl ?_
      obtain ⟨v13, ev13⟩ : ∃ z : Int32, z = x4 + (-1) := ⟨_, rfl⟩
      replace h := h v13 ev13
      refine q_iinc (pc := 59) (v := v13) (j := 4) (lv' := [(4, .int v13), (2, .long v12), (5, .long v7), (0, .ref h0), (1, .int x1)]) C dX4_divideAndRest_59 rfl (by rw [ev13]; rfl) (by decide) rfl ?_
      refine q_goto (tgt := 16) (pc := 62) C dX4_divideAndRest_62 (by decide) ?_
      refine q_lv (lv' := [(0, .ref h0), (1, .int x1), (2, .long v12), (4, .int v13)]) [3, 4, 1, 0] rfl ?_
      exact ih v12 v13 σ10 h
def wpX4_divideAndRest (G : qG) (h0 : Nat) (x1 : Int32) (σ : qS) (post : Int32 → qS → Prop) : Prop := ((0 < x1 → ∀ v2 : Int64, v2 = 0 → ∀ v3 : Int32, v3 = (σ h0 1) - 1 → ∃ n18 : Nat, lpX4_divideAndRest_16 G h0 x1 post (fun (w14 : Int64) (σ15 : qS) => wpX4_settle G h0 (σ15 h0 1) (σ15 h0 2) σ15 (fun (σ16 : qS) => post w14.toInt32 σ16)) n18 v2 v3 σ) ∧ (¬ 0 < x1 → post 0 σ))
set_option maxHeartbeats 4000000 in
set_option maxRecDepth 100000 in
theorem sdX4_divideAndRest {l : Launch} {E : qE} {L : List Nat} {G : qG} (hN : L.Nodup) (hG : q_WF G L) {h0 : Nat} {x1 : Int32} (Lh0 : h0 ∈ L) (Kh0 : G.1 h0 = 4) {σ : qS} {post : Int32 → qS → Prop} (h : wpX4_divideAndRest G h0 x1 σ post) : MtI l E L G yX4_divideAndRest wsX4_divideAndRest (q_rm 2) [.ref h0, .int x1] σ post := by
  refine q_met (Qc := fun sz => va_Qi post (q_B E L G) (q_free L sz)) (cc := cX4_divideAndRest) (maxL := 7) (ret := (some .int)) (own := RX4) (by decide) rfl rfl (Nat.le_of_ble_eq_true rfl) hN hG ?_
  intro p e s m below meth c C
  unfold wpX4_divideAndRest at h
  refine q_iload_n (pc := 0) C dX4_divideAndRest_0 rfl 1 rfl ?_
  refine q_if_gt (tgt := 6) (pc := 1) C dX4_divideAndRest_1 (by decide) (fun c1 => ?_) (fun c1 => ?_)
  · replace h := h.1 c1
    refine q_lconst (pc := 6) (v := 0) C dX4_divideAndRest_6 (by decide) ?_
    refine q_topl (fun v2 ev2 => ?_)
    replace h := h v2 ev2
    refine q_lstore_n (pc := 7) (lv' := [(2, .long v2), (0, .ref h0), (1, .int x1)]) C dX4_divideAndRest_7 rfl (by decide) rfl ?_
    refine q_aload_n (pc := 8) C dX4_divideAndRest_8 rfl 1 rfl ?_
    refine q_g4_1 (pc := 9) C Lh0 Kh0 mwX4_divideAndRest_0 mwX4_divideAndRest_1 dX4_divideAndRest_9 ?_
    refine q_iconst (pc := 12) (v := 1) C dX4_divideAndRest_12 (by decide) ?_
    refine q_isub (pc := 13) C dX4_divideAndRest_13 ?_
    refine q_topi (fun v3 ev3 => ?_)
    replace h := h v3 ev3
    refine q_istore (pc := 14) (lv' := [(4, .int v3), (2, .long v2), (0, .ref h0), (1, .int x1)]) C dX4_divideAndRest_14 (by decide) rfl ?_
    refine q_lv (lv' := [(0, .ref h0), (1, .int x1), (2, .long v2), (4, .int v3)]) [2, 3, 1, 0] rfl ?_
    obtain ⟨n18, h⟩ := h
    refine slX4_divideAndRest_16 C Lh0 Kh0 ?_ n18 v2 v3 σ h
    · intro w14 σ15 h
      refine q_aload_n (pc := 65) C dX4_divideAndRest_65 rfl 0 rfl ?_
      refine q_aload_n (pc := 66) C dX4_divideAndRest_66 rfl 0 rfl ?_
      refine q_g4_1 (pc := 67) C Lh0 Kh0 mwX4_divideAndRest_0 mwX4_divideAndRest_1 dX4_divideAndRest_67 ?_
      refine q_aload_n (pc := 70) C dX4_divideAndRest_70 rfl 0 rfl ?_
      refine q_g4_2 (pc := 71) C Lh0 Kh0 mwX4_divideAndRest_0 mwX4_divideAndRest_4 dX4_divideAndRest_71 ?_
      refine q_cVv (pc := 74) (As := [.int (σ15 h0 1), .int (σ15 h0 2)]) (ci := 4) (Cn := RX4) (T := TX4) (N := 3) C (sdX4_settle C.2.2.2.2.2.1 C.2.2.2.2.2.2 Lh0 Kh0 h) (cwV 2 C.1.2.2.2.2 gX4_divideAndRest_X4_settle rfl rfl rfl (by decide +kernel) (q_room (by decide) (by decide))) Lh0 (qc4 Kh0 _) rfl rfl rfl (Nat.le_of_ble_eq_true rfl) dX4_divideAndRest_74 (fun σ16 h => ?_)
      refine q_lload_n (pc := 77) C dX4_divideAndRest_77 rfl 1 rfl ?_
      refine q_l2i (pc := 78) C dX4_divideAndRest_78 ?_
      exact q_iret (pc := 79) C dX4_divideAndRest_79 h
  · replace h := h.2 c1
    refine q_iconst (pc := 4) (v := 0) C dX4_divideAndRest_4 (by decide) ?_
    exact q_iret (pc := 5) C dX4_divideAndRest_5 h
theorem mwX4_side_0 : ∀ w ∈ wsX40, w ∈ wsX4_side := by decide +kernel
theorem mwX4_side_1 : Cond.fieldLink RX4 13 "IntFile$Whole" "count" "I" ∈ wsX4_side := by decide +kernel
theorem mwX4_side_2 : Cond.fieldLink RX4 17 "IntFile$Whole" "below" "Z" ∈ wsX4_side := by decide +kernel
def wpX4_side (G : qG) (h0 : Nat) (σ : qS) (post : Int32 → qS → Prop) : Prop := (((σ h0 1) = 0 → post 0 σ) ∧ (¬ (σ h0 1) = 0 → (((σ h0 2) = 0 → post 1 σ) ∧ (¬ (σ h0 2) = 0 → post ((-1)) σ))))
set_option maxHeartbeats 4000000 in
set_option maxRecDepth 100000 in
theorem sdX4_side {l : Launch} {E : qE} {L : List Nat} {G : qG} (hN : L.Nodup) (hG : q_WF G L) {h0 : Nat} (Lh0 : h0 ∈ L) (Kh0 : G.1 h0 = 4) {σ : qS} {post : Int32 → qS → Prop} (h : wpX4_side G h0 σ post) : MtI l E L G yX4_side wsX4_side (q_rm 1) [.ref h0] σ post := by
  refine q_met (Qc := fun sz => va_Qi post (q_B E L G) (q_free L sz)) (cc := cX4_side) (maxL := 1) (ret := (some .int)) (own := RX4) (by decide) rfl rfl (Nat.le_of_ble_eq_true rfl) hN hG ?_
  intro p e s m below meth c C
  unfold wpX4_side at h
  refine q_aload_n (pc := 0) C dX4_side_0 rfl 0 rfl ?_
  refine q_g4_1 (pc := 1) C Lh0 Kh0 mwX4_side_0 mwX4_side_1 dX4_side_1 ?_
  refine q_if_ne (tgt := 9) (pc := 4) C dX4_side_4 (by decide) (fun c1 => ?_) (fun c1 => ?_)
  · replace h := h.2 c1
    refine q_aload_n (pc := 9) C dX4_side_9 rfl 0 rfl ?_
    refine q_g4_2 (pc := 10) C Lh0 Kh0 mwX4_side_0 mwX4_side_2 dX4_side_10 ?_
    refine q_if_eq (tgt := 20) (pc := 13) C dX4_side_13 (by decide) (fun c2 => ?_) (fun c2 => ?_)
    · replace h := h.1 c2
      refine q_iconst (pc := 20) (v := 1) C dX4_side_20 (by decide) ?_
      exact q_iret (pc := 21) C dX4_side_21 h
    · replace h := h.2 c2
      refine q_iconst (pc := 16) (v := (-1)) C dX4_side_16 (by decide) ?_
      refine q_goto (tgt := 21) (pc := 17) C dX4_side_17 (by decide) ?_
      exact q_iret (pc := 21) C dX4_side_21 h
  · replace h := h.1 c1
    refine q_iconst (pc := 7) (v := 0) C dX4_side_7 (by decide) ?_
    exact q_iret (pc := 8) C dX4_side_8 h
theorem mwX4_turnSign_0 : ∀ w ∈ wsX40, w ∈ wsX4_turnSign := by decide +kernel
theorem mwX4_turnSign_1 : Cond.fieldLink RX4 17 "IntFile$Whole" "below" "Z" ∈ wsX4_turnSign := by decide +kernel
theorem mwX4_turnSign_2 : Cond.fieldLink RX4 13 "IntFile$Whole" "count" "I" ∈ wsX4_turnSign := by decide +kernel
def bkX4_turnSign_19 (G : qG) (s0 : Nat) (post : qS → Prop) (σ : qS) : Prop := ∀ σ2 : qS, σ2 = q_st σ s0 2 0 → post σ2
set_option maxHeartbeats 4000000 in
set_option maxRecDepth 100000 in
theorem sbX4_turnSign_19 {p : Program} {l : Launch} {e : Env} {s : State} {m : MethodId} {args : Array Value} {below : List Frame} {meth : Method} {c : Code} {E : qE} {L : List Nat} {G : qG} {A : Nat → Prop} (C : q_C p s m args meth c cX4_turnSign 1 wsX4_turnSign RX4 none E L G A) {s0 : Nat} (Ls0 : s0 ∈ L) (Ks0 : G.1 s0 = 4) {post : qS → Prop} {σ : qS} (h : bkX4_turnSign_19 G s0 post σ) : Wd p l e (q_rm 1) s m args below meth c E L G A (MQ below (va_Qv post (q_B E L G) A) args s 0 0 A) 1 σ 19 [] [.ref s0] := by
  unfold bkX4_turnSign_19 at h
  refine q_iconst (pc := 19) (v := 0) C dX4_turnSign_19 (by decide) ?_
  refine q_p4_2 (pc := 20) C Ls0 Ks0 mwX4_turnSign_0 mwX4_turnSign_1 (Or.inl rfl) dX4_turnSign_20 (fun σ2 eσ2 => ?_)
  replace h := h σ2 eσ2
  exact q_vret (pc := 23) C dX4_turnSign_23 h
def wpX4_turnSign (G : qG) (h0 : Nat) (σ : qS) (post : qS → Prop) : Prop := (((σ h0 2) = 0 → (((σ h0 1) ≤ 0 → bkX4_turnSign_19 G h0 post σ) ∧ (¬ (σ h0 1) ≤ 0 → ∀ σ4 : qS, σ4 = q_st σ h0 2 1 → post σ4))) ∧ (¬ (σ h0 2) = 0 → bkX4_turnSign_19 G h0 post σ))
set_option maxHeartbeats 4000000 in
set_option maxRecDepth 100000 in
theorem sdX4_turnSign {l : Launch} {E : qE} {L : List Nat} {G : qG} (hN : L.Nodup) (hG : q_WF G L) {h0 : Nat} (Lh0 : h0 ∈ L) (Kh0 : G.1 h0 = 4) {σ : qS} {post : qS → Prop} (h : wpX4_turnSign G h0 σ post) : MtV l E L G yX4_turnSign wsX4_turnSign (q_rm 1) [.ref h0] σ post := by
  refine q_met (Qc := fun sz => va_Qv post (q_B E L G) (q_free L sz)) (cc := cX4_turnSign) (maxL := 1) (ret := none) (own := RX4) (by decide) rfl rfl (Nat.le_of_ble_eq_true rfl) hN hG ?_
  intro p e s m below meth c C
  unfold wpX4_turnSign at h
  refine q_aload_n (pc := 0) C dX4_turnSign_0 rfl 0 rfl ?_
  refine q_aload_n (pc := 1) C dX4_turnSign_1 rfl 0 rfl ?_
  refine q_g4_2 (pc := 2) C Lh0 Kh0 mwX4_turnSign_0 mwX4_turnSign_1 dX4_turnSign_2 ?_
  refine q_if_ne (tgt := 19) (pc := 5) C dX4_turnSign_5 (by decide) (fun c1 => ?_) (fun c1 => ?_)
  · replace h := h.2 c1
    refine q_lv (lv' := []) [] rfl ?_
    exact sbX4_turnSign_19 C Lh0 Kh0 h
  · replace h := h.1 c1
    refine q_aload_n (pc := 8) C dX4_turnSign_8 rfl 0 rfl ?_
    refine q_g4_1 (pc := 9) C Lh0 Kh0 mwX4_turnSign_0 mwX4_turnSign_2 dX4_turnSign_9 ?_
    refine q_if_le (tgt := 19) (pc := 12) C dX4_turnSign_12 (by decide) (fun c3 => ?_) (fun c3 => ?_)
    · replace h := h.1 c3
      refine q_lv (lv' := []) [] rfl ?_
      exact sbX4_turnSign_19 C Lh0 Kh0 h
    · replace h := h.2 c3
      refine q_iconst (pc := 15) (v := 1) C dX4_turnSign_15 (by decide) ?_
      refine q_goto (tgt := 20) (pc := 16) C dX4_turnSign_16 (by decide) ?_
      refine q_p4_2 (pc := 20) C Lh0 Kh0 mwX4_turnSign_0 mwX4_turnSign_1 (Or.inr rfl) dX4_turnSign_20 (fun σ4 eσ4 => ?_)
      replace h := h σ4 eσ4
      exact q_vret (pc := 23) C dX4_turnSign_23 h
theorem mwX4_bits_0 : ∀ w ∈ wsX40, w ∈ wsX4_bits := by decide +kernel
theorem mwX4_bits_1 : Cond.fieldLink RX4 13 "IntFile$Whole" "count" "I" ∈ wsX4_bits := by decide +kernel
theorem mwX4_bits_2 : Cond.fieldLink RX4 7 "IntFile$Whole" "limbs" "[I" ∈ wsX4_bits := by decide +kernel
def wpX4_bits (G : qG) (h0 : Nat) (σ : qS) (post : Int32 → qS → Prop) : Prop := (((σ h0 1) = 0 → post 0 σ) ∧ (¬ (σ h0 1) = 0 → vp_in ((σ h0 1) - 1) (G.2.2 ((G.2.1 h0 0))) ∧ wpJ6_numberOfLeadingZeros_0f7a4 G (σ ((G.2.1 h0 0)) ((σ h0 1) - 1).toNatClampNeg) σ (fun (u5 : Int32) (σ4 : qS) => post (((σ h0 1) * 32) - u5) σ4)))
set_option maxHeartbeats 4000000 in
set_option maxRecDepth 100000 in
theorem sdX4_bits {l : Launch} {E : qE} {L : List Nat} {G : qG} (hN : L.Nodup) (hG : q_WF G L) {h0 : Nat} (Lh0 : h0 ∈ L) (Kh0 : G.1 h0 = 4) {σ : qS} {post : Int32 → qS → Prop} (h : wpX4_bits G h0 σ post) : MtI l E L G yX4_bits wsX4_bits (q_rm 2) [.ref h0] σ post := by
  refine q_met (Qc := fun sz => va_Qi post (q_B E L G) (q_free L sz)) (cc := cX4_bits) (maxL := 1) (ret := (some .int)) (own := RX4) (by decide) rfl rfl (Nat.le_of_ble_eq_true rfl) hN hG ?_
  intro p e s m below meth c C
  unfold wpX4_bits at h
  refine q_aload_n (pc := 0) C dX4_bits_0 rfl 0 rfl ?_
  refine q_g4_1 (pc := 1) C Lh0 Kh0 mwX4_bits_0 mwX4_bits_1 dX4_bits_1 ?_
  refine q_if_ne (tgt := 9) (pc := 4) C dX4_bits_4 (by decide) (fun c1 => ?_) (fun c1 => ?_)
  · replace h := h.2 c1
    refine q_aload_n (pc := 9) C dX4_bits_9 rfl 0 rfl ?_
    refine q_g4_1 (pc := 10) C Lh0 Kh0 mwX4_bits_0 mwX4_bits_1 dX4_bits_10 ?_
    refine q_bipush (pc := 13) (v := 32) C dX4_bits_13 (by decide) ?_
    refine q_imul (pc := 15) C dX4_bits_15 ?_
    refine q_aload_n (pc := 16) C dX4_bits_16 rfl 0 rfl ?_
    obtain ⟨Lr2, Kr2⟩ := qw_4_0 C.2.2.2.2.2.2 Lh0 Kh0
    refine q_g4_0 (pc := 17) C Lh0 Kh0 mwX4_bits_0 mwX4_bits_2 dX4_bits_17 ?_
    refine q_aload_n (pc := 20) C dX4_bits_20 rfl 0 rfl ?_
    refine q_g4_1 (pc := 21) C Lh0 Kh0 mwX4_bits_0 mwX4_bits_1 dX4_bits_21 ?_
    refine q_iconst (pc := 24) (v := 1) C dX4_bits_24 (by decide) ?_
    refine q_isub (pc := 25) C dX4_bits_25 ?_
    obtain ⟨b3, h⟩ := h
    refine q_iald (pc := 26) C Lr2 Kr2 b3 dX4_bits_26 ?_
    refine q_cSi (pc := 27) (As := [.int (σ ((G.2.1 h0 0)) ((σ h0 1) - 1).toNatClampNeg)]) C (sdJ6_numberOfLeadingZeros_0f7a4 C.2.2.2.2.2.1 C.2.2.2.2.2.2 h) (va_cwS 1 C.1.2.2.2.2 gX4_bits_J6_numberOfLeadingZeros_0f7a4 rfl rfl rfl (by decide +kernel) (q_room (by decide) (by decide))) rfl rfl (Nat.le_of_ble_eq_true rfl) dX4_bits_27 (fun u5 σ4 h => ?_)
    refine q_isub (pc := 30) C dX4_bits_30 ?_
    exact q_iret (pc := 31) C dX4_bits_31 h
  · replace h := h.1 c1
    refine q_iconst (pc := 7) (v := 0) C dX4_bits_7 (by decide) ?_
    exact q_iret (pc := 8) C dX4_bits_8 h
theorem mwX4_hasBit_0 : ∀ w ∈ wsX40, w ∈ wsX4_hasBit := by decide +kernel
theorem mwX4_hasBit_1 : Cond.fieldLink RX4 13 "IntFile$Whole" "count" "I" ∈ wsX4_hasBit := by decide +kernel
theorem mwX4_hasBit_2 : Cond.fieldLink RX4 7 "IntFile$Whole" "limbs" "[I" ∈ wsX4_hasBit := by decide +kernel
def wpX4_hasBit (G : qG) (h0 : Nat) (x1 : Int32) (σ : qS) (post : Int32 → qS → Prop) : Prop := ∀ v1 : Int32, v1 = x1 / 32 → (((σ h0 1) ≤ v1 → post 0 σ) ∧ (¬ (σ h0 1) ≤ v1 → vp_in v1 (G.2.2 ((G.2.1 h0 0))) ∧ ((((((σ ((G.2.1 h0 0)) v1.toNatClampNeg).toUInt32 >>> ((x1 - x1 / 32 * 32).toUInt32 &&& Int32.toUInt32 31)).toInt32) &&& 1) = 0 → post 0 σ) ∧ (¬ ((((σ ((G.2.1 h0 0)) v1.toNatClampNeg).toUInt32 >>> ((x1 - x1 / 32 * 32).toUInt32 &&& Int32.toUInt32 31)).toInt32) &&& 1) = 0 → post 1 σ))))
set_option maxHeartbeats 4000000 in
set_option maxRecDepth 100000 in
theorem sdX4_hasBit {l : Launch} {E : qE} {L : List Nat} {G : qG} (hN : L.Nodup) (hG : q_WF G L) {h0 : Nat} {x1 : Int32} (Lh0 : h0 ∈ L) (Kh0 : G.1 h0 = 4) {σ : qS} {post : Int32 → qS → Prop} (h : wpX4_hasBit G h0 x1 σ post) : MtI l E L G yX4_hasBit wsX4_hasBit (q_rm 1) [.ref h0, .int x1] σ post := by
  refine q_met (Qc := fun sz => va_Qi post (q_B E L G) (q_free L sz)) (cc := cX4_hasBit) (maxL := 3) (ret := (some .boolean)) (own := RX4) (by decide) rfl rfl (Nat.le_of_ble_eq_true rfl) hN hG ?_
  intro p e s m below meth c C
  unfold wpX4_hasBit at h
  refine q_iload_n (pc := 0) C dX4_hasBit_0 rfl 1 rfl ?_
  refine q_bipush (pc := 1) (v := 32) C dX4_hasBit_1 (by decide) ?_
  refine q_idiv (pc := 3) C dX4_hasBit_3 (by decide) ?_
  refine q_topi (fun v1 ev1 => ?_)
  replace h := h v1 ev1
  refine q_istore_n (pc := 4) (lv' := [(2, .int v1), (0, .ref h0), (1, .int x1)]) C dX4_hasBit_4 rfl (by decide) rfl ?_
  refine q_iload_n (pc := 5) C dX4_hasBit_5 rfl 0 rfl ?_
  refine q_aload_n (pc := 6) C dX4_hasBit_6 rfl 1 rfl ?_
  refine q_g4_1 (pc := 7) C Lh0 Kh0 mwX4_hasBit_0 mwX4_hasBit_1 dX4_hasBit_7 ?_
  refine q_icmp_ge (tgt := 33) (pc := 10) C dX4_hasBit_10 (by decide) (fun c2 => ?_) (fun c2 => ?_)
  · replace h := h.1 c2
    refine q_iconst (pc := 33) (v := 0) C dX4_hasBit_33 (by decide) ?_
    exact q_zret (pc := 34) C dX4_hasBit_34 (Or.inl rfl) h
  · replace h := h.2 c2
    refine q_aload_n (pc := 13) C dX4_hasBit_13 rfl 1 rfl ?_
    obtain ⟨Lr3, Kr3⟩ := qw_4_0 C.2.2.2.2.2.2 Lh0 Kh0
    refine q_g4_0 (pc := 14) C Lh0 Kh0 mwX4_hasBit_0 mwX4_hasBit_2 dX4_hasBit_14 ?_
    refine q_iload_n (pc := 17) C dX4_hasBit_17 rfl 0 rfl ?_
    obtain ⟨b4, h⟩ := h
    refine q_iald (pc := 18) C Lr3 Kr3 b4 dX4_hasBit_18 ?_
    refine q_iload_n (pc := 19) C dX4_hasBit_19 rfl 2 rfl ?_
    refine q_bipush (pc := 20) (v := 32) C dX4_hasBit_20 (by decide) ?_
    refine q_irem (pc := 22) C dX4_hasBit_22 (by decide) ?_
    refine q_iushr (pc := 23) C dX4_hasBit_23 ?_
    refine q_iconst (pc := 24) (v := 1) C dX4_hasBit_24 (by decide) ?_
    refine q_iand (pc := 25) C dX4_hasBit_25 ?_
    refine q_if_eq (tgt := 33) (pc := 26) C dX4_hasBit_26 (by decide) (fun c5 => ?_) (fun c5 => ?_)
    · replace h := h.1 c5
      refine q_iconst (pc := 33) (v := 0) C dX4_hasBit_33 (by decide) ?_
      exact q_zret (pc := 34) C dX4_hasBit_34 (Or.inl rfl) h
    · replace h := h.2 c5
      refine q_iconst (pc := 29) (v := 1) C dX4_hasBit_29 (by decide) ?_
      refine q_goto (tgt := 34) (pc := 30) C dX4_hasBit_30 (by decide) ?_
      exact q_zret (pc := 34) C dX4_hasBit_34 (Or.inr rfl) h
theorem mwX4_compareValue_0 : ∀ w ∈ wsX40, w ∈ wsX4_compareValue := by decide +kernel
theorem mwX4_compareValue_1 : Cond.fieldLink RX4 17 "IntFile$Whole" "below" "Z" ∈ wsX4_compareValue := by decide +kernel
def wpX4_compareValue (G : qG) (h0 : Nat) (h1 : Nat) (σ : qS) (post : Int32 → qS → Prop) : Prop := (((σ h0 2) = (σ h1 2) → (((σ h0 2) = 0 → wpX4_compareSize G h0 h1 σ (fun (u4 : Int32) (σ3 : qS) => post u4 σ3)) ∧ (¬ (σ h0 2) = 0 → wpX4_compareSize G h1 h0 σ (fun (u6 : Int32) (σ5 : qS) => post u6 σ5)))) ∧ (¬ (σ h0 2) = (σ h1 2) → (((σ h0 2) = 0 → post 1 σ) ∧ (¬ (σ h0 2) = 0 → post ((-1)) σ))))
set_option maxHeartbeats 4000000 in
set_option maxRecDepth 100000 in
theorem sdX4_compareValue {l : Launch} {E : qE} {L : List Nat} {G : qG} (hN : L.Nodup) (hG : q_WF G L) {h0 : Nat} {h1 : Nat} (Lh0 : h0 ∈ L) (Kh0 : G.1 h0 = 4) (Lh1 : h1 ∈ L) (Kh1 : G.1 h1 = 4) {σ : qS} {post : Int32 → qS → Prop} (h : wpX4_compareValue G h0 h1 σ post) : MtI l E L G yX4_compareValue wsX4_compareValue (q_rm 2) [.ref h0, .ref h1] σ post := by
  refine q_met (Qc := fun sz => va_Qi post (q_B E L G) (q_free L sz)) (cc := cX4_compareValue) (maxL := 2) (ret := (some .int)) (own := RX4) (by decide) rfl rfl (Nat.le_of_ble_eq_true rfl) hN hG ?_
  intro p e s m below meth c C
  unfold wpX4_compareValue at h
  refine q_aload_n (pc := 0) C dX4_compareValue_0 rfl 0 rfl ?_
  refine q_g4_2 (pc := 1) C Lh0 Kh0 mwX4_compareValue_0 mwX4_compareValue_1 dX4_compareValue_1 ?_
  refine q_aload_n (pc := 4) C dX4_compareValue_4 rfl 1 rfl ?_
  refine q_g4_2 (pc := 5) C Lh1 Kh1 mwX4_compareValue_0 mwX4_compareValue_1 dX4_compareValue_5 ?_
  refine q_icmp_eq (tgt := 24) (pc := 8) C dX4_compareValue_8 (by decide) (fun c1 => ?_) (fun c1 => ?_)
  · replace h := h.1 c1
    refine q_aload_n (pc := 24) C dX4_compareValue_24 rfl 0 rfl ?_
    refine q_g4_2 (pc := 25) C Lh0 Kh0 mwX4_compareValue_0 mwX4_compareValue_1 dX4_compareValue_25 ?_
    refine q_if_eq (tgt := 39) (pc := 28) C dX4_compareValue_28 (by decide) (fun c2 => ?_) (fun c2 => ?_)
    · replace h := h.1 c2
      refine q_aload_n (pc := 39) C dX4_compareValue_39 rfl 0 rfl ?_
      refine q_aload_n (pc := 40) C dX4_compareValue_40 rfl 1 rfl ?_
      refine q_cVi (pc := 41) (As := [.ref h1]) (ci := 4) (Cn := RX4) (T := TX4) (N := 3) C (sdX4_compareSize C.2.2.2.2.2.1 C.2.2.2.2.2.2 Lh0 Kh0 Lh1 Kh1 h) (cwV 1 C.1.2.2.2.2 gX4_compareValue_X4_compareSize rfl rfl rfl (by decide +kernel) (q_room (by decide) (by decide))) Lh0 (qc4 Kh0 _) rfl rfl rfl (Nat.le_of_ble_eq_true rfl) dX4_compareValue_41 (fun u4 σ3 h => ?_)
      exact q_iret (pc := 44) C dX4_compareValue_44 h
    · replace h := h.2 c2
      refine q_aload_n (pc := 31) C dX4_compareValue_31 rfl 1 rfl ?_
      refine q_aload_n (pc := 32) C dX4_compareValue_32 rfl 0 rfl ?_
      refine q_cVi (pc := 33) (As := [.ref h0]) (ci := 4) (Cn := RX4) (T := TX4) (N := 3) C (sdX4_compareSize C.2.2.2.2.2.1 C.2.2.2.2.2.2 Lh1 Kh1 Lh0 Kh0 h) (cwV 1 C.1.2.2.2.2 gX4_compareValue_X4_compareSize rfl rfl rfl (by decide +kernel) (q_room (by decide) (by decide))) Lh1 (qc4 Kh1 _) rfl rfl rfl (Nat.le_of_ble_eq_true rfl) dX4_compareValue_33 (fun u6 σ5 h => ?_)
      refine q_goto (tgt := 44) (pc := 36) C dX4_compareValue_36 (by decide) ?_
      exact q_iret (pc := 44) C dX4_compareValue_44 h
  · replace h := h.2 c1
    refine q_aload_n (pc := 11) C dX4_compareValue_11 rfl 0 rfl ?_
    refine q_g4_2 (pc := 12) C Lh0 Kh0 mwX4_compareValue_0 mwX4_compareValue_1 dX4_compareValue_12 ?_
    refine q_if_eq (tgt := 22) (pc := 15) C dX4_compareValue_15 (by decide) (fun c7 => ?_) (fun c7 => ?_)
    · replace h := h.1 c7
      refine q_iconst (pc := 22) (v := 1) C dX4_compareValue_22 (by decide) ?_
      exact q_iret (pc := 23) C dX4_compareValue_23 h
    · replace h := h.2 c7
      refine q_iconst (pc := 18) (v := (-1)) C dX4_compareValue_18 (by decide) ?_
      refine q_goto (tgt := 23) (pc := 19) C dX4_compareValue_19 (by decide) ?_
      exact q_iret (pc := 23) C dX4_compareValue_23 h
theorem mwX4_becomePowerOfTwo_0 : ∀ w ∈ wsX40, w ∈ wsX4_becomePowerOfTwo := by decide +kernel
theorem mwX4_becomePowerOfTwo_1 : Cond.fieldLink RX4 7 "IntFile$Whole" "limbs" "[I" ∈ wsX4_becomePowerOfTwo := by decide +kernel
def wpX4_becomePowerOfTwo (G : qG) (h0 : Nat) (x1 : Int32) (σ : qS) (post : qS → Prop) : Prop := ∀ v1 : Int32, v1 = x1 / 32 → wpJ7_fill_fda19 G ((G.2.1 h0 0)) 0 v1 0 σ (fun (σ3 : qS) => vp_in v1 (G.2.2 ((G.2.1 h0 0))) ∧ ∀ σ6 : qS, σ6 = q_st σ3 ((G.2.1 h0 0)) v1.toNatClampNeg (((1 : Int32) <<< ((x1 - x1 / 32 * 32) &&& 31))) → wpX4_settle G h0 (v1 + 1) 0 σ6 (fun (σ7 : qS) => post σ7))
set_option maxHeartbeats 4000000 in
set_option maxRecDepth 100000 in
theorem sdX4_becomePowerOfTwo {l : Launch} {E : qE} {L : List Nat} {G : qG} (hN : L.Nodup) (hG : q_WF G L) {h0 : Nat} {x1 : Int32} (Lh0 : h0 ∈ L) (Kh0 : G.1 h0 = 4) {σ : qS} {post : qS → Prop} (h : wpX4_becomePowerOfTwo G h0 x1 σ post) : MtV l E L G yX4_becomePowerOfTwo wsX4_becomePowerOfTwo (q_rm 3) [.ref h0, .int x1] σ post := by
  refine q_met (Qc := fun sz => va_Qv post (q_B E L G) (q_free L sz)) (cc := cX4_becomePowerOfTwo) (maxL := 3) (ret := none) (own := RX4) (by decide) rfl rfl (Nat.le_of_ble_eq_true rfl) hN hG ?_
  intro p e s m below meth c C
  unfold wpX4_becomePowerOfTwo at h
  refine q_iload_n (pc := 0) C dX4_becomePowerOfTwo_0 rfl 1 rfl ?_
  refine q_bipush (pc := 1) (v := 32) C dX4_becomePowerOfTwo_1 (by decide) ?_
  refine q_idiv (pc := 3) C dX4_becomePowerOfTwo_3 (by decide) ?_
  refine q_topi (fun v1 ev1 => ?_)
  replace h := h v1 ev1
  refine q_istore_n (pc := 4) (lv' := [(2, .int v1), (0, .ref h0), (1, .int x1)]) C dX4_becomePowerOfTwo_4 rfl (by decide) rfl ?_
  refine q_aload_n (pc := 5) C dX4_becomePowerOfTwo_5 rfl 1 rfl ?_
  obtain ⟨Lr2, Kr2⟩ := qw_4_0 C.2.2.2.2.2.2 Lh0 Kh0
  refine q_g4_0 (pc := 6) C Lh0 Kh0 mwX4_becomePowerOfTwo_0 mwX4_becomePowerOfTwo_1 dX4_becomePowerOfTwo_6 ?_
  refine q_iconst (pc := 9) (v := 0) C dX4_becomePowerOfTwo_9 (by decide) ?_
  refine q_iload_n (pc := 10) C dX4_becomePowerOfTwo_10 rfl 0 rfl ?_
  refine q_iconst (pc := 11) (v := 0) C dX4_becomePowerOfTwo_11 (by decide) ?_
  refine q_cSv (pc := 12) (As := [.ref ((G.2.1 h0 0)), .int 0, .int v1, .int 0]) C (sdJ7_fill_fda19 C.2.2.2.2.2.1 C.2.2.2.2.2.2 Lr2 Kr2 h) (va_cwS 4 C.1.2.2.2.2 gX4_becomePowerOfTwo_J7_fill_fda19 rfl rfl rfl (by decide +kernel) (q_room (by decide) (by decide))) rfl rfl (Nat.le_of_ble_eq_true rfl) dX4_becomePowerOfTwo_12 (fun σ3 h => ?_)
  refine q_aload_n (pc := 15) C dX4_becomePowerOfTwo_15 rfl 1 rfl ?_
  refine q_g4_0 (pc := 16) C Lh0 Kh0 mwX4_becomePowerOfTwo_0 mwX4_becomePowerOfTwo_1 dX4_becomePowerOfTwo_16 ?_
  refine q_iload_n (pc := 19) C dX4_becomePowerOfTwo_19 rfl 0 rfl ?_
  refine q_iconst (pc := 20) (v := 1) C dX4_becomePowerOfTwo_20 (by decide) ?_
  refine q_iload_n (pc := 21) C dX4_becomePowerOfTwo_21 rfl 2 rfl ?_
  refine q_bipush (pc := 22) (v := 32) C dX4_becomePowerOfTwo_22 (by decide) ?_
  refine q_irem (pc := 24) C dX4_becomePowerOfTwo_24 (by decide) ?_
  refine q_ishl (pc := 25) C dX4_becomePowerOfTwo_25 ?_
  obtain ⟨b5, h⟩ := h
  refine q_iast (pc := 26) C Lr2 Kr2 b5 dX4_becomePowerOfTwo_26 (fun σ6 eσ6 => ?_)
  replace h := h σ6 eσ6
  refine q_aload_n (pc := 27) C dX4_becomePowerOfTwo_27 rfl 1 rfl ?_
  refine q_iload_n (pc := 28) C dX4_becomePowerOfTwo_28 rfl 0 rfl ?_
  refine q_iconst (pc := 29) (v := 1) C dX4_becomePowerOfTwo_29 (by decide) ?_
  refine q_iadd (pc := 30) C dX4_becomePowerOfTwo_30 ?_
  refine q_iconst (pc := 31) (v := 0) C dX4_becomePowerOfTwo_31 (by decide) ?_
  refine q_cVv (pc := 32) (As := [.int (v1 + 1), .int 0]) (ci := 4) (Cn := RX4) (T := TX4) (N := 3) C (sdX4_settle C.2.2.2.2.2.1 C.2.2.2.2.2.2 Lh0 Kh0 h) (cwV 2 C.1.2.2.2.2 gX4_becomePowerOfTwo_X4_settle rfl rfl rfl (by decide +kernel) (q_room (by decide) (by decide))) Lh0 (qc4 Kh0 _) rfl rfl rfl (Nat.le_of_ble_eq_true rfl) dX4_becomePowerOfTwo_32 (fun σ7 h => ?_)
  exact q_vret (pc := 35) C dX4_becomePowerOfTwo_35 h
theorem mwX4_becomePushed_0 : ∀ w ∈ wsX40, w ∈ wsX4_becomePushed := by decide +kernel
theorem mwX4_becomePushed_1 : Cond.fieldLink RX4 7 "IntFile$Whole" "limbs" "[I" ∈ wsX4_becomePushed := by decide +kernel
theorem mwX4_becomePushed_2 : Cond.fieldLink RX4 13 "IntFile$Whole" "count" "I" ∈ wsX4_becomePushed := by decide +kernel
theorem mwX4_becomePushed_3 : Cond.methodLink RX4 33 arraycopyName ∈ wsX4_becomePushed := by decide +kernel
theorem mwX4_becomePushed_4 : Cond.native arraycopyName ∈ wsX4_becomePushed := by decide +kernel
theorem mwX4_becomePushed_5 : Cond.static arraycopyName ∈ wsX4_becomePushed := by decide +kernel
theorem mwX4_becomePushed_6 : Cond.initialized "java/lang/System" ∈ wsX4_becomePushed := by decide +kernel
theorem mwX4_becomePushed_7 : Cond.fieldLink RX4 17 "IntFile$Whole" "below" "Z" ∈ wsX4_becomePushed := by decide +kernel
def wpX4_becomePushed (G : qG) (h0 : Nat) (h1 : Nat) (x2 : Int32) (σ : qS) (post : qS → Prop) : Prop := ¬ (0 : Int32) < 0 ∧ ¬ (1 : Int32) < 0 ∧ ¬ (σ h1 1) < 0 ∧ (0 : Int32).toNatClampNeg + (σ h1 1).toNatClampNeg ≤ G.2.2 ((G.2.1 h1 0)) ∧ (1 : Int32).toNatClampNeg + (σ h1 1).toNatClampNeg ≤ G.2.2 ((G.2.1 h0 0)) ∧ ∀ σ3 : qS, σ3 = q_cp σ ((G.2.1 h1 0)) (0 : Int32).toNatClampNeg ((G.2.1 h0 0)) (1 : Int32).toNatClampNeg (σ h1 1).toNatClampNeg → vp_in 0 (G.2.2 ((G.2.1 h0 0))) ∧ ∀ σ10 : qS, σ10 = q_st σ3 ((G.2.1 h0 0)) (0 : Int32).toNatClampNeg x2 → wpX4_settle G h0 ((σ10 h1 1) + 1) (σ10 h1 2) σ10 (fun (σ11 : qS) => post σ11)
set_option maxHeartbeats 4000000 in
set_option maxRecDepth 100000 in
theorem sdX4_becomePushed {l : Launch} {E : qE} {L : List Nat} {G : qG} (hN : L.Nodup) (hG : q_WF G L) {h0 : Nat} {h1 : Nat} {x2 : Int32} (Lh0 : h0 ∈ L) (Kh0 : G.1 h0 = 4) (Lh1 : h1 ∈ L) (Kh1 : G.1 h1 = 4) {σ : qS} {post : qS → Prop} (h : wpX4_becomePushed G h0 h1 x2 σ post) : MtV l E L G yX4_becomePushed wsX4_becomePushed (q_rm 2) [.ref h0, .ref h1, .int x2] σ post := by
  refine q_met (Qc := fun sz => va_Qv post (q_B E L G) (q_free L sz)) (cc := cX4_becomePushed) (maxL := 3) (ret := none) (own := RX4) (by decide) rfl rfl (Nat.le_of_ble_eq_true rfl) hN hG ?_
  intro p e s m below meth c C
  unfold wpX4_becomePushed at h
  refine q_aload_n (pc := 0) C dX4_becomePushed_0 rfl 1 rfl ?_
  obtain ⟨Lr1, Kr1⟩ := qw_4_0 C.2.2.2.2.2.2 Lh1 Kh1
  refine q_g4_0 (pc := 1) C Lh1 Kh1 mwX4_becomePushed_0 mwX4_becomePushed_1 dX4_becomePushed_1 ?_
  refine q_iconst (pc := 4) (v := 0) C dX4_becomePushed_4 (by decide) ?_
  refine q_aload_n (pc := 5) C dX4_becomePushed_5 rfl 0 rfl ?_
  obtain ⟨Lr2, Kr2⟩ := qw_4_0 C.2.2.2.2.2.2 Lh0 Kh0
  refine q_g4_0 (pc := 6) C Lh0 Kh0 mwX4_becomePushed_0 mwX4_becomePushed_1 dX4_becomePushed_6 ?_
  refine q_iconst (pc := 9) (v := 1) C dX4_becomePushed_9 (by decide) ?_
  refine q_aload_n (pc := 10) C dX4_becomePushed_10 rfl 1 rfl ?_
  refine q_g4_1 (pc := 11) C Lh1 Kh1 mwX4_becomePushed_0 mwX4_becomePushed_2 dX4_becomePushed_11 ?_
  obtain ⟨b4, b5, b6, b7, b8, h⟩ := h
  refine q_copy (pc := 14) C mwX4_becomePushed_3 mwX4_becomePushed_4 mwX4_becomePushed_5 mwX4_becomePushed_6 Lr1 Kr1 Lr2 Kr2 b4 b5 b6 b7 b8 (by decide) (Nat.le_of_ble_eq_true rfl) dX4_becomePushed_14 (fun σ3 eσ3 => ?_)
  replace h := h σ3 eσ3
  refine q_aload_n (pc := 17) C dX4_becomePushed_17 rfl 0 rfl ?_
  refine q_g4_0 (pc := 18) C Lh0 Kh0 mwX4_becomePushed_0 mwX4_becomePushed_1 dX4_becomePushed_18 ?_
  refine q_iconst (pc := 21) (v := 0) C dX4_becomePushed_21 (by decide) ?_
  refine q_iload_n (pc := 22) C dX4_becomePushed_22 rfl 2 rfl ?_
  obtain ⟨b9, h⟩ := h
  refine q_iast (pc := 23) C Lr2 Kr2 b9 dX4_becomePushed_23 (fun σ10 eσ10 => ?_)
  replace h := h σ10 eσ10
  refine q_aload_n (pc := 24) C dX4_becomePushed_24 rfl 0 rfl ?_
  refine q_aload_n (pc := 25) C dX4_becomePushed_25 rfl 1 rfl ?_
  refine q_g4_1 (pc := 26) C Lh1 Kh1 mwX4_becomePushed_0 mwX4_becomePushed_2 dX4_becomePushed_26 ?_
  refine q_iconst (pc := 29) (v := 1) C dX4_becomePushed_29 (by decide) ?_
  refine q_iadd (pc := 30) C dX4_becomePushed_30 ?_
  refine q_aload_n (pc := 31) C dX4_becomePushed_31 rfl 1 rfl ?_
  refine q_g4_2 (pc := 32) C Lh1 Kh1 mwX4_becomePushed_0 mwX4_becomePushed_7 dX4_becomePushed_32 ?_
  refine q_cVv (pc := 35) (As := [.int ((σ10 h1 1) + 1), .int (σ10 h1 2)]) (ci := 4) (Cn := RX4) (T := TX4) (N := 3) C (sdX4_settle C.2.2.2.2.2.1 C.2.2.2.2.2.2 Lh0 Kh0 h) (cwV 2 C.1.2.2.2.2 gX4_becomePushed_X4_settle rfl rfl rfl (by decide +kernel) (q_room (by decide) (by decide))) Lh0 (qc4 Kh0 _) rfl rfl rfl (Nat.le_of_ble_eq_true rfl) dX4_becomePushed_35 (fun σ11 h => ?_)
  exact q_vret (pc := 38) C dX4_becomePushed_38 h
theorem mwX4_limbOrZero_0 : ∀ w ∈ wsX40, w ∈ wsX4_limbOrZero := by decide +kernel
theorem mwX4_limbOrZero_1 : Cond.fieldLink RX4 13 "IntFile$Whole" "count" "I" ∈ wsX4_limbOrZero := by decide +kernel
theorem mwX4_limbOrZero_2 : Cond.fieldLink RX4 7 "IntFile$Whole" "limbs" "[I" ∈ wsX4_limbOrZero := by decide +kernel
theorem mwX4_limbOrZero_3 : Cond.constantLong RX4 31 (4294967295) ∈ wsX4_limbOrZero := by decide +kernel
def wpX4_limbOrZero (G : qG) (h0 : Nat) (x1 : Int32) (σ : qS) (post : Int64 → qS → Prop) : Prop := (((σ h0 1) ≤ x1 → post 0 σ) ∧ (¬ (σ h0 1) ≤ x1 → vp_in x1 (G.2.2 ((G.2.1 h0 0))) ∧ post (((σ ((G.2.1 h0 0)) x1.toNatClampNeg).toInt64) &&& 4294967295) σ))
set_option maxHeartbeats 4000000 in
set_option maxRecDepth 100000 in
theorem sdX4_limbOrZero {l : Launch} {E : qE} {L : List Nat} {G : qG} (hN : L.Nodup) (hG : q_WF G L) {h0 : Nat} {x1 : Int32} (Lh0 : h0 ∈ L) (Kh0 : G.1 h0 = 4) {σ : qS} {post : Int64 → qS → Prop} (h : wpX4_limbOrZero G h0 x1 σ post) : MtL l E L G yX4_limbOrZero wsX4_limbOrZero (q_rm 1) [.ref h0, .int x1] σ post := by
  refine q_met (Qc := fun sz => va_Ql post (q_B E L G) (q_free L sz)) (cc := cX4_limbOrZero) (maxL := 2) (ret := (some .long)) (own := RX4) (by decide) rfl rfl (Nat.le_of_ble_eq_true rfl) hN hG ?_
  intro p e s m below meth c C
  unfold wpX4_limbOrZero at h
  refine q_iload_n (pc := 0) C dX4_limbOrZero_0 rfl 1 rfl ?_
  refine q_aload_n (pc := 1) C dX4_limbOrZero_1 rfl 0 rfl ?_
  refine q_g4_1 (pc := 2) C Lh0 Kh0 mwX4_limbOrZero_0 mwX4_limbOrZero_1 dX4_limbOrZero_2 ?_
  refine q_icmp_ge (tgt := 22) (pc := 5) C dX4_limbOrZero_5 (by decide) (fun c1 => ?_) (fun c1 => ?_)
  · replace h := h.1 c1
    refine q_lconst (pc := 22) (v := 0) C dX4_limbOrZero_22 (by decide) ?_
    exact q_lret (pc := 23) C dX4_limbOrZero_23 h
  · replace h := h.2 c1
    refine q_aload_n (pc := 8) C dX4_limbOrZero_8 rfl 0 rfl ?_
    obtain ⟨Lr2, Kr2⟩ := qw_4_0 C.2.2.2.2.2.2 Lh0 Kh0
    refine q_g4_0 (pc := 9) C Lh0 Kh0 mwX4_limbOrZero_0 mwX4_limbOrZero_2 dX4_limbOrZero_9 ?_
    refine q_iload_n (pc := 12) C dX4_limbOrZero_12 rfl 1 rfl ?_
    obtain ⟨b3, h⟩ := h
    refine q_iald (pc := 13) C Lr2 Kr2 b3 dX4_limbOrZero_13 ?_
    refine q_i2l (pc := 14) C dX4_limbOrZero_14 ?_
    refine q_ldc2 (pc := 15) (v := 4294967295) C dX4_limbOrZero_15 mwX4_limbOrZero_3 ?_
    refine q_land (pc := 18) C dX4_limbOrZero_18 ?_
    refine q_goto (tgt := 23) (pc := 19) C dX4_limbOrZero_19 (by decide) ?_
    exact q_lret (pc := 23) C dX4_limbOrZero_23 h
theorem mwX4_addSizes_0 : ∀ w ∈ wsX40, w ∈ wsX4_addSizes := by decide +kernel
theorem mwX4_addSizes_1 : Cond.fieldLink RX4 13 "IntFile$Whole" "count" "I" ∈ wsX4_addSizes := by decide +kernel
theorem mwX4_addSizes_2 : Cond.methodLink RX4 59 Lib.Math.max.name ∈ wsX4_addSizes := by decide +kernel
theorem mwX4_addSizes_3 : Cond.static Lib.Math.max.name ∈ wsX4_addSizes := by decide +kernel
theorem mwX4_addSizes_4 : Cond.initialized "java/lang/Math" ∈ wsX4_addSizes := by decide +kernel
theorem mwX4_addSizes_5 : Cond.code Lib.Math.max.name Lib.Math.max.code 2 (some .int) ∈ wsX4_addSizes := by decide +kernel
theorem mwX4_addSizes_6 : Cond.fieldLink RX4 7 "IntFile$Whole" "limbs" "[I" ∈ wsX4_addSizes := by decide +kernel
def lpX4_addSizes_18 (G : qG) (h0 : Nat) (h1 : Nat) (h2 : Nat) (x3 : Int32) (post : qS → Prop) (kx65 : Int64 → qS → Prop) : Nat → Int64 → Int32 → qS → Prop
  | 0, _, _, _ => False
  | n + 1, x4, x6, σ => ((x3 ≤ x6 → kx65 x4 σ) ∧ (¬ x3 ≤ x6 → wpX4_limbOrZero G h1 x6 σ (fun (u6 : Int64) (σ5 : qS) => wpX4_limbOrZero G h2 x6 σ5 (fun (u8 : Int64) (σ7 : qS) => ∀ v9 : Int64, v9 = (u6 + u8) + x4 → vp_in x6 (G.2.2 ((G.2.1 h0 0))) ∧ ∀ σ12 : qS, σ12 = q_st σ7 ((G.2.1 h0 0)) x6.toNatClampNeg v9.toInt32 → ∀ v13 : Int64, v13 = (v9.toUInt64 >>> ((32 : Int32).toInt64.toUInt64 &&& Int64.toUInt64 63)).toInt64 → ∀ v14 : Int32, v14 = x6 + 1 → lpX4_addSizes_18 G h0 h1 h2 x3 post kx65 n v13 v14 σ12))))
set_option maxHeartbeats 4000000 in
set_option maxRecDepth 100000 in
theorem slX4_addSizes_18 {p : Program} {l : Launch} {e : Env} {s : State} {m : MethodId} {args : Array Value} {below : List Frame} {meth : Method} {c : Code} {E : qE} {L : List Nat} {G : qG} {A : Nat → Prop} (C : q_C p s m args meth c cX4_addSizes 9 wsX4_addSizes RX4 none E L G A) {h0 : Nat} {h1 : Nat} {h2 : Nat} {x3 : Int32} (Lh0 : h0 ∈ L) (Kh0 : G.1 h0 = 4) (Lh1 : h1 ∈ L) (Kh1 : G.1 h1 = 4) (Lh2 : h2 ∈ L) (Kh2 : G.1 h2 = 4) {post : qS → Prop} {kx65 : Int64 → qS → Prop} (Hkx65 : ∀ (y4 : Int64) (τ : qS), kx65 y4 τ → Wd p l e (q_rm 2) s m args below meth c E L G A (MQ below (va_Qv post (q_B E L G) A) args s 0 0 A) 9 τ 65 [(0, .ref h0), (3, .int x3), (4, .long y4)] []) : ∀ (n : Nat) (x4 : Int64) (x6 : Int32) (σ : qS), lpX4_addSizes_18 G h0 h1 h2 x3 post kx65 n x4 x6 σ → Wd p l e (q_rm 2) s m args below meth c E L G A (MQ below (va_Qv post (q_B E L G) A) args s 0 0 A) 9 σ 18 [(0, .ref h0), (1, .ref h1), (2, .ref h2), (3, .int x3), (4, .long x4), (6, .int x6)] [] := by
  intro n
  induction n with
  | zero => intro x4 x6 σ h; exact h.elim
  | succ n ih =>
    intro x4 x6 σ h
    unfold lpX4_addSizes_18 at h
    refine q_iload (pc := 18) C dX4_addSizes_18 5 rfl ?_
    refine q_iload_n (pc := 20) C dX4_addSizes_20 rfl 3 rfl ?_
    refine q_icmp_ge (tgt := 65) (pc := 21) C dX4_addSizes_21 (by decide) (fun c4 => ?_) (fun c4 => ?_)
    · replace h := h.1 c4
      refine q_lv (lv' := [(0, .ref h0), (3, .int x3), (4, .long x4)]) [0, 3, 4] rfl ?_
      exact Hkx65 x4 σ h
    · replace h := h.2 c4
      refine q_aload_n (pc := 24) C dX4_addSizes_24 rfl 1 rfl ?_
      refine q_iload (pc := 25) C dX4_addSizes_25 5 rfl ?_
      refine q_cVl (pc := 27) (As := [.int x6]) (ci := 4) (Cn := RX4) (T := TX4) (N := 3) C (sdX4_limbOrZero C.2.2.2.2.2.1 C.2.2.2.2.2.2 Lh1 Kh1 h) (cwV 1 C.1.2.2.2.2 gX4_addSizes_X4_limbOrZero rfl rfl rfl (by decide +kernel) (q_room (by decide) (by decide))) Lh1 (qc4 Kh1 _) rfl rfl rfl (Nat.le_of_ble_eq_true rfl) dX4_addSizes_27 (fun u6 σ5 h => ?_)
      refine q_aload_n (pc := 30) C dX4_addSizes_30 rfl 2 rfl ?_
      refine q_iload (pc := 31) C dX4_addSizes_31 5 rfl ?_
      refine q_cVl (pc := 33) (As := [.int x6]) (ci := 4) (Cn := RX4) (T := TX4) (N := 3) C (sdX4_limbOrZero C.2.2.2.2.2.1 C.2.2.2.2.2.2 Lh2 Kh2 h) (cwV 1 C.1.2.2.2.2 gX4_addSizes_X4_limbOrZero rfl rfl rfl (by decide +kernel) (q_room (by decide) (by decide))) Lh2 (qc4 Kh2 _) rfl rfl rfl (Nat.le_of_ble_eq_true rfl) dX4_addSizes_33 (fun u8 σ7 h => ?_)
      refine q_ladd (pc := 36) C dX4_addSizes_36 ?_
      refine q_lload (pc := 37) C dX4_addSizes_37 4 rfl ?_
      refine q_ladd (pc := 39) C dX4_addSizes_39 ?_
      refine q_topl (fun v9 ev9 => ?_)
      replace h := h v9 ev9
      refine q_lstore (pc := 40) (lv' := [(7, .long v9), (0, .ref h0), (1, .ref h1), (2, .ref h2), (3, .int x3), (4, .long x4), (6, .int x6)]) C dX4_addSizes_40 (by decide) rfl ?_
      refine q_aload_n (pc := 42) C dX4_addSizes_42 rfl 1 rfl ?_
      obtain ⟨Lr10, Kr10⟩ := qw_4_0 C.2.2.2.2.2.2 Lh0 Kh0
      refine q_g4_0 (pc := 43) C Lh0 Kh0 mwX4_addSizes_0 mwX4_addSizes_6 dX4_addSizes_43 ?_
      refine q_iload (pc := 46) C dX4_addSizes_46 6 rfl ?_
      refine q_lload (pc := 48) C dX4_addSizes_48 0 rfl ?_
      refine q_l2i (pc := 50) C dX4_addSizes_50 ?_
      obtain ⟨b11, h⟩ := h
      refine q_iast (pc := 51) C Lr10 Kr10 b11 dX4_addSizes_51 (fun σ12 eσ12 => ?_)
      replace h := h σ12 eσ12
      refine q_lload (pc := 52) C dX4_addSizes_52 0 rfl ?_
      refine q_bipush (pc := 54) (v := 32) C dX4_addSizes_54 (by decide) ?_
      refine q_lushr (pc := 56) C dX4_addSizes_56 ?_
      refine q_topl (fun v13 ev13 => ?_)
      replace h := h v13 ev13
      refine q_lstore (pc := 57) (lv' := [(4, .long v13), (7, .long v9), (0, .ref h0), (1, .ref h1), (2, .ref h2), (3, .int x3), (6, .int x6)]) C dX4_addSizes_57 (by decide) rfl ?_
      obtain ⟨v14, ev14⟩ : ∃ z : Int32, z = x6 + 1 := ⟨_, rfl⟩
      replace h := h v14 ev14
      refine q_iinc (pc := 59) (v := v14) (j := 6) (lv' := [(6, .int v14), (4, .long v13), (7, .long v9), (0, .ref h0), (1, .ref h1), (2, .ref h2), (3, .int x3)]) C dX4_addSizes_59 rfl (by rw [ev14]; rfl) (by decide) rfl ?_
      refine q_goto (tgt := 18) (pc := 62) C dX4_addSizes_62 (by decide) ?_
      refine q_lv (lv' := [(0, .ref h0), (1, .ref h1), (2, .ref h2), (3, .int x3), (4, .long v13), (6, .int v14)]) [3, 4, 5, 6, 1, 0] rfl ?_
      exact ih v13 v14 σ12 h
def wpX4_addSizes (G : qG) (h0 : Nat) (h1 : Nat) (h2 : Nat) (σ : qS) (post : qS → Prop) : Prop := ∀ v1 : Int32, v1 = (if (σ h1 1) < (σ h2 1) then (σ h2 1) else (σ h1 1)) → ∀ v2 : Int64, v2 = 0 → ∀ v3 : Int32, v3 = 0 → ∃ n20 : Nat, lpX4_addSizes_18 G h0 h1 h2 v1 post (fun (w15 : Int64) (σ16 : qS) => vp_in v1 (G.2.2 ((G.2.1 h0 0))) ∧ ∀ σ19 : qS, σ19 = q_st σ16 ((G.2.1 h0 0)) v1.toNatClampNeg w15.toInt32 → post σ19) n20 v2 v3 σ
set_option maxHeartbeats 4000000 in
set_option maxRecDepth 100000 in
theorem sdX4_addSizes {l : Launch} {E : qE} {L : List Nat} {G : qG} (hN : L.Nodup) (hG : q_WF G L) {h0 : Nat} {h1 : Nat} {h2 : Nat} (Lh0 : h0 ∈ L) (Kh0 : G.1 h0 = 4) (Lh1 : h1 ∈ L) (Kh1 : G.1 h1 = 4) (Lh2 : h2 ∈ L) (Kh2 : G.1 h2 = 4) {σ : qS} {post : qS → Prop} (h : wpX4_addSizes G h0 h1 h2 σ post) : MtV l E L G yX4_addSizes wsX4_addSizes (q_rm 2) [.ref h0, .ref h1, .ref h2] σ post := by
  refine q_met (Qc := fun sz => va_Qv post (q_B E L G) (q_free L sz)) (cc := cX4_addSizes) (maxL := 9) (ret := none) (own := RX4) (by decide) rfl rfl (Nat.le_of_ble_eq_true rfl) hN hG ?_
  intro p e s m below meth c C
  unfold wpX4_addSizes at h
  refine q_aload_n (pc := 0) C dX4_addSizes_0 rfl 1 rfl ?_
  refine q_g4_1 (pc := 1) C Lh1 Kh1 mwX4_addSizes_0 mwX4_addSizes_1 dX4_addSizes_1 ?_
  refine q_aload_n (pc := 4) C dX4_addSizes_4 rfl 2 rfl ?_
  refine q_g4_1 (pc := 5) C Lh2 Kh2 mwX4_addSizes_0 mwX4_addSizes_1 dX4_addSizes_5 ?_
  refine q_mmax (pc := 8) C mwX4_addSizes_2 mwX4_addSizes_3 mwX4_addSizes_4 mwX4_addSizes_5 (by decide) (Nat.le_of_ble_eq_true rfl) dX4_addSizes_8 ?_
  refine q_topi (fun v1 ev1 => ?_)
  replace h := h v1 ev1
  refine q_istore_n (pc := 11) (lv' := [(3, .int v1), (0, .ref h0), (1, .ref h1), (2, .ref h2)]) C dX4_addSizes_11 rfl (by decide) rfl ?_
  refine q_lconst (pc := 12) (v := 0) C dX4_addSizes_12 (by decide) ?_
  refine q_topl (fun v2 ev2 => ?_)
  replace h := h v2 ev2
  refine q_lstore (pc := 13) (lv' := [(4, .long v2), (3, .int v1), (0, .ref h0), (1, .ref h1), (2, .ref h2)]) C dX4_addSizes_13 (by decide) rfl ?_
  refine q_iconst (pc := 15) (v := 0) C dX4_addSizes_15 (by decide) ?_
  refine q_topi (fun v3 ev3 => ?_)
  replace h := h v3 ev3
  refine q_istore (pc := 16) (lv' := [(6, .int v3), (4, .long v2), (3, .int v1), (0, .ref h0), (1, .ref h1), (2, .ref h2)]) C dX4_addSizes_16 (by decide) rfl ?_
  refine q_lv (lv' := [(0, .ref h0), (1, .ref h1), (2, .ref h2), (3, .int v1), (4, .long v2), (6, .int v3)]) [3, 4, 5, 2, 1, 0] rfl ?_
  obtain ⟨n20, h⟩ := h
  refine slX4_addSizes_18 C Lh0 Kh0 Lh1 Kh1 Lh2 Kh2 ?_ n20 v2 v3 σ h
  · intro w15 σ16 h
    refine q_aload_n (pc := 65) C dX4_addSizes_65 rfl 0 rfl ?_
    obtain ⟨Lr17, Kr17⟩ := qw_4_0 C.2.2.2.2.2.2 Lh0 Kh0
    refine q_g4_0 (pc := 66) C Lh0 Kh0 mwX4_addSizes_0 mwX4_addSizes_6 dX4_addSizes_66 ?_
    refine q_iload_n (pc := 69) C dX4_addSizes_69 rfl 1 rfl ?_
    refine q_lload (pc := 70) C dX4_addSizes_70 2 rfl ?_
    refine q_l2i (pc := 72) C dX4_addSizes_72 ?_
    obtain ⟨b18, h⟩ := h
    refine q_iast (pc := 73) C Lr17 Kr17 b18 dX4_addSizes_73 (fun σ19 eσ19 => ?_)
    replace h := h σ19 eσ19
    exact q_vret (pc := 74) C dX4_addSizes_74 h
theorem mwX4_subtractSizes_0 : ∀ w ∈ wsX40, w ∈ wsX4_subtractSizes := by decide +kernel
theorem mwX4_subtractSizes_1 : Cond.fieldLink RX4 13 "IntFile$Whole" "count" "I" ∈ wsX4_subtractSizes := by decide +kernel
theorem mwX4_subtractSizes_2 : Cond.fieldLink RX4 7 "IntFile$Whole" "limbs" "[I" ∈ wsX4_subtractSizes := by decide +kernel
def bkX4_subtractSizes_53 (G : qG) (h0 : Nat) (h1 : Nat) (h2 : Nat) (x5 : Int32) (s0 : Int64) (post : qS → Prop) (kb5 : Int64 → Int32 → qS → Prop) (σ : qS) : Prop := ∀ v13 : Int32, v13 = x5 + 1 → kb5 s0 v13 σ
set_option maxHeartbeats 4000000 in
set_option maxRecDepth 100000 in
theorem sbX4_subtractSizes_53 {p : Program} {l : Launch} {e : Env} {s : State} {m : MethodId} {args : Array Value} {below : List Frame} {meth : Method} {c : Code} {E : qE} {L : List Nat} {G : qG} {A : Nat → Prop} (C : q_C p s m args meth c cX4_subtractSizes 8 wsX4_subtractSizes RX4 none E L G A) {h0 : Nat} {h1 : Nat} {h2 : Nat} {x5 : Int32} {s0 : Int64} (Lh0 : h0 ∈ L) (Kh0 : G.1 h0 = 4) (Lh1 : h1 ∈ L) (Kh1 : G.1 h1 = 4) (Lh2 : h2 ∈ L) (Kh2 : G.1 h2 = 4) {post : qS → Prop} {kb5 : Int64 → Int32 → qS → Prop} (Hkb5 : ∀ (y3 : Int64) (y5 : Int32) (τ : qS), kb5 y3 y5 τ → Wd p l e (q_rm 2) s m args below meth c E L G A (MQ below (va_Qv post (q_B E L G) A) args s 0 0 A) 8 τ 5 [(0, .ref h0), (1, .ref h1), (2, .ref h2), (3, .long y3), (5, .int y5)] []) {σ : qS} (h : bkX4_subtractSizes_53 G h0 h1 h2 x5 s0 post kb5 σ) : Wd p l e (q_rm 2) s m args below meth c E L G A (MQ below (va_Qv post (q_B E L G) A) args s 0 0 A) 8 σ 53 [(0, .ref h0), (1, .ref h1), (2, .ref h2), (5, .int x5)] [.long s0] := by
  unfold bkX4_subtractSizes_53 at h
  refine q_lstore_n (pc := 53) (lv' := [(3, .long s0), (0, .ref h0), (1, .ref h1), (2, .ref h2), (5, .int x5)]) C dX4_subtractSizes_53 rfl (by decide) rfl ?_
  obtain ⟨v13, ev13⟩ : ∃ z : Int32, z = x5 + 1 := ⟨_, rfl⟩
  replace h := h v13 ev13
  refine q_iinc (pc := 54) (v := v13) (j := 4) (lv' := [(5, .int v13), (3, .long s0), (0, .ref h0), (1, .ref h1), (2, .ref h2)]) C dX4_subtractSizes_54 rfl (by rw [ev13]; rfl) (by decide) rfl ?_
  refine q_goto (tgt := 5) (pc := 57) C dX4_subtractSizes_57 (by decide) ?_
  refine q_lv (lv' := [(0, .ref h0), (1, .ref h1), (2, .ref h2), (3, .long s0), (5, .int v13)]) [2, 3, 4, 1, 0] rfl ?_
  exact Hkb5 s0 v13 σ h
def lpX4_subtractSizes_5 (G : qG) (h0 : Nat) (h1 : Nat) (h2 : Nat) (post : qS → Prop) (kx60 : qS → Prop) : Nat → Int64 → Int32 → qS → Prop
  | 0, _, _, _ => False
  | n + 1, x3, x5, σ => (((σ h1 1) ≤ x5 → kx60 σ) ∧ (¬ (σ h1 1) ≤ x5 → wpX4_limbOrZero G h1 x5 σ (fun (u5 : Int64) (σ4 : qS) => wpX4_limbOrZero G h2 x5 σ4 (fun (u7 : Int64) (σ6 : qS) => ∀ v8 : Int64, v8 = (u5 - u7) - x3 → vp_in x5 (G.2.2 ((G.2.1 h0 0))) ∧ ∀ σ11 : qS, σ11 = q_st σ6 ((G.2.1 h0 0)) x5.toNatClampNeg v8.toInt32 → ((0 ≤ (lg_cmp v8 0) → bkX4_subtractSizes_53 G h0 h1 h2 x5 0 post (lpX4_subtractSizes_5 G h0 h1 h2 post kx60 n) σ11) ∧ (¬ 0 ≤ (lg_cmp v8 0) → bkX4_subtractSizes_53 G h0 h1 h2 x5 1 post (lpX4_subtractSizes_5 G h0 h1 h2 post kx60 n) σ11))))))
set_option maxHeartbeats 4000000 in
set_option maxRecDepth 100000 in
theorem slX4_subtractSizes_5 {p : Program} {l : Launch} {e : Env} {s : State} {m : MethodId} {args : Array Value} {below : List Frame} {meth : Method} {c : Code} {E : qE} {L : List Nat} {G : qG} {A : Nat → Prop} (C : q_C p s m args meth c cX4_subtractSizes 8 wsX4_subtractSizes RX4 none E L G A) {h0 : Nat} {h1 : Nat} {h2 : Nat} (Lh0 : h0 ∈ L) (Kh0 : G.1 h0 = 4) (Lh1 : h1 ∈ L) (Kh1 : G.1 h1 = 4) (Lh2 : h2 ∈ L) (Kh2 : G.1 h2 = 4) {post : qS → Prop} {kx60 : qS → Prop} (Hkx60 : ∀  (τ : qS), kx60  τ → Wd p l e (q_rm 2) s m args below meth c E L G A (MQ below (va_Qv post (q_B E L G) A) args s 0 0 A) 8 τ 60 [] []) : ∀ (n : Nat) (x3 : Int64) (x5 : Int32) (σ : qS), lpX4_subtractSizes_5 G h0 h1 h2 post kx60 n x3 x5 σ → Wd p l e (q_rm 2) s m args below meth c E L G A (MQ below (va_Qv post (q_B E L G) A) args s 0 0 A) 8 σ 5 [(0, .ref h0), (1, .ref h1), (2, .ref h2), (3, .long x3), (5, .int x5)] [] := by
  intro n
  induction n with
  | zero => intro x3 x5 σ h; exact h.elim
  | succ n ih =>
    intro x3 x5 σ h
    unfold lpX4_subtractSizes_5 at h
    refine q_iload (pc := 5) C dX4_subtractSizes_5 4 rfl ?_
    refine q_aload_n (pc := 7) C dX4_subtractSizes_7 rfl 1 rfl ?_
    refine q_g4_1 (pc := 8) C Lh1 Kh1 mwX4_subtractSizes_0 mwX4_subtractSizes_1 dX4_subtractSizes_8 ?_
    refine q_icmp_ge (tgt := 60) (pc := 11) C dX4_subtractSizes_11 (by decide) (fun c3 => ?_) (fun c3 => ?_)
    · replace h := h.1 c3
      refine q_lv (lv' := []) [] rfl ?_
      exact Hkx60  σ h
    · replace h := h.2 c3
      refine q_aload_n (pc := 14) C dX4_subtractSizes_14 rfl 1 rfl ?_
      refine q_iload (pc := 15) C dX4_subtractSizes_15 4 rfl ?_
      refine q_cVl (pc := 17) (As := [.int x5]) (ci := 4) (Cn := RX4) (T := TX4) (N := 3) C (sdX4_limbOrZero C.2.2.2.2.2.1 C.2.2.2.2.2.2 Lh1 Kh1 h) (cwV 1 C.1.2.2.2.2 gX4_subtractSizes_X4_limbOrZero rfl rfl rfl (by decide +kernel) (q_room (by decide) (by decide))) Lh1 (qc4 Kh1 _) rfl rfl rfl (Nat.le_of_ble_eq_true rfl) dX4_subtractSizes_17 (fun u5 σ4 h => ?_)
      refine q_aload_n (pc := 20) C dX4_subtractSizes_20 rfl 2 rfl ?_
      refine q_iload (pc := 21) C dX4_subtractSizes_21 4 rfl ?_
      refine q_cVl (pc := 23) (As := [.int x5]) (ci := 4) (Cn := RX4) (T := TX4) (N := 3) C (sdX4_limbOrZero C.2.2.2.2.2.1 C.2.2.2.2.2.2 Lh2 Kh2 h) (cwV 1 C.1.2.2.2.2 gX4_subtractSizes_X4_limbOrZero rfl rfl rfl (by decide +kernel) (q_room (by decide) (by decide))) Lh2 (qc4 Kh2 _) rfl rfl rfl (Nat.le_of_ble_eq_true rfl) dX4_subtractSizes_23 (fun u7 σ6 h => ?_)
      refine q_lsub (pc := 26) C dX4_subtractSizes_26 ?_
      refine q_lload_n (pc := 27) C dX4_subtractSizes_27 rfl 3 rfl ?_
      refine q_lsub (pc := 28) C dX4_subtractSizes_28 ?_
      refine q_topl (fun v8 ev8 => ?_)
      replace h := h v8 ev8
      refine q_lstore (pc := 29) (lv' := [(6, .long v8), (0, .ref h0), (1, .ref h1), (2, .ref h2), (3, .long x3), (5, .int x5)]) C dX4_subtractSizes_29 (by decide) rfl ?_
      refine q_aload_n (pc := 31) C dX4_subtractSizes_31 rfl 1 rfl ?_
      obtain ⟨Lr9, Kr9⟩ := qw_4_0 C.2.2.2.2.2.2 Lh0 Kh0
      refine q_g4_0 (pc := 32) C Lh0 Kh0 mwX4_subtractSizes_0 mwX4_subtractSizes_2 dX4_subtractSizes_32 ?_
      refine q_iload (pc := 35) C dX4_subtractSizes_35 5 rfl ?_
      refine q_lload (pc := 37) C dX4_subtractSizes_37 0 rfl ?_
      refine q_l2i (pc := 39) C dX4_subtractSizes_39 ?_
      obtain ⟨b10, h⟩ := h
      refine q_iast (pc := 40) C Lr9 Kr9 b10 dX4_subtractSizes_40 (fun σ11 eσ11 => ?_)
      replace h := h σ11 eσ11
      refine q_lload (pc := 41) C dX4_subtractSizes_41 0 rfl ?_
      refine q_lconst (pc := 43) (v := 0) C dX4_subtractSizes_43 (by decide) ?_
      refine q_lcmp (pc := 44) C dX4_subtractSizes_44 ?_
      refine q_if_ge (tgt := 52) (pc := 45) C dX4_subtractSizes_45 (by decide) (fun c12 => ?_) (fun c12 => ?_)
      · replace h := h.1 c12
        refine q_lconst (pc := 52) (v := 0) C dX4_subtractSizes_52 (by decide) ?_
        refine q_lv (lv' := [(0, .ref h0), (1, .ref h1), (2, .ref h2), (5, .int x5)]) [1, 2, 3, 5] rfl ?_
        exact sbX4_subtractSizes_53 C Lh0 Kh0 Lh1 Kh1 Lh2 Kh2 ih h
      · replace h := h.2 c12
        refine q_lconst (pc := 48) (v := 1) C dX4_subtractSizes_48 (by decide) ?_
        refine q_goto (tgt := 53) (pc := 49) C dX4_subtractSizes_49 (by decide) ?_
        refine q_lv (lv' := [(0, .ref h0), (1, .ref h1), (2, .ref h2), (5, .int x5)]) [1, 2, 3, 5] rfl ?_
        exact sbX4_subtractSizes_53 C Lh0 Kh0 Lh1 Kh1 Lh2 Kh2 ih h
def wpX4_subtractSizes (G : qG) (h0 : Nat) (h1 : Nat) (h2 : Nat) (σ : qS) (post : qS → Prop) : Prop := ∀ v1 : Int64, v1 = 0 → ∀ v2 : Int32, v2 = 0 → ∃ n15 : Nat, lpX4_subtractSizes_5 G h0 h1 h2 post (fun  (σ14 : qS) => post σ14) n15 v1 v2 σ
set_option maxHeartbeats 4000000 in
set_option maxRecDepth 100000 in
theorem sdX4_subtractSizes {l : Launch} {E : qE} {L : List Nat} {G : qG} (hN : L.Nodup) (hG : q_WF G L) {h0 : Nat} {h1 : Nat} {h2 : Nat} (Lh0 : h0 ∈ L) (Kh0 : G.1 h0 = 4) (Lh1 : h1 ∈ L) (Kh1 : G.1 h1 = 4) (Lh2 : h2 ∈ L) (Kh2 : G.1 h2 = 4) {σ : qS} {post : qS → Prop} (h : wpX4_subtractSizes G h0 h1 h2 σ post) : MtV l E L G yX4_subtractSizes wsX4_subtractSizes (q_rm 2) [.ref h0, .ref h1, .ref h2] σ post := by
  refine q_met (Qc := fun sz => va_Qv post (q_B E L G) (q_free L sz)) (cc := cX4_subtractSizes) (maxL := 8) (ret := none) (own := RX4) (by decide) rfl rfl (Nat.le_of_ble_eq_true rfl) hN hG ?_
  intro p e s m below meth c C
  unfold wpX4_subtractSizes at h
  refine q_lconst (pc := 0) (v := 0) C dX4_subtractSizes_0 (by decide) ?_
  refine q_topl (fun v1 ev1 => ?_)
  replace h := h v1 ev1
  refine q_lstore_n (pc := 1) (lv' := [(3, .long v1), (0, .ref h0), (1, .ref h1), (2, .ref h2)]) C dX4_subtractSizes_1 rfl (by decide) rfl ?_
  refine q_iconst (pc := 2) (v := 0) C dX4_subtractSizes_2 (by decide) ?_
  refine q_topi (fun v2 ev2 => ?_)
  replace h := h v2 ev2
  refine q_istore (pc := 3) (lv' := [(5, .int v2), (3, .long v1), (0, .ref h0), (1, .ref h1), (2, .ref h2)]) C dX4_subtractSizes_3 (by decide) rfl ?_
  refine q_lv (lv' := [(0, .ref h0), (1, .ref h1), (2, .ref h2), (3, .long v1), (5, .int v2)]) [2, 3, 4, 1, 0] rfl ?_
  obtain ⟨n15, h⟩ := h
  refine slX4_subtractSizes_5 C Lh0 Kh0 Lh1 Kh1 Lh2 Kh2 ?_ n15 v1 v2 σ h
  · intro σ14 h
    exact q_vret (pc := 60) C dX4_subtractSizes_60 h
theorem mwX4_becomeSum_0 : ∀ w ∈ wsX40, w ∈ wsX4_becomeSum := by decide +kernel
theorem mwX4_becomeSum_1 : Cond.fieldLink RX4 17 "IntFile$Whole" "below" "Z" ∈ wsX4_becomeSum := by decide +kernel
theorem mwX4_becomeSum_2 : Cond.fieldLink RX4 13 "IntFile$Whole" "count" "I" ∈ wsX4_becomeSum := by decide +kernel
theorem mwX4_becomeSum_3 : Cond.methodLink RX4 59 Lib.Math.max.name ∈ wsX4_becomeSum := by decide +kernel
theorem mwX4_becomeSum_4 : Cond.static Lib.Math.max.name ∈ wsX4_becomeSum := by decide +kernel
theorem mwX4_becomeSum_5 : Cond.initialized "java/lang/Math" ∈ wsX4_becomeSum := by decide +kernel
theorem mwX4_becomeSum_6 : Cond.code Lib.Math.max.name Lib.Math.max.code 2 (some .int) ∈ wsX4_becomeSum := by decide +kernel
def wpX4_becomeSum (G : qG) (h0 : Nat) (h1 : Nat) (h2 : Nat) (x3 : Int32) (σ : qS) (post : qS → Prop) : Prop := (((σ h1 2) = x3 → wpX4_addSizes G h0 h1 h2 σ (fun (σ13 : qS) => wpX4_settle G h0 (((if (σ13 h1 1) < (σ13 h2 1) then (σ13 h2 1) else (σ13 h1 1))) + 1) x3 σ13 (fun (σ15 : qS) => post σ15))) ∧ (¬ (σ h1 2) = x3 → wpX4_compareSize G h1 h2 σ (fun (u3 : Int32) (σ2 : qS) => ((u3 < 0 → wpX4_subtractSizes G h0 h2 h1 σ2 (fun (σ5 : qS) => wpX4_settle G h0 (σ5 h2 1) x3 σ5 (fun (σ7 : qS) => post σ7))) ∧ (¬ u3 < 0 → wpX4_subtractSizes G h0 h1 h2 σ2 (fun (σ9 : qS) => wpX4_settle G h0 (σ9 h1 1) (σ9 h1 2) σ9 (fun (σ11 : qS) => post σ11)))))))
set_option maxHeartbeats 4000000 in
set_option maxRecDepth 100000 in
theorem sdX4_becomeSum {l : Launch} {E : qE} {L : List Nat} {G : qG} (hN : L.Nodup) (hG : q_WF G L) {h0 : Nat} {h1 : Nat} {h2 : Nat} {x3 : Int32} (Lh0 : h0 ∈ L) (Kh0 : G.1 h0 = 4) (Lh1 : h1 ∈ L) (Kh1 : G.1 h1 = 4) (Lh2 : h2 ∈ L) (Kh2 : G.1 h2 = 4) {σ : qS} {post : qS → Prop} (h : wpX4_becomeSum G h0 h1 h2 x3 σ post) : MtV l E L G yX4_becomeSum wsX4_becomeSum (q_rm 3) [.ref h0, .ref h1, .ref h2, .int x3] σ post := by
  refine q_met (Qc := fun sz => va_Qv post (q_B E L G) (q_free L sz)) (cc := cX4_becomeSum) (maxL := 4) (ret := none) (own := RX4) (by decide) rfl rfl (Nat.le_of_ble_eq_true rfl) hN hG ?_
  intro p e s m below meth c C
  unfold wpX4_becomeSum at h
  refine q_aload_n (pc := 0) C dX4_becomeSum_0 rfl 1 rfl ?_
  refine q_g4_2 (pc := 1) C Lh1 Kh1 mwX4_becomeSum_0 mwX4_becomeSum_1 dX4_becomeSum_1 ?_
  refine q_iload_n (pc := 4) C dX4_becomeSum_4 rfl 3 rfl ?_
  refine q_icmp_ne (tgt := 35) (pc := 5) C dX4_becomeSum_5 (by decide) (fun c1 => ?_) (fun c1 => ?_)
  · replace h := h.2 c1
    refine q_aload_n (pc := 35) C dX4_becomeSum_35 rfl 1 rfl ?_
    refine q_aload_n (pc := 36) C dX4_becomeSum_36 rfl 2 rfl ?_
    refine q_cVi (pc := 37) (As := [.ref h2]) (ci := 4) (Cn := RX4) (T := TX4) (N := 3) C (sdX4_compareSize C.2.2.2.2.2.1 C.2.2.2.2.2.2 Lh1 Kh1 Lh2 Kh2 h) (cwV 1 C.1.2.2.2.2 gX4_becomeSum_X4_compareSize rfl rfl rfl (by decide +kernel) (q_room (by decide) (by decide))) Lh1 (qc4 Kh1 _) rfl rfl rfl (Nat.le_of_ble_eq_true rfl) dX4_becomeSum_37 (fun u3 σ2 h => ?_)
    refine q_if_lt (tgt := 64) (pc := 40) C dX4_becomeSum_40 (by decide) (fun c4 => ?_) (fun c4 => ?_)
    · replace h := h.1 c4
      refine q_aload_n (pc := 64) C dX4_becomeSum_64 rfl 0 rfl ?_
      refine q_aload_n (pc := 65) C dX4_becomeSum_65 rfl 2 rfl ?_
      refine q_aload_n (pc := 66) C dX4_becomeSum_66 rfl 1 rfl ?_
      refine q_cVv (pc := 67) (As := [.ref h2, .ref h1]) (ci := 4) (Cn := RX4) (T := TX4) (N := 3) C (sdX4_subtractSizes C.2.2.2.2.2.1 C.2.2.2.2.2.2 Lh0 Kh0 Lh2 Kh2 Lh1 Kh1 h) (cwV 2 C.1.2.2.2.2 gX4_becomeSum_X4_subtractSizes rfl rfl rfl (by decide +kernel) (q_room (by decide) (by decide))) Lh0 (qc4 Kh0 _) rfl rfl rfl (Nat.le_of_ble_eq_true rfl) dX4_becomeSum_67 (fun σ5 h => ?_)
      refine q_aload_n (pc := 70) C dX4_becomeSum_70 rfl 0 rfl ?_
      refine q_aload_n (pc := 71) C dX4_becomeSum_71 rfl 2 rfl ?_
      refine q_g4_1 (pc := 72) C Lh2 Kh2 mwX4_becomeSum_0 mwX4_becomeSum_2 dX4_becomeSum_72 ?_
      refine q_iload_n (pc := 75) C dX4_becomeSum_75 rfl 3 rfl ?_
      refine q_cVv (pc := 76) (As := [.int (σ5 h2 1), .int x3]) (ci := 4) (Cn := RX4) (T := TX4) (N := 3) C (sdX4_settle C.2.2.2.2.2.1 C.2.2.2.2.2.2 Lh0 Kh0 h) (cwV 2 C.1.2.2.2.2 gX4_becomeSum_X4_settle rfl rfl rfl (by decide +kernel) (q_room (by decide) (by decide))) Lh0 (qc4 Kh0 _) rfl rfl rfl (Nat.le_of_ble_eq_true rfl) dX4_becomeSum_76 (fun σ7 h => ?_)
      exact q_vret (pc := 79) C dX4_becomeSum_79 h
    · replace h := h.2 c4
      refine q_aload_n (pc := 43) C dX4_becomeSum_43 rfl 0 rfl ?_
      refine q_aload_n (pc := 44) C dX4_becomeSum_44 rfl 1 rfl ?_
      refine q_aload_n (pc := 45) C dX4_becomeSum_45 rfl 2 rfl ?_
      refine q_cVv (pc := 46) (As := [.ref h1, .ref h2]) (ci := 4) (Cn := RX4) (T := TX4) (N := 3) C (sdX4_subtractSizes C.2.2.2.2.2.1 C.2.2.2.2.2.2 Lh0 Kh0 Lh1 Kh1 Lh2 Kh2 h) (cwV 2 C.1.2.2.2.2 gX4_becomeSum_X4_subtractSizes rfl rfl rfl (by decide +kernel) (q_room (by decide) (by decide))) Lh0 (qc4 Kh0 _) rfl rfl rfl (Nat.le_of_ble_eq_true rfl) dX4_becomeSum_46 (fun σ9 h => ?_)
      refine q_aload_n (pc := 49) C dX4_becomeSum_49 rfl 0 rfl ?_
      refine q_aload_n (pc := 50) C dX4_becomeSum_50 rfl 1 rfl ?_
      refine q_g4_1 (pc := 51) C Lh1 Kh1 mwX4_becomeSum_0 mwX4_becomeSum_2 dX4_becomeSum_51 ?_
      refine q_aload_n (pc := 54) C dX4_becomeSum_54 rfl 1 rfl ?_
      refine q_g4_2 (pc := 55) C Lh1 Kh1 mwX4_becomeSum_0 mwX4_becomeSum_1 dX4_becomeSum_55 ?_
      refine q_cVv (pc := 58) (As := [.int (σ9 h1 1), .int (σ9 h1 2)]) (ci := 4) (Cn := RX4) (T := TX4) (N := 3) C (sdX4_settle C.2.2.2.2.2.1 C.2.2.2.2.2.2 Lh0 Kh0 h) (cwV 2 C.1.2.2.2.2 gX4_becomeSum_X4_settle rfl rfl rfl (by decide +kernel) (q_room (by decide) (by decide))) Lh0 (qc4 Kh0 _) rfl rfl rfl (Nat.le_of_ble_eq_true rfl) dX4_becomeSum_58 (fun σ11 h => ?_)
      refine q_goto (tgt := 79) (pc := 61) C dX4_becomeSum_61 (by decide) ?_
      exact q_vret (pc := 79) C dX4_becomeSum_79 h
  · replace h := h.1 c1
    refine q_aload_n (pc := 8) C dX4_becomeSum_8 rfl 0 rfl ?_
    refine q_aload_n (pc := 9) C dX4_becomeSum_9 rfl 1 rfl ?_
    refine q_aload_n (pc := 10) C dX4_becomeSum_10 rfl 2 rfl ?_
    refine q_cVv (pc := 11) (As := [.ref h1, .ref h2]) (ci := 4) (Cn := RX4) (T := TX4) (N := 3) C (sdX4_addSizes C.2.2.2.2.2.1 C.2.2.2.2.2.2 Lh0 Kh0 Lh1 Kh1 Lh2 Kh2 h) (cwV 2 C.1.2.2.2.2 gX4_becomeSum_X4_addSizes rfl rfl rfl (by decide +kernel) (q_room (by decide) (by decide))) Lh0 (qc4 Kh0 _) rfl rfl rfl (Nat.le_of_ble_eq_true rfl) dX4_becomeSum_11 (fun σ13 h => ?_)
    refine q_aload_n (pc := 14) C dX4_becomeSum_14 rfl 0 rfl ?_
    refine q_aload_n (pc := 15) C dX4_becomeSum_15 rfl 1 rfl ?_
    refine q_g4_1 (pc := 16) C Lh1 Kh1 mwX4_becomeSum_0 mwX4_becomeSum_2 dX4_becomeSum_16 ?_
    refine q_aload_n (pc := 19) C dX4_becomeSum_19 rfl 2 rfl ?_
    refine q_g4_1 (pc := 20) C Lh2 Kh2 mwX4_becomeSum_0 mwX4_becomeSum_2 dX4_becomeSum_20 ?_
    refine q_mmax (pc := 23) C mwX4_becomeSum_3 mwX4_becomeSum_4 mwX4_becomeSum_5 mwX4_becomeSum_6 (by decide) (Nat.le_of_ble_eq_true rfl) dX4_becomeSum_23 ?_
    refine q_iconst (pc := 26) (v := 1) C dX4_becomeSum_26 (by decide) ?_
    refine q_iadd (pc := 27) C dX4_becomeSum_27 ?_
    refine q_iload_n (pc := 28) C dX4_becomeSum_28 rfl 3 rfl ?_
    refine q_cVv (pc := 29) (As := [.int (((if (σ13 h1 1) < (σ13 h2 1) then (σ13 h2 1) else (σ13 h1 1))) + 1), .int x3]) (ci := 4) (Cn := RX4) (T := TX4) (N := 3) C (sdX4_settle C.2.2.2.2.2.1 C.2.2.2.2.2.2 Lh0 Kh0 h) (cwV 2 C.1.2.2.2.2 gX4_becomeSum_X4_settle rfl rfl rfl (by decide +kernel) (q_room (by decide) (by decide))) Lh0 (qc4 Kh0 _) rfl rfl rfl (Nat.le_of_ble_eq_true rfl) dX4_becomeSum_29 (fun σ15 h => ?_)
    refine q_goto (tgt := 79) (pc := 32) C dX4_becomeSum_32 (by decide) ?_
    exact q_vret (pc := 79) C dX4_becomeSum_79 h
theorem mwX4_becomeShiftedUp_0 : ∀ w ∈ wsX40, w ∈ wsX4_becomeShiftedUp := by decide +kernel
theorem mwX4_becomeShiftedUp_1 : Cond.fieldLink RX4 7 "IntFile$Whole" "limbs" "[I" ∈ wsX4_becomeShiftedUp := by decide +kernel
theorem mwX4_becomeShiftedUp_2 : Cond.fieldLink RX4 13 "IntFile$Whole" "count" "I" ∈ wsX4_becomeShiftedUp := by decide +kernel
theorem mwX4_becomeShiftedUp_3 : Cond.fieldLink RX4 17 "IntFile$Whole" "below" "Z" ∈ wsX4_becomeShiftedUp := by decide +kernel
def wpX4_becomeShiftedUp (G : qG) (h0 : Nat) (h1 : Nat) (x2 : Int32) (σ : qS) (post : qS → Prop) : Prop := ∀ v1 : Int32, v1 = x2 / 32 → wpJ7_fill_fda19 G ((G.2.1 h0 0)) 0 v1 0 σ (fun (σ3 : qS) => wpX4_shiftUp G h1 (x2 - x2 / 32 * 32) ((G.2.1 h0 0)) v1 σ3 (fun (u6 : Int32) (σ5 : qS) => vp_in (v1 + (σ3 h1 1)) (G.2.2 ((G.2.1 h0 0))) ∧ ∀ σ8 : qS, σ8 = q_st σ5 ((G.2.1 h0 0)) (v1 + (σ3 h1 1)).toNatClampNeg u6 → wpX4_settle G h0 ((v1 + (σ8 h1 1)) + 1) (σ8 h1 2) σ8 (fun (σ9 : qS) => post σ9)))
set_option maxHeartbeats 4000000 in
set_option maxRecDepth 100000 in
theorem sdX4_becomeShiftedUp {l : Launch} {E : qE} {L : List Nat} {G : qG} (hN : L.Nodup) (hG : q_WF G L) {h0 : Nat} {h1 : Nat} {x2 : Int32} (Lh0 : h0 ∈ L) (Kh0 : G.1 h0 = 4) (Lh1 : h1 ∈ L) (Kh1 : G.1 h1 = 4) {σ : qS} {post : qS → Prop} (h : wpX4_becomeShiftedUp G h0 h1 x2 σ post) : MtV l E L G yX4_becomeShiftedUp wsX4_becomeShiftedUp (q_rm 3) [.ref h0, .ref h1, .int x2] σ post := by
  refine q_met (Qc := fun sz => va_Qv post (q_B E L G) (q_free L sz)) (cc := cX4_becomeShiftedUp) (maxL := 4) (ret := none) (own := RX4) (by decide) rfl rfl (Nat.le_of_ble_eq_true rfl) hN hG ?_
  intro p e s m below meth c C
  unfold wpX4_becomeShiftedUp at h
  refine q_iload_n (pc := 0) C dX4_becomeShiftedUp_0 rfl 2 rfl ?_
  refine q_bipush (pc := 1) (v := 32) C dX4_becomeShiftedUp_1 (by decide) ?_
  refine q_idiv (pc := 3) C dX4_becomeShiftedUp_3 (by decide) ?_
  refine q_topi (fun v1 ev1 => ?_)
  replace h := h v1 ev1
  refine q_istore_n (pc := 4) (lv' := [(3, .int v1), (0, .ref h0), (1, .ref h1), (2, .int x2)]) C dX4_becomeShiftedUp_4 rfl (by decide) rfl ?_
  refine q_aload_n (pc := 5) C dX4_becomeShiftedUp_5 rfl 1 rfl ?_
  obtain ⟨Lr2, Kr2⟩ := qw_4_0 C.2.2.2.2.2.2 Lh0 Kh0
  refine q_g4_0 (pc := 6) C Lh0 Kh0 mwX4_becomeShiftedUp_0 mwX4_becomeShiftedUp_1 dX4_becomeShiftedUp_6 ?_
  refine q_iconst (pc := 9) (v := 0) C dX4_becomeShiftedUp_9 (by decide) ?_
  refine q_iload_n (pc := 10) C dX4_becomeShiftedUp_10 rfl 0 rfl ?_
  refine q_iconst (pc := 11) (v := 0) C dX4_becomeShiftedUp_11 (by decide) ?_
  refine q_cSv (pc := 12) (As := [.ref ((G.2.1 h0 0)), .int 0, .int v1, .int 0]) C (sdJ7_fill_fda19 C.2.2.2.2.2.1 C.2.2.2.2.2.2 Lr2 Kr2 h) (va_cwS 4 C.1.2.2.2.2 gX4_becomeShiftedUp_J7_fill_fda19 rfl rfl rfl (by decide +kernel) (q_room (by decide) (by decide))) rfl rfl (Nat.le_of_ble_eq_true rfl) dX4_becomeShiftedUp_12 (fun σ3 h => ?_)
  refine q_aload_n (pc := 15) C dX4_becomeShiftedUp_15 rfl 1 rfl ?_
  refine q_g4_0 (pc := 16) C Lh0 Kh0 mwX4_becomeShiftedUp_0 mwX4_becomeShiftedUp_1 dX4_becomeShiftedUp_16 ?_
  refine q_iload_n (pc := 19) C dX4_becomeShiftedUp_19 rfl 0 rfl ?_
  refine q_aload_n (pc := 20) C dX4_becomeShiftedUp_20 rfl 2 rfl ?_
  refine q_g4_1 (pc := 21) C Lh1 Kh1 mwX4_becomeShiftedUp_0 mwX4_becomeShiftedUp_2 dX4_becomeShiftedUp_21 ?_
  refine q_iadd (pc := 24) C dX4_becomeShiftedUp_24 ?_
  refine q_aload_n (pc := 25) C dX4_becomeShiftedUp_25 rfl 2 rfl ?_
  refine q_iload_n (pc := 26) C dX4_becomeShiftedUp_26 rfl 3 rfl ?_
  refine q_bipush (pc := 27) (v := 32) C dX4_becomeShiftedUp_27 (by decide) ?_
  refine q_irem (pc := 29) C dX4_becomeShiftedUp_29 (by decide) ?_
  refine q_aload_n (pc := 30) C dX4_becomeShiftedUp_30 rfl 1 rfl ?_
  refine q_g4_0 (pc := 31) C Lh0 Kh0 mwX4_becomeShiftedUp_0 mwX4_becomeShiftedUp_1 dX4_becomeShiftedUp_31 ?_
  refine q_iload_n (pc := 34) C dX4_becomeShiftedUp_34 rfl 0 rfl ?_
  refine q_cSi (pc := 35) (As := [.ref h1, .int (x2 - x2 / 32 * 32), .ref ((G.2.1 h0 0)), .int v1]) C (sdX4_shiftUp C.2.2.2.2.2.1 C.2.2.2.2.2.2 Lh1 Kh1 Lr2 Kr2 h) (va_cwS 4 C.1.2.2.2.2 gX4_becomeShiftedUp_X4_shiftUp rfl rfl rfl (by decide +kernel) (q_room (by decide) (by decide))) rfl rfl (Nat.le_of_ble_eq_true rfl) dX4_becomeShiftedUp_35 (fun u6 σ5 h => ?_)
  obtain ⟨b7, h⟩ := h
  refine q_iast (pc := 38) C Lr2 Kr2 b7 dX4_becomeShiftedUp_38 (fun σ8 eσ8 => ?_)
  replace h := h σ8 eσ8
  refine q_aload_n (pc := 39) C dX4_becomeShiftedUp_39 rfl 1 rfl ?_
  refine q_iload_n (pc := 40) C dX4_becomeShiftedUp_40 rfl 0 rfl ?_
  refine q_aload_n (pc := 41) C dX4_becomeShiftedUp_41 rfl 2 rfl ?_
  refine q_g4_1 (pc := 42) C Lh1 Kh1 mwX4_becomeShiftedUp_0 mwX4_becomeShiftedUp_2 dX4_becomeShiftedUp_42 ?_
  refine q_iadd (pc := 45) C dX4_becomeShiftedUp_45 ?_
  refine q_iconst (pc := 46) (v := 1) C dX4_becomeShiftedUp_46 (by decide) ?_
  refine q_iadd (pc := 47) C dX4_becomeShiftedUp_47 ?_
  refine q_aload_n (pc := 48) C dX4_becomeShiftedUp_48 rfl 2 rfl ?_
  refine q_g4_2 (pc := 49) C Lh1 Kh1 mwX4_becomeShiftedUp_0 mwX4_becomeShiftedUp_3 dX4_becomeShiftedUp_49 ?_
  refine q_cVv (pc := 52) (As := [.int ((v1 + (σ8 h1 1)) + 1), .int (σ8 h1 2)]) (ci := 4) (Cn := RX4) (T := TX4) (N := 3) C (sdX4_settle C.2.2.2.2.2.1 C.2.2.2.2.2.2 Lh0 Kh0 h) (cwV 2 C.1.2.2.2.2 gX4_becomeShiftedUp_X4_settle rfl rfl rfl (by decide +kernel) (q_room (by decide) (by decide))) Lh0 (qc4 Kh0 _) rfl rfl rfl (Nat.le_of_ble_eq_true rfl) dX4_becomeShiftedUp_52 (fun σ9 h => ?_)
  exact q_vret (pc := 55) C dX4_becomeShiftedUp_55 h
theorem mwX4_hasOneBelow_0 : ∀ w ∈ wsX40, w ∈ wsX4_hasOneBelow := by decide +kernel
theorem mwX4_hasOneBelow_1 : Cond.fieldLink RX4 13 "IntFile$Whole" "count" "I" ∈ wsX4_hasOneBelow := by decide +kernel
theorem mwX4_hasOneBelow_2 : Cond.methodLink RX4 74 Lib.Math.min.name ∈ wsX4_hasOneBelow := by decide +kernel
theorem mwX4_hasOneBelow_3 : Cond.static Lib.Math.min.name ∈ wsX4_hasOneBelow := by decide +kernel
theorem mwX4_hasOneBelow_4 : Cond.initialized "java/lang/Math" ∈ wsX4_hasOneBelow := by decide +kernel
theorem mwX4_hasOneBelow_5 : Cond.code Lib.Math.min.name Lib.Math.min.code 2 (some .int) ∈ wsX4_hasOneBelow := by decide +kernel
theorem mwX4_hasOneBelow_6 : Cond.fieldLink RX4 7 "IntFile$Whole" "limbs" "[I" ∈ wsX4_hasOneBelow := by decide +kernel
def lpX4_hasOneBelow_14 (G : qG) (h0 : Nat) (x1 : Int32) (x2 : Int32) (post : Int32 → qS → Prop) (kx28 : qS → Prop) (kx36 : qS → Prop) : Nat → Int32 → qS → Prop
  | 0, _, _ => False
  | n + 1, x3, σ => ((x2 ≤ x3 → kx36 σ) ∧ (¬ x2 ≤ x3 → vp_in x3 (G.2.2 ((G.2.1 h0 0))) ∧ (((σ ((G.2.1 h0 0)) x3.toNatClampNeg) = 0 → ∀ v7 : Int32, v7 = x3 + 1 → lpX4_hasOneBelow_14 G h0 x1 x2 post kx28 kx36 n v7 σ) ∧ (¬ (σ ((G.2.1 h0 0)) x3.toNatClampNeg) = 0 → kx28 σ))))
set_option maxHeartbeats 4000000 in
set_option maxRecDepth 100000 in
theorem slX4_hasOneBelow_14 {p : Program} {l : Launch} {e : Env} {s : State} {m : MethodId} {args : Array Value} {below : List Frame} {meth : Method} {c : Code} {E : qE} {L : List Nat} {G : qG} {A : Nat → Prop} (C : q_C p s m args meth c cX4_hasOneBelow 4 wsX4_hasOneBelow RX4 (some .boolean) E L G A) {h0 : Nat} {x1 : Int32} {x2 : Int32} (Lh0 : h0 ∈ L) (Kh0 : G.1 h0 = 4) {post : Int32 → qS → Prop} {kx28 : qS → Prop} {kx36 : qS → Prop} (Hkx28 : ∀  (τ : qS), kx28  τ → Wd p l e (q_rm 1) s m args below meth c E L G A (MQ below (va_Qi post (q_B E L G) A) args s 0 0 A) 4 τ 28 [] []) (Hkx36 : ∀  (τ : qS), kx36  τ → Wd p l e (q_rm 1) s m args below meth c E L G A (MQ below (va_Qi post (q_B E L G) A) args s 0 0 A) 4 τ 36 [(0, .ref h0), (1, .int x1), (2, .int x2)] []) : ∀ (n : Nat) (x3 : Int32) (σ : qS), lpX4_hasOneBelow_14 G h0 x1 x2 post kx28 kx36 n x3 σ → Wd p l e (q_rm 1) s m args below meth c E L G A (MQ below (va_Qi post (q_B E L G) A) args s 0 0 A) 4 σ 14 [(0, .ref h0), (1, .int x1), (2, .int x2), (3, .int x3)] [] := by
  intro n
  induction n with
  | zero => intro x3 σ h; exact h.elim
  | succ n ih =>
    intro x3 σ h
    unfold lpX4_hasOneBelow_14 at h
    refine q_iload_n (pc := 14) C dX4_hasOneBelow_14 rfl 3 rfl ?_
    refine q_iload_n (pc := 15) C dX4_hasOneBelow_15 rfl 2 rfl ?_
    refine q_icmp_ge (tgt := 36) (pc := 16) C dX4_hasOneBelow_16 (by decide) (fun c3 => ?_) (fun c3 => ?_)
    · replace h := h.1 c3
      refine q_lv (lv' := [(0, .ref h0), (1, .int x1), (2, .int x2)]) [0, 1, 2] rfl ?_
      exact Hkx36  σ h
    · replace h := h.2 c3
      refine q_aload_n (pc := 19) C dX4_hasOneBelow_19 rfl 0 rfl ?_
      obtain ⟨Lr4, Kr4⟩ := qw_4_0 C.2.2.2.2.2.2 Lh0 Kh0
      refine q_g4_0 (pc := 20) C Lh0 Kh0 mwX4_hasOneBelow_0 mwX4_hasOneBelow_6 dX4_hasOneBelow_20 ?_
      refine q_iload_n (pc := 23) C dX4_hasOneBelow_23 rfl 3 rfl ?_
      obtain ⟨b5, h⟩ := h
      refine q_iald (pc := 24) C Lr4 Kr4 b5 dX4_hasOneBelow_24 ?_
      refine q_if_eq (tgt := 30) (pc := 25) C dX4_hasOneBelow_25 (by decide) (fun c6 => ?_) (fun c6 => ?_)
      · replace h := h.1 c6
        obtain ⟨v7, ev7⟩ : ∃ z : Int32, z = x3 + 1 := ⟨_, rfl⟩
        replace h := h v7 ev7
        refine q_iinc (pc := 30) (v := v7) (j := 3) (lv' := [(3, .int v7), (0, .ref h0), (1, .int x1), (2, .int x2)]) C dX4_hasOneBelow_30 rfl (by rw [ev7]; rfl) (by decide) rfl ?_
        refine q_goto (tgt := 14) (pc := 33) C dX4_hasOneBelow_33 (by decide) ?_
        refine q_lv (lv' := [(0, .ref h0), (1, .int x1), (2, .int x2), (3, .int v7)]) [1, 2, 3, 0] rfl ?_
        exact ih v7 σ h
      · replace h := h.2 c6
        refine q_lv (lv' := []) [] rfl ?_
        exact Hkx28  σ h
def wpX4_hasOneBelow (G : qG) (h0 : Nat) (x1 : Int32) (σ : qS) (post : Int32 → qS → Prop) : Prop := ∀ v1 : Int32, v1 = (if (σ h0 1) < (x1 / 32) then (σ h0 1) else (x1 / 32)) → ∀ v2 : Int32, v2 = 0 → ∃ n14 : Nat, lpX4_hasOneBelow_14 G h0 x1 v1 post (fun  (σ8 : qS) => post 1 σ8) (fun  (σ9 : qS) => (((σ9 h0 1) ≤ v1 → post 0 σ9) ∧ (¬ (σ9 h0 1) ≤ v1 → vp_in v1 (G.2.2 ((G.2.1 h0 0))) ∧ ((((σ9 ((G.2.1 h0 0)) v1.toNatClampNeg) &&& (((1 : Int32) <<< ((x1 - x1 / 32 * 32) &&& 31)) - 1)) = 0 → post 0 σ9) ∧ (¬ ((σ9 ((G.2.1 h0 0)) v1.toNatClampNeg) &&& (((1 : Int32) <<< ((x1 - x1 / 32 * 32) &&& 31)) - 1)) = 0 → post 1 σ9))))) n14 v2 σ
set_option maxHeartbeats 4000000 in
set_option maxRecDepth 100000 in
theorem sdX4_hasOneBelow {l : Launch} {E : qE} {L : List Nat} {G : qG} (hN : L.Nodup) (hG : q_WF G L) {h0 : Nat} {x1 : Int32} (Lh0 : h0 ∈ L) (Kh0 : G.1 h0 = 4) {σ : qS} {post : Int32 → qS → Prop} (h : wpX4_hasOneBelow G h0 x1 σ post) : MtI l E L G yX4_hasOneBelow wsX4_hasOneBelow (q_rm 1) [.ref h0, .int x1] σ post := by
  refine q_met (Qc := fun sz => va_Qi post (q_B E L G) (q_free L sz)) (cc := cX4_hasOneBelow) (maxL := 4) (ret := (some .boolean)) (own := RX4) (by decide) rfl rfl (Nat.le_of_ble_eq_true rfl) hN hG ?_
  intro p e s m below meth c C
  unfold wpX4_hasOneBelow at h
  refine q_iload_n (pc := 0) C dX4_hasOneBelow_0 rfl 1 rfl ?_
  refine q_bipush (pc := 1) (v := 32) C dX4_hasOneBelow_1 (by decide) ?_
  refine q_idiv (pc := 3) C dX4_hasOneBelow_3 (by decide) ?_
  refine q_aload_n (pc := 4) C dX4_hasOneBelow_4 rfl 0 rfl ?_
  refine q_g4_1 (pc := 5) C Lh0 Kh0 mwX4_hasOneBelow_0 mwX4_hasOneBelow_1 dX4_hasOneBelow_5 ?_
  refine q_mmin (pc := 8) C mwX4_hasOneBelow_2 mwX4_hasOneBelow_3 mwX4_hasOneBelow_4 mwX4_hasOneBelow_5 (by decide) (Nat.le_of_ble_eq_true rfl) dX4_hasOneBelow_8 ?_
  refine q_topi (fun v1 ev1 => ?_)
  replace h := h v1 ev1
  refine q_istore_n (pc := 11) (lv' := [(2, .int v1), (0, .ref h0), (1, .int x1)]) C dX4_hasOneBelow_11 rfl (by decide) rfl ?_
  refine q_iconst (pc := 12) (v := 0) C dX4_hasOneBelow_12 (by decide) ?_
  refine q_topi (fun v2 ev2 => ?_)
  replace h := h v2 ev2
  refine q_istore_n (pc := 13) (lv' := [(3, .int v2), (2, .int v1), (0, .ref h0), (1, .int x1)]) C dX4_hasOneBelow_13 rfl (by decide) rfl ?_
  refine q_lv (lv' := [(0, .ref h0), (1, .int x1), (2, .int v1), (3, .int v2)]) [2, 3, 1, 0] rfl ?_
  obtain ⟨n14, h⟩ := h
  refine slX4_hasOneBelow_14 C Lh0 Kh0 ?_ ?_ n14 v2 σ h
  · intro σ8 h
    refine q_iconst (pc := 28) (v := 1) C dX4_hasOneBelow_28 (by decide) ?_
    exact q_zret (pc := 29) C dX4_hasOneBelow_29 (Or.inr rfl) h
  · intro σ9 h
    refine q_iload_n (pc := 36) C dX4_hasOneBelow_36 rfl 2 rfl ?_
    refine q_aload_n (pc := 37) C dX4_hasOneBelow_37 rfl 0 rfl ?_
    refine q_g4_1 (pc := 38) C Lh0 Kh0 mwX4_hasOneBelow_0 mwX4_hasOneBelow_1 dX4_hasOneBelow_38 ?_
    refine q_icmp_ge (tgt := 66) (pc := 41) C dX4_hasOneBelow_41 (by decide) (fun c10 => ?_) (fun c10 => ?_)
    · replace h := h.1 c10
      refine q_iconst (pc := 66) (v := 0) C dX4_hasOneBelow_66 (by decide) ?_
      exact q_zret (pc := 67) C dX4_hasOneBelow_67 (Or.inl rfl) h
    · replace h := h.2 c10
      refine q_aload_n (pc := 44) C dX4_hasOneBelow_44 rfl 0 rfl ?_
      obtain ⟨Lr11, Kr11⟩ := qw_4_0 C.2.2.2.2.2.2 Lh0 Kh0
      refine q_g4_0 (pc := 45) C Lh0 Kh0 mwX4_hasOneBelow_0 mwX4_hasOneBelow_6 dX4_hasOneBelow_45 ?_
      refine q_iload_n (pc := 48) C dX4_hasOneBelow_48 rfl 2 rfl ?_
      obtain ⟨b12, h⟩ := h
      refine q_iald (pc := 49) C Lr11 Kr11 b12 dX4_hasOneBelow_49 ?_
      refine q_iconst (pc := 50) (v := 1) C dX4_hasOneBelow_50 (by decide) ?_
      refine q_iload_n (pc := 51) C dX4_hasOneBelow_51 rfl 1 rfl ?_
      refine q_bipush (pc := 52) (v := 32) C dX4_hasOneBelow_52 (by decide) ?_
      refine q_irem (pc := 54) C dX4_hasOneBelow_54 (by decide) ?_
      refine q_ishl (pc := 55) C dX4_hasOneBelow_55 ?_
      refine q_iconst (pc := 56) (v := 1) C dX4_hasOneBelow_56 (by decide) ?_
      refine q_isub (pc := 57) C dX4_hasOneBelow_57 ?_
      refine q_iand (pc := 58) C dX4_hasOneBelow_58 ?_
      refine q_if_eq (tgt := 66) (pc := 59) C dX4_hasOneBelow_59 (by decide) (fun c13 => ?_) (fun c13 => ?_)
      · replace h := h.1 c13
        refine q_iconst (pc := 66) (v := 0) C dX4_hasOneBelow_66 (by decide) ?_
        exact q_zret (pc := 67) C dX4_hasOneBelow_67 (Or.inl rfl) h
      · replace h := h.2 c13
        refine q_iconst (pc := 62) (v := 1) C dX4_hasOneBelow_62 (by decide) ?_
        refine q_goto (tgt := 67) (pc := 63) C dX4_hasOneBelow_63 (by decide) ?_
        exact q_zret (pc := 67) C dX4_hasOneBelow_67 (Or.inr rfl) h
theorem mwX4_becomeShiftedDown_0 : ∀ w ∈ wsX40, w ∈ wsX4_becomeShiftedDown := by decide +kernel
theorem mwX4_becomeShiftedDown_1 : Cond.fieldLink RX4 13 "IntFile$Whole" "count" "I" ∈ wsX4_becomeShiftedDown := by decide +kernel
theorem mwX4_becomeShiftedDown_2 : Cond.methodLink RX4 74 Lib.Math.min.name ∈ wsX4_becomeShiftedDown := by decide +kernel
theorem mwX4_becomeShiftedDown_3 : Cond.static Lib.Math.min.name ∈ wsX4_becomeShiftedDown := by decide +kernel
theorem mwX4_becomeShiftedDown_4 : Cond.initialized "java/lang/Math" ∈ wsX4_becomeShiftedDown := by decide +kernel
theorem mwX4_becomeShiftedDown_5 : Cond.code Lib.Math.min.name Lib.Math.min.code 2 (some .int) ∈ wsX4_becomeShiftedDown := by decide +kernel
theorem mwX4_becomeShiftedDown_6 : Cond.fieldLink RX4 7 "IntFile$Whole" "limbs" "[I" ∈ wsX4_becomeShiftedDown := by decide +kernel
theorem mwX4_becomeShiftedDown_7 : Cond.fieldLink RX4 17 "IntFile$Whole" "below" "Z" ∈ wsX4_becomeShiftedDown := by decide +kernel
def wpX4_becomeShiftedDown (G : qG) (h0 : Nat) (h1 : Nat) (x2 : Int32) (σ : qS) (post : qS → Prop) : Prop := ∀ v1 : Int32, v1 = (if (σ h1 1) < (x2 / 32) then (σ h1 1) else (x2 / 32)) → wpX4_shiftDown G h0 ((G.2.1 h1 0)) v1 ((σ h1 1) - v1) (x2 - x2 / 32 * 32) σ (fun (σ3 : qS) => wpX4_settle G h0 ((σ3 h1 1) - v1) (σ3 h1 2) σ3 (fun (σ5 : qS) => (((σ5 h1 2) = 0 → post σ5) ∧ (¬ (σ5 h1 2) = 0 → wpX4_hasOneBelow G h1 x2 σ5 (fun (u9 : Int32) (σ8 : qS) => ((u9 = 0 → post σ8) ∧ (¬ u9 = 0 → wpX4_scaleAndAdd G h0 1 1 σ8 (fun (σ11 : qS) => ∀ σ13 : qS, σ13 = q_st σ11 h0 2 1 → post σ13))))))))
set_option maxHeartbeats 4000000 in
set_option maxRecDepth 100000 in
theorem sdX4_becomeShiftedDown {l : Launch} {E : qE} {L : List Nat} {G : qG} (hN : L.Nodup) (hG : q_WF G L) {h0 : Nat} {h1 : Nat} {x2 : Int32} (Lh0 : h0 ∈ L) (Kh0 : G.1 h0 = 4) (Lh1 : h1 ∈ L) (Kh1 : G.1 h1 = 4) {σ : qS} {post : qS → Prop} (h : wpX4_becomeShiftedDown G h0 h1 x2 σ post) : MtV l E L G yX4_becomeShiftedDown wsX4_becomeShiftedDown (q_rm 2) [.ref h0, .ref h1, .int x2] σ post := by
  refine q_met (Qc := fun sz => va_Qv post (q_B E L G) (q_free L sz)) (cc := cX4_becomeShiftedDown) (maxL := 4) (ret := none) (own := RX4) (by decide) rfl rfl (Nat.le_of_ble_eq_true rfl) hN hG ?_
  intro p e s m below meth c C
  unfold wpX4_becomeShiftedDown at h
  refine q_iload_n (pc := 0) C dX4_becomeShiftedDown_0 rfl 2 rfl ?_
  refine q_bipush (pc := 1) (v := 32) C dX4_becomeShiftedDown_1 (by decide) ?_
  refine q_idiv (pc := 3) C dX4_becomeShiftedDown_3 (by decide) ?_
  refine q_aload_n (pc := 4) C dX4_becomeShiftedDown_4 rfl 1 rfl ?_
  refine q_g4_1 (pc := 5) C Lh1 Kh1 mwX4_becomeShiftedDown_0 mwX4_becomeShiftedDown_1 dX4_becomeShiftedDown_5 ?_
  refine q_mmin (pc := 8) C mwX4_becomeShiftedDown_2 mwX4_becomeShiftedDown_3 mwX4_becomeShiftedDown_4 mwX4_becomeShiftedDown_5 (by decide) (Nat.le_of_ble_eq_true rfl) dX4_becomeShiftedDown_8 ?_
  refine q_topi (fun v1 ev1 => ?_)
  replace h := h v1 ev1
  refine q_istore_n (pc := 11) (lv' := [(3, .int v1), (0, .ref h0), (1, .ref h1), (2, .int x2)]) C dX4_becomeShiftedDown_11 rfl (by decide) rfl ?_
  refine q_aload_n (pc := 12) C dX4_becomeShiftedDown_12 rfl 1 rfl ?_
  refine q_aload_n (pc := 13) C dX4_becomeShiftedDown_13 rfl 2 rfl ?_
  obtain ⟨Lr2, Kr2⟩ := qw_4_0 C.2.2.2.2.2.2 Lh1 Kh1
  refine q_g4_0 (pc := 14) C Lh1 Kh1 mwX4_becomeShiftedDown_0 mwX4_becomeShiftedDown_6 dX4_becomeShiftedDown_14 ?_
  refine q_iload_n (pc := 17) C dX4_becomeShiftedDown_17 rfl 0 rfl ?_
  refine q_aload_n (pc := 18) C dX4_becomeShiftedDown_18 rfl 2 rfl ?_
  refine q_g4_1 (pc := 19) C Lh1 Kh1 mwX4_becomeShiftedDown_0 mwX4_becomeShiftedDown_1 dX4_becomeShiftedDown_19 ?_
  refine q_iload_n (pc := 22) C dX4_becomeShiftedDown_22 rfl 0 rfl ?_
  refine q_isub (pc := 23) C dX4_becomeShiftedDown_23 ?_
  refine q_iload_n (pc := 24) C dX4_becomeShiftedDown_24 rfl 3 rfl ?_
  refine q_bipush (pc := 25) (v := 32) C dX4_becomeShiftedDown_25 (by decide) ?_
  refine q_irem (pc := 27) C dX4_becomeShiftedDown_27 (by decide) ?_
  refine q_cVv (pc := 28) (As := [.ref ((G.2.1 h1 0)), .int v1, .int ((σ h1 1) - v1), .int (x2 - x2 / 32 * 32)]) (ci := 4) (Cn := RX4) (T := TX4) (N := 3) C (sdX4_shiftDown C.2.2.2.2.2.1 C.2.2.2.2.2.2 Lh0 Kh0 Lr2 Kr2 h) (cwV 4 C.1.2.2.2.2 gX4_becomeShiftedDown_X4_shiftDown rfl rfl rfl (by decide +kernel) (q_room (by decide) (by decide))) Lh0 (qc4 Kh0 _) rfl rfl rfl (Nat.le_of_ble_eq_true rfl) dX4_becomeShiftedDown_28 (fun σ3 h => ?_)
  refine q_aload_n (pc := 31) C dX4_becomeShiftedDown_31 rfl 1 rfl ?_
  refine q_aload_n (pc := 32) C dX4_becomeShiftedDown_32 rfl 2 rfl ?_
  refine q_g4_1 (pc := 33) C Lh1 Kh1 mwX4_becomeShiftedDown_0 mwX4_becomeShiftedDown_1 dX4_becomeShiftedDown_33 ?_
  refine q_iload_n (pc := 36) C dX4_becomeShiftedDown_36 rfl 0 rfl ?_
  refine q_isub (pc := 37) C dX4_becomeShiftedDown_37 ?_
  refine q_aload_n (pc := 38) C dX4_becomeShiftedDown_38 rfl 2 rfl ?_
  refine q_g4_2 (pc := 39) C Lh1 Kh1 mwX4_becomeShiftedDown_0 mwX4_becomeShiftedDown_7 dX4_becomeShiftedDown_39 ?_
  refine q_cVv (pc := 42) (As := [.int ((σ3 h1 1) - v1), .int (σ3 h1 2)]) (ci := 4) (Cn := RX4) (T := TX4) (N := 3) C (sdX4_settle C.2.2.2.2.2.1 C.2.2.2.2.2.2 Lh0 Kh0 h) (cwV 2 C.1.2.2.2.2 gX4_becomeShiftedDown_X4_settle rfl rfl rfl (by decide +kernel) (q_room (by decide) (by decide))) Lh0 (qc4 Kh0 _) rfl rfl rfl (Nat.le_of_ble_eq_true rfl) dX4_becomeShiftedDown_42 (fun σ5 h => ?_)
  refine q_aload_n (pc := 45) C dX4_becomeShiftedDown_45 rfl 2 rfl ?_
  refine q_g4_2 (pc := 46) C Lh1 Kh1 mwX4_becomeShiftedDown_0 mwX4_becomeShiftedDown_7 dX4_becomeShiftedDown_46 ?_
  refine q_if_eq (tgt := 71) (pc := 49) C dX4_becomeShiftedDown_49 (by decide) (fun c7 => ?_) (fun c7 => ?_)
  · replace h := h.1 c7
    exact q_vret (pc := 71) C dX4_becomeShiftedDown_71 h
  · replace h := h.2 c7
    refine q_aload_n (pc := 52) C dX4_becomeShiftedDown_52 rfl 2 rfl ?_
    refine q_iload_n (pc := 53) C dX4_becomeShiftedDown_53 rfl 3 rfl ?_
    refine q_cVi (pc := 54) (As := [.int x2]) (ci := 4) (Cn := RX4) (T := TX4) (N := 3) C (sdX4_hasOneBelow C.2.2.2.2.2.1 C.2.2.2.2.2.2 Lh1 Kh1 h) (cwV 1 C.1.2.2.2.2 gX4_becomeShiftedDown_X4_hasOneBelow rfl rfl rfl (by decide +kernel) (q_room (by decide) (by decide))) Lh1 (qc4 Kh1 _) rfl rfl rfl (Nat.le_of_ble_eq_true rfl) dX4_becomeShiftedDown_54 (fun u9 σ8 h => ?_)
    refine q_if_eq (tgt := 71) (pc := 57) C dX4_becomeShiftedDown_57 (by decide) (fun c10 => ?_) (fun c10 => ?_)
    · replace h := h.1 c10
      exact q_vret (pc := 71) C dX4_becomeShiftedDown_71 h
    · replace h := h.2 c10
      refine q_aload_n (pc := 60) C dX4_becomeShiftedDown_60 rfl 1 rfl ?_
      refine q_iconst (pc := 61) (v := 1) C dX4_becomeShiftedDown_61 (by decide) ?_
      refine q_iconst (pc := 62) (v := 1) C dX4_becomeShiftedDown_62 (by decide) ?_
      refine q_cVv (pc := 63) (As := [.int 1, .int 1]) (ci := 4) (Cn := RX4) (T := TX4) (N := 3) C (sdX4_scaleAndAdd C.2.2.2.2.2.1 C.2.2.2.2.2.2 Lh0 Kh0 h) (cwV 2 C.1.2.2.2.2 gX4_becomeShiftedDown_X4_scaleAndAdd rfl rfl rfl (by decide +kernel) (q_room (by decide) (by decide))) Lh0 (qc4 Kh0 _) rfl rfl rfl (Nat.le_of_ble_eq_true rfl) dX4_becomeShiftedDown_63 (fun σ11 h => ?_)
      refine q_aload_n (pc := 66) C dX4_becomeShiftedDown_66 rfl 1 rfl ?_
      refine q_iconst (pc := 67) (v := 1) C dX4_becomeShiftedDown_67 (by decide) ?_
      refine q_p4_2 (pc := 68) C Lh0 Kh0 mwX4_becomeShiftedDown_0 mwX4_becomeShiftedDown_7 (Or.inr rfl) dX4_becomeShiftedDown_68 (fun σ13 eσ13 => ?_)
      replace h := h σ13 eσ13
      exact q_vret (pc := 71) C dX4_becomeShiftedDown_71 h

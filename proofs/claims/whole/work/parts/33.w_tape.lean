theorem mwX2_hasRoomFor_0 : ∀ w ∈ wsX20, w ∈ wsX2_hasRoomFor := by decide +kernel
theorem mwX2_hasRoomFor_1 : Cond.fieldLink RX2 13 "IntFile$Tape" "count" "I" ∈ wsX2_hasRoomFor := by decide +kernel
def wpX2_hasRoomFor (G : qG) (h0 : Nat) (x1 : Int32) (σ : qS) (post : Int32 → qS → Prop) : Prop := ((1300 < ((σ h0 1) + x1) → post 0 σ) ∧ (¬ 1300 < ((σ h0 1) + x1) → post 1 σ))
set_option maxHeartbeats 4000000 in
set_option maxRecDepth 100000 in
theorem sdX2_hasRoomFor {l : Launch} {E : qE} {L : List Nat} {G : qG} (hN : L.Nodup) (hG : q_WF G L) {h0 : Nat} {x1 : Int32} (Lh0 : h0 ∈ L) (Kh0 : G.1 h0 = 2) {σ : qS} {post : Int32 → qS → Prop} (h : wpX2_hasRoomFor G h0 x1 σ post) : MtI l E L G yX2_hasRoomFor wsX2_hasRoomFor (q_rm 1) [.ref h0, .int x1] σ post := by
  refine q_met (Qc := fun sz => va_Qi post (q_B E L G) (q_free L sz)) (cc := cX2_hasRoomFor) (maxL := 2) (ret := (some .boolean)) (own := RX2) (by decide) rfl rfl (Nat.le_of_ble_eq_true rfl) hN hG ?_
  intro p e s m below meth c C
  unfold wpX2_hasRoomFor at h
  refine q_aload_n (pc := 0) C dX2_hasRoomFor_0 rfl 0 rfl ?_
  refine q_g2_1 (pc := 1) C Lh0 Kh0 mwX2_hasRoomFor_0 mwX2_hasRoomFor_1 dX2_hasRoomFor_1 ?_
  refine q_iload_n (pc := 4) C dX2_hasRoomFor_4 rfl 1 rfl ?_
  refine q_iadd (pc := 5) C dX2_hasRoomFor_5 ?_
  refine q_sipush (pc := 6) (v := 1300) C dX2_hasRoomFor_6 (by decide) ?_
  refine q_icmp_gt (tgt := 16) (pc := 9) C dX2_hasRoomFor_9 (by decide) (fun c1 => ?_) (fun c1 => ?_)
  · replace h := h.1 c1
    refine q_iconst (pc := 16) (v := 0) C dX2_hasRoomFor_16 (by decide) ?_
    exact q_zret (pc := 17) C dX2_hasRoomFor_17 (Or.inl rfl) h
  · replace h := h.2 c1
    refine q_iconst (pc := 12) (v := 1) C dX2_hasRoomFor_12 (by decide) ?_
    refine q_goto (tgt := 17) (pc := 13) C dX2_hasRoomFor_13 (by decide) ?_
    exact q_zret (pc := 17) C dX2_hasRoomFor_17 (Or.inr rfl) h
theorem mwX2_append_0 : ∀ w ∈ wsX20, w ∈ wsX2_append := by decide +kernel
theorem mwX2_append_1 : Cond.fieldLink RX2 9 "IntFile$Tape" "bytes" "[B" ∈ wsX2_append := by decide +kernel
theorem mwX2_append_2 : Cond.fieldLink RX2 13 "IntFile$Tape" "count" "I" ∈ wsX2_append := by decide +kernel
def lpX2_append_5 (G : qG) (h0 : Nat) (x1 : Int64) (post : qS → Prop) (kx44 : qS → Prop) : Nat → Int32 → qS → Prop
  | 0, _, _ => False
  | n + 1, x4, σ => ((x4 < 0 → kx44 σ) ∧ (¬ x4 < 0 → vp_in (σ h0 1) (G.2.2 ((G.2.1 h0 0))) ∧ ∀ σ5 : qS, σ5 = q_st σ ((G.2.1 h0 0)) (σ h0 1).toNatClampNeg (((((x1.toUInt64 >>> (((8 : Int32) * x4).toInt64.toUInt64 &&& Int64.toUInt64 63)).toInt64).toInt32).toInt8.toInt32).toInt8.toInt32) → ∀ σ6 : qS, σ6 = q_st σ5 h0 1 ((σ5 h0 1) + 1) → ∀ v7 : Int32, v7 = x4 + (-1) → lpX2_append_5 G h0 x1 post kx44 n v7 σ6))
set_option maxHeartbeats 4000000 in
set_option maxRecDepth 100000 in
theorem slX2_append_5 {p : Program} {l : Launch} {e : Env} {s : State} {m : MethodId} {args : Array Value} {below : List Frame} {meth : Method} {c : Code} {E : qE} {L : List Nat} {G : qG} {A : Nat → Prop} (C : q_C p s m args meth c cX2_append 5 wsX2_append RX2 none E L G A) {h0 : Nat} {x1 : Int64} (Lh0 : h0 ∈ L) (Kh0 : G.1 h0 = 2) {post : qS → Prop} {kx44 : qS → Prop} (Hkx44 : ∀  (τ : qS), kx44  τ → Wd p l e (q_rm 1) s m args below meth c E L G A (MQ below (va_Qv post (q_B E L G) A) args s 0 0 A) 5 τ 44 [] []) : ∀ (n : Nat) (x4 : Int32) (σ : qS), lpX2_append_5 G h0 x1 post kx44 n x4 σ → Wd p l e (q_rm 1) s m args below meth c E L G A (MQ below (va_Qv post (q_B E L G) A) args s 0 0 A) 5 σ 5 [(0, .ref h0), (1, .long x1), (4, .int x4)] [] := by
  intro n
  induction n with
  | zero => intro x4 σ h; exact h.elim
  | succ n ih =>
    intro x4 σ h
    unfold lpX2_append_5 at h
    refine q_iload (pc := 5) C dX2_append_5 2 rfl ?_
    refine q_if_lt (tgt := 44) (pc := 7) C dX2_append_7 (by decide) (fun c2 => ?_) (fun c2 => ?_)
    · replace h := h.1 c2
      refine q_lv (lv' := []) [] rfl ?_
      exact Hkx44  σ h
    · replace h := h.2 c2
      refine q_aload_n (pc := 10) C dX2_append_10 rfl 0 rfl ?_
      obtain ⟨Lr3, Kr3⟩ := qw_2_0 C.2.2.2.2.2.2 Lh0 Kh0
      refine q_g2_0 (pc := 11) C Lh0 Kh0 mwX2_append_0 mwX2_append_1 dX2_append_11 ?_
      refine q_aload_n (pc := 14) C dX2_append_14 rfl 0 rfl ?_
      refine q_g2_1 (pc := 15) C Lh0 Kh0 mwX2_append_0 mwX2_append_2 dX2_append_15 ?_
      refine q_lload_n (pc := 18) C dX2_append_18 rfl 1 rfl ?_
      refine q_bipush (pc := 19) (v := 8) C dX2_append_19 (by decide) ?_
      refine q_iload (pc := 21) C dX2_append_21 2 rfl ?_
      refine q_imul (pc := 23) C dX2_append_23 ?_
      refine q_lushr (pc := 24) C dX2_append_24 ?_
      refine q_l2i (pc := 25) C dX2_append_25 ?_
      refine q_i2b (pc := 26) C dX2_append_26 ?_
      obtain ⟨b4, h⟩ := h
      refine q_bast (pc := 27) C Lr3 Kr3 b4 dX2_append_27 (fun σ5 eσ5 => ?_)
      replace h := h σ5 eσ5
      refine q_aload_n (pc := 28) C dX2_append_28 rfl 0 rfl ?_
      refine q_dup (pc := 29) C dX2_append_29 rfl ?_
      refine q_g2_1 (pc := 30) C Lh0 Kh0 mwX2_append_0 mwX2_append_2 dX2_append_30 ?_
      refine q_iconst (pc := 33) (v := 1) C dX2_append_33 (by decide) ?_
      refine q_iadd (pc := 34) C dX2_append_34 ?_
      refine q_p2_1 (pc := 35) C Lh0 Kh0 mwX2_append_0 mwX2_append_2 dX2_append_35 (fun σ6 eσ6 => ?_)
      replace h := h σ6 eσ6
      obtain ⟨v7, ev7⟩ : ∃ z : Int32, z = x4 + (-1) := ⟨_, rfl⟩
      replace h := h v7 ev7
      refine q_iinc (pc := 38) (v := v7) (j := 2) (lv' := [(4, .int v7), (0, .ref h0), (1, .long x1)]) C dX2_append_38 rfl (by rw [ev7]; rfl) (by decide) rfl ?_
      refine q_goto (tgt := 5) (pc := 41) C dX2_append_41 (by decide) ?_
      refine q_lv (lv' := [(0, .ref h0), (1, .long x1), (4, .int v7)]) [1, 2, 0] rfl ?_
      exact ih v7 σ6 h
def wpX2_append (G : qG) (h0 : Nat) (x1 : Int64) (x3 : Int32) (σ : qS) (post : qS → Prop) : Prop := ∀ v1 : Int32, v1 = x3 - 1 → ∃ n9 : Nat, lpX2_append_5 G h0 x1 post (fun  (σ8 : qS) => post σ8) n9 v1 σ
set_option maxHeartbeats 4000000 in
set_option maxRecDepth 100000 in
theorem sdX2_append {l : Launch} {E : qE} {L : List Nat} {G : qG} (hN : L.Nodup) (hG : q_WF G L) {h0 : Nat} {x1 : Int64} {x3 : Int32} (Lh0 : h0 ∈ L) (Kh0 : G.1 h0 = 2) {σ : qS} {post : qS → Prop} (h : wpX2_append G h0 x1 x3 σ post) : MtV l E L G yX2_append wsX2_append (q_rm 1) [.ref h0, .long x1, .int x3] σ post := by
  refine q_met (Qc := fun sz => va_Qv post (q_B E L G) (q_free L sz)) (cc := cX2_append) (maxL := 5) (ret := none) (own := RX2) (by decide) rfl rfl (Nat.le_of_ble_eq_true rfl) hN hG ?_
  intro p e s m below meth c C
  unfold wpX2_append at h
  refine q_iload_n (pc := 0) C dX2_append_0 rfl 2 rfl ?_
  refine q_iconst (pc := 1) (v := 1) C dX2_append_1 (by decide) ?_
  refine q_isub (pc := 2) C dX2_append_2 ?_
  refine q_topi (fun v1 ev1 => ?_)
  replace h := h v1 ev1
  refine q_istore (pc := 3) (lv' := [(4, .int v1), (0, .ref h0), (1, .long x1), (3, .int x3)]) C dX2_append_3 (by decide) rfl ?_
  refine q_lv (lv' := [(0, .ref h0), (1, .long x1), (4, .int v1)]) [1, 2, 0] rfl ?_
  obtain ⟨n9, h⟩ := h
  refine slX2_append_5 C Lh0 Kh0 ?_ n9 v1 σ h
  · intro σ8 h
    exact q_vret (pc := 44) C dX2_append_44 h
theorem mwX2_digitsBegin_0 : ∀ w ∈ wsX20, w ∈ wsX2_digitsBegin := by decide +kernel
theorem mwX2_digitsBegin_1 : Cond.fieldLink RX2 13 "IntFile$Tape" "count" "I" ∈ wsX2_digitsBegin := by decide +kernel
theorem mwX2_digitsBegin_2 : Cond.fieldLink RX2 9 "IntFile$Tape" "bytes" "[B" ∈ wsX2_digitsBegin := by decide +kernel
def bkX2_digitsBegin_29 (G : qG) (post : Int32 → qS → Prop) (σ : qS) : Prop := post 1 σ
set_option maxHeartbeats 4000000 in
set_option maxRecDepth 100000 in
theorem sbX2_digitsBegin_29 {p : Program} {l : Launch} {e : Env} {s : State} {m : MethodId} {args : Array Value} {below : List Frame} {meth : Method} {c : Code} {E : qE} {L : List Nat} {G : qG} {A : Nat → Prop} (C : q_C p s m args meth c cX2_digitsBegin 1 wsX2_digitsBegin RX2 (some .int) E L G A) {post : Int32 → qS → Prop} {σ : qS} (h : bkX2_digitsBegin_29 G post σ) : Wd p l e (q_rm 1) s m args below meth c E L G A (MQ below (va_Qi post (q_B E L G) A) args s 0 0 A) 1 σ 29 [] [] := by
  unfold bkX2_digitsBegin_29 at h
  refine q_iconst (pc := 29) (v := 1) C dX2_digitsBegin_29 (by decide) ?_
  refine q_goto (tgt := 34) (pc := 30) C dX2_digitsBegin_30 (by decide) ?_
  exact q_iret (pc := 34) C dX2_digitsBegin_34 h
def wpX2_digitsBegin (G : qG) (h0 : Nat) (σ : qS) (post : Int32 → qS → Prop) : Prop := (((σ h0 1) ≤ 0 → post 0 σ) ∧ (¬ (σ h0 1) ≤ 0 → vp_in 0 (G.2.2 ((G.2.1 h0 0))) ∧ (((σ ((G.2.1 h0 0)) (0 : Int32).toNatClampNeg) = 43 → bkX2_digitsBegin_29 G post σ) ∧ (¬ (σ ((G.2.1 h0 0)) (0 : Int32).toNatClampNeg) = 43 → vp_in 0 (G.2.2 ((G.2.1 h0 0))) ∧ (((σ ((G.2.1 h0 0)) (0 : Int32).toNatClampNeg) = 45 → bkX2_digitsBegin_29 G post σ) ∧ (¬ (σ ((G.2.1 h0 0)) (0 : Int32).toNatClampNeg) = 45 → post 0 σ))))))
set_option maxHeartbeats 4000000 in
set_option maxRecDepth 100000 in
theorem sdX2_digitsBegin {l : Launch} {E : qE} {L : List Nat} {G : qG} (hN : L.Nodup) (hG : q_WF G L) {h0 : Nat} (Lh0 : h0 ∈ L) (Kh0 : G.1 h0 = 2) {σ : qS} {post : Int32 → qS → Prop} (h : wpX2_digitsBegin G h0 σ post) : MtI l E L G yX2_digitsBegin wsX2_digitsBegin (q_rm 1) [.ref h0] σ post := by
  refine q_met (Qc := fun sz => va_Qi post (q_B E L G) (q_free L sz)) (cc := cX2_digitsBegin) (maxL := 1) (ret := (some .int)) (own := RX2) (by decide) rfl rfl (Nat.le_of_ble_eq_true rfl) hN hG ?_
  intro p e s m below meth c C
  unfold wpX2_digitsBegin at h
  refine q_aload_n (pc := 0) C dX2_digitsBegin_0 rfl 0 rfl ?_
  refine q_g2_1 (pc := 1) C Lh0 Kh0 mwX2_digitsBegin_0 mwX2_digitsBegin_1 dX2_digitsBegin_1 ?_
  refine q_if_le (tgt := 33) (pc := 4) C dX2_digitsBegin_4 (by decide) (fun c1 => ?_) (fun c1 => ?_)
  · replace h := h.1 c1
    refine q_iconst (pc := 33) (v := 0) C dX2_digitsBegin_33 (by decide) ?_
    exact q_iret (pc := 34) C dX2_digitsBegin_34 h
  · replace h := h.2 c1
    refine q_aload_n (pc := 7) C dX2_digitsBegin_7 rfl 0 rfl ?_
    obtain ⟨Lr2, Kr2⟩ := qw_2_0 C.2.2.2.2.2.2 Lh0 Kh0
    refine q_g2_0 (pc := 8) C Lh0 Kh0 mwX2_digitsBegin_0 mwX2_digitsBegin_2 dX2_digitsBegin_8 ?_
    refine q_iconst (pc := 11) (v := 0) C dX2_digitsBegin_11 (by decide) ?_
    obtain ⟨b3, h⟩ := h
    refine q_bald (pc := 12) C Lr2 Kr2 b3 dX2_digitsBegin_12 ?_
    refine q_bipush (pc := 13) (v := 43) C dX2_digitsBegin_13 (by decide) ?_
    refine q_icmp_eq (tgt := 29) (pc := 15) C dX2_digitsBegin_15 (by decide) (fun c4 => ?_) (fun c4 => ?_)
    · replace h := h.1 c4
      refine q_lv (lv' := []) [] rfl ?_
      exact sbX2_digitsBegin_29 C h
    · replace h := h.2 c4
      refine q_aload_n (pc := 18) C dX2_digitsBegin_18 rfl 0 rfl ?_
      refine q_g2_0 (pc := 19) C Lh0 Kh0 mwX2_digitsBegin_0 mwX2_digitsBegin_2 dX2_digitsBegin_19 ?_
      refine q_iconst (pc := 22) (v := 0) C dX2_digitsBegin_22 (by decide) ?_
      obtain ⟨b5, h⟩ := h
      refine q_bald (pc := 23) C Lr2 Kr2 b5 dX2_digitsBegin_23 ?_
      refine q_bipush (pc := 24) (v := 45) C dX2_digitsBegin_24 (by decide) ?_
      refine q_icmp_ne (tgt := 33) (pc := 26) C dX2_digitsBegin_26 (by decide) (fun c6 => ?_) (fun c6 => ?_)
      · replace h := h.2 c6
        refine q_iconst (pc := 33) (v := 0) C dX2_digitsBegin_33 (by decide) ?_
        exact q_iret (pc := 34) C dX2_digitsBegin_34 h
      · replace h := h.1 c6
        refine q_lv (lv' := []) [] rfl ?_
        exact sbX2_digitsBegin_29 C h
theorem mwX2_firstWrongPlace_0 : ∀ w ∈ wsX20, w ∈ wsX2_firstWrongPlace := by decide +kernel
theorem mwX2_firstWrongPlace_1 : Cond.fieldLink RX2 13 "IntFile$Tape" "count" "I" ∈ wsX2_firstWrongPlace := by decide +kernel
theorem mwX2_firstWrongPlace_2 : Cond.fieldLink RX2 9 "IntFile$Tape" "bytes" "[B" ∈ wsX2_firstWrongPlace := by decide +kernel
def lpX2_firstWrongPlace_7 (G : qG) (h0 : Nat) (x1 : Int32) (post : Int32 → qS → Prop) (kx37 : Int32 → qS → Prop) (kx45 : qS → Prop) : Nat → Int32 → qS → Prop
  | 0, _, _ => False
  | n + 1, x2, σ => (((σ h0 1) ≤ x2 → kx45 σ) ∧ (¬ (σ h0 1) ≤ x2 → vp_in x2 (G.2.2 ((G.2.1 h0 0))) ∧ (((σ ((G.2.1 h0 0)) x2.toNatClampNeg) < 48 → kx37 x2 σ) ∧ (¬ (σ ((G.2.1 h0 0)) x2.toNatClampNeg) < 48 → vp_in x2 (G.2.2 ((G.2.1 h0 0))) ∧ (((σ ((G.2.1 h0 0)) x2.toNatClampNeg) ≤ 57 → ∀ v9 : Int32, v9 = x2 + 1 → lpX2_firstWrongPlace_7 G h0 x1 post kx37 kx45 n v9 σ) ∧ (¬ (σ ((G.2.1 h0 0)) x2.toNatClampNeg) ≤ 57 → kx37 x2 σ))))))
set_option maxHeartbeats 4000000 in
set_option maxRecDepth 100000 in
theorem slX2_firstWrongPlace_7 {p : Program} {l : Launch} {e : Env} {s : State} {m : MethodId} {args : Array Value} {below : List Frame} {meth : Method} {c : Code} {E : qE} {L : List Nat} {G : qG} {A : Nat → Prop} (C : q_C p s m args meth c cX2_firstWrongPlace 3 wsX2_firstWrongPlace RX2 (some .int) E L G A) {h0 : Nat} {x1 : Int32} (Lh0 : h0 ∈ L) (Kh0 : G.1 h0 = 2) {post : Int32 → qS → Prop} {kx37 : Int32 → qS → Prop} {kx45 : qS → Prop} (Hkx37 : ∀ (y2 : Int32) (τ : qS), kx37 y2 τ → Wd p l e (q_rm 2) s m args below meth c E L G A (MQ below (va_Qi post (q_B E L G) A) args s 0 0 A) 3 τ 37 [(2, .int y2)] []) (Hkx45 : ∀  (τ : qS), kx45  τ → Wd p l e (q_rm 2) s m args below meth c E L G A (MQ below (va_Qi post (q_B E L G) A) args s 0 0 A) 3 τ 45 [(0, .ref h0), (1, .int x1)] []) : ∀ (n : Nat) (x2 : Int32) (σ : qS), lpX2_firstWrongPlace_7 G h0 x1 post kx37 kx45 n x2 σ → Wd p l e (q_rm 2) s m args below meth c E L G A (MQ below (va_Qi post (q_B E L G) A) args s 0 0 A) 3 σ 7 [(0, .ref h0), (1, .int x1), (2, .int x2)] [] := by
  intro n
  induction n with
  | zero => intro x2 σ h; exact h.elim
  | succ n ih =>
    intro x2 σ h
    unfold lpX2_firstWrongPlace_7 at h
    refine q_iload_n (pc := 7) C dX2_firstWrongPlace_7 rfl 2 rfl ?_
    refine q_aload_n (pc := 8) C dX2_firstWrongPlace_8 rfl 0 rfl ?_
    refine q_g2_1 (pc := 9) C Lh0 Kh0 mwX2_firstWrongPlace_0 mwX2_firstWrongPlace_1 dX2_firstWrongPlace_9 ?_
    refine q_icmp_ge (tgt := 45) (pc := 12) C dX2_firstWrongPlace_12 (by decide) (fun c3 => ?_) (fun c3 => ?_)
    · replace h := h.1 c3
      refine q_lv (lv' := [(0, .ref h0), (1, .int x1)]) [0, 1] rfl ?_
      exact Hkx45  σ h
    · replace h := h.2 c3
      refine q_aload_n (pc := 15) C dX2_firstWrongPlace_15 rfl 0 rfl ?_
      obtain ⟨Lr4, Kr4⟩ := qw_2_0 C.2.2.2.2.2.2 Lh0 Kh0
      refine q_g2_0 (pc := 16) C Lh0 Kh0 mwX2_firstWrongPlace_0 mwX2_firstWrongPlace_2 dX2_firstWrongPlace_16 ?_
      refine q_iload_n (pc := 19) C dX2_firstWrongPlace_19 rfl 2 rfl ?_
      obtain ⟨b5, h⟩ := h
      refine q_bald (pc := 20) C Lr4 Kr4 b5 dX2_firstWrongPlace_20 ?_
      refine q_bipush (pc := 21) (v := 48) C dX2_firstWrongPlace_21 (by decide) ?_
      refine q_icmp_lt (tgt := 37) (pc := 23) C dX2_firstWrongPlace_23 (by decide) (fun c6 => ?_) (fun c6 => ?_)
      · replace h := h.1 c6
        refine q_lv (lv' := [(2, .int x2)]) [2] rfl ?_
        exact Hkx37 x2 σ h
      · replace h := h.2 c6
        refine q_aload_n (pc := 26) C dX2_firstWrongPlace_26 rfl 0 rfl ?_
        refine q_g2_0 (pc := 27) C Lh0 Kh0 mwX2_firstWrongPlace_0 mwX2_firstWrongPlace_2 dX2_firstWrongPlace_27 ?_
        refine q_iload_n (pc := 30) C dX2_firstWrongPlace_30 rfl 2 rfl ?_
        obtain ⟨b7, h⟩ := h
        refine q_bald (pc := 31) C Lr4 Kr4 b7 dX2_firstWrongPlace_31 ?_
        refine q_bipush (pc := 32) (v := 57) C dX2_firstWrongPlace_32 (by decide) ?_
        refine q_icmp_le (tgt := 39) (pc := 34) C dX2_firstWrongPlace_34 (by decide) (fun c8 => ?_) (fun c8 => ?_)
        · replace h := h.1 c8
          obtain ⟨v9, ev9⟩ : ∃ z : Int32, z = x2 + 1 := ⟨_, rfl⟩
          replace h := h v9 ev9
          refine q_iinc (pc := 39) (v := v9) (j := 2) (lv' := [(2, .int v9), (0, .ref h0), (1, .int x1)]) C dX2_firstWrongPlace_39 rfl (by rw [ev9]; rfl) (by decide) rfl ?_
          refine q_goto (tgt := 7) (pc := 42) C dX2_firstWrongPlace_42 (by decide) ?_
          refine q_lv (lv' := [(0, .ref h0), (1, .int x1), (2, .int v9)]) [1, 2, 0] rfl ?_
          exact ih v9 σ h
        · replace h := h.2 c8
          refine q_lv (lv' := [(2, .int x2)]) [2] rfl ?_
          exact Hkx37 x2 σ h
def wpX2_firstWrongPlace (G : qG) (h0 : Nat) (σ : qS) (post : Int32 → qS → Prop) : Prop := wpX2_digitsBegin G h0 σ (fun (u2 : Int32) (σ1 : qS) => ∃ n14 : Nat, lpX2_firstWrongPlace_7 G h0 u2 post (fun (w10 : Int32) (σ11 : qS) => post w10 σ11) (fun  (σ12 : qS) => ((u2 = (σ12 h0 1) → post (σ12 h0 1) σ12) ∧ (¬ u2 = (σ12 h0 1) → post ((-1)) σ12))) n14 u2 σ1)
set_option maxHeartbeats 4000000 in
set_option maxRecDepth 100000 in
theorem sdX2_firstWrongPlace {l : Launch} {E : qE} {L : List Nat} {G : qG} (hN : L.Nodup) (hG : q_WF G L) {h0 : Nat} (Lh0 : h0 ∈ L) (Kh0 : G.1 h0 = 2) {σ : qS} {post : Int32 → qS → Prop} (h : wpX2_firstWrongPlace G h0 σ post) : MtI l E L G yX2_firstWrongPlace wsX2_firstWrongPlace (q_rm 2) [.ref h0] σ post := by
  refine q_met (Qc := fun sz => va_Qi post (q_B E L G) (q_free L sz)) (cc := cX2_firstWrongPlace) (maxL := 3) (ret := (some .int)) (own := RX2) (by decide) rfl rfl (Nat.le_of_ble_eq_true rfl) hN hG ?_
  intro p e s m below meth c C
  unfold wpX2_firstWrongPlace at h
  refine q_aload_n (pc := 0) C dX2_firstWrongPlace_0 rfl 0 rfl ?_
  refine q_cVi (pc := 1) (As := []) (ci := 2) (Cn := RX2) (T := TX2) (N := 2) C (sdX2_digitsBegin C.2.2.2.2.2.1 C.2.2.2.2.2.2 Lh0 Kh0 h) (cwV 0 C.1.2.2.2.2 gX2_firstWrongPlace_X2_digitsBegin rfl rfl rfl (by decide +kernel) (q_room (by decide) (by decide))) Lh0 (qc2 Kh0 _) rfl rfl rfl (Nat.le_of_ble_eq_true rfl) dX2_firstWrongPlace_1 (fun u2 σ1 h => ?_)
  refine q_istore_n (pc := 4) (lv' := [(1, .int u2), (0, .ref h0)]) C dX2_firstWrongPlace_4 rfl (by decide) rfl ?_
  refine q_iload_n (pc := 5) C dX2_firstWrongPlace_5 rfl 0 rfl ?_
  refine q_istore_n (pc := 6) (lv' := [(2, .int u2), (1, .int u2), (0, .ref h0)]) C dX2_firstWrongPlace_6 rfl (by decide) rfl ?_
  refine q_lv (lv' := [(0, .ref h0), (1, .int u2), (2, .int u2)]) [2, 1, 0] rfl ?_
  obtain ⟨n14, h⟩ := h
  refine slX2_firstWrongPlace_7 C Lh0 Kh0 ?_ ?_ n14 u2 σ1 h
  · intro w10 σ11 h
    refine q_iload_n (pc := 37) C dX2_firstWrongPlace_37 rfl 0 rfl ?_
    exact q_iret (pc := 38) C dX2_firstWrongPlace_38 h
  · intro σ12 h
    refine q_iload_n (pc := 45) C dX2_firstWrongPlace_45 rfl 1 rfl ?_
    refine q_aload_n (pc := 46) C dX2_firstWrongPlace_46 rfl 0 rfl ?_
    refine q_g2_1 (pc := 47) C Lh0 Kh0 mwX2_firstWrongPlace_0 mwX2_firstWrongPlace_1 dX2_firstWrongPlace_47 ?_
    refine q_icmp_ne (tgt := 60) (pc := 50) C dX2_firstWrongPlace_50 (by decide) (fun c13 => ?_) (fun c13 => ?_)
    · replace h := h.2 c13
      refine q_iconst (pc := 60) (v := (-1)) C dX2_firstWrongPlace_60 (by decide) ?_
      exact q_iret (pc := 61) C dX2_firstWrongPlace_61 h
    · replace h := h.1 c13
      refine q_aload_n (pc := 53) C dX2_firstWrongPlace_53 rfl 0 rfl ?_
      refine q_g2_1 (pc := 54) C Lh0 Kh0 mwX2_firstWrongPlace_0 mwX2_firstWrongPlace_1 dX2_firstWrongPlace_54 ?_
      refine q_goto (tgt := 61) (pc := 57) C dX2_firstWrongPlace_57 (by decide) ?_
      exact q_iret (pc := 61) C dX2_firstWrongPlace_61 h
theorem mwX2_spell_0 : ∀ w ∈ wsX20, w ∈ wsX2_spell := by decide +kernel
theorem mwX2_spell_1 : Cond.fieldLink RX2 13 "IntFile$Tape" "count" "I" ∈ wsX2_spell := by decide +kernel
theorem mwX2_spell_2 : ∀ w ∈ wsX40, w ∈ wsX2_spell := by decide +kernel
theorem mwX2_spell_3 : Cond.fieldLink RX2 27 "IntFile$Whole" "count" "I" ∈ wsX2_spell := by decide +kernel
theorem mwX2_spell_4 : Cond.fieldLink RX2 9 "IntFile$Tape" "bytes" "[B" ∈ wsX2_spell := by decide +kernel
theorem mwX2_spell_5 : Cond.fieldLink RX2 38 "IntFile$Whole" "below" "Z" ∈ wsX2_spell := by decide +kernel
def lpX2_spell_16 (G : qG) (h0 : Nat) (h1 : Nat) (x2 : Int32) (post : qS → Prop) (kx89 : qS → Prop) : Nat → Int32 → Int32 → Int32 → qS → Prop
  | 0, _, _, _, _ => False
  | n + 1, x3, x4, x5, σ => (((σ h0 1) ≤ x5 → kx89 σ) ∧ (¬ (σ h0 1) ≤ x5 → ((x2 < (σ h1 1) → kx89 σ) ∧ (¬ x2 < (σ h1 1) → vp_in x5 (G.2.2 ((G.2.1 h0 0))) ∧ ∀ v11 : Int32, v11 = (x3 * 10) + ((σ ((G.2.1 h0 0)) x5.toNatClampNeg) - 48) → ∀ v12 : Int32, v12 = x4 * 10 → ((((((σ h0 1) - 1) - x5) - (((σ h0 1) - 1) - x5) / 9 * 9) = 0 → wpX4_scaleAndAdd G h1 v12 v11 σ (fun (σ15 : qS) => ∀ v17 : Int32, v17 = 0 → ∀ v18 : Int32, v18 = 1 → ∀ v19 : Int32, v19 = x5 + 1 → lpX2_spell_16 G h0 h1 x2 post kx89 n v17 v18 v19 σ15)) ∧ (¬ ((((σ h0 1) - 1) - x5) - (((σ h0 1) - 1) - x5) / 9 * 9) = 0 → ∀ v14 : Int32, v14 = x5 + 1 → lpX2_spell_16 G h0 h1 x2 post kx89 n v11 v12 v14 σ))))))
set_option maxHeartbeats 4000000 in
set_option maxRecDepth 100000 in
theorem slX2_spell_16 {p : Program} {l : Launch} {e : Env} {s : State} {m : MethodId} {args : Array Value} {below : List Frame} {meth : Method} {c : Code} {E : qE} {L : List Nat} {G : qG} {A : Nat → Prop} (C : q_C p s m args meth c cX2_spell 6 wsX2_spell RX2 none E L G A) {h0 : Nat} {h1 : Nat} {x2 : Int32} (Lh0 : h0 ∈ L) (Kh0 : G.1 h0 = 2) (Lh1 : h1 ∈ L) (Kh1 : G.1 h1 = 4) {post : qS → Prop} {kx89 : qS → Prop} (Hkx89 : ∀  (τ : qS), kx89  τ → Wd p l e (q_rm 3) s m args below meth c E L G A (MQ below (va_Qv post (q_B E L G) A) args s 0 0 A) 6 τ 89 [(0, .ref h0), (1, .ref h1)] []) : ∀ (n : Nat) (x3 : Int32) (x4 : Int32) (x5 : Int32) (σ : qS), lpX2_spell_16 G h0 h1 x2 post kx89 n x3 x4 x5 σ → Wd p l e (q_rm 3) s m args below meth c E L G A (MQ below (va_Qv post (q_B E L G) A) args s 0 0 A) 6 σ 16 [(0, .ref h0), (1, .ref h1), (2, .int x2), (3, .int x3), (4, .int x4), (5, .int x5)] [] := by
  intro n
  induction n with
  | zero => intro x3 x4 x5 σ h; exact h.elim
  | succ n ih =>
    intro x3 x4 x5 σ h
    unfold lpX2_spell_16 at h
    refine q_iload (pc := 16) C dX2_spell_16 5 rfl ?_
    refine q_aload_n (pc := 18) C dX2_spell_18 rfl 0 rfl ?_
    refine q_g2_1 (pc := 19) C Lh0 Kh0 mwX2_spell_0 mwX2_spell_1 dX2_spell_19 ?_
    refine q_icmp_ge (tgt := 89) (pc := 22) C dX2_spell_22 (by decide) (fun c7 => ?_) (fun c7 => ?_)
    · replace h := h.1 c7
      refine q_lv (lv' := [(0, .ref h0), (1, .ref h1)]) [0, 1] rfl ?_
      exact Hkx89  σ h
    · replace h := h.2 c7
      refine q_aload_n (pc := 25) C dX2_spell_25 rfl 1 rfl ?_
      refine q_g4_1 (pc := 26) C Lh1 Kh1 mwX2_spell_2 mwX2_spell_3 dX2_spell_26 ?_
      refine q_iload_n (pc := 29) C dX2_spell_29 rfl 2 rfl ?_
      refine q_icmp_gt (tgt := 89) (pc := 30) C dX2_spell_30 (by decide) (fun c8 => ?_) (fun c8 => ?_)
      · replace h := h.1 c8
        refine q_lv (lv' := [(0, .ref h0), (1, .ref h1)]) [0, 1] rfl ?_
        exact Hkx89  σ h
      · replace h := h.2 c8
        refine q_iload_n (pc := 33) C dX2_spell_33 rfl 3 rfl ?_
        refine q_bipush (pc := 34) (v := 10) C dX2_spell_34 (by decide) ?_
        refine q_imul (pc := 36) C dX2_spell_36 ?_
        refine q_aload_n (pc := 37) C dX2_spell_37 rfl 0 rfl ?_
        obtain ⟨Lr9, Kr9⟩ := qw_2_0 C.2.2.2.2.2.2 Lh0 Kh0
        refine q_g2_0 (pc := 38) C Lh0 Kh0 mwX2_spell_0 mwX2_spell_4 dX2_spell_38 ?_
        refine q_iload (pc := 41) C dX2_spell_41 5 rfl ?_
        obtain ⟨b10, h⟩ := h
        refine q_bald (pc := 43) C Lr9 Kr9 b10 dX2_spell_43 ?_
        refine q_bipush (pc := 44) (v := 48) C dX2_spell_44 (by decide) ?_
        refine q_isub (pc := 46) C dX2_spell_46 ?_
        refine q_iadd (pc := 47) C dX2_spell_47 ?_
        refine q_topi (fun v11 ev11 => ?_)
        replace h := h v11 ev11
        refine q_istore_n (pc := 48) (lv' := [(3, .int v11), (0, .ref h0), (1, .ref h1), (2, .int x2), (4, .int x4), (5, .int x5)]) C dX2_spell_48 rfl (by decide) rfl ?_
        refine q_iload (pc := 49) C dX2_spell_49 4 rfl ?_
        refine q_bipush (pc := 51) (v := 10) C dX2_spell_51 (by decide) ?_
        refine q_imul (pc := 53) C dX2_spell_53 ?_
        refine q_topi (fun v12 ev12 => ?_)
        replace h := h v12 ev12
        refine q_istore (pc := 54) (lv' := [(4, .int v12), (3, .int v11), (0, .ref h0), (1, .ref h1), (2, .int x2), (5, .int x5)]) C dX2_spell_54 (by decide) rfl ?_
        refine q_aload_n (pc := 56) C dX2_spell_56 rfl 2 rfl ?_
        refine q_g2_1 (pc := 57) C Lh0 Kh0 mwX2_spell_0 mwX2_spell_1 dX2_spell_57 ?_
        refine q_iconst (pc := 60) (v := 1) C dX2_spell_60 (by decide) ?_
        refine q_isub (pc := 61) C dX2_spell_61 ?_
        refine q_iload (pc := 62) C dX2_spell_62 5 rfl ?_
        refine q_isub (pc := 64) C dX2_spell_64 ?_
        refine q_bipush (pc := 65) (v := 9) C dX2_spell_65 (by decide) ?_
        refine q_irem (pc := 67) C dX2_spell_67 (by decide) ?_
        refine q_if_ne (tgt := 83) (pc := 68) C dX2_spell_68 (by decide) (fun c13 => ?_) (fun c13 => ?_)
        · replace h := h.2 c13
          obtain ⟨v14, ev14⟩ : ∃ z : Int32, z = x5 + 1 := ⟨_, rfl⟩
          replace h := h v14 ev14
          refine q_iinc (pc := 83) (v := v14) (j := 5) (lv' := [(5, .int v14), (4, .int v12), (3, .int v11), (0, .ref h0), (1, .ref h1), (2, .int x2)]) C dX2_spell_83 rfl (by rw [ev14]; rfl) (by decide) rfl ?_
          refine q_goto (tgt := 16) (pc := 86) C dX2_spell_86 (by decide) ?_
          refine q_lv (lv' := [(0, .ref h0), (1, .ref h1), (2, .int x2), (3, .int v11), (4, .int v12), (5, .int v14)]) [3, 4, 5, 2, 1, 0] rfl ?_
          exact ih v11 v12 v14 σ h
        · replace h := h.1 c13
          refine q_aload_n (pc := 71) C dX2_spell_71 rfl 3 rfl ?_
          refine q_iload (pc := 72) C dX2_spell_72 0 rfl ?_
          refine q_iload_n (pc := 74) C dX2_spell_74 rfl 1 rfl ?_
          refine q_cVv (pc := 75) (As := [.int v12, .int v11]) (ci := 4) (Cn := RX4) (T := TX4) (N := 3) C (sdX4_scaleAndAdd C.2.2.2.2.2.1 C.2.2.2.2.2.2 Lh1 Kh1 h) (cwV 2 C.1.2.2.2.2 gX2_spell_X4_scaleAndAdd rfl rfl rfl (by decide +kernel) (q_room (by decide) (by decide))) Lh1 (qc4 Kh1 _) rfl rfl rfl (Nat.le_of_ble_eq_true rfl) dX2_spell_75 (fun σ15 h => ?_)
          refine q_iconst (pc := 78) (v := 0) C dX2_spell_78 (by decide) ?_
          refine q_topi (fun v17 ev17 => ?_)
          replace h := h v17 ev17
          refine q_istore_n (pc := 79) (lv' := [(3, .int v17), (4, .int v12), (0, .ref h0), (1, .ref h1), (2, .int x2), (5, .int x5)]) C dX2_spell_79 rfl (by decide) rfl ?_
          refine q_iconst (pc := 80) (v := 1) C dX2_spell_80 (by decide) ?_
          refine q_topi (fun v18 ev18 => ?_)
          replace h := h v18 ev18
          refine q_istore (pc := 81) (lv' := [(4, .int v18), (3, .int v17), (0, .ref h0), (1, .ref h1), (2, .int x2), (5, .int x5)]) C dX2_spell_81 (by decide) rfl ?_
          obtain ⟨v19, ev19⟩ : ∃ z : Int32, z = x5 + 1 := ⟨_, rfl⟩
          replace h := h v19 ev19
          refine q_iinc (pc := 83) (v := v19) (j := 5) (lv' := [(5, .int v19), (4, .int v18), (3, .int v17), (0, .ref h0), (1, .ref h1), (2, .int x2)]) C dX2_spell_83 rfl (by rw [ev19]; rfl) (by decide) rfl ?_
          refine q_goto (tgt := 16) (pc := 86) C dX2_spell_86 (by decide) ?_
          refine q_lv (lv' := [(0, .ref h0), (1, .ref h1), (2, .int x2), (3, .int v17), (4, .int v18), (5, .int v19)]) [3, 4, 5, 2, 1, 0] rfl ?_
          exact ih v17 v18 v19 σ15 h
def bkX2_spell_112 (G : qG) (s0 : Nat) (post : qS → Prop) (σ : qS) : Prop := ∀ σ24 : qS, σ24 = q_st σ s0 2 0 → post σ24
set_option maxHeartbeats 4000000 in
set_option maxRecDepth 100000 in
theorem sbX2_spell_112 {p : Program} {l : Launch} {e : Env} {s : State} {m : MethodId} {args : Array Value} {below : List Frame} {meth : Method} {c : Code} {E : qE} {L : List Nat} {G : qG} {A : Nat → Prop} (C : q_C p s m args meth c cX2_spell 6 wsX2_spell RX2 none E L G A) {s0 : Nat} (Ls0 : s0 ∈ L) (Ks0 : G.1 s0 = 4) {post : qS → Prop} {σ : qS} (h : bkX2_spell_112 G s0 post σ) : Wd p l e (q_rm 3) s m args below meth c E L G A (MQ below (va_Qv post (q_B E L G) A) args s 0 0 A) 6 σ 112 [] [.ref s0] := by
  unfold bkX2_spell_112 at h
  refine q_iconst (pc := 112) (v := 0) C dX2_spell_112 (by decide) ?_
  refine q_p4_2 (pc := 113) C Ls0 Ks0 mwX2_spell_2 mwX2_spell_5 (Or.inl rfl) dX2_spell_113 (fun σ24 eσ24 => ?_)
  replace h := h σ24 eσ24
  exact q_vret (pc := 116) C dX2_spell_116 h
def bkX2_spell_89 (G : qG) (h0 : Nat) (h1 : Nat) (post : qS → Prop) (σ : qS) : Prop := wpX4_isZero G h1 σ (fun (u22 : Int32) (σ21 : qS) => ((u22 = 0 → vp_in 0 (G.2.2 ((G.2.1 h0 0))) ∧ (((σ21 ((G.2.1 h0 0)) (0 : Int32).toNatClampNeg) = 45 → ∀ σ28 : qS, σ28 = q_st σ21 h1 2 1 → post σ28) ∧ (¬ (σ21 ((G.2.1 h0 0)) (0 : Int32).toNatClampNeg) = 45 → bkX2_spell_112 G h1 post σ21))) ∧ (¬ u22 = 0 → bkX2_spell_112 G h1 post σ21)))
set_option maxHeartbeats 4000000 in
set_option maxRecDepth 100000 in
theorem sbX2_spell_89 {p : Program} {l : Launch} {e : Env} {s : State} {m : MethodId} {args : Array Value} {below : List Frame} {meth : Method} {c : Code} {E : qE} {L : List Nat} {G : qG} {A : Nat → Prop} (C : q_C p s m args meth c cX2_spell 6 wsX2_spell RX2 none E L G A) {h0 : Nat} {h1 : Nat} (Lh0 : h0 ∈ L) (Kh0 : G.1 h0 = 2) (Lh1 : h1 ∈ L) (Kh1 : G.1 h1 = 4) {post : qS → Prop} {σ : qS} (h : bkX2_spell_89 G h0 h1 post σ) : Wd p l e (q_rm 3) s m args below meth c E L G A (MQ below (va_Qv post (q_B E L G) A) args s 0 0 A) 6 σ 89 [(0, .ref h0), (1, .ref h1)] [] := by
  unfold bkX2_spell_89 at h
  refine q_aload_n (pc := 89) C dX2_spell_89 rfl 1 rfl ?_
  refine q_aload_n (pc := 90) C dX2_spell_90 rfl 1 rfl ?_
  refine q_cVi (pc := 91) (As := []) (ci := 4) (Cn := RX4) (T := TX4) (N := 3) C (sdX4_isZero C.2.2.2.2.2.1 C.2.2.2.2.2.2 Lh1 Kh1 h) (cwV 0 C.1.2.2.2.2 gX2_spell_X4_isZero rfl rfl rfl (by decide +kernel) (q_room (by decide) (by decide))) Lh1 (qc4 Kh1 _) rfl rfl rfl (Nat.le_of_ble_eq_true rfl) dX2_spell_91 (fun u22 σ21 h => ?_)
  refine q_if_ne (tgt := 112) (pc := 94) C dX2_spell_94 (by decide) (fun c23 => ?_) (fun c23 => ?_)
  · replace h := h.2 c23
    refine q_lv (lv' := []) [] rfl ?_
    exact sbX2_spell_112 C Lh1 Kh1 h
  · replace h := h.1 c23
    refine q_aload_n (pc := 97) C dX2_spell_97 rfl 0 rfl ?_
    obtain ⟨Lr25, Kr25⟩ := qw_2_0 C.2.2.2.2.2.2 Lh0 Kh0
    refine q_g2_0 (pc := 98) C Lh0 Kh0 mwX2_spell_0 mwX2_spell_4 dX2_spell_98 ?_
    refine q_iconst (pc := 101) (v := 0) C dX2_spell_101 (by decide) ?_
    obtain ⟨b26, h⟩ := h
    refine q_bald (pc := 102) C Lr25 Kr25 b26 dX2_spell_102 ?_
    refine q_bipush (pc := 103) (v := 45) C dX2_spell_103 (by decide) ?_
    refine q_icmp_ne (tgt := 112) (pc := 105) C dX2_spell_105 (by decide) (fun c27 => ?_) (fun c27 => ?_)
    · replace h := h.2 c27
      refine q_lv (lv' := []) [] rfl ?_
      exact sbX2_spell_112 C Lh1 Kh1 h
    · replace h := h.1 c27
      refine q_iconst (pc := 108) (v := 1) C dX2_spell_108 (by decide) ?_
      refine q_goto (tgt := 113) (pc := 109) C dX2_spell_109 (by decide) ?_
      refine q_p4_2 (pc := 113) C Lh1 Kh1 mwX2_spell_2 mwX2_spell_5 (Or.inr rfl) dX2_spell_113 (fun σ28 eσ28 => ?_)
      replace h := h σ28 eσ28
      exact q_vret (pc := 116) C dX2_spell_116 h
def wpX2_spell (G : qG) (h0 : Nat) (h1 : Nat) (x2 : Int32) (σ : qS) (post : qS → Prop) : Prop := wpX4_becomeInt G h1 0 σ (fun (σ1 : qS) => ∀ v3 : Int32, v3 = 0 → ∀ v4 : Int32, v4 = 1 → wpX2_digitsBegin G h0 σ1 (fun (u6 : Int32) (σ5 : qS) => ∃ n29 : Nat, lpX2_spell_16 G h0 h1 x2 post (fun  (σ20 : qS) => bkX2_spell_89 G h0 h1 post σ20) n29 v3 v4 u6 σ5))
set_option maxHeartbeats 4000000 in
set_option maxRecDepth 100000 in
theorem sdX2_spell {l : Launch} {E : qE} {L : List Nat} {G : qG} (hN : L.Nodup) (hG : q_WF G L) {h0 : Nat} {h1 : Nat} {x2 : Int32} (Lh0 : h0 ∈ L) (Kh0 : G.1 h0 = 2) (Lh1 : h1 ∈ L) (Kh1 : G.1 h1 = 4) {σ : qS} {post : qS → Prop} (h : wpX2_spell G h0 h1 x2 σ post) : MtV l E L G yX2_spell wsX2_spell (q_rm 3) [.ref h0, .ref h1, .int x2] σ post := by
  refine q_met (Qc := fun sz => va_Qv post (q_B E L G) (q_free L sz)) (cc := cX2_spell) (maxL := 6) (ret := none) (own := RX2) (by decide) rfl rfl (Nat.le_of_ble_eq_true rfl) hN hG ?_
  intro p e s m below meth c C
  unfold wpX2_spell at h
  refine q_aload_n (pc := 0) C dX2_spell_0 rfl 1 rfl ?_
  refine q_iconst (pc := 1) (v := 0) C dX2_spell_1 (by decide) ?_
  refine q_cVv (pc := 2) (As := [.int 0]) (ci := 4) (Cn := RX4) (T := TX4) (N := 3) C (sdX4_becomeInt C.2.2.2.2.2.1 C.2.2.2.2.2.2 Lh1 Kh1 h) (cwV 1 C.1.2.2.2.2 gX2_spell_X4_becomeInt rfl rfl rfl (by decide +kernel) (q_room (by decide) (by decide))) Lh1 (qc4 Kh1 _) rfl rfl rfl (Nat.le_of_ble_eq_true rfl) dX2_spell_2 (fun σ1 h => ?_)
  refine q_iconst (pc := 5) (v := 0) C dX2_spell_5 (by decide) ?_
  refine q_topi (fun v3 ev3 => ?_)
  replace h := h v3 ev3
  refine q_istore_n (pc := 6) (lv' := [(3, .int v3), (0, .ref h0), (1, .ref h1), (2, .int x2)]) C dX2_spell_6 rfl (by decide) rfl ?_
  refine q_iconst (pc := 7) (v := 1) C dX2_spell_7 (by decide) ?_
  refine q_topi (fun v4 ev4 => ?_)
  replace h := h v4 ev4
  refine q_istore (pc := 8) (lv' := [(4, .int v4), (3, .int v3), (0, .ref h0), (1, .ref h1), (2, .int x2)]) C dX2_spell_8 (by decide) rfl ?_
  refine q_aload_n (pc := 10) C dX2_spell_10 rfl 2 rfl ?_
  refine q_cVi (pc := 11) (As := []) (ci := 2) (Cn := RX2) (T := TX2) (N := 2) C (sdX2_digitsBegin C.2.2.2.2.2.1 C.2.2.2.2.2.2 Lh0 Kh0 h) (cwV 0 C.1.2.2.2.2 gX2_spell_X2_digitsBegin rfl rfl rfl (by decide +kernel) (q_room (by decide) (by decide))) Lh0 (qc2 Kh0 _) rfl rfl rfl (Nat.le_of_ble_eq_true rfl) dX2_spell_11 (fun u6 σ5 h => ?_)
  refine q_istore (pc := 14) (lv' := [(5, .int u6), (4, .int v4), (3, .int v3), (0, .ref h0), (1, .ref h1), (2, .int x2)]) C dX2_spell_14 (by decide) rfl ?_
  refine q_lv (lv' := [(0, .ref h0), (1, .ref h1), (2, .int x2), (3, .int v3), (4, .int v4), (5, .int u6)]) [3, 4, 5, 2, 1, 0] rfl ?_
  obtain ⟨n29, h⟩ := h
  refine slX2_spell_16 C Lh0 Kh0 Lh1 Kh1 ?_ n29 v3 v4 u6 σ5 h
  · intro σ20 h
    exact sbX2_spell_89 C Lh0 Kh0 Lh1 Kh1 h

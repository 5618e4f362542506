theorem mwJ6_numberOfLeadingZeros_0f7a4_0 : Cond.constant RJ6 264 (65536) ∈ wsJ6_numberOfLeadingZeros_0f7a4 := by decide +kernel
def bkJ6_numberOfLeadingZeros_0f7a4_73 (G : qG) (x0 : Int32) (x1 : Int32) (post : Int32 → qS → Prop) (σ : qS) : Prop := post (x1 - ((x0.toUInt32 >>> ((1 : Int32).toUInt32 &&& Int32.toUInt32 31)).toInt32)) σ
set_option maxHeartbeats 4000000 in
set_option maxRecDepth 100000 in
theorem sbJ6_numberOfLeadingZeros_0f7a4_73 {p : Program} {l : Launch} {e : Env} {s : State} {m : MethodId} {args : Array Value} {below : List Frame} {meth : Method} {c : Code} {E : qE} {L : List Nat} {G : qG} {A : Nat → Prop} (C : q_C p s m args meth c cJ6_numberOfLeadingZeros_0f7a4 2 wsJ6_numberOfLeadingZeros_0f7a4 RJ6 (some .int) E L G A) {x0 : Int32} {x1 : Int32} {post : Int32 → qS → Prop} {σ : qS} (h : bkJ6_numberOfLeadingZeros_0f7a4_73 G x0 x1 post σ) : Wd p l e (q_rm 1) s m args below meth c E L G A (MQ below (va_Qi post (q_B E L G) A) args s 0 0 A) 2 σ 73 [(0, .int x0), (1, .int x1)] [] := by
  unfold bkJ6_numberOfLeadingZeros_0f7a4_73 at h
  refine q_iload_n (pc := 73) C dJ6_numberOfLeadingZeros_0f7a4_73 rfl 1 rfl ?_
  refine q_iload_n (pc := 74) C dJ6_numberOfLeadingZeros_0f7a4_74 rfl 0 rfl ?_
  refine q_iconst (pc := 75) (v := 1) C dJ6_numberOfLeadingZeros_0f7a4_75 (by decide) ?_
  refine q_iushr (pc := 76) C dJ6_numberOfLeadingZeros_0f7a4_76 ?_
  refine q_isub (pc := 77) C dJ6_numberOfLeadingZeros_0f7a4_77 ?_
  exact q_iret (pc := 78) C dJ6_numberOfLeadingZeros_0f7a4_78 h
def bkJ6_numberOfLeadingZeros_0f7a4_61 (G : qG) (x0 : Int32) (x1 : Int32) (post : Int32 → qS → Prop) (σ : qS) : Prop := ((x0 < 4 → bkJ6_numberOfLeadingZeros_0f7a4_73 G x0 x1 post σ) ∧ (¬ x0 < 4 → ∀ v7 : Int32, v7 = x1 + (-2) → ∀ v8 : Int32, v8 = (x0.toUInt32 >>> ((2 : Int32).toUInt32 &&& Int32.toUInt32 31)).toInt32 → bkJ6_numberOfLeadingZeros_0f7a4_73 G v8 v7 post σ))
set_option maxHeartbeats 4000000 in
set_option maxRecDepth 100000 in
theorem sbJ6_numberOfLeadingZeros_0f7a4_61 {p : Program} {l : Launch} {e : Env} {s : State} {m : MethodId} {args : Array Value} {below : List Frame} {meth : Method} {c : Code} {E : qE} {L : List Nat} {G : qG} {A : Nat → Prop} (C : q_C p s m args meth c cJ6_numberOfLeadingZeros_0f7a4 2 wsJ6_numberOfLeadingZeros_0f7a4 RJ6 (some .int) E L G A) {x0 : Int32} {x1 : Int32} {post : Int32 → qS → Prop} {σ : qS} (h : bkJ6_numberOfLeadingZeros_0f7a4_61 G x0 x1 post σ) : Wd p l e (q_rm 1) s m args below meth c E L G A (MQ below (va_Qi post (q_B E L G) A) args s 0 0 A) 2 σ 61 [(0, .int x0), (1, .int x1)] [] := by
  unfold bkJ6_numberOfLeadingZeros_0f7a4_61 at h
  refine q_iload_n (pc := 61) C dJ6_numberOfLeadingZeros_0f7a4_61 rfl 0 rfl ?_
  refine q_iconst (pc := 62) (v := 4) C dJ6_numberOfLeadingZeros_0f7a4_62 (by decide) ?_
  refine q_icmp_lt (tgt := 73) (pc := 63) C dJ6_numberOfLeadingZeros_0f7a4_63 (by decide) (fun c6 => ?_) (fun c6 => ?_)
  · replace h := h.1 c6
    exact sbJ6_numberOfLeadingZeros_0f7a4_73 C h
  · replace h := h.2 c6
    obtain ⟨v7, ev7⟩ : ∃ z : Int32, z = x1 + (-2) := ⟨_, rfl⟩
    replace h := h v7 ev7
    refine q_iinc (pc := 66) (v := v7) (j := 1) (lv' := [(1, .int v7), (0, .int x0)]) C dJ6_numberOfLeadingZeros_0f7a4_66 rfl (by rw [ev7]; rfl) (by decide) rfl ?_
    refine q_iload_n (pc := 69) C dJ6_numberOfLeadingZeros_0f7a4_69 rfl 1 rfl ?_
    refine q_iconst (pc := 70) (v := 2) C dJ6_numberOfLeadingZeros_0f7a4_70 (by decide) ?_
    refine q_iushr (pc := 71) C dJ6_numberOfLeadingZeros_0f7a4_71 ?_
    refine q_topi (fun v8 ev8 => ?_)
    replace h := h v8 ev8
    refine q_istore_n (pc := 72) (lv' := [(0, .int v8), (1, .int v7)]) C dJ6_numberOfLeadingZeros_0f7a4_72 rfl (by decide) rfl ?_
    exact sbJ6_numberOfLeadingZeros_0f7a4_73 C h
def bkJ6_numberOfLeadingZeros_0f7a4_48 (G : qG) (x0 : Int32) (x1 : Int32) (post : Int32 → qS → Prop) (σ : qS) : Prop := ((x0 < 16 → bkJ6_numberOfLeadingZeros_0f7a4_61 G x0 x1 post σ) ∧ (¬ x0 < 16 → ∀ v9 : Int32, v9 = x1 + (-4) → ∀ v10 : Int32, v10 = (x0.toUInt32 >>> ((4 : Int32).toUInt32 &&& Int32.toUInt32 31)).toInt32 → bkJ6_numberOfLeadingZeros_0f7a4_61 G v10 v9 post σ))
set_option maxHeartbeats 4000000 in
set_option maxRecDepth 100000 in
theorem sbJ6_numberOfLeadingZeros_0f7a4_48 {p : Program} {l : Launch} {e : Env} {s : State} {m : MethodId} {args : Array Value} {below : List Frame} {meth : Method} {c : Code} {E : qE} {L : List Nat} {G : qG} {A : Nat → Prop} (C : q_C p s m args meth c cJ6_numberOfLeadingZeros_0f7a4 2 wsJ6_numberOfLeadingZeros_0f7a4 RJ6 (some .int) E L G A) {x0 : Int32} {x1 : Int32} {post : Int32 → qS → Prop} {σ : qS} (h : bkJ6_numberOfLeadingZeros_0f7a4_48 G x0 x1 post σ) : Wd p l e (q_rm 1) s m args below meth c E L G A (MQ below (va_Qi post (q_B E L G) A) args s 0 0 A) 2 σ 48 [(0, .int x0), (1, .int x1)] [] := by
  unfold bkJ6_numberOfLeadingZeros_0f7a4_48 at h
  refine q_iload_n (pc := 48) C dJ6_numberOfLeadingZeros_0f7a4_48 rfl 0 rfl ?_
  refine q_bipush (pc := 49) (v := 16) C dJ6_numberOfLeadingZeros_0f7a4_49 (by decide) ?_
  refine q_icmp_lt (tgt := 61) (pc := 51) C dJ6_numberOfLeadingZeros_0f7a4_51 (by decide) (fun c5 => ?_) (fun c5 => ?_)
  · replace h := h.1 c5
    exact sbJ6_numberOfLeadingZeros_0f7a4_61 C h
  · replace h := h.2 c5
    obtain ⟨v9, ev9⟩ : ∃ z : Int32, z = x1 + (-4) := ⟨_, rfl⟩
    replace h := h v9 ev9
    refine q_iinc (pc := 54) (v := v9) (j := 1) (lv' := [(1, .int v9), (0, .int x0)]) C dJ6_numberOfLeadingZeros_0f7a4_54 rfl (by rw [ev9]; rfl) (by decide) rfl ?_
    refine q_iload_n (pc := 57) C dJ6_numberOfLeadingZeros_0f7a4_57 rfl 1 rfl ?_
    refine q_iconst (pc := 58) (v := 4) C dJ6_numberOfLeadingZeros_0f7a4_58 (by decide) ?_
    refine q_iushr (pc := 59) C dJ6_numberOfLeadingZeros_0f7a4_59 ?_
    refine q_topi (fun v10 ev10 => ?_)
    replace h := h v10 ev10
    refine q_istore_n (pc := 60) (lv' := [(0, .int v10), (1, .int v9)]) C dJ6_numberOfLeadingZeros_0f7a4_60 rfl (by decide) rfl ?_
    exact sbJ6_numberOfLeadingZeros_0f7a4_61 C h
def bkJ6_numberOfLeadingZeros_0f7a4_33 (G : qG) (x0 : Int32) (x1 : Int32) (post : Int32 → qS → Prop) (σ : qS) : Prop := ((x0 < 256 → bkJ6_numberOfLeadingZeros_0f7a4_48 G x0 x1 post σ) ∧ (¬ x0 < 256 → ∀ v11 : Int32, v11 = x1 + (-8) → ∀ v12 : Int32, v12 = (x0.toUInt32 >>> ((8 : Int32).toUInt32 &&& Int32.toUInt32 31)).toInt32 → bkJ6_numberOfLeadingZeros_0f7a4_48 G v12 v11 post σ))
set_option maxHeartbeats 4000000 in
set_option maxRecDepth 100000 in
theorem sbJ6_numberOfLeadingZeros_0f7a4_33 {p : Program} {l : Launch} {e : Env} {s : State} {m : MethodId} {args : Array Value} {below : List Frame} {meth : Method} {c : Code} {E : qE} {L : List Nat} {G : qG} {A : Nat → Prop} (C : q_C p s m args meth c cJ6_numberOfLeadingZeros_0f7a4 2 wsJ6_numberOfLeadingZeros_0f7a4 RJ6 (some .int) E L G A) {x0 : Int32} {x1 : Int32} {post : Int32 → qS → Prop} {σ : qS} (h : bkJ6_numberOfLeadingZeros_0f7a4_33 G x0 x1 post σ) : Wd p l e (q_rm 1) s m args below meth c E L G A (MQ below (va_Qi post (q_B E L G) A) args s 0 0 A) 2 σ 33 [(0, .int x0), (1, .int x1)] [] := by
  unfold bkJ6_numberOfLeadingZeros_0f7a4_33 at h
  refine q_iload_n (pc := 33) C dJ6_numberOfLeadingZeros_0f7a4_33 rfl 0 rfl ?_
  refine q_sipush (pc := 34) (v := 256) C dJ6_numberOfLeadingZeros_0f7a4_34 (by decide) ?_
  refine q_icmp_lt (tgt := 48) (pc := 37) C dJ6_numberOfLeadingZeros_0f7a4_37 (by decide) (fun c4 => ?_) (fun c4 => ?_)
  · replace h := h.1 c4
    exact sbJ6_numberOfLeadingZeros_0f7a4_48 C h
  · replace h := h.2 c4
    obtain ⟨v11, ev11⟩ : ∃ z : Int32, z = x1 + (-8) := ⟨_, rfl⟩
    replace h := h v11 ev11
    refine q_iinc (pc := 40) (v := v11) (j := 1) (lv' := [(1, .int v11), (0, .int x0)]) C dJ6_numberOfLeadingZeros_0f7a4_40 rfl (by rw [ev11]; rfl) (by decide) rfl ?_
    refine q_iload_n (pc := 43) C dJ6_numberOfLeadingZeros_0f7a4_43 rfl 1 rfl ?_
    refine q_bipush (pc := 44) (v := 8) C dJ6_numberOfLeadingZeros_0f7a4_44 (by decide) ?_
    refine q_iushr (pc := 46) C dJ6_numberOfLeadingZeros_0f7a4_46 ?_
    refine q_topi (fun v12 ev12 => ?_)
    replace h := h v12 ev12
    refine q_istore_n (pc := 47) (lv' := [(0, .int v12), (1, .int v11)]) C dJ6_numberOfLeadingZeros_0f7a4_47 rfl (by decide) rfl ?_
    exact sbJ6_numberOfLeadingZeros_0f7a4_48 C h
def wpJ6_numberOfLeadingZeros_0f7a4 (G : qG) (x0 : Int32) (σ : qS) (post : Int32 → qS → Prop) : Prop := ((0 < x0 → ∀ v2 : Int32, v2 = 31 → ((x0 < 65536 → bkJ6_numberOfLeadingZeros_0f7a4_33 G x0 v2 post σ) ∧ (¬ x0 < 65536 → ∀ v13 : Int32, v13 = v2 + (-16) → ∀ v14 : Int32, v14 = (x0.toUInt32 >>> ((16 : Int32).toUInt32 &&& Int32.toUInt32 31)).toInt32 → bkJ6_numberOfLeadingZeros_0f7a4_33 G v14 v13 post σ))) ∧ (¬ 0 < x0 → ((x0 = 0 → post 32 σ) ∧ (¬ x0 = 0 → post 0 σ))))
set_option maxHeartbeats 4000000 in
set_option maxRecDepth 100000 in
theorem sdJ6_numberOfLeadingZeros_0f7a4 {l : Launch} {E : qE} {L : List Nat} {G : qG} (hN : L.Nodup) (hG : q_WF G L) {x0 : Int32} {σ : qS} {post : Int32 → qS → Prop} (h : wpJ6_numberOfLeadingZeros_0f7a4 G x0 σ post) : MtI l E L G yJ6_numberOfLeadingZeros_0f7a4 wsJ6_numberOfLeadingZeros_0f7a4 (q_rm 1) [.int x0] σ post := by
  refine q_met (Qc := fun sz => va_Qi post (q_B E L G) (q_free L sz)) (cc := cJ6_numberOfLeadingZeros_0f7a4) (maxL := 2) (ret := (some .int)) (own := RJ6) (by decide) rfl rfl (Nat.le_of_ble_eq_true rfl) hN hG ?_
  intro p e s m below meth c C
  unfold wpJ6_numberOfLeadingZeros_0f7a4 at h
  refine q_iload_n (pc := 0) C dJ6_numberOfLeadingZeros_0f7a4_0 rfl 0 rfl ?_
  refine q_if_gt (tgt := 15) (pc := 1) C dJ6_numberOfLeadingZeros_0f7a4_1 (by decide) (fun c1 => ?_) (fun c1 => ?_)
  · replace h := h.1 c1
    refine q_bipush (pc := 15) (v := 31) C dJ6_numberOfLeadingZeros_0f7a4_15 (by decide) ?_
    refine q_topi (fun v2 ev2 => ?_)
    replace h := h v2 ev2
    refine q_istore_n (pc := 17) (lv' := [(1, .int v2), (0, .int x0)]) C dJ6_numberOfLeadingZeros_0f7a4_17 rfl (by decide) rfl ?_
    refine q_iload_n (pc := 18) C dJ6_numberOfLeadingZeros_0f7a4_18 rfl 1 rfl ?_
    refine q_ldcw (pc := 19) (v := 65536) C dJ6_numberOfLeadingZeros_0f7a4_19 mwJ6_numberOfLeadingZeros_0f7a4_0 ?_
    refine q_icmp_lt (tgt := 33) (pc := 22) C dJ6_numberOfLeadingZeros_0f7a4_22 (by decide) (fun c3 => ?_) (fun c3 => ?_)
    · replace h := h.1 c3
      refine q_lv (lv' := [(0, .int x0), (1, .int v2)]) [1, 0] rfl ?_
      exact sbJ6_numberOfLeadingZeros_0f7a4_33 C h
    · replace h := h.2 c3
      obtain ⟨v13, ev13⟩ : ∃ z : Int32, z = v2 + (-16) := ⟨_, rfl⟩
      replace h := h v13 ev13
      refine q_iinc (pc := 25) (v := v13) (j := 0) (lv' := [(1, .int v13), (0, .int x0)]) C dJ6_numberOfLeadingZeros_0f7a4_25 rfl (by rw [ev13]; rfl) (by decide) rfl ?_
      refine q_iload_n (pc := 28) C dJ6_numberOfLeadingZeros_0f7a4_28 rfl 1 rfl ?_
      refine q_bipush (pc := 29) (v := 16) C dJ6_numberOfLeadingZeros_0f7a4_29 (by decide) ?_
      refine q_iushr (pc := 31) C dJ6_numberOfLeadingZeros_0f7a4_31 ?_
      refine q_topi (fun v14 ev14 => ?_)
      replace h := h v14 ev14
      refine q_istore_n (pc := 32) (lv' := [(0, .int v14), (1, .int v13)]) C dJ6_numberOfLeadingZeros_0f7a4_32 rfl (by decide) rfl ?_
      exact sbJ6_numberOfLeadingZeros_0f7a4_33 C h
  · replace h := h.2 c1
    refine q_iload_n (pc := 4) C dJ6_numberOfLeadingZeros_0f7a4_4 rfl 0 rfl ?_
    refine q_if_ne (tgt := 13) (pc := 5) C dJ6_numberOfLeadingZeros_0f7a4_5 (by decide) (fun c15 => ?_) (fun c15 => ?_)
    · replace h := h.2 c15
      refine q_iconst (pc := 13) (v := 0) C dJ6_numberOfLeadingZeros_0f7a4_13 (by decide) ?_
      exact q_iret (pc := 14) C dJ6_numberOfLeadingZeros_0f7a4_14 h
    · replace h := h.1 c15
      refine q_bipush (pc := 8) (v := 32) C dJ6_numberOfLeadingZeros_0f7a4_8 (by decide) ?_
      refine q_goto (tgt := 14) (pc := 10) C dJ6_numberOfLeadingZeros_0f7a4_10 (by decide) ?_
      exact q_iret (pc := 14) C dJ6_numberOfLeadingZeros_0f7a4_14 h
def wpJ7_rangeCheck_23922 (G : qG) (x0 : Int32) (x1 : Int32) (x2 : Int32) (σ : qS) (post : qS → Prop) : Prop := ((x1 ≤ x2 → ((0 ≤ x1 → ((x2 ≤ x0 → post σ) ∧ (¬ x2 ≤ x0 → False))) ∧ (¬ 0 ≤ x1 → False))) ∧ (¬ x1 ≤ x2 → False))
set_option maxHeartbeats 4000000 in
set_option maxRecDepth 100000 in
theorem sdJ7_rangeCheck_23922 {l : Launch} {E : qE} {L : List Nat} {G : qG} (hN : L.Nodup) (hG : q_WF G L) {x0 : Int32} {x1 : Int32} {x2 : Int32} {σ : qS} {post : qS → Prop} (h : wpJ7_rangeCheck_23922 G x0 x1 x2 σ post) : MtV l E L G yJ7_rangeCheck_23922 wsJ7_rangeCheck_23922 (q_rm 1) [.int x0, .int x1, .int x2] σ post := by
  refine q_met (Qc := fun sz => va_Qv post (q_B E L G) (q_free L sz)) (cc := cJ7_rangeCheck_23922) (maxL := 3) (ret := none) (own := RJ7) (by decide) rfl rfl (Nat.le_of_ble_eq_true rfl) hN hG ?_
  intro p e s m below meth c C
  unfold wpJ7_rangeCheck_23922 at h
  refine q_iload_n (pc := 0) C dJ7_rangeCheck_23922_0 rfl 1 rfl ?_
  refine q_iload_n (pc := 1) C dJ7_rangeCheck_23922_1 rfl 2 rfl ?_
  refine q_icmp_le (tgt := 46) (pc := 2) C dJ7_rangeCheck_23922_2 (by decide) (fun c1 => ?_) (fun c1 => ?_)
  · replace h := h.1 c1
    refine q_iload_n (pc := 46) C dJ7_rangeCheck_23922_46 rfl 1 rfl ?_
    refine q_if_ge (tgt := 59) (pc := 47) C dJ7_rangeCheck_23922_47 (by decide) (fun c2 => ?_) (fun c2 => ?_)
    · replace h := h.1 c2
      refine q_iload_n (pc := 59) C dJ7_rangeCheck_23922_59 rfl 2 rfl ?_
      refine q_iload_n (pc := 60) C dJ7_rangeCheck_23922_60 rfl 0 rfl ?_
      refine q_icmp_le (tgt := 73) (pc := 61) C dJ7_rangeCheck_23922_61 (by decide) (fun c3 => ?_) (fun c3 => ?_)
      · replace h := h.1 c3
        exact q_vret (pc := 73) C dJ7_rangeCheck_23922_73 h
      · replace h := h.2 c3
        exact h.elim
    · replace h := h.2 c2
      exact h.elim
  · replace h := h.2 c1
    exact h.elim
def lpJ7_fill_fda19_10 (G : qG) (h0 : Nat) (x2 : Int32) (x3 : Int32) (post : qS → Prop) (kx27 : qS → Prop) : Nat → Int32 → qS → Prop
  | 0, _, _ => False
  | n + 1, x4, σ => ((x2 ≤ x4 → kx27 σ) ∧ (¬ x2 ≤ x4 → vp_in x4 (G.2.2 h0) ∧ ∀ σ5 : qS, σ5 = q_st σ h0 x4.toNatClampNeg x3 → ∀ v6 : Int32, v6 = x4 + 1 → lpJ7_fill_fda19_10 G h0 x2 x3 post kx27 n v6 σ5))
set_option maxHeartbeats 4000000 in
set_option maxRecDepth 100000 in
theorem slJ7_fill_fda19_10 {p : Program} {l : Launch} {e : Env} {s : State} {m : MethodId} {args : Array Value} {below : List Frame} {meth : Method} {c : Code} {E : qE} {L : List Nat} {G : qG} {A : Nat → Prop} (C : q_C p s m args meth c cJ7_fill_fda19 5 wsJ7_fill_fda19 RJ7 none E L G A) {h0 : Nat} {x2 : Int32} {x3 : Int32} (Lh0 : h0 ∈ L) (Kh0 : G.1 h0 = 7) {post : qS → Prop} {kx27 : qS → Prop} (Hkx27 : ∀  (τ : qS), kx27  τ → Wd p l e (q_rm 2) s m args below meth c E L G A (MQ below (va_Qv post (q_B E L G) A) args s 0 0 A) 5 τ 27 [] []) : ∀ (n : Nat) (x4 : Int32) (σ : qS), lpJ7_fill_fda19_10 G h0 x2 x3 post kx27 n x4 σ → Wd p l e (q_rm 2) s m args below meth c E L G A (MQ below (va_Qv post (q_B E L G) A) args s 0 0 A) 5 σ 10 [(0, .ref h0), (2, .int x2), (3, .int x3), (4, .int x4)] [] := by
  intro n
  induction n with
  | zero => intro x4 σ h; exact h.elim
  | succ n ih =>
    intro x4 σ h
    unfold lpJ7_fill_fda19_10 at h
    refine q_iload (pc := 10) C dJ7_fill_fda19_10 3 rfl ?_
    refine q_iload_n (pc := 12) C dJ7_fill_fda19_12 rfl 1 rfl ?_
    refine q_icmp_ge (tgt := 27) (pc := 13) C dJ7_fill_fda19_13 (by decide) (fun c3 => ?_) (fun c3 => ?_)
    · replace h := h.1 c3
      refine q_lv (lv' := []) [] rfl ?_
      exact Hkx27  σ h
    · replace h := h.2 c3
      refine q_aload_n (pc := 16) C dJ7_fill_fda19_16 rfl 0 rfl ?_
      refine q_iload (pc := 17) C dJ7_fill_fda19_17 3 rfl ?_
      refine q_iload_n (pc := 19) C dJ7_fill_fda19_19 rfl 2 rfl ?_
      obtain ⟨b4, h⟩ := h
      refine q_iast (pc := 20) C Lh0 Kh0 b4 dJ7_fill_fda19_20 (fun σ5 eσ5 => ?_)
      replace h := h σ5 eσ5
      obtain ⟨v6, ev6⟩ : ∃ z : Int32, z = x4 + 1 := ⟨_, rfl⟩
      replace h := h v6 ev6
      refine q_iinc (pc := 21) (v := v6) (j := 3) (lv' := [(4, .int v6), (0, .ref h0), (2, .int x2), (3, .int x3)]) C dJ7_fill_fda19_21 rfl (by rw [ev6]; rfl) (by decide) rfl ?_
      refine q_goto (tgt := 10) (pc := 24) C dJ7_fill_fda19_24 (by decide) ?_
      refine q_lv (lv' := [(0, .ref h0), (2, .int x2), (3, .int x3), (4, .int v6)]) [1, 2, 3, 0] rfl ?_
      exact ih v6 σ5 h
def wpJ7_fill_fda19 (G : qG) (h0 : Nat) (x1 : Int32) (x2 : Int32) (x3 : Int32) (σ : qS) (post : qS → Prop) : Prop := wpJ7_rangeCheck_23922 G (nI (G.2.2 h0)) x1 x2 σ (fun (σ1 : qS) => ∃ n8 : Nat, lpJ7_fill_fda19_10 G h0 x2 x3 post (fun  (σ7 : qS) => post σ7) n8 x1 σ1)
set_option maxHeartbeats 4000000 in
set_option maxRecDepth 100000 in
theorem sdJ7_fill_fda19 {l : Launch} {E : qE} {L : List Nat} {G : qG} (hN : L.Nodup) (hG : q_WF G L) {h0 : Nat} {x1 : Int32} {x2 : Int32} {x3 : Int32} (Lh0 : h0 ∈ L) (Kh0 : G.1 h0 = 7) {σ : qS} {post : qS → Prop} (h : wpJ7_fill_fda19 G h0 x1 x2 x3 σ post) : MtV l E L G yJ7_fill_fda19 wsJ7_fill_fda19 (q_rm 2) [.ref h0, .int x1, .int x2, .int x3] σ post := by
  refine q_met (Qc := fun sz => va_Qv post (q_B E L G) (q_free L sz)) (cc := cJ7_fill_fda19) (maxL := 5) (ret := none) (own := RJ7) (by decide) rfl rfl (Nat.le_of_ble_eq_true rfl) hN hG ?_
  intro p e s m below meth c C
  unfold wpJ7_fill_fda19 at h
  refine q_aload_n (pc := 0) C dJ7_fill_fda19_0 rfl 0 rfl ?_
  refine q_alen7 (pc := 1) C Lh0 Kh0 dJ7_fill_fda19_1 ?_
  refine q_iload_n (pc := 2) C dJ7_fill_fda19_2 rfl 1 rfl ?_
  refine q_iload_n (pc := 3) C dJ7_fill_fda19_3 rfl 2 rfl ?_
  refine q_cSv (pc := 4) (As := [.int (nI (G.2.2 h0)), .int x1, .int x2]) C (sdJ7_rangeCheck_23922 C.2.2.2.2.2.1 C.2.2.2.2.2.2 h) (va_cwS 3 C.1.2.2.2.2 gJ7_fill_fda19_J7_rangeCheck_23922 rfl rfl rfl (by decide +kernel) (q_room (by decide) (by decide))) rfl rfl (Nat.le_of_ble_eq_true rfl) dJ7_fill_fda19_4 (fun σ1 h => ?_)
  refine q_iload_n (pc := 7) C dJ7_fill_fda19_7 rfl 1 rfl ?_
  refine q_istore (pc := 8) (lv' := [(4, .int x1), (0, .ref h0), (1, .int x1), (2, .int x2), (3, .int x3)]) C dJ7_fill_fda19_8 (by decide) rfl ?_
  refine q_lv (lv' := [(0, .ref h0), (2, .int x2), (3, .int x3), (4, .int x1)]) [1, 3, 4, 0] rfl ?_
  obtain ⟨n8, h⟩ := h
  refine slJ7_fill_fda19_10 C Lh0 Kh0 ?_ n8 x1 σ1 h
  · intro σ7 h
    exact q_vret (pc := 27) C dJ7_fill_fda19_27 h

theorem mwX3_size_0 : ∀ w ∈ wsX30, w ∈ wsX3_size := by decide +kernel
theorem mwX3_size_1 : Cond.fieldLink RX3 9 "IntFile$Text" "bytes" "[B" ∈ wsX3_size := by decide +kernel
theorem mwX3_size_2 : Cond.fieldLink RX3 13 "IntFile$Text" "start" "I" ∈ wsX3_size := by decide +kernel
def wpX3_size (G : qG) (h0 : Nat) (σ : qS) (post : Int32 → qS → Prop) : Prop := post ((nI (G.2.2 ((G.2.1 h0 0)))) - (σ h0 1)) σ
set_option maxHeartbeats 4000000 in
set_option maxRecDepth 100000 in
theorem sdX3_size {l : Launch} {E : qE} {L : List Nat} {G : qG} (hN : L.Nodup) (hG : q_WF G L) {h0 : Nat} (Lh0 : h0 ∈ L) (Kh0 : G.1 h0 = 3) {σ : qS} {post : Int32 → qS → Prop} (h : wpX3_size G h0 σ post) : MtI l E L G yX3_size wsX3_size (q_rm 1) [.ref h0] σ post := by
  refine q_met (Qc := fun sz => va_Qi post (q_B E L G) (q_free L sz)) (cc := cX3_size) (maxL := 1) (ret := (some .int)) (own := RX3) (by decide) rfl rfl (Nat.le_of_ble_eq_true rfl) hN hG ?_
  intro p e s m below meth c C
  unfold wpX3_size at h
  refine q_aload_n (pc := 0) C dX3_size_0 rfl 0 rfl ?_
  obtain ⟨Lr1, Kr1⟩ := qw_3_0 C.2.2.2.2.2.2 Lh0 Kh0
  refine q_g3_0 (pc := 1) C Lh0 Kh0 mwX3_size_0 mwX3_size_1 dX3_size_1 ?_
  refine q_alen8 (pc := 4) C Lr1 Kr1 dX3_size_4 ?_
  refine q_aload_n (pc := 5) C dX3_size_5 rfl 0 rfl ?_
  refine q_g3_1 (pc := 6) C Lh0 Kh0 mwX3_size_0 mwX3_size_2 dX3_size_6 ?_
  refine q_isub (pc := 9) C dX3_size_9 ?_
  exact q_iret (pc := 10) C dX3_size_10 h
theorem mwX3_at_0 : ∀ w ∈ wsX30, w ∈ wsX3_at := by decide +kernel
theorem mwX3_at_1 : Cond.fieldLink RX3 9 "IntFile$Text" "bytes" "[B" ∈ wsX3_at := by decide +kernel
theorem mwX3_at_2 : Cond.fieldLink RX3 13 "IntFile$Text" "start" "I" ∈ wsX3_at := by decide +kernel
def wpX3_at (G : qG) (h0 : Nat) (x1 : Int32) (σ : qS) (post : Int32 → qS → Prop) : Prop := vp_in ((σ h0 1) + x1) (G.2.2 ((G.2.1 h0 0))) ∧ post (σ ((G.2.1 h0 0)) ((σ h0 1) + x1).toNatClampNeg) σ
set_option maxHeartbeats 4000000 in
set_option maxRecDepth 100000 in
theorem sdX3_at {l : Launch} {E : qE} {L : List Nat} {G : qG} (hN : L.Nodup) (hG : q_WF G L) {h0 : Nat} {x1 : Int32} (Lh0 : h0 ∈ L) (Kh0 : G.1 h0 = 3) {σ : qS} {post : Int32 → qS → Prop} (h : wpX3_at G h0 x1 σ post) : MtI l E L G yX3_at wsX3_at (q_rm 1) [.ref h0, .int x1] σ post := by
  refine q_met (Qc := fun sz => va_Qi post (q_B E L G) (q_free L sz)) (cc := cX3_at) (maxL := 2) (ret := (some .int)) (own := RX3) (by decide) rfl rfl (Nat.le_of_ble_eq_true rfl) hN hG ?_
  intro p e s m below meth c C
  unfold wpX3_at at h
  refine q_aload_n (pc := 0) C dX3_at_0 rfl 0 rfl ?_
  obtain ⟨Lr1, Kr1⟩ := qw_3_0 C.2.2.2.2.2.2 Lh0 Kh0
  refine q_g3_0 (pc := 1) C Lh0 Kh0 mwX3_at_0 mwX3_at_1 dX3_at_1 ?_
  refine q_aload_n (pc := 4) C dX3_at_4 rfl 0 rfl ?_
  refine q_g3_1 (pc := 5) C Lh0 Kh0 mwX3_at_0 mwX3_at_2 dX3_at_5 ?_
  refine q_iload_n (pc := 8) C dX3_at_8 rfl 1 rfl ?_
  refine q_iadd (pc := 9) C dX3_at_9 ?_
  obtain ⟨b2, h⟩ := h
  refine q_bald (pc := 10) C Lr1 Kr1 b2 dX3_at_10 ?_
  exact q_iret (pc := 11) C dX3_at_11 h
theorem mwX3_prepend_0 : ∀ w ∈ wsX30, w ∈ wsX3_prepend := by decide +kernel
theorem mwX3_prepend_1 : Cond.fieldLink RX3 13 "IntFile$Text" "start" "I" ∈ wsX3_prepend := by decide +kernel
theorem mwX3_prepend_2 : Cond.fieldLink RX3 9 "IntFile$Text" "bytes" "[B" ∈ wsX3_prepend := by decide +kernel
def wpX3_prepend (G : qG) (h0 : Nat) (x1 : Int32) (σ : qS) (post : qS → Prop) : Prop := (((σ h0 1) ≤ 0 → post σ) ∧ (¬ (σ h0 1) ≤ 0 → ∀ σ2 : qS, σ2 = q_st σ h0 1 ((σ h0 1) - 1) → vp_in (σ2 h0 1) (G.2.2 ((G.2.1 h0 0))) ∧ ∀ σ5 : qS, σ5 = q_st σ2 ((G.2.1 h0 0)) (σ2 h0 1).toNatClampNeg x1.toInt8.toInt32.toInt8.toInt32 → post σ5))
set_option maxHeartbeats 4000000 in
set_option maxRecDepth 100000 in
theorem sdX3_prepend {l : Launch} {E : qE} {L : List Nat} {G : qG} (hN : L.Nodup) (hG : q_WF G L) {h0 : Nat} {x1 : Int32} (Lh0 : h0 ∈ L) (Kh0 : G.1 h0 = 3) {σ : qS} {post : qS → Prop} (h : wpX3_prepend G h0 x1 σ post) : MtV l E L G yX3_prepend wsX3_prepend (q_rm 1) [.ref h0, .int x1] σ post := by
  refine q_met (Qc := fun sz => va_Qv post (q_B E L G) (q_free L sz)) (cc := cX3_prepend) (maxL := 2) (ret := none) (own := RX3) (by decide) rfl rfl (Nat.le_of_ble_eq_true rfl) hN hG ?_
  intro p e s m below meth c C
  unfold wpX3_prepend at h
  refine q_aload_n (pc := 0) C dX3_prepend_0 rfl 0 rfl ?_
  refine q_g3_1 (pc := 1) C Lh0 Kh0 mwX3_prepend_0 mwX3_prepend_1 dX3_prepend_1 ?_
  refine q_if_le (tgt := 28) (pc := 4) C dX3_prepend_4 (by decide) (fun c1 => ?_) (fun c1 => ?_)
  · replace h := h.1 c1
    exact q_vret (pc := 28) C dX3_prepend_28 h
  · replace h := h.2 c1
    refine q_aload_n (pc := 7) C dX3_prepend_7 rfl 0 rfl ?_
    refine q_dup (pc := 8) C dX3_prepend_8 rfl ?_
    refine q_g3_1 (pc := 9) C Lh0 Kh0 mwX3_prepend_0 mwX3_prepend_1 dX3_prepend_9 ?_
    refine q_iconst (pc := 12) (v := 1) C dX3_prepend_12 (by decide) ?_
    refine q_isub (pc := 13) C dX3_prepend_13 ?_
    refine q_p3_1 (pc := 14) C Lh0 Kh0 mwX3_prepend_0 mwX3_prepend_1 dX3_prepend_14 (fun σ2 eσ2 => ?_)
    replace h := h σ2 eσ2
    refine q_aload_n (pc := 17) C dX3_prepend_17 rfl 0 rfl ?_
    obtain ⟨Lr3, Kr3⟩ := qw_3_0 C.2.2.2.2.2.2 Lh0 Kh0
    refine q_g3_0 (pc := 18) C Lh0 Kh0 mwX3_prepend_0 mwX3_prepend_2 dX3_prepend_18 ?_
    refine q_aload_n (pc := 21) C dX3_prepend_21 rfl 0 rfl ?_
    refine q_g3_1 (pc := 22) C Lh0 Kh0 mwX3_prepend_0 mwX3_prepend_1 dX3_prepend_22 ?_
    refine q_iload_n (pc := 25) C dX3_prepend_25 rfl 1 rfl ?_
    refine q_i2b (pc := 26) C dX3_prepend_26 ?_
    obtain ⟨b4, h⟩ := h
    refine q_bast (pc := 27) C Lr3 Kr3 b4 dX3_prepend_27 (fun σ5 eσ5 => ?_)
    replace h := h σ5 eσ5
    exact q_vret (pc := 28) C dX3_prepend_28 h
def bkX3_prependDigits_22 (G : qG) (h0 : Nat) (x2 : Int32) (x3 : Int32) (x4 : Int32) (post : qS → Prop) (kb5 : Int32 → Int32 → qS → Prop) (σ : qS) : Prop := wpX3_prepend G h0 ((48 : Int32) + (x3 - x3 / 10 * 10)) σ (fun (σ4 : qS) => ∀ v6 : Int32, v6 = x3 / 10 → ∀ v7 : Int32, v7 = x4 + 1 → kb5 v6 v7 σ4)
set_option maxHeartbeats 4000000 in
set_option maxRecDepth 100000 in
theorem sbX3_prependDigits_22 {p : Program} {l : Launch} {e : Env} {s : State} {m : MethodId} {args : Array Value} {below : List Frame} {meth : Method} {c : Code} {E : qE} {L : List Nat} {G : qG} {A : Nat → Prop} (C : q_C p s m args meth c cX3_prependDigits 5 wsX3_prependDigits RX3 none E L G A) {h0 : Nat} {x2 : Int32} {x3 : Int32} {x4 : Int32} (Lh0 : h0 ∈ L) (Kh0 : G.1 h0 = 3) {post : qS → Prop} {kb5 : Int32 → Int32 → qS → Prop} (Hkb5 : ∀ (y3 : Int32) (y4 : Int32) (τ : qS), kb5 y3 y4 τ → Wd p l e (q_rm 2) s m args below meth c E L G A (MQ below (va_Qv post (q_B E L G) A) args s 0 0 A) 5 τ 5 [(0, .ref h0), (2, .int x2), (3, .int y3), (4, .int y4)] []) {σ : qS} (h : bkX3_prependDigits_22 G h0 x2 x3 x4 post kb5 σ) : Wd p l e (q_rm 2) s m args below meth c E L G A (MQ below (va_Qv post (q_B E L G) A) args s 0 0 A) 5 σ 22 [(0, .ref h0), (2, .int x2), (3, .int x3), (4, .int x4)] [] := by
  unfold bkX3_prependDigits_22 at h
  refine q_aload_n (pc := 22) C dX3_prependDigits_22 rfl 0 rfl ?_
  refine q_bipush (pc := 23) (v := 48) C dX3_prependDigits_23 (by decide) ?_
  refine q_iload_n (pc := 25) C dX3_prependDigits_25 rfl 2 rfl ?_
  refine q_bipush (pc := 26) (v := 10) C dX3_prependDigits_26 (by decide) ?_
  refine q_irem (pc := 28) C dX3_prependDigits_28 (by decide) ?_
  refine q_iadd (pc := 29) C dX3_prependDigits_29 ?_
  refine q_cVv (pc := 30) (As := [.int ((48 : Int32) + (x3 - x3 / 10 * 10))]) (ci := 3) (Cn := RX3) (T := TX3) (N := 2) C (sdX3_prepend C.2.2.2.2.2.1 C.2.2.2.2.2.2 Lh0 Kh0 h) (cwV 1 C.1.2.2.2.2 gX3_prependDigits_X3_prepend rfl rfl rfl (by decide +kernel) (q_room (by decide) (by decide))) Lh0 (qc3 Kh0 _) rfl rfl rfl (Nat.le_of_ble_eq_true rfl) dX3_prependDigits_30 (fun σ4 h => ?_)
  refine q_iload_n (pc := 33) C dX3_prependDigits_33 rfl 2 rfl ?_
  refine q_bipush (pc := 34) (v := 10) C dX3_prependDigits_34 (by decide) ?_
  refine q_idiv (pc := 36) C dX3_prependDigits_36 (by decide) ?_
  refine q_topi (fun v6 ev6 => ?_)
  replace h := h v6 ev6
  refine q_istore_n (pc := 37) (lv' := [(3, .int v6), (0, .ref h0), (2, .int x2), (4, .int x4)]) C dX3_prependDigits_37 rfl (by decide) rfl ?_
  obtain ⟨v7, ev7⟩ : ∃ z : Int32, z = x4 + 1 := ⟨_, rfl⟩
  replace h := h v7 ev7
  refine q_iinc (pc := 38) (v := v7) (j := 3) (lv' := [(4, .int v7), (3, .int v6), (0, .ref h0), (2, .int x2)]) C dX3_prependDigits_38 rfl (by rw [ev7]; rfl) (by decide) rfl ?_
  refine q_goto (tgt := 5) (pc := 41) C dX3_prependDigits_41 (by decide) ?_
  refine q_lv (lv' := [(0, .ref h0), (2, .int x2), (3, .int v6), (4, .int v7)]) [2, 3, 1, 0] rfl ?_
  exact Hkb5 v6 v7 σ4 h
def lpX3_prependDigits_5 (G : qG) (h0 : Nat) (x2 : Int32) (post : qS → Prop) (kx44 : qS → Prop) : Nat → Int32 → Int32 → qS → Prop
  | 0, _, _, _ => False
  | n + 1, x3, x4, σ => ((9 ≤ x4 → kx44 σ) ∧ (¬ 9 ≤ x4 → ((x4 < x2 → bkX3_prependDigits_22 G h0 x2 x3 x4 post (lpX3_prependDigits_5 G h0 x2 post kx44 n) σ) ∧ (¬ x4 < x2 → ((x3 ≤ 0 → kx44 σ) ∧ (¬ x3 ≤ 0 → bkX3_prependDigits_22 G h0 x2 x3 x4 post (lpX3_prependDigits_5 G h0 x2 post kx44 n) σ))))))
set_option maxHeartbeats 4000000 in
set_option maxRecDepth 100000 in
theorem slX3_prependDigits_5 {p : Program} {l : Launch} {e : Env} {s : State} {m : MethodId} {args : Array Value} {below : List Frame} {meth : Method} {c : Code} {E : qE} {L : List Nat} {G : qG} {A : Nat → Prop} (C : q_C p s m args meth c cX3_prependDigits 5 wsX3_prependDigits RX3 none E L G A) {h0 : Nat} {x2 : Int32} (Lh0 : h0 ∈ L) (Kh0 : G.1 h0 = 3) {post : qS → Prop} {kx44 : qS → Prop} (Hkx44 : ∀  (τ : qS), kx44  τ → Wd p l e (q_rm 2) s m args below meth c E L G A (MQ below (va_Qv post (q_B E L G) A) args s 0 0 A) 5 τ 44 [] []) : ∀ (n : Nat) (x3 : Int32) (x4 : Int32) (σ : qS), lpX3_prependDigits_5 G h0 x2 post kx44 n x3 x4 σ → Wd p l e (q_rm 2) s m args below meth c E L G A (MQ below (va_Qv post (q_B E L G) A) args s 0 0 A) 5 σ 5 [(0, .ref h0), (2, .int x2), (3, .int x3), (4, .int x4)] [] := by
  intro n
  induction n with
  | zero => intro x3 x4 σ h; exact h.elim
  | succ n ih =>
    intro x3 x4 σ h
    unfold lpX3_prependDigits_5 at h
    refine q_iload (pc := 5) C dX3_prependDigits_5 3 rfl ?_
    refine q_bipush (pc := 7) (v := 9) C dX3_prependDigits_7 (by decide) ?_
    refine q_icmp_ge (tgt := 44) (pc := 9) C dX3_prependDigits_9 (by decide) (fun c2 => ?_) (fun c2 => ?_)
    · replace h := h.1 c2
      refine q_lv (lv' := []) [] rfl ?_
      exact Hkx44  σ h
    · replace h := h.2 c2
      refine q_iload (pc := 12) C dX3_prependDigits_12 3 rfl ?_
      refine q_iload_n (pc := 14) C dX3_prependDigits_14 rfl 1 rfl ?_
      refine q_icmp_lt (tgt := 22) (pc := 15) C dX3_prependDigits_15 (by decide) (fun c3 => ?_) (fun c3 => ?_)
      · replace h := h.1 c3
        exact sbX3_prependDigits_22 C Lh0 Kh0 ih h
      · replace h := h.2 c3
        refine q_iload_n (pc := 18) C dX3_prependDigits_18 rfl 2 rfl ?_
        refine q_if_le (tgt := 44) (pc := 19) C dX3_prependDigits_19 (by decide) (fun c8 => ?_) (fun c8 => ?_)
        · replace h := h.1 c8
          refine q_lv (lv' := []) [] rfl ?_
          exact Hkx44  σ h
        · replace h := h.2 c8
          exact sbX3_prependDigits_22 C Lh0 Kh0 ih h
def wpX3_prependDigits (G : qG) (h0 : Nat) (x1 : Int32) (x2 : Int32) (σ : qS) (post : qS → Prop) : Prop := ∀ v1 : Int32, v1 = 0 → ∃ n10 : Nat, lpX3_prependDigits_5 G h0 x2 post (fun  (σ9 : qS) => post σ9) n10 x1 v1 σ
set_option maxHeartbeats 4000000 in
set_option maxRecDepth 100000 in
theorem sdX3_prependDigits {l : Launch} {E : qE} {L : List Nat} {G : qG} (hN : L.Nodup) (hG : q_WF G L) {h0 : Nat} {x1 : Int32} {x2 : Int32} (Lh0 : h0 ∈ L) (Kh0 : G.1 h0 = 3) {σ : qS} {post : qS → Prop} (h : wpX3_prependDigits G h0 x1 x2 σ post) : MtV l E L G yX3_prependDigits wsX3_prependDigits (q_rm 2) [.ref h0, .int x1, .int x2] σ post := by
  refine q_met (Qc := fun sz => va_Qv post (q_B E L G) (q_free L sz)) (cc := cX3_prependDigits) (maxL := 5) (ret := none) (own := RX3) (by decide) rfl rfl (Nat.le_of_ble_eq_true rfl) hN hG ?_
  intro p e s m below meth c C
  unfold wpX3_prependDigits at h
  refine q_iload_n (pc := 0) C dX3_prependDigits_0 rfl 1 rfl ?_
  refine q_istore_n (pc := 1) (lv' := [(3, .int x1), (0, .ref h0), (1, .int x1), (2, .int x2)]) C dX3_prependDigits_1 rfl (by decide) rfl ?_
  refine q_iconst (pc := 2) (v := 0) C dX3_prependDigits_2 (by decide) ?_
  refine q_topi (fun v1 ev1 => ?_)
  replace h := h v1 ev1
  refine q_istore (pc := 3) (lv' := [(4, .int v1), (3, .int x1), (0, .ref h0), (1, .int x1), (2, .int x2)]) C dX3_prependDigits_3 (by decide) rfl ?_
  refine q_lv (lv' := [(0, .ref h0), (2, .int x2), (3, .int x1), (4, .int v1)]) [2, 4, 1, 0] rfl ?_
  obtain ⟨n10, h⟩ := h
  refine slX3_prependDigits_5 C Lh0 Kh0 ?_ n10 x1 v1 σ h
  · intro σ9 h
    exact q_vret (pc := 44) C dX3_prependDigits_44 h
theorem mwX3_print_0 : ∀ w ∈ wsX30, w ∈ wsX3_print := by decide +kernel
theorem mwX3_print_1 : Cond.fieldLink RX3 9 "IntFile$Text" "bytes" "[B" ∈ wsX3_print := by decide +kernel
theorem mwX3_print_2 : Cond.fieldLink RX3 13 "IntFile$Text" "start" "I" ∈ wsX3_print := by decide +kernel
theorem mwX3_print_3 : Cond.constant RX3 23 (1000000000) ∈ wsX3_print := by decide +kernel
theorem mwX3_print_4 : ∀ w ∈ wsX40, w ∈ wsX3_print := by decide +kernel
theorem mwX3_print_5 : Cond.fieldLink RX3 36 "IntFile$Whole" "below" "Z" ∈ wsX3_print := by decide +kernel
def lpX3_print_24 (G : qG) (h0 : Nat) (h1 : Nat) (h2 : Nat) (post : qS → Prop) (kx61 : Int32 → qS → Prop) : Nat → Int32 → Int32 → qS → Prop
  | 0, _, _, _ => False
  | n + 1, x3, x4, σ => (((nI (G.2.2 ((G.2.1 h0 0)))) ≤ x4 → kx61 x3 σ) ∧ (¬ (nI (G.2.2 ((G.2.1 h0 0)))) ≤ x4 → wpX4_isZero G h2 σ (fun (u11 : Int32) (σ10 : qS) => ((u11 = 0 → wpX3_prependDigits G h0 x3 9 σ10 (fun (σ13 : qS) => wpX4_divideAndRest G h2 1000000000 σ13 (fun (u16 : Int32) (σ15 : qS) => ∀ v17 : Int32, v17 = x4 + 1 → lpX3_print_24 G h0 h1 h2 post kx61 n u16 v17 σ15))) ∧ (¬ u11 = 0 → kx61 x3 σ10)))))
set_option maxHeartbeats 4000000 in
set_option maxRecDepth 100000 in
theorem slX3_print_24 {p : Program} {l : Launch} {e : Env} {s : State} {m : MethodId} {args : Array Value} {below : List Frame} {meth : Method} {c : Code} {E : qE} {L : List Nat} {G : qG} {A : Nat → Prop} (C : q_C p s m args meth c cX3_print 5 wsX3_print RX3 none E L G A) {h0 : Nat} {h1 : Nat} {h2 : Nat} (Lh0 : h0 ∈ L) (Kh0 : G.1 h0 = 3) (Lh1 : h1 ∈ L) (Kh1 : G.1 h1 = 4) (Lh2 : h2 ∈ L) (Kh2 : G.1 h2 = 4) {post : qS → Prop} {kx61 : Int32 → qS → Prop} (Hkx61 : ∀ (y3 : Int32) (τ : qS), kx61 y3 τ → Wd p l e (q_rm 3) s m args below meth c E L G A (MQ below (va_Qv post (q_B E L G) A) args s 0 0 A) 5 τ 61 [(0, .ref h0), (1, .ref h1), (3, .int y3)] []) : ∀ (n : Nat) (x3 : Int32) (x4 : Int32) (σ : qS), lpX3_print_24 G h0 h1 h2 post kx61 n x3 x4 σ → Wd p l e (q_rm 3) s m args below meth c E L G A (MQ below (va_Qv post (q_B E L G) A) args s 0 0 A) 5 σ 24 [(0, .ref h0), (1, .ref h1), (2, .ref h2), (3, .int x3), (4, .int x4)] [] := by
  intro n
  induction n with
  | zero => intro x3 x4 σ h; exact h.elim
  | succ n ih =>
    intro x3 x4 σ h
    unfold lpX3_print_24 at h
    refine q_iload (pc := 24) C dX3_print_24 4 rfl ?_
    refine q_aload_n (pc := 26) C dX3_print_26 rfl 0 rfl ?_
    obtain ⟨Lr8, Kr8⟩ := qw_3_0 C.2.2.2.2.2.2 Lh0 Kh0
    refine q_g3_0 (pc := 27) C Lh0 Kh0 mwX3_print_0 mwX3_print_1 dX3_print_27 ?_
    refine q_alen8 (pc := 30) C Lr8 Kr8 dX3_print_30 ?_
    refine q_icmp_ge (tgt := 61) (pc := 31) C dX3_print_31 (by decide) (fun c9 => ?_) (fun c9 => ?_)
    · replace h := h.1 c9
      refine q_lv (lv' := [(0, .ref h0), (1, .ref h1), (3, .int x3)]) [0, 1, 3] rfl ?_
      exact Hkx61 x3 σ h
    · replace h := h.2 c9
      refine q_aload_n (pc := 34) C dX3_print_34 rfl 2 rfl ?_
      refine q_cVi (pc := 35) (As := []) (ci := 4) (Cn := RX4) (T := TX4) (N := 3) C (sdX4_isZero C.2.2.2.2.2.1 C.2.2.2.2.2.2 Lh2 Kh2 h) (cwV 0 C.1.2.2.2.2 gX3_print_X4_isZero rfl rfl rfl (by decide +kernel) (q_room (by decide) (by decide))) Lh2 (qc4 Kh2 _) rfl rfl rfl (Nat.le_of_ble_eq_true rfl) dX3_print_35 (fun u11 σ10 h => ?_)
      refine q_if_ne (tgt := 61) (pc := 38) C dX3_print_38 (by decide) (fun c12 => ?_) (fun c12 => ?_)
      · replace h := h.2 c12
        refine q_lv (lv' := [(0, .ref h0), (1, .ref h1), (3, .int x3)]) [0, 1, 3] rfl ?_
        exact Hkx61 x3 σ10 h
      · replace h := h.1 c12
        refine q_aload_n (pc := 41) C dX3_print_41 rfl 0 rfl ?_
        refine q_iload_n (pc := 42) C dX3_print_42 rfl 3 rfl ?_
        refine q_bipush (pc := 43) (v := 9) C dX3_print_43 (by decide) ?_
        refine q_cVv (pc := 45) (As := [.int x3, .int 9]) (ci := 3) (Cn := RX3) (T := TX3) (N := 2) C (sdX3_prependDigits C.2.2.2.2.2.1 C.2.2.2.2.2.2 Lh0 Kh0 h) (cwV 2 C.1.2.2.2.2 gX3_print_X3_prependDigits rfl rfl rfl (by decide +kernel) (q_room (by decide) (by decide))) Lh0 (qc3 Kh0 _) rfl rfl rfl (Nat.le_of_ble_eq_true rfl) dX3_print_45 (fun σ13 h => ?_)
        refine q_aload_n (pc := 48) C dX3_print_48 rfl 2 rfl ?_
        refine q_ldc (pc := 49) (v := 1000000000) C dX3_print_49 mwX3_print_3 ?_
        refine q_cVi (pc := 51) (As := [.int 1000000000]) (ci := 4) (Cn := RX4) (T := TX4) (N := 3) C (sdX4_divideAndRest C.2.2.2.2.2.1 C.2.2.2.2.2.2 Lh2 Kh2 h) (cwV 1 C.1.2.2.2.2 gX3_print_X4_divideAndRest rfl rfl rfl (by decide +kernel) (q_room (by decide) (by decide))) Lh2 (qc4 Kh2 _) rfl rfl rfl (Nat.le_of_ble_eq_true rfl) dX3_print_51 (fun u16 σ15 h => ?_)
        refine q_istore_n (pc := 54) (lv' := [(3, .int u16), (0, .ref h0), (1, .ref h1), (2, .ref h2), (4, .int x4)]) C dX3_print_54 rfl (by decide) rfl ?_
        obtain ⟨v17, ev17⟩ : ∃ z : Int32, z = x4 + 1 := ⟨_, rfl⟩
        replace h := h v17 ev17
        refine q_iinc (pc := 55) (v := v17) (j := 4) (lv' := [(4, .int v17), (3, .int u16), (0, .ref h0), (1, .ref h1), (2, .ref h2)]) C dX3_print_55 rfl (by rw [ev17]; rfl) (by decide) rfl ?_
        refine q_goto (tgt := 24) (pc := 58) C dX3_print_58 (by decide) ?_
        refine q_lv (lv' := [(0, .ref h0), (1, .ref h1), (2, .ref h2), (3, .int u16), (4, .int v17)]) [2, 3, 4, 1, 0] rfl ?_
        exact ih u16 v17 σ15 h
def bkX3_print_61 (G : qG) (h0 : Nat) (h1 : Nat) (x3 : Int32) (post : qS → Prop) (σ : qS) : Prop := wpX3_prependDigits G h0 x3 1 σ (fun (σ20 : qS) => (((σ20 h1 2) = 0 → post σ20) ∧ (¬ (σ20 h1 2) = 0 → wpX3_prepend G h0 45 σ20 (fun (σ23 : qS) => post σ23))))
set_option maxHeartbeats 4000000 in
set_option maxRecDepth 100000 in
theorem sbX3_print_61 {p : Program} {l : Launch} {e : Env} {s : State} {m : MethodId} {args : Array Value} {below : List Frame} {meth : Method} {c : Code} {E : qE} {L : List Nat} {G : qG} {A : Nat → Prop} (C : q_C p s m args meth c cX3_print 5 wsX3_print RX3 none E L G A) {h0 : Nat} {h1 : Nat} {x3 : Int32} (Lh0 : h0 ∈ L) (Kh0 : G.1 h0 = 3) (Lh1 : h1 ∈ L) (Kh1 : G.1 h1 = 4) {post : qS → Prop} {σ : qS} (h : bkX3_print_61 G h0 h1 x3 post σ) : Wd p l e (q_rm 3) s m args below meth c E L G A (MQ below (va_Qv post (q_B E L G) A) args s 0 0 A) 5 σ 61 [(0, .ref h0), (1, .ref h1), (3, .int x3)] [] := by
  unfold bkX3_print_61 at h
  refine q_aload_n (pc := 61) C dX3_print_61 rfl 0 rfl ?_
  refine q_iload_n (pc := 62) C dX3_print_62 rfl 2 rfl ?_
  refine q_iconst (pc := 63) (v := 1) C dX3_print_63 (by decide) ?_
  refine q_cVv (pc := 64) (As := [.int x3, .int 1]) (ci := 3) (Cn := RX3) (T := TX3) (N := 2) C (sdX3_prependDigits C.2.2.2.2.2.1 C.2.2.2.2.2.2 Lh0 Kh0 h) (cwV 2 C.1.2.2.2.2 gX3_print_X3_prependDigits rfl rfl rfl (by decide +kernel) (q_room (by decide) (by decide))) Lh0 (qc3 Kh0 _) rfl rfl rfl (Nat.le_of_ble_eq_true rfl) dX3_print_64 (fun σ20 h => ?_)
  refine q_aload_n (pc := 67) C dX3_print_67 rfl 1 rfl ?_
  refine q_g4_2 (pc := 68) C Lh1 Kh1 mwX3_print_4 mwX3_print_5 dX3_print_68 ?_
  refine q_if_eq (tgt := 80) (pc := 71) C dX3_print_71 (by decide) (fun c22 => ?_) (fun c22 => ?_)
  · replace h := h.1 c22
    exact q_vret (pc := 80) C dX3_print_80 h
  · replace h := h.2 c22
    refine q_aload_n (pc := 74) C dX3_print_74 rfl 0 rfl ?_
    refine q_bipush (pc := 75) (v := 45) C dX3_print_75 (by decide) ?_
    refine q_cVv (pc := 77) (As := [.int 45]) (ci := 3) (Cn := RX3) (T := TX3) (N := 2) C (sdX3_prepend C.2.2.2.2.2.1 C.2.2.2.2.2.2 Lh0 Kh0 h) (cwV 1 C.1.2.2.2.2 gX3_print_X3_prepend rfl rfl rfl (by decide +kernel) (q_room (by decide) (by decide))) Lh0 (qc3 Kh0 _) rfl rfl rfl (Nat.le_of_ble_eq_true rfl) dX3_print_77 (fun σ23 h => ?_)
    exact q_vret (pc := 80) C dX3_print_80 h
def wpX3_print (G : qG) (h0 : Nat) (h1 : Nat) (h2 : Nat) (σ : qS) (post : qS → Prop) : Prop := wpX4_become G h2 h1 σ (fun (σ1 : qS) => ∀ σ4 : qS, σ4 = q_st σ1 h0 1 (nI (G.2.2 ((G.2.1 h0 0)))) → wpX4_divideAndRest G h2 1000000000 σ4 (fun (u6 : Int32) (σ5 : qS) => ∀ v7 : Int32, v7 = 0 → ∃ n25 : Nat, lpX3_print_24 G h0 h1 h2 post (fun (w18 : Int32) (σ19 : qS) => bkX3_print_61 G h0 h1 w18 post σ19) n25 u6 v7 σ5))
set_option maxHeartbeats 4000000 in
set_option maxRecDepth 100000 in
theorem sdX3_print {l : Launch} {E : qE} {L : List Nat} {G : qG} (hN : L.Nodup) (hG : q_WF G L) {h0 : Nat} {h1 : Nat} {h2 : Nat} (Lh0 : h0 ∈ L) (Kh0 : G.1 h0 = 3) (Lh1 : h1 ∈ L) (Kh1 : G.1 h1 = 4) (Lh2 : h2 ∈ L) (Kh2 : G.1 h2 = 4) {σ : qS} {post : qS → Prop} (h : wpX3_print G h0 h1 h2 σ post) : MtV l E L G yX3_print wsX3_print (q_rm 3) [.ref h0, .ref h1, .ref h2] σ post := by
  refine q_met (Qc := fun sz => va_Qv post (q_B E L G) (q_free L sz)) (cc := cX3_print) (maxL := 5) (ret := none) (own := RX3) (by decide) rfl rfl (Nat.le_of_ble_eq_true rfl) hN hG ?_
  intro p e s m below meth c C
  unfold wpX3_print at h
  refine q_aload_n (pc := 0) C dX3_print_0 rfl 2 rfl ?_
  refine q_aload_n (pc := 1) C dX3_print_1 rfl 1 rfl ?_
  refine q_cVv (pc := 2) (As := [.ref h1]) (ci := 4) (Cn := RX4) (T := TX4) (N := 3) C (sdX4_become C.2.2.2.2.2.1 C.2.2.2.2.2.2 Lh2 Kh2 Lh1 Kh1 h) (cwV 1 C.1.2.2.2.2 gX3_print_X4_become rfl rfl rfl (by decide +kernel) (q_room (by decide) (by decide))) Lh2 (qc4 Kh2 _) rfl rfl rfl (Nat.le_of_ble_eq_true rfl) dX3_print_2 (fun σ1 h => ?_)
  refine q_aload_n (pc := 5) C dX3_print_5 rfl 0 rfl ?_
  refine q_aload_n (pc := 6) C dX3_print_6 rfl 0 rfl ?_
  obtain ⟨Lr3, Kr3⟩ := qw_3_0 C.2.2.2.2.2.2 Lh0 Kh0
  refine q_g3_0 (pc := 7) C Lh0 Kh0 mwX3_print_0 mwX3_print_1 dX3_print_7 ?_
  refine q_alen8 (pc := 10) C Lr3 Kr3 dX3_print_10 ?_
  refine q_p3_1 (pc := 11) C Lh0 Kh0 mwX3_print_0 mwX3_print_2 dX3_print_11 (fun σ4 eσ4 => ?_)
  replace h := h σ4 eσ4
  refine q_aload_n (pc := 14) C dX3_print_14 rfl 2 rfl ?_
  refine q_ldc (pc := 15) (v := 1000000000) C dX3_print_15 mwX3_print_3 ?_
  refine q_cVi (pc := 17) (As := [.int 1000000000]) (ci := 4) (Cn := RX4) (T := TX4) (N := 3) C (sdX4_divideAndRest C.2.2.2.2.2.1 C.2.2.2.2.2.2 Lh2 Kh2 h) (cwV 1 C.1.2.2.2.2 gX3_print_X4_divideAndRest rfl rfl rfl (by decide +kernel) (q_room (by decide) (by decide))) Lh2 (qc4 Kh2 _) rfl rfl rfl (Nat.le_of_ble_eq_true rfl) dX3_print_17 (fun u6 σ5 h => ?_)
  refine q_istore_n (pc := 20) (lv' := [(3, .int u6), (0, .ref h0), (1, .ref h1), (2, .ref h2)]) C dX3_print_20 rfl (by decide) rfl ?_
  refine q_iconst (pc := 21) (v := 0) C dX3_print_21 (by decide) ?_
  refine q_topi (fun v7 ev7 => ?_)
  replace h := h v7 ev7
  refine q_istore (pc := 22) (lv' := [(4, .int v7), (3, .int u6), (0, .ref h0), (1, .ref h1), (2, .ref h2)]) C dX3_print_22 (by decide) rfl ?_
  refine q_lv (lv' := [(0, .ref h0), (1, .ref h1), (2, .ref h2), (3, .int u6), (4, .int v7)]) [2, 3, 4, 1, 0] rfl ?_
  obtain ⟨n25, h⟩ := h
  refine slX3_print_24 C Lh0 Kh0 Lh1 Kh1 Lh2 Kh2 ?_ n25 u6 v7 σ5 h
  · intro w18 σ19 h
    exact sbX3_print_61 C Lh0 Kh0 Lh1 Kh1 h

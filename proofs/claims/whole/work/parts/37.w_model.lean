theorem mwX6_digit_0 : ∀ w ∈ wsX60, w ∈ wsX6_digit := by decide +kernel
theorem mwX6_digit_1 : Cond.fieldLink RX6 13 "IntFileModel" "lens" "[I" ∈ wsX6_digit := by decide +kernel
theorem mwX6_digit_2 : Cond.fieldLink RX6 7 "IntFileModel" "cells" "[I" ∈ wsX6_digit := by decide +kernel
def wpX6_digit (G : qG) (h0 : Nat) (x1 : Int32) (x2 : Int32) (σ : qS) (post : Int32 → qS → Prop) : Prop := vp_in x1 (G.2.2 ((G.2.1 h0 3))) ∧ (((σ ((G.2.1 h0 3)) x1.toNatClampNeg) ≤ x2 → post 0 σ) ∧ (¬ (σ ((G.2.1 h0 3)) x1.toNatClampNeg) ≤ x2 → vp_in (((520 : Int32) * x1) + x2) (G.2.2 ((G.2.1 h0 2))) ∧ post (σ ((G.2.1 h0 2)) (((520 : Int32) * x1) + x2).toNatClampNeg) σ))
set_option maxHeartbeats 4000000 in
set_option maxRecDepth 100000 in
theorem sdX6_digit {l : Launch} {E : qE} {L : List Nat} {G : qG} (hN : L.Nodup) (hG : q_WF G L) {h0 : Nat} {x1 : Int32} {x2 : Int32} (Lh0 : h0 ∈ L) (Kh0 : G.1 h0 = 6) {σ : qS} {post : Int32 → qS → Prop} (h : wpX6_digit G h0 x1 x2 σ post) : MtI l E L G yX6_digit wsX6_digit (q_rm 1) [.ref h0, .int x1, .int x2] σ post := by
  refine q_met (Qc := fun sz => va_Qi post (q_B E L G) (q_free L sz)) (cc := cX6_digit) (maxL := 3) (ret := (some .int)) (own := RX6) (by decide) rfl rfl (Nat.le_of_ble_eq_true rfl) hN hG ?_
  intro p e s m below meth c C
  unfold wpX6_digit at h
  refine q_iload_n (pc := 0) C dX6_digit_0 rfl 2 rfl ?_
  refine q_aload_n (pc := 1) C dX6_digit_1 rfl 0 rfl ?_
  obtain ⟨Lr1, Kr1⟩ := qw_6_3 C.2.2.2.2.2.2 Lh0 Kh0
  refine q_g6_3 (pc := 2) C Lh0 Kh0 mwX6_digit_0 mwX6_digit_1 dX6_digit_2 ?_
  refine q_iload_n (pc := 5) C dX6_digit_5 rfl 1 rfl ?_
  obtain ⟨b2, h⟩ := h
  refine q_iald (pc := 6) C Lr1 Kr1 b2 dX6_digit_6 ?_
  refine q_icmp_ge (tgt := 25) (pc := 7) C dX6_digit_7 (by decide) (fun c3 => ?_) (fun c3 => ?_)
  · replace h := h.1 c3
    refine q_iconst (pc := 25) (v := 0) C dX6_digit_25 (by decide) ?_
    exact q_iret (pc := 26) C dX6_digit_26 h
  · replace h := h.2 c3
    refine q_aload_n (pc := 10) C dX6_digit_10 rfl 0 rfl ?_
    obtain ⟨Lr4, Kr4⟩ := qw_6_2 C.2.2.2.2.2.2 Lh0 Kh0
    refine q_g6_2 (pc := 11) C Lh0 Kh0 mwX6_digit_0 mwX6_digit_2 dX6_digit_11 ?_
    refine q_sipush (pc := 14) (v := 520) C dX6_digit_14 (by decide) ?_
    refine q_iload_n (pc := 17) C dX6_digit_17 rfl 1 rfl ?_
    refine q_imul (pc := 18) C dX6_digit_18 ?_
    refine q_iload_n (pc := 19) C dX6_digit_19 rfl 2 rfl ?_
    refine q_iadd (pc := 20) C dX6_digit_20 ?_
    obtain ⟨b5, h⟩ := h
    refine q_iald (pc := 21) C Lr4 Kr4 b5 dX6_digit_21 ?_
    refine q_goto (tgt := 26) (pc := 22) C dX6_digit_22 (by decide) ?_
    exact q_iret (pc := 26) C dX6_digit_26 h
theorem mwX6_put_0 : ∀ w ∈ wsX60, w ∈ wsX6_put := by decide +kernel
theorem mwX6_put_1 : Cond.fieldLink RX6 7 "IntFileModel" "cells" "[I" ∈ wsX6_put := by decide +kernel
def wpX6_put (G : qG) (h0 : Nat) (x1 : Int32) (x2 : Int32) (x3 : Int32) (σ : qS) (post : qS → Prop) : Prop := vp_in (((520 : Int32) * x1) + x2) (G.2.2 ((G.2.1 h0 2))) ∧ ∀ σ3 : qS, σ3 = q_st σ ((G.2.1 h0 2)) (((520 : Int32) * x1) + x2).toNatClampNeg x3 → post σ3
set_option maxHeartbeats 4000000 in
set_option maxRecDepth 100000 in
theorem sdX6_put {l : Launch} {E : qE} {L : List Nat} {G : qG} (hN : L.Nodup) (hG : q_WF G L) {h0 : Nat} {x1 : Int32} {x2 : Int32} {x3 : Int32} (Lh0 : h0 ∈ L) (Kh0 : G.1 h0 = 6) {σ : qS} {post : qS → Prop} (h : wpX6_put G h0 x1 x2 x3 σ post) : MtV l E L G yX6_put wsX6_put (q_rm 1) [.ref h0, .int x1, .int x2, .int x3] σ post := by
  refine q_met (Qc := fun sz => va_Qv post (q_B E L G) (q_free L sz)) (cc := cX6_put) (maxL := 4) (ret := none) (own := RX6) (by decide) rfl rfl (Nat.le_of_ble_eq_true rfl) hN hG ?_
  intro p e s m below meth c C
  unfold wpX6_put at h
  refine q_aload_n (pc := 0) C dX6_put_0 rfl 0 rfl ?_
  obtain ⟨Lr1, Kr1⟩ := qw_6_2 C.2.2.2.2.2.2 Lh0 Kh0
  refine q_g6_2 (pc := 1) C Lh0 Kh0 mwX6_put_0 mwX6_put_1 dX6_put_1 ?_
  refine q_sipush (pc := 4) (v := 520) C dX6_put_4 (by decide) ?_
  refine q_iload_n (pc := 7) C dX6_put_7 rfl 1 rfl ?_
  refine q_imul (pc := 8) C dX6_put_8 ?_
  refine q_iload_n (pc := 9) C dX6_put_9 rfl 2 rfl ?_
  refine q_iadd (pc := 10) C dX6_put_10 ?_
  refine q_iload_n (pc := 11) C dX6_put_11 rfl 3 rfl ?_
  obtain ⟨b2, h⟩ := h
  refine q_iast (pc := 12) C Lr1 Kr1 b2 dX6_put_12 (fun σ3 eσ3 => ?_)
  replace h := h σ3 eσ3
  exact q_vret (pc := 13) C dX6_put_13 h
theorem mwX6_trim_0 : ∀ w ∈ wsX60, w ∈ wsX6_trim := by decide +kernel
theorem mwX6_trim_1 : Cond.fieldLink RX6 7 "IntFileModel" "cells" "[I" ∈ wsX6_trim := by decide +kernel
theorem mwX6_trim_2 : Cond.fieldLink RX6 13 "IntFileModel" "lens" "[I" ∈ wsX6_trim := by decide +kernel
theorem mwX6_trim_3 : Cond.fieldLink RX6 16 "IntFileModel" "below" "[Z" ∈ wsX6_trim := by decide +kernel
def lpX6_trim_2 (G : qG) (h0 : Nat) (x1 : Int32) (post : qS → Prop) (kx29 : Int32 → qS → Prop) : Nat → Int32 → qS → Prop
  | 0, _, _ => False
  | n + 1, x3, σ => ((x3 ≤ 0 → kx29 x3 σ) ∧ (¬ x3 ≤ 0 → vp_in ((((520 : Int32) * x1) + x3) - 1) (G.2.2 ((G.2.1 h0 2))) ∧ (((σ ((G.2.1 h0 2)) ((((520 : Int32) * x1) + x3) - 1).toNatClampNeg) = 0 → ∀ v5 : Int32, v5 = x3 + (-1) → lpX6_trim_2 G h0 x1 post kx29 n v5 σ) ∧ (¬ (σ ((G.2.1 h0 2)) ((((520 : Int32) * x1) + x3) - 1).toNatClampNeg) = 0 → kx29 x3 σ))))
set_option maxHeartbeats 4000000 in
set_option maxRecDepth 100000 in
theorem slX6_trim_2 {p : Program} {l : Launch} {e : Env} {s : State} {m : MethodId} {args : Array Value} {below : List Frame} {meth : Method} {c : Code} {E : qE} {L : List Nat} {G : qG} {A : Nat → Prop} (C : q_C p s m args meth c cX6_trim 4 wsX6_trim RX6 none E L G A) {h0 : Nat} {x1 : Int32} (Lh0 : h0 ∈ L) (Kh0 : G.1 h0 = 6) {post : qS → Prop} {kx29 : Int32 → qS → Prop} (Hkx29 : ∀ (y3 : Int32) (τ : qS), kx29 y3 τ → Wd p l e (q_rm 1) s m args below meth c E L G A (MQ below (va_Qv post (q_B E L G) A) args s 0 0 A) 4 τ 29 [(0, .ref h0), (1, .int x1), (3, .int y3)] []) : ∀ (n : Nat) (x3 : Int32) (σ : qS), lpX6_trim_2 G h0 x1 post kx29 n x3 σ → Wd p l e (q_rm 1) s m args below meth c E L G A (MQ below (va_Qv post (q_B E L G) A) args s 0 0 A) 4 σ 2 [(0, .ref h0), (1, .int x1), (3, .int x3)] [] := by
  intro n
  induction n with
  | zero => intro x3 σ h; exact h.elim
  | succ n ih =>
    intro x3 σ h
    unfold lpX6_trim_2 at h
    refine q_iload_n (pc := 2) C dX6_trim_2 rfl 2 rfl ?_
    refine q_if_le (tgt := 29) (pc := 3) C dX6_trim_3 (by decide) (fun c1 => ?_) (fun c1 => ?_)
    · replace h := h.1 c1
      exact Hkx29 x3 σ h
    · replace h := h.2 c1
      refine q_aload_n (pc := 6) C dX6_trim_6 rfl 0 rfl ?_
      obtain ⟨Lr2, Kr2⟩ := qw_6_2 C.2.2.2.2.2.2 Lh0 Kh0
      refine q_g6_2 (pc := 7) C Lh0 Kh0 mwX6_trim_0 mwX6_trim_1 dX6_trim_7 ?_
      refine q_sipush (pc := 10) (v := 520) C dX6_trim_10 (by decide) ?_
      refine q_iload_n (pc := 13) C dX6_trim_13 rfl 1 rfl ?_
      refine q_imul (pc := 14) C dX6_trim_14 ?_
      refine q_iload_n (pc := 15) C dX6_trim_15 rfl 2 rfl ?_
      refine q_iadd (pc := 16) C dX6_trim_16 ?_
      refine q_iconst (pc := 17) (v := 1) C dX6_trim_17 (by decide) ?_
      refine q_isub (pc := 18) C dX6_trim_18 ?_
      obtain ⟨b3, h⟩ := h
      refine q_iald (pc := 19) C Lr2 Kr2 b3 dX6_trim_19 ?_
      refine q_if_ne (tgt := 29) (pc := 20) C dX6_trim_20 (by decide) (fun c4 => ?_) (fun c4 => ?_)
      · replace h := h.2 c4
        exact Hkx29 x3 σ h
      · replace h := h.1 c4
        obtain ⟨v5, ev5⟩ : ∃ z : Int32, z = x3 + (-1) := ⟨_, rfl⟩
        replace h := h v5 ev5
        refine q_iinc (pc := 23) (v := v5) (j := 2) (lv' := [(3, .int v5), (0, .ref h0), (1, .int x1)]) C dX6_trim_23 rfl (by rw [ev5]; rfl) (by decide) rfl ?_
        refine q_goto (tgt := 2) (pc := 26) C dX6_trim_26 (by decide) ?_
        refine q_lv (lv' := [(0, .ref h0), (1, .int x1), (3, .int v5)]) [1, 2, 0] rfl ?_
        exact ih v5 σ h
def bkX6_trim_58 (G : qG) (s0 : Nat) (s1 : Int32) (post : qS → Prop) (σ : qS) : Prop := vp_in s1 (G.2.2 s0) ∧ ∀ σ15 : qS, σ15 = q_st σ s0 s1.toNatClampNeg 0 → post σ15
set_option maxHeartbeats 4000000 in
set_option maxRecDepth 100000 in
theorem sbX6_trim_58 {p : Program} {l : Launch} {e : Env} {s : State} {m : MethodId} {args : Array Value} {below : List Frame} {meth : Method} {c : Code} {E : qE} {L : List Nat} {G : qG} {A : Nat → Prop} (C : q_C p s m args meth c cX6_trim 4 wsX6_trim RX6 none E L G A) {s0 : Nat} {s1 : Int32} (Ls0 : s0 ∈ L) (Ks0 : G.1 s0 = 9) {post : qS → Prop} {σ : qS} (h : bkX6_trim_58 G s0 s1 post σ) : Wd p l e (q_rm 1) s m args below meth c E L G A (MQ below (va_Qv post (q_B E L G) A) args s 0 0 A) 4 σ 58 [] [.int s1, .ref s0] := by
  unfold bkX6_trim_58 at h
  refine q_iconst (pc := 58) (v := 0) C dX6_trim_58 (by decide) ?_
  obtain ⟨b14, h⟩ := h
  refine q_zast (pc := 59) C Ls0 Ks0 b14 (Or.inl rfl) dX6_trim_59 (fun σ15 eσ15 => ?_)
  replace h := h σ15 eσ15
  exact q_vret (pc := 60) C dX6_trim_60 h
def bkX6_trim_29 (G : qG) (h0 : Nat) (x1 : Int32) (x3 : Int32) (post : qS → Prop) (σ : qS) : Prop := vp_in x1 (G.2.2 ((G.2.1 h0 3))) ∧ ∀ σ10 : qS, σ10 = q_st σ ((G.2.1 h0 3)) x1.toNatClampNeg x3 → vp_in x1 (G.2.2 ((G.2.1 h0 4))) ∧ (((σ10 ((G.2.1 h0 4)) x1.toNatClampNeg) = 0 → bkX6_trim_58 G ((G.2.1 h0 4)) x1 post σ10) ∧ (¬ (σ10 ((G.2.1 h0 4)) x1.toNatClampNeg) = 0 → ((x3 ≤ 0 → bkX6_trim_58 G ((G.2.1 h0 4)) x1 post σ10) ∧ (¬ x3 ≤ 0 → vp_in x1 (G.2.2 ((G.2.1 h0 4))) ∧ ∀ σ18 : qS, σ18 = q_st σ10 ((G.2.1 h0 4)) x1.toNatClampNeg 1 → post σ18))))
set_option maxHeartbeats 4000000 in
set_option maxRecDepth 100000 in
theorem sbX6_trim_29 {p : Program} {l : Launch} {e : Env} {s : State} {m : MethodId} {args : Array Value} {below : List Frame} {meth : Method} {c : Code} {E : qE} {L : List Nat} {G : qG} {A : Nat → Prop} (C : q_C p s m args meth c cX6_trim 4 wsX6_trim RX6 none E L G A) {h0 : Nat} {x1 : Int32} {x3 : Int32} (Lh0 : h0 ∈ L) (Kh0 : G.1 h0 = 6) {post : qS → Prop} {σ : qS} (h : bkX6_trim_29 G h0 x1 x3 post σ) : Wd p l e (q_rm 1) s m args below meth c E L G A (MQ below (va_Qv post (q_B E L G) A) args s 0 0 A) 4 σ 29 [(0, .ref h0), (1, .int x1), (3, .int x3)] [] := by
  unfold bkX6_trim_29 at h
  refine q_aload_n (pc := 29) C dX6_trim_29 rfl 0 rfl ?_
  obtain ⟨Lr8, Kr8⟩ := qw_6_3 C.2.2.2.2.2.2 Lh0 Kh0
  refine q_g6_3 (pc := 30) C Lh0 Kh0 mwX6_trim_0 mwX6_trim_2 dX6_trim_30 ?_
  refine q_iload_n (pc := 33) C dX6_trim_33 rfl 1 rfl ?_
  refine q_iload_n (pc := 34) C dX6_trim_34 rfl 2 rfl ?_
  obtain ⟨b9, h⟩ := h
  refine q_iast (pc := 35) C Lr8 Kr8 b9 dX6_trim_35 (fun σ10 eσ10 => ?_)
  replace h := h σ10 eσ10
  refine q_aload_n (pc := 36) C dX6_trim_36 rfl 0 rfl ?_
  obtain ⟨Lr11, Kr11⟩ := qw_6_4 C.2.2.2.2.2.2 Lh0 Kh0
  refine q_g6_4 (pc := 37) C Lh0 Kh0 mwX6_trim_0 mwX6_trim_3 dX6_trim_37 ?_
  refine q_iload_n (pc := 40) C dX6_trim_40 rfl 1 rfl ?_
  refine q_aload_n (pc := 41) C dX6_trim_41 rfl 0 rfl ?_
  refine q_g6_4 (pc := 42) C Lh0 Kh0 mwX6_trim_0 mwX6_trim_3 dX6_trim_42 ?_
  refine q_iload_n (pc := 45) C dX6_trim_45 rfl 1 rfl ?_
  obtain ⟨b12, h⟩ := h
  refine q_zald (pc := 46) C Lr11 Kr11 b12 dX6_trim_46 ?_
  refine q_if_eq (tgt := 58) (pc := 47) C dX6_trim_47 (by decide) (fun c13 => ?_) (fun c13 => ?_)
  · replace h := h.1 c13
    refine q_lv (lv' := []) [] rfl ?_
    exact sbX6_trim_58 C Lr11 Kr11 h
  · replace h := h.2 c13
    refine q_iload_n (pc := 50) C dX6_trim_50 rfl 2 rfl ?_
    refine q_if_le (tgt := 58) (pc := 51) C dX6_trim_51 (by decide) (fun c16 => ?_) (fun c16 => ?_)
    · replace h := h.1 c16
      refine q_lv (lv' := []) [] rfl ?_
      exact sbX6_trim_58 C Lr11 Kr11 h
    · replace h := h.2 c16
      refine q_iconst (pc := 54) (v := 1) C dX6_trim_54 (by decide) ?_
      refine q_goto (tgt := 59) (pc := 55) C dX6_trim_55 (by decide) ?_
      obtain ⟨b17, h⟩ := h
      refine q_zast (pc := 59) C Lr11 Kr11 b17 (Or.inr rfl) dX6_trim_59 (fun σ18 eσ18 => ?_)
      replace h := h σ18 eσ18
      exact q_vret (pc := 60) C dX6_trim_60 h
def wpX6_trim (G : qG) (h0 : Nat) (x1 : Int32) (x2 : Int32) (σ : qS) (post : qS → Prop) : Prop := ∃ n19 : Nat, lpX6_trim_2 G h0 x1 post (fun (w6 : Int32) (σ7 : qS) => bkX6_trim_29 G h0 x1 w6 post σ7) n19 x2 σ
set_option maxHeartbeats 4000000 in
set_option maxRecDepth 100000 in
theorem sdX6_trim {l : Launch} {E : qE} {L : List Nat} {G : qG} (hN : L.Nodup) (hG : q_WF G L) {h0 : Nat} {x1 : Int32} {x2 : Int32} (Lh0 : h0 ∈ L) (Kh0 : G.1 h0 = 6) {σ : qS} {post : qS → Prop} (h : wpX6_trim G h0 x1 x2 σ post) : MtV l E L G yX6_trim wsX6_trim (q_rm 1) [.ref h0, .int x1, .int x2] σ post := by
  refine q_met (Qc := fun sz => va_Qv post (q_B E L G) (q_free L sz)) (cc := cX6_trim) (maxL := 4) (ret := none) (own := RX6) (by decide) rfl rfl (Nat.le_of_ble_eq_true rfl) hN hG ?_
  intro p e s m below meth c C
  unfold wpX6_trim at h
  refine q_iload_n (pc := 0) C dX6_trim_0 rfl 2 rfl ?_
  refine q_istore_n (pc := 1) (lv' := [(3, .int x2), (0, .ref h0), (1, .int x1), (2, .int x2)]) C dX6_trim_1 rfl (by decide) rfl ?_
  refine q_lv (lv' := [(0, .ref h0), (1, .int x1), (3, .int x2)]) [1, 2, 0] rfl ?_
  obtain ⟨n19, h⟩ := h
  refine slX6_trim_2 C Lh0 Kh0 ?_ n19 x2 σ h
  · intro w6 σ7 h
    exact sbX6_trim_29 C Lh0 Kh0 h
theorem mwX6_move_0 : ∀ w ∈ wsX60, w ∈ wsX6_move := by decide +kernel
theorem mwX6_move_1 : Cond.fieldLink RX6 13 "IntFileModel" "lens" "[I" ∈ wsX6_move := by decide +kernel
theorem mwX6_move_2 : Cond.fieldLink RX6 7 "IntFileModel" "cells" "[I" ∈ wsX6_move := by decide +kernel
theorem mwX6_move_3 : Cond.fieldLink RX6 16 "IntFileModel" "below" "[Z" ∈ wsX6_move := by decide +kernel
def lpX6_move_2 (G : qG) (h0 : Nat) (x1 : Int32) (x2 : Int32) (post : qS → Prop) (kx42 : qS → Prop) : Nat → Int32 → qS → Prop
  | 0, _, _ => False
  | n + 1, x3, σ => vp_in x2 (G.2.2 ((G.2.1 h0 3))) ∧ (((σ ((G.2.1 h0 3)) x2.toNatClampNeg) ≤ x3 → kx42 σ) ∧ (¬ (σ ((G.2.1 h0 3)) x2.toNatClampNeg) ≤ x3 → vp_in (((520 : Int32) * x2) + x3) (G.2.2 ((G.2.1 h0 2))) ∧ vp_in (((520 : Int32) * x1) + x3) (G.2.2 ((G.2.1 h0 2))) ∧ ∀ σ8 : qS, σ8 = q_st σ ((G.2.1 h0 2)) (((520 : Int32) * x1) + x3).toNatClampNeg ((σ ((G.2.1 h0 2)) (((520 : Int32) * x2) + x3).toNatClampNeg)) → ∀ v9 : Int32, v9 = x3 + 1 → lpX6_move_2 G h0 x1 x2 post kx42 n v9 σ8))
set_option maxHeartbeats 4000000 in
set_option maxRecDepth 100000 in
theorem slX6_move_2 {p : Program} {l : Launch} {e : Env} {s : State} {m : MethodId} {args : Array Value} {below : List Frame} {meth : Method} {c : Code} {E : qE} {L : List Nat} {G : qG} {A : Nat → Prop} (C : q_C p s m args meth c cX6_move 4 wsX6_move RX6 none E L G A) {h0 : Nat} {x1 : Int32} {x2 : Int32} (Lh0 : h0 ∈ L) (Kh0 : G.1 h0 = 6) {post : qS → Prop} {kx42 : qS → Prop} (Hkx42 : ∀  (τ : qS), kx42  τ → Wd p l e (q_rm 1) s m args below meth c E L G A (MQ below (va_Qv post (q_B E L G) A) args s 0 0 A) 4 τ 42 [(0, .ref h0), (1, .int x1), (2, .int x2)] []) : ∀ (n : Nat) (x3 : Int32) (σ : qS), lpX6_move_2 G h0 x1 x2 post kx42 n x3 σ → Wd p l e (q_rm 1) s m args below meth c E L G A (MQ below (va_Qv post (q_B E L G) A) args s 0 0 A) 4 σ 2 [(0, .ref h0), (1, .int x1), (2, .int x2), (3, .int x3)] [] := by
  intro n
  induction n with
  | zero => intro x3 σ h; exact h.elim
  | succ n ih =>
    intro x3 σ h
    unfold lpX6_move_2 at h
    refine q_iload_n (pc := 2) C dX6_move_2 rfl 3 rfl ?_
    refine q_aload_n (pc := 3) C dX6_move_3 rfl 0 rfl ?_
    obtain ⟨Lr2, Kr2⟩ := qw_6_3 C.2.2.2.2.2.2 Lh0 Kh0
    refine q_g6_3 (pc := 4) C Lh0 Kh0 mwX6_move_0 mwX6_move_1 dX6_move_4 ?_
    refine q_iload_n (pc := 7) C dX6_move_7 rfl 2 rfl ?_
    obtain ⟨b3, h⟩ := h
    refine q_iald (pc := 8) C Lr2 Kr2 b3 dX6_move_8 ?_
    refine q_icmp_ge (tgt := 42) (pc := 9) C dX6_move_9 (by decide) (fun c4 => ?_) (fun c4 => ?_)
    · replace h := h.1 c4
      refine q_lv (lv' := [(0, .ref h0), (1, .int x1), (2, .int x2)]) [0, 1, 2] rfl ?_
      exact Hkx42  σ h
    · replace h := h.2 c4
      refine q_aload_n (pc := 12) C dX6_move_12 rfl 0 rfl ?_
      obtain ⟨Lr5, Kr5⟩ := qw_6_2 C.2.2.2.2.2.2 Lh0 Kh0
      refine q_g6_2 (pc := 13) C Lh0 Kh0 mwX6_move_0 mwX6_move_2 dX6_move_13 ?_
      refine q_sipush (pc := 16) (v := 520) C dX6_move_16 (by decide) ?_
      refine q_iload_n (pc := 19) C dX6_move_19 rfl 1 rfl ?_
      refine q_imul (pc := 20) C dX6_move_20 ?_
      refine q_iload_n (pc := 21) C dX6_move_21 rfl 3 rfl ?_
      refine q_iadd (pc := 22) C dX6_move_22 ?_
      refine q_aload_n (pc := 23) C dX6_move_23 rfl 0 rfl ?_
      refine q_g6_2 (pc := 24) C Lh0 Kh0 mwX6_move_0 mwX6_move_2 dX6_move_24 ?_
      refine q_sipush (pc := 27) (v := 520) C dX6_move_27 (by decide) ?_
      refine q_iload_n (pc := 30) C dX6_move_30 rfl 2 rfl ?_
      refine q_imul (pc := 31) C dX6_move_31 ?_
      refine q_iload_n (pc := 32) C dX6_move_32 rfl 3 rfl ?_
      refine q_iadd (pc := 33) C dX6_move_33 ?_
      obtain ⟨b6, h⟩ := h
      refine q_iald (pc := 34) C Lr5 Kr5 b6 dX6_move_34 ?_
      obtain ⟨b7, h⟩ := h
      refine q_iast (pc := 35) C Lr5 Kr5 b7 dX6_move_35 (fun σ8 eσ8 => ?_)
      replace h := h σ8 eσ8
      obtain ⟨v9, ev9⟩ : ∃ z : Int32, z = x3 + 1 := ⟨_, rfl⟩
      replace h := h v9 ev9
      refine q_iinc (pc := 36) (v := v9) (j := 3) (lv' := [(3, .int v9), (0, .ref h0), (1, .int x1), (2, .int x2)]) C dX6_move_36 rfl (by rw [ev9]; rfl) (by decide) rfl ?_
      refine q_goto (tgt := 2) (pc := 39) C dX6_move_39 (by decide) ?_
      refine q_lv (lv' := [(0, .ref h0), (1, .int x1), (2, .int x2), (3, .int v9)]) [1, 2, 3, 0] rfl ?_
      exact ih v9 σ8 h
def wpX6_move (G : qG) (h0 : Nat) (x1 : Int32) (x2 : Int32) (σ : qS) (post : qS → Prop) : Prop := ∀ v1 : Int32, v1 = 0 → ∃ n20 : Nat, lpX6_move_2 G h0 x1 x2 post (fun  (σ10 : qS) => vp_in x2 (G.2.2 ((G.2.1 h0 3))) ∧ vp_in x1 (G.2.2 ((G.2.1 h0 3))) ∧ ∀ σ14 : qS, σ14 = q_st σ10 ((G.2.1 h0 3)) x1.toNatClampNeg ((σ10 ((G.2.1 h0 3)) x2.toNatClampNeg)) → vp_in x2 (G.2.2 ((G.2.1 h0 4))) ∧ vp_in x1 (G.2.2 ((G.2.1 h0 4))) ∧ (σ14 ((G.2.1 h0 4)) x2.toNatClampNeg = 0 ∨ σ14 ((G.2.1 h0 4)) x2.toNatClampNeg = 1) ∧ ∀ σ19 : qS, σ19 = q_st σ14 ((G.2.1 h0 4)) x1.toNatClampNeg ((σ14 ((G.2.1 h0 4)) x2.toNatClampNeg)) → post σ19) n20 v1 σ
set_option maxHeartbeats 4000000 in
set_option maxRecDepth 100000 in
theorem sdX6_move {l : Launch} {E : qE} {L : List Nat} {G : qG} (hN : L.Nodup) (hG : q_WF G L) {h0 : Nat} {x1 : Int32} {x2 : Int32} (Lh0 : h0 ∈ L) (Kh0 : G.1 h0 = 6) {σ : qS} {post : qS → Prop} (h : wpX6_move G h0 x1 x2 σ post) : MtV l E L G yX6_move wsX6_move (q_rm 1) [.ref h0, .int x1, .int x2] σ post := by
  refine q_met (Qc := fun sz => va_Qv post (q_B E L G) (q_free L sz)) (cc := cX6_move) (maxL := 4) (ret := none) (own := RX6) (by decide) rfl rfl (Nat.le_of_ble_eq_true rfl) hN hG ?_
  intro p e s m below meth c C
  unfold wpX6_move at h
  refine q_iconst (pc := 0) (v := 0) C dX6_move_0 (by decide) ?_
  refine q_topi (fun v1 ev1 => ?_)
  replace h := h v1 ev1
  refine q_istore_n (pc := 1) (lv' := [(3, .int v1), (0, .ref h0), (1, .int x1), (2, .int x2)]) C dX6_move_1 rfl (by decide) rfl ?_
  refine q_lv (lv' := [(0, .ref h0), (1, .int x1), (2, .int x2), (3, .int v1)]) [1, 2, 3, 0] rfl ?_
  obtain ⟨n20, h⟩ := h
  refine slX6_move_2 C Lh0 Kh0 ?_ n20 v1 σ h
  · intro σ10 h
    refine q_aload_n (pc := 42) C dX6_move_42 rfl 0 rfl ?_
    obtain ⟨Lr11, Kr11⟩ := qw_6_3 C.2.2.2.2.2.2 Lh0 Kh0
    refine q_g6_3 (pc := 43) C Lh0 Kh0 mwX6_move_0 mwX6_move_1 dX6_move_43 ?_
    refine q_iload_n (pc := 46) C dX6_move_46 rfl 1 rfl ?_
    refine q_aload_n (pc := 47) C dX6_move_47 rfl 0 rfl ?_
    refine q_g6_3 (pc := 48) C Lh0 Kh0 mwX6_move_0 mwX6_move_1 dX6_move_48 ?_
    refine q_iload_n (pc := 51) C dX6_move_51 rfl 2 rfl ?_
    obtain ⟨b12, h⟩ := h
    refine q_iald (pc := 52) C Lr11 Kr11 b12 dX6_move_52 ?_
    obtain ⟨b13, h⟩ := h
    refine q_iast (pc := 53) C Lr11 Kr11 b13 dX6_move_53 (fun σ14 eσ14 => ?_)
    replace h := h σ14 eσ14
    refine q_aload_n (pc := 54) C dX6_move_54 rfl 0 rfl ?_
    obtain ⟨Lr15, Kr15⟩ := qw_6_4 C.2.2.2.2.2.2 Lh0 Kh0
    refine q_g6_4 (pc := 55) C Lh0 Kh0 mwX6_move_0 mwX6_move_3 dX6_move_55 ?_
    refine q_iload_n (pc := 58) C dX6_move_58 rfl 1 rfl ?_
    refine q_aload_n (pc := 59) C dX6_move_59 rfl 0 rfl ?_
    refine q_g6_4 (pc := 60) C Lh0 Kh0 mwX6_move_0 mwX6_move_3 dX6_move_60 ?_
    refine q_iload_n (pc := 63) C dX6_move_63 rfl 2 rfl ?_
    obtain ⟨b16, h⟩ := h
    refine q_zald (pc := 64) C Lr15 Kr15 b16 dX6_move_64 ?_
    obtain ⟨b17, h⟩ := h
    obtain ⟨z18, h⟩ := h
    refine q_zast (pc := 65) C Lr15 Kr15 b17 z18 dX6_move_65 (fun σ19 eσ19 => ?_)
    replace h := h σ19 eσ19
    exact q_vret (pc := 66) C dX6_move_66 h
theorem mwX6_small_0 : Cond.constantLong RX6 33 (65535) ∈ wsX6_small := by decide +kernel
theorem mwX6_small_1 : ∀ w ∈ wsX60, w ∈ wsX6_small := by decide +kernel
theorem mwX6_small_2 : Cond.fieldLink RX6 13 "IntFileModel" "lens" "[I" ∈ wsX6_small := by decide +kernel
theorem mwX6_small_3 : Cond.fieldLink RX6 16 "IntFileModel" "below" "[Z" ∈ wsX6_small := by decide +kernel
def lpX6_small_6 (G : qG) (h0 : Nat) (x1 : Int32) (post : qS → Prop) (kx40 : Int32 → qS → Prop) : Nat → Int32 → Int64 → qS → Prop
  | 0, _, _, _ => False
  | n + 1, x4, x5, σ => (((lg_cmp x5 0) = 0 → kx40 x4 σ) ∧ (¬ (lg_cmp x5 0) = 0 → wpX6_put G h0 x1 x4 ((x5 &&& 65535).toInt32) σ (fun (σ3 : qS) => ∀ v5 : Int32, v5 = x4 + 1 → ∀ v6 : Int64, v6 = (x5.toUInt64 >>> ((16 : Int32).toInt64.toUInt64 &&& Int64.toUInt64 63)).toInt64 → lpX6_small_6 G h0 x1 post kx40 n v5 v6 σ3)))
set_option maxHeartbeats 4000000 in
set_option maxRecDepth 100000 in
theorem slX6_small_6 {p : Program} {l : Launch} {e : Env} {s : State} {m : MethodId} {args : Array Value} {below : List Frame} {meth : Method} {c : Code} {E : qE} {L : List Nat} {G : qG} {A : Nat → Prop} (C : q_C p s m args meth c cX6_small 7 wsX6_small RX6 none E L G A) {h0 : Nat} {x1 : Int32} (Lh0 : h0 ∈ L) (Kh0 : G.1 h0 = 6) {post : qS → Prop} {kx40 : Int32 → qS → Prop} (Hkx40 : ∀ (y4 : Int32) (τ : qS), kx40 y4 τ → Wd p l e (q_rm 2) s m args below meth c E L G A (MQ below (va_Qv post (q_B E L G) A) args s 0 0 A) 7 τ 40 [(0, .ref h0), (1, .int x1), (4, .int y4)] []) : ∀ (n : Nat) (x4 : Int32) (x5 : Int64) (σ : qS), lpX6_small_6 G h0 x1 post kx40 n x4 x5 σ → Wd p l e (q_rm 2) s m args below meth c E L G A (MQ below (va_Qv post (q_B E L G) A) args s 0 0 A) 7 σ 6 [(0, .ref h0), (1, .int x1), (4, .int x4), (5, .long x5)] [] := by
  intro n
  induction n with
  | zero => intro x4 x5 σ h; exact h.elim
  | succ n ih =>
    intro x4 x5 σ h
    unfold lpX6_small_6 at h
    refine q_lload (pc := 6) C dX6_small_6 3 rfl ?_
    refine q_lconst (pc := 8) (v := 0) C dX6_small_8 (by decide) ?_
    refine q_lcmp (pc := 9) C dX6_small_9 ?_
    refine q_if_eq (tgt := 40) (pc := 10) C dX6_small_10 (by decide) (fun c2 => ?_) (fun c2 => ?_)
    · replace h := h.1 c2
      refine q_lv (lv' := [(0, .ref h0), (1, .int x1), (4, .int x4)]) [0, 1, 2] rfl ?_
      exact Hkx40 x4 σ h
    · replace h := h.2 c2
      refine q_aload_n (pc := 13) C dX6_small_13 rfl 0 rfl ?_
      refine q_iload_n (pc := 14) C dX6_small_14 rfl 1 rfl ?_
      refine q_iload (pc := 15) C dX6_small_15 2 rfl ?_
      refine q_lload (pc := 17) C dX6_small_17 3 rfl ?_
      refine q_ldc2 (pc := 19) (v := 65535) C dX6_small_19 mwX6_small_0 ?_
      refine q_land (pc := 22) C dX6_small_22 ?_
      refine q_l2i (pc := 23) C dX6_small_23 ?_
      refine q_cVv (pc := 24) (As := [.int x1, .int x4, .int ((x5 &&& 65535).toInt32)]) (ci := 6) (Cn := RX6) (T := TX6) (N := 9) C (sdX6_put C.2.2.2.2.2.1 C.2.2.2.2.2.2 Lh0 Kh0 h) (cwV 3 C.1.2.2.2.2 gX6_small_X6_put rfl rfl rfl (by decide +kernel) (q_room (by decide) (by decide))) Lh0 (qc6 Kh0 _) rfl rfl rfl (Nat.le_of_ble_eq_true rfl) dX6_small_24 (fun σ3 h => ?_)
      obtain ⟨v5, ev5⟩ : ∃ z : Int32, z = x4 + 1 := ⟨_, rfl⟩
      replace h := h v5 ev5
      refine q_iinc (pc := 27) (v := v5) (j := 2) (lv' := [(4, .int v5), (0, .ref h0), (1, .int x1), (5, .long x5)]) C dX6_small_27 rfl (by rw [ev5]; rfl) (by decide) rfl ?_
      refine q_lload (pc := 30) C dX6_small_30 3 rfl ?_
      refine q_bipush (pc := 32) (v := 16) C dX6_small_32 (by decide) ?_
      refine q_lushr (pc := 34) C dX6_small_34 ?_
      refine q_topl (fun v6 ev6 => ?_)
      replace h := h v6 ev6
      refine q_lstore (pc := 35) (lv' := [(5, .long v6), (4, .int v5), (0, .ref h0), (1, .int x1)]) C dX6_small_35 (by decide) rfl ?_
      refine q_goto (tgt := 6) (pc := 37) C dX6_small_37 (by decide) ?_
      refine q_lv (lv' := [(0, .ref h0), (1, .int x1), (4, .int v5), (5, .long v6)]) [2, 3, 1, 0] rfl ?_
      exact ih v5 v6 σ3 h
def wpX6_small (G : qG) (h0 : Nat) (x1 : Int32) (x2 : Int64) (σ : qS) (post : qS → Prop) : Prop := ∀ v1 : Int32, v1 = 0 → ∃ n15 : Nat, lpX6_small_6 G h0 x1 post (fun (w7 : Int32) (σ8 : qS) => vp_in x1 (G.2.2 ((G.2.1 h0 3))) ∧ ∀ σ11 : qS, σ11 = q_st σ8 ((G.2.1 h0 3)) x1.toNatClampNeg w7 → vp_in x1 (G.2.2 ((G.2.1 h0 4))) ∧ ∀ σ14 : qS, σ14 = q_st σ11 ((G.2.1 h0 4)) x1.toNatClampNeg 0 → post σ14) n15 v1 x2 σ
set_option maxHeartbeats 4000000 in
set_option maxRecDepth 100000 in
theorem sdX6_small {l : Launch} {E : qE} {L : List Nat} {G : qG} (hN : L.Nodup) (hG : q_WF G L) {h0 : Nat} {x1 : Int32} {x2 : Int64} (Lh0 : h0 ∈ L) (Kh0 : G.1 h0 = 6) {σ : qS} {post : qS → Prop} (h : wpX6_small G h0 x1 x2 σ post) : MtV l E L G yX6_small wsX6_small (q_rm 2) [.ref h0, .int x1, .long x2] σ post := by
  refine q_met (Qc := fun sz => va_Qv post (q_B E L G) (q_free L sz)) (cc := cX6_small) (maxL := 7) (ret := none) (own := RX6) (by decide) rfl rfl (Nat.le_of_ble_eq_true rfl) hN hG ?_
  intro p e s m below meth c C
  unfold wpX6_small at h
  refine q_iconst (pc := 0) (v := 0) C dX6_small_0 (by decide) ?_
  refine q_topi (fun v1 ev1 => ?_)
  replace h := h v1 ev1
  refine q_istore (pc := 1) (lv' := [(4, .int v1), (0, .ref h0), (1, .int x1), (2, .long x2)]) C dX6_small_1 (by decide) rfl ?_
  refine q_lload_n (pc := 3) C dX6_small_3 rfl 3 rfl ?_
  refine q_lstore (pc := 4) (lv' := [(5, .long x2), (4, .int v1), (0, .ref h0), (1, .int x1), (2, .long x2)]) C dX6_small_4 (by decide) rfl ?_
  refine q_lv (lv' := [(0, .ref h0), (1, .int x1), (4, .int v1), (5, .long x2)]) [2, 3, 1, 0] rfl ?_
  obtain ⟨n15, h⟩ := h
  refine slX6_small_6 C Lh0 Kh0 ?_ n15 v1 x2 σ h
  · intro w7 σ8 h
    refine q_aload_n (pc := 40) C dX6_small_40 rfl 0 rfl ?_
    obtain ⟨Lr9, Kr9⟩ := qw_6_3 C.2.2.2.2.2.2 Lh0 Kh0
    refine q_g6_3 (pc := 41) C Lh0 Kh0 mwX6_small_1 mwX6_small_2 dX6_small_41 ?_
    refine q_iload_n (pc := 44) C dX6_small_44 rfl 1 rfl ?_
    refine q_iload (pc := 45) C dX6_small_45 2 rfl ?_
    obtain ⟨b10, h⟩ := h
    refine q_iast (pc := 47) C Lr9 Kr9 b10 dX6_small_47 (fun σ11 eσ11 => ?_)
    replace h := h σ11 eσ11
    refine q_aload_n (pc := 48) C dX6_small_48 rfl 0 rfl ?_
    obtain ⟨Lr12, Kr12⟩ := qw_6_4 C.2.2.2.2.2.2 Lh0 Kh0
    refine q_g6_4 (pc := 49) C Lh0 Kh0 mwX6_small_1 mwX6_small_3 dX6_small_49 ?_
    refine q_iload_n (pc := 52) C dX6_small_52 rfl 1 rfl ?_
    refine q_iconst (pc := 53) (v := 0) C dX6_small_53 (by decide) ?_
    obtain ⟨b13, h⟩ := h
    refine q_zast (pc := 54) C Lr12 Kr12 b13 (Or.inl rfl) dX6_small_54 (fun σ14 eσ14 => ?_)
    replace h := h σ14 eσ14
    exact q_vret (pc := 55) C dX6_small_55 h
theorem mwX6_order_0 : ∀ w ∈ wsX60, w ∈ wsX6_order := by decide +kernel
theorem mwX6_order_1 : Cond.fieldLink RX6 13 "IntFileModel" "lens" "[I" ∈ wsX6_order := by decide +kernel
def lpX6_order_45 (G : qG) (h0 : Nat) (x1 : Int32) (x2 : Int32) (post : Int32 → qS → Prop) (kx64 : Int32 → qS → Prop) (kx91 : qS → Prop) : Nat → Int32 → qS → Prop
  | 0, _, _ => False
  | n + 1, x3, σ => ((x3 < 0 → kx91 σ) ∧ (¬ x3 < 0 → wpX6_digit G h0 x1 x3 σ (fun (u9 : Int32) (σ8 : qS) => wpX6_digit G h0 x2 x3 σ8 (fun (u11 : Int32) (σ10 : qS) => ((u9 = u11 → ∀ v13 : Int32, v13 = x3 + (-1) → lpX6_order_45 G h0 x1 x2 post kx64 kx91 n v13 σ10) ∧ (¬ u9 = u11 → kx64 x3 σ10))))))
set_option maxHeartbeats 4000000 in
set_option maxRecDepth 100000 in
theorem slX6_order_45 {p : Program} {l : Launch} {e : Env} {s : State} {m : MethodId} {args : Array Value} {below : List Frame} {meth : Method} {c : Code} {E : qE} {L : List Nat} {G : qG} {A : Nat → Prop} (C : q_C p s m args meth c cX6_order 4 wsX6_order RX6 (some .int) E L G A) {h0 : Nat} {x1 : Int32} {x2 : Int32} (Lh0 : h0 ∈ L) (Kh0 : G.1 h0 = 6) {post : Int32 → qS → Prop} {kx64 : Int32 → qS → Prop} {kx91 : qS → Prop} (Hkx64 : ∀ (y3 : Int32) (τ : qS), kx64 y3 τ → Wd p l e (q_rm 2) s m args below meth c E L G A (MQ below (va_Qi post (q_B E L G) A) args s 0 0 A) 4 τ 64 [(0, .ref h0), (1, .int x1), (2, .int x2), (3, .int y3)] []) (Hkx91 : ∀  (τ : qS), kx91  τ → Wd p l e (q_rm 2) s m args below meth c E L G A (MQ below (va_Qi post (q_B E L G) A) args s 0 0 A) 4 τ 91 [] []) : ∀ (n : Nat) (x3 : Int32) (σ : qS), lpX6_order_45 G h0 x1 x2 post kx64 kx91 n x3 σ → Wd p l e (q_rm 2) s m args below meth c E L G A (MQ below (va_Qi post (q_B E L G) A) args s 0 0 A) 4 σ 45 [(0, .ref h0), (1, .int x1), (2, .int x2), (3, .int x3)] [] := by
  intro n
  induction n with
  | zero => intro x3 σ h; exact h.elim
  | succ n ih =>
    intro x3 σ h
    unfold lpX6_order_45 at h
    refine q_iload_n (pc := 45) C dX6_order_45 rfl 3 rfl ?_
    refine q_if_lt (tgt := 91) (pc := 46) C dX6_order_46 (by decide) (fun c7 => ?_) (fun c7 => ?_)
    · replace h := h.1 c7
      refine q_lv (lv' := []) [] rfl ?_
      exact Hkx91  σ h
    · replace h := h.2 c7
      refine q_aload_n (pc := 49) C dX6_order_49 rfl 0 rfl ?_
      refine q_iload_n (pc := 50) C dX6_order_50 rfl 1 rfl ?_
      refine q_iload_n (pc := 51) C dX6_order_51 rfl 3 rfl ?_
      refine q_cVi (pc := 52) (As := [.int x1, .int x3]) (ci := 6) (Cn := RX6) (T := TX6) (N := 9) C (sdX6_digit C.2.2.2.2.2.1 C.2.2.2.2.2.2 Lh0 Kh0 h) (cwV 2 C.1.2.2.2.2 gX6_order_X6_digit rfl rfl rfl (by decide +kernel) (q_room (by decide) (by decide))) Lh0 (qc6 Kh0 _) rfl rfl rfl (Nat.le_of_ble_eq_true rfl) dX6_order_52 (fun u9 σ8 h => ?_)
      refine q_aload_n (pc := 55) C dX6_order_55 rfl 0 rfl ?_
      refine q_iload_n (pc := 56) C dX6_order_56 rfl 2 rfl ?_
      refine q_iload_n (pc := 57) C dX6_order_57 rfl 3 rfl ?_
      refine q_cVi (pc := 58) (As := [.int x2, .int x3]) (ci := 6) (Cn := RX6) (T := TX6) (N := 9) C (sdX6_digit C.2.2.2.2.2.1 C.2.2.2.2.2.2 Lh0 Kh0 h) (cwV 2 C.1.2.2.2.2 gX6_order_X6_digit rfl rfl rfl (by decide +kernel) (q_room (by decide) (by decide))) Lh0 (qc6 Kh0 _) rfl rfl rfl (Nat.le_of_ble_eq_true rfl) dX6_order_58 (fun u11 σ10 h => ?_)
      refine q_icmp_eq (tgt := 85) (pc := 61) C dX6_order_61 (by decide) (fun c12 => ?_) (fun c12 => ?_)
      · replace h := h.1 c12
        obtain ⟨v13, ev13⟩ : ∃ z : Int32, z = x3 + (-1) := ⟨_, rfl⟩
        replace h := h v13 ev13
        refine q_iinc (pc := 85) (v := v13) (j := 3) (lv' := [(3, .int v13), (0, .ref h0), (1, .int x1), (2, .int x2)]) C dX6_order_85 rfl (by rw [ev13]; rfl) (by decide) rfl ?_
        refine q_goto (tgt := 45) (pc := 88) C dX6_order_88 (by decide) ?_
        refine q_lv (lv' := [(0, .ref h0), (1, .int x1), (2, .int x2), (3, .int v13)]) [1, 2, 3, 0] rfl ?_
        exact ih v13 σ10 h
      · replace h := h.2 c12
        exact Hkx64 x3 σ10 h
def wpX6_order (G : qG) (h0 : Nat) (x1 : Int32) (x2 : Int32) (σ : qS) (post : Int32 → qS → Prop) : Prop := vp_in x1 (G.2.2 ((G.2.1 h0 3))) ∧ vp_in x2 (G.2.2 ((G.2.1 h0 3))) ∧ (((σ ((G.2.1 h0 3)) x1.toNatClampNeg) = (σ ((G.2.1 h0 3)) x2.toNatClampNeg) → vp_in x1 (G.2.2 ((G.2.1 h0 3))) ∧ ∀ v6 : Int32, v6 = (σ ((G.2.1 h0 3)) x1.toNatClampNeg) - 1 → ∃ n22 : Nat, lpX6_order_45 G h0 x1 x2 post (fun (w14 : Int32) (σ15 : qS) => wpX6_digit G h0 x1 w14 σ15 (fun (u17 : Int32) (σ16 : qS) => wpX6_digit G h0 x2 w14 σ16 (fun (u19 : Int32) (σ18 : qS) => ((u19 ≤ u17 → post 1 σ18) ∧ (¬ u19 ≤ u17 → post ((-1)) σ18))))) (fun  (σ21 : qS) => post 0 σ21) n22 v6 σ) ∧ (¬ (σ ((G.2.1 h0 3)) x1.toNatClampNeg) = (σ ((G.2.1 h0 3)) x2.toNatClampNeg) → vp_in x1 (G.2.2 ((G.2.1 h0 3))) ∧ vp_in x2 (G.2.2 ((G.2.1 h0 3))) ∧ (((σ ((G.2.1 h0 3)) x2.toNatClampNeg) ≤ (σ ((G.2.1 h0 3)) x1.toNatClampNeg) → post 1 σ) ∧ (¬ (σ ((G.2.1 h0 3)) x2.toNatClampNeg) ≤ (σ ((G.2.1 h0 3)) x1.toNatClampNeg) → post ((-1)) σ))))
set_option maxHeartbeats 4000000 in
set_option maxRecDepth 100000 in
theorem sdX6_order {l : Launch} {E : qE} {L : List Nat} {G : qG} (hN : L.Nodup) (hG : q_WF G L) {h0 : Nat} {x1 : Int32} {x2 : Int32} (Lh0 : h0 ∈ L) (Kh0 : G.1 h0 = 6) {σ : qS} {post : Int32 → qS → Prop} (h : wpX6_order G h0 x1 x2 σ post) : MtI l E L G yX6_order wsX6_order (q_rm 2) [.ref h0, .int x1, .int x2] σ post := by
  refine q_met (Qc := fun sz => va_Qi post (q_B E L G) (q_free L sz)) (cc := cX6_order) (maxL := 4) (ret := (some .int)) (own := RX6) (by decide) rfl rfl (Nat.le_of_ble_eq_true rfl) hN hG ?_
  intro p e s m below meth c C
  unfold wpX6_order at h
  refine q_aload_n (pc := 0) C dX6_order_0 rfl 0 rfl ?_
  obtain ⟨Lr1, Kr1⟩ := qw_6_3 C.2.2.2.2.2.2 Lh0 Kh0
  refine q_g6_3 (pc := 1) C Lh0 Kh0 mwX6_order_0 mwX6_order_1 dX6_order_1 ?_
  refine q_iload_n (pc := 4) C dX6_order_4 rfl 1 rfl ?_
  obtain ⟨b2, h⟩ := h
  refine q_iald (pc := 5) C Lr1 Kr1 b2 dX6_order_5 ?_
  refine q_aload_n (pc := 6) C dX6_order_6 rfl 0 rfl ?_
  refine q_g6_3 (pc := 7) C Lh0 Kh0 mwX6_order_0 mwX6_order_1 dX6_order_7 ?_
  refine q_iload_n (pc := 10) C dX6_order_10 rfl 2 rfl ?_
  obtain ⟨b3, h⟩ := h
  refine q_iald (pc := 11) C Lr1 Kr1 b3 dX6_order_11 ?_
  refine q_icmp_eq (tgt := 36) (pc := 12) C dX6_order_12 (by decide) (fun c4 => ?_) (fun c4 => ?_)
  · replace h := h.1 c4
    refine q_aload_n (pc := 36) C dX6_order_36 rfl 0 rfl ?_
    refine q_g6_3 (pc := 37) C Lh0 Kh0 mwX6_order_0 mwX6_order_1 dX6_order_37 ?_
    refine q_iload_n (pc := 40) C dX6_order_40 rfl 1 rfl ?_
    obtain ⟨b5, h⟩ := h
    refine q_iald (pc := 41) C Lr1 Kr1 b5 dX6_order_41 ?_
    refine q_iconst (pc := 42) (v := 1) C dX6_order_42 (by decide) ?_
    refine q_isub (pc := 43) C dX6_order_43 ?_
    refine q_topi (fun v6 ev6 => ?_)
    replace h := h v6 ev6
    refine q_istore_n (pc := 44) (lv' := [(3, .int v6), (0, .ref h0), (1, .int x1), (2, .int x2)]) C dX6_order_44 rfl (by decide) rfl ?_
    refine q_lv (lv' := [(0, .ref h0), (1, .int x1), (2, .int x2), (3, .int v6)]) [1, 2, 3, 0] rfl ?_
    obtain ⟨n22, h⟩ := h
    refine slX6_order_45 C Lh0 Kh0 ?_ ?_ n22 v6 σ h
    · intro w14 σ15 h
      refine q_aload_n (pc := 64) C dX6_order_64 rfl 0 rfl ?_
      refine q_iload_n (pc := 65) C dX6_order_65 rfl 1 rfl ?_
      refine q_iload_n (pc := 66) C dX6_order_66 rfl 3 rfl ?_
      refine q_cVi (pc := 67) (As := [.int x1, .int w14]) (ci := 6) (Cn := RX6) (T := TX6) (N := 9) C (sdX6_digit C.2.2.2.2.2.1 C.2.2.2.2.2.2 Lh0 Kh0 h) (cwV 2 C.1.2.2.2.2 gX6_order_X6_digit rfl rfl rfl (by decide +kernel) (q_room (by decide) (by decide))) Lh0 (qc6 Kh0 _) rfl rfl rfl (Nat.le_of_ble_eq_true rfl) dX6_order_67 (fun u17 σ16 h => ?_)
      refine q_aload_n (pc := 70) C dX6_order_70 rfl 0 rfl ?_
      refine q_iload_n (pc := 71) C dX6_order_71 rfl 2 rfl ?_
      refine q_iload_n (pc := 72) C dX6_order_72 rfl 3 rfl ?_
      refine q_cVi (pc := 73) (As := [.int x2, .int w14]) (ci := 6) (Cn := RX6) (T := TX6) (N := 9) C (sdX6_digit C.2.2.2.2.2.1 C.2.2.2.2.2.2 Lh0 Kh0 h) (cwV 2 C.1.2.2.2.2 gX6_order_X6_digit rfl rfl rfl (by decide +kernel) (q_room (by decide) (by decide))) Lh0 (qc6 Kh0 _) rfl rfl rfl (Nat.le_of_ble_eq_true rfl) dX6_order_73 (fun u19 σ18 h => ?_)
      refine q_icmp_ge (tgt := 83) (pc := 76) C dX6_order_76 (by decide) (fun c20 => ?_) (fun c20 => ?_)
      · replace h := h.1 c20
        refine q_iconst (pc := 83) (v := 1) C dX6_order_83 (by decide) ?_
        exact q_iret (pc := 84) C dX6_order_84 h
      · replace h := h.2 c20
        refine q_iconst (pc := 79) (v := (-1)) C dX6_order_79 (by decide) ?_
        refine q_goto (tgt := 84) (pc := 80) C dX6_order_80 (by decide) ?_
        exact q_iret (pc := 84) C dX6_order_84 h
    · intro σ21 h
      refine q_iconst (pc := 91) (v := 0) C dX6_order_91 (by decide) ?_
      exact q_iret (pc := 92) C dX6_order_92 h
  · replace h := h.2 c4
    refine q_aload_n (pc := 15) C dX6_order_15 rfl 0 rfl ?_
    refine q_g6_3 (pc := 16) C Lh0 Kh0 mwX6_order_0 mwX6_order_1 dX6_order_16 ?_
    refine q_iload_n (pc := 19) C dX6_order_19 rfl 1 rfl ?_
    obtain ⟨b23, h⟩ := h
    refine q_iald (pc := 20) C Lr1 Kr1 b23 dX6_order_20 ?_
    refine q_aload_n (pc := 21) C dX6_order_21 rfl 0 rfl ?_
    refine q_g6_3 (pc := 22) C Lh0 Kh0 mwX6_order_0 mwX6_order_1 dX6_order_22 ?_
    refine q_iload_n (pc := 25) C dX6_order_25 rfl 2 rfl ?_
    obtain ⟨b24, h⟩ := h
    refine q_iald (pc := 26) C Lr1 Kr1 b24 dX6_order_26 ?_
    refine q_icmp_ge (tgt := 34) (pc := 27) C dX6_order_27 (by decide) (fun c25 => ?_) (fun c25 => ?_)
    · replace h := h.1 c25
      refine q_iconst (pc := 34) (v := 1) C dX6_order_34 (by decide) ?_
      exact q_iret (pc := 35) C dX6_order_35 h
    · replace h := h.2 c25
      refine q_iconst (pc := 30) (v := (-1)) C dX6_order_30 (by decide) ?_
      refine q_goto (tgt := 35) (pc := 31) C dX6_order_31 (by decide) ?_
      exact q_iret (pc := 35) C dX6_order_35 h
theorem mwX6_plus_0 : ∀ w ∈ wsX60, w ∈ wsX6_plus := by decide +kernel
theorem mwX6_plus_1 : Cond.fieldLink RX6 13 "IntFileModel" "lens" "[I" ∈ wsX6_plus := by decide +kernel
theorem mwX6_plus_2 : Cond.constant RX6 43 (65535) ∈ wsX6_plus := by decide +kernel
def lpX6_plus_38 (G : qG) (h0 : Nat) (x1 : Int32) (x2 : Int32) (x3 : Int32) (x4 : Int32) (post : qS → Prop) (kx90 : Int32 → qS → Prop) : Nat → Int32 → Int32 → qS → Prop
  | 0, _, _, _ => False
  | n + 1, x5, x6, σ => ((x4 ≤ x6 → kx90 x5 σ) ∧ (¬ x4 ≤ x6 → wpX6_digit G h0 x2 x6 σ (fun (u10 : Int32) (σ9 : qS) => wpX6_digit G h0 x3 x6 σ9 (fun (u12 : Int32) (σ11 : qS) => ∀ v13 : Int32, v13 = (u10 + u12) + x5 → wpX6_put G h0 x1 x6 (v13 &&& 65535) σ11 (fun (σ14 : qS) => ∀ v16 : Int32, v16 = v13 >>> ((16 : Int32) &&& 31) → ∀ v17 : Int32, v17 = x6 + 1 → lpX6_plus_38 G h0 x1 x2 x3 x4 post kx90 n v16 v17 σ14)))))
set_option maxHeartbeats 4000000 in
set_option maxRecDepth 100000 in
theorem slX6_plus_38 {p : Program} {l : Launch} {e : Env} {s : State} {m : MethodId} {args : Array Value} {below : List Frame} {meth : Method} {c : Code} {E : qE} {L : List Nat} {G : qG} {A : Nat → Prop} (C : q_C p s m args meth c cX6_plus 8 wsX6_plus RX6 none E L G A) {h0 : Nat} {x1 : Int32} {x2 : Int32} {x3 : Int32} {x4 : Int32} (Lh0 : h0 ∈ L) (Kh0 : G.1 h0 = 6) {post : qS → Prop} {kx90 : Int32 → qS → Prop} (Hkx90 : ∀ (y5 : Int32) (τ : qS), kx90 y5 τ → Wd p l e (q_rm 2) s m args below meth c E L G A (MQ below (va_Qv post (q_B E L G) A) args s 0 0 A) 8 τ 90 [(0, .ref h0), (1, .int x1), (4, .int x4), (5, .int y5)] []) : ∀ (n : Nat) (x5 : Int32) (x6 : Int32) (σ : qS), lpX6_plus_38 G h0 x1 x2 x3 x4 post kx90 n x5 x6 σ → Wd p l e (q_rm 2) s m args below meth c E L G A (MQ below (va_Qv post (q_B E L G) A) args s 0 0 A) 8 σ 38 [(0, .ref h0), (1, .int x1), (2, .int x2), (3, .int x3), (4, .int x4), (5, .int x5), (6, .int x6)] [] := by
  intro n
  induction n with
  | zero => intro x5 x6 σ h; exact h.elim
  | succ n ih =>
    intro x5 x6 σ h
    unfold lpX6_plus_38 at h
    refine q_iload (pc := 38) C dX6_plus_38 6 rfl ?_
    refine q_iload (pc := 40) C dX6_plus_40 4 rfl ?_
    refine q_icmp_ge (tgt := 90) (pc := 42) C dX6_plus_42 (by decide) (fun c8 => ?_) (fun c8 => ?_)
    · replace h := h.1 c8
      refine q_lv (lv' := [(0, .ref h0), (1, .int x1), (4, .int x4), (5, .int x5)]) [0, 1, 4, 5] rfl ?_
      exact Hkx90 x5 σ h
    · replace h := h.2 c8
      refine q_aload_n (pc := 45) C dX6_plus_45 rfl 0 rfl ?_
      refine q_iload_n (pc := 46) C dX6_plus_46 rfl 2 rfl ?_
      refine q_iload (pc := 47) C dX6_plus_47 6 rfl ?_
      refine q_cVi (pc := 49) (As := [.int x2, .int x6]) (ci := 6) (Cn := RX6) (T := TX6) (N := 9) C (sdX6_digit C.2.2.2.2.2.1 C.2.2.2.2.2.2 Lh0 Kh0 h) (cwV 2 C.1.2.2.2.2 gX6_plus_X6_digit rfl rfl rfl (by decide +kernel) (q_room (by decide) (by decide))) Lh0 (qc6 Kh0 _) rfl rfl rfl (Nat.le_of_ble_eq_true rfl) dX6_plus_49 (fun u10 σ9 h => ?_)
      refine q_aload_n (pc := 52) C dX6_plus_52 rfl 0 rfl ?_
      refine q_iload_n (pc := 53) C dX6_plus_53 rfl 3 rfl ?_
      refine q_iload (pc := 54) C dX6_plus_54 6 rfl ?_
      refine q_cVi (pc := 56) (As := [.int x3, .int x6]) (ci := 6) (Cn := RX6) (T := TX6) (N := 9) C (sdX6_digit C.2.2.2.2.2.1 C.2.2.2.2.2.2 Lh0 Kh0 h) (cwV 2 C.1.2.2.2.2 gX6_plus_X6_digit rfl rfl rfl (by decide +kernel) (q_room (by decide) (by decide))) Lh0 (qc6 Kh0 _) rfl rfl rfl (Nat.le_of_ble_eq_true rfl) dX6_plus_56 (fun u12 σ11 h => ?_)
      refine q_iadd (pc := 59) C dX6_plus_59 ?_
      refine q_iload (pc := 60) C dX6_plus_60 5 rfl ?_
      refine q_iadd (pc := 62) C dX6_plus_62 ?_
      refine q_topi (fun v13 ev13 => ?_)
      replace h := h v13 ev13
      refine q_istore (pc := 63) (lv' := [(7, .int v13), (0, .ref h0), (1, .int x1), (2, .int x2), (3, .int x3), (4, .int x4), (5, .int x5), (6, .int x6)]) C dX6_plus_63 (by decide) rfl ?_
      refine q_aload_n (pc := 65) C dX6_plus_65 rfl 1 rfl ?_
      refine q_iload_n (pc := 66) C dX6_plus_66 rfl 2 rfl ?_
      refine q_iload (pc := 67) C dX6_plus_67 7 rfl ?_
      refine q_iload (pc := 69) C dX6_plus_69 0 rfl ?_
      refine q_ldc (pc := 71) (v := 65535) C dX6_plus_71 mwX6_plus_2 ?_
      refine q_iand (pc := 73) C dX6_plus_73 ?_
      refine q_cVv (pc := 74) (As := [.int x1, .int x6, .int (v13 &&& 65535)]) (ci := 6) (Cn := RX6) (T := TX6) (N := 9) C (sdX6_put C.2.2.2.2.2.1 C.2.2.2.2.2.2 Lh0 Kh0 h) (cwV 3 C.1.2.2.2.2 gX6_plus_X6_put rfl rfl rfl (by decide +kernel) (q_room (by decide) (by decide))) Lh0 (qc6 Kh0 _) rfl rfl rfl (Nat.le_of_ble_eq_true rfl) dX6_plus_74 (fun σ14 h => ?_)
      refine q_iload (pc := 77) C dX6_plus_77 0 rfl ?_
      refine q_bipush (pc := 79) (v := 16) C dX6_plus_79 (by decide) ?_
      refine q_ishr (pc := 81) C dX6_plus_81 ?_
      refine q_topi (fun v16 ev16 => ?_)
      replace h := h v16 ev16
      refine q_istore (pc := 82) (lv' := [(5, .int v16), (7, .int v13), (0, .ref h0), (1, .int x1), (2, .int x2), (3, .int x3), (4, .int x4), (6, .int x6)]) C dX6_plus_82 (by decide) rfl ?_
      obtain ⟨v17, ev17⟩ : ∃ z : Int32, z = x6 + 1 := ⟨_, rfl⟩
      replace h := h v17 ev17
      refine q_iinc (pc := 84) (v := v17) (j := 7) (lv' := [(6, .int v17), (5, .int v16), (7, .int v13), (0, .ref h0), (1, .int x1), (2, .int x2), (3, .int x3), (4, .int x4)]) C dX6_plus_84 rfl (by rw [ev17]; rfl) (by decide) rfl ?_
      refine q_goto (tgt := 38) (pc := 87) C dX6_plus_87 (by decide) ?_
      refine q_lv (lv' := [(0, .ref h0), (1, .int x1), (2, .int x2), (3, .int x3), (4, .int x4), (5, .int v16), (6, .int v17)]) [3, 4, 5, 6, 7, 1, 0] rfl ?_
      exact ih v16 v17 σ14 h
def bkX6_plus_30 (G : qG) (h0 : Nat) (x1 : Int32) (x2 : Int32) (x3 : Int32) (s0 : Int32) (post : qS → Prop) (σ : qS) : Prop := ∀ v6 : Int32, v6 = 0 → ∀ v7 : Int32, v7 = 0 → ∃ n24 : Nat, lpX6_plus_38 G h0 x1 x2 x3 s0 post (fun (w18 : Int32) (σ19 : qS) => wpX6_put G h0 x1 s0 w18 σ19 (fun (σ20 : qS) => wpX6_trim G h0 x1 (s0 + 1) σ20 (fun (σ22 : qS) => post σ22))) n24 v6 v7 σ
set_option maxHeartbeats 4000000 in
set_option maxRecDepth 100000 in
theorem sbX6_plus_30 {p : Program} {l : Launch} {e : Env} {s : State} {m : MethodId} {args : Array Value} {below : List Frame} {meth : Method} {c : Code} {E : qE} {L : List Nat} {G : qG} {A : Nat → Prop} (C : q_C p s m args meth c cX6_plus 8 wsX6_plus RX6 none E L G A) {h0 : Nat} {x1 : Int32} {x2 : Int32} {x3 : Int32} {s0 : Int32} (Lh0 : h0 ∈ L) (Kh0 : G.1 h0 = 6) {post : qS → Prop} {σ : qS} (h : bkX6_plus_30 G h0 x1 x2 x3 s0 post σ) : Wd p l e (q_rm 2) s m args below meth c E L G A (MQ below (va_Qv post (q_B E L G) A) args s 0 0 A) 8 σ 30 [(0, .ref h0), (1, .int x1), (2, .int x2), (3, .int x3)] [.int s0] := by
  unfold bkX6_plus_30 at h
  refine q_istore (pc := 30) (lv' := [(4, .int s0), (0, .ref h0), (1, .int x1), (2, .int x2), (3, .int x3)]) C dX6_plus_30 (by decide) rfl ?_
  refine q_iconst (pc := 32) (v := 0) C dX6_plus_32 (by decide) ?_
  refine q_topi (fun v6 ev6 => ?_)
  replace h := h v6 ev6
  refine q_istore (pc := 33) (lv' := [(5, .int v6), (4, .int s0), (0, .ref h0), (1, .int x1), (2, .int x2), (3, .int x3)]) C dX6_plus_33 (by decide) rfl ?_
  refine q_iconst (pc := 35) (v := 0) C dX6_plus_35 (by decide) ?_
  refine q_topi (fun v7 ev7 => ?_)
  replace h := h v7 ev7
  refine q_istore (pc := 36) (lv' := [(6, .int v7), (5, .int v6), (4, .int s0), (0, .ref h0), (1, .int x1), (2, .int x2), (3, .int x3)]) C dX6_plus_36 (by decide) rfl ?_
  refine q_lv (lv' := [(0, .ref h0), (1, .int x1), (2, .int x2), (3, .int x3), (4, .int s0), (5, .int v6), (6, .int v7)]) [3, 4, 5, 6, 2, 1, 0] rfl ?_
  obtain ⟨n24, h⟩ := h
  refine slX6_plus_38 C Lh0 Kh0 ?_ n24 v6 v7 σ h
  · intro w18 σ19 h
    refine q_aload_n (pc := 90) C dX6_plus_90 rfl 0 rfl ?_
    refine q_iload_n (pc := 91) C dX6_plus_91 rfl 1 rfl ?_
    refine q_iload (pc := 92) C dX6_plus_92 2 rfl ?_
    refine q_iload (pc := 94) C dX6_plus_94 3 rfl ?_
    refine q_cVv (pc := 96) (As := [.int x1, .int s0, .int w18]) (ci := 6) (Cn := RX6) (T := TX6) (N := 9) C (sdX6_put C.2.2.2.2.2.1 C.2.2.2.2.2.2 Lh0 Kh0 h) (cwV 3 C.1.2.2.2.2 gX6_plus_X6_put rfl rfl rfl (by decide +kernel) (q_room (by decide) (by decide))) Lh0 (qc6 Kh0 _) rfl rfl rfl (Nat.le_of_ble_eq_true rfl) dX6_plus_96 (fun σ20 h => ?_)
    refine q_aload_n (pc := 99) C dX6_plus_99 rfl 0 rfl ?_
    refine q_iload_n (pc := 100) C dX6_plus_100 rfl 1 rfl ?_
    refine q_iload (pc := 101) C dX6_plus_101 2 rfl ?_
    refine q_iconst (pc := 103) (v := 1) C dX6_plus_103 (by decide) ?_
    refine q_iadd (pc := 104) C dX6_plus_104 ?_
    refine q_cVv (pc := 105) (As := [.int x1, .int (s0 + 1)]) (ci := 6) (Cn := RX6) (T := TX6) (N := 9) C (sdX6_trim C.2.2.2.2.2.1 C.2.2.2.2.2.2 Lh0 Kh0 h) (cwV 2 C.1.2.2.2.2 gX6_plus_X6_trim rfl rfl rfl (by decide +kernel) (q_room (by decide) (by decide))) Lh0 (qc6 Kh0 _) rfl rfl rfl (Nat.le_of_ble_eq_true rfl) dX6_plus_105 (fun σ22 h => ?_)
    exact q_vret (pc := 108) C dX6_plus_108 h
def wpX6_plus (G : qG) (h0 : Nat) (x1 : Int32) (x2 : Int32) (x3 : Int32) (σ : qS) (post : qS → Prop) : Prop := vp_in x2 (G.2.2 ((G.2.1 h0 3))) ∧ vp_in x3 (G.2.2 ((G.2.1 h0 3))) ∧ (((σ ((G.2.1 h0 3)) x2.toNatClampNeg) ≤ (σ ((G.2.1 h0 3)) x3.toNatClampNeg) → vp_in x3 (G.2.2 ((G.2.1 h0 3))) ∧ bkX6_plus_30 G h0 x1 x2 x3 (σ ((G.2.1 h0 3)) x3.toNatClampNeg) post σ) ∧ (¬ (σ ((G.2.1 h0 3)) x2.toNatClampNeg) ≤ (σ ((G.2.1 h0 3)) x3.toNatClampNeg) → vp_in x2 (G.2.2 ((G.2.1 h0 3))) ∧ bkX6_plus_30 G h0 x1 x2 x3 (σ ((G.2.1 h0 3)) x2.toNatClampNeg) post σ))
set_option maxHeartbeats 4000000 in
set_option maxRecDepth 100000 in
theorem sdX6_plus {l : Launch} {E : qE} {L : List Nat} {G : qG} (hN : L.Nodup) (hG : q_WF G L) {h0 : Nat} {x1 : Int32} {x2 : Int32} {x3 : Int32} (Lh0 : h0 ∈ L) (Kh0 : G.1 h0 = 6) {σ : qS} {post : qS → Prop} (h : wpX6_plus G h0 x1 x2 x3 σ post) : MtV l E L G yX6_plus wsX6_plus (q_rm 2) [.ref h0, .int x1, .int x2, .int x3] σ post := by
  refine q_met (Qc := fun sz => va_Qv post (q_B E L G) (q_free L sz)) (cc := cX6_plus) (maxL := 8) (ret := none) (own := RX6) (by decide) rfl rfl (Nat.le_of_ble_eq_true rfl) hN hG ?_
  intro p e s m below meth c C
  unfold wpX6_plus at h
  refine q_aload_n (pc := 0) C dX6_plus_0 rfl 0 rfl ?_
  obtain ⟨Lr1, Kr1⟩ := qw_6_3 C.2.2.2.2.2.2 Lh0 Kh0
  refine q_g6_3 (pc := 1) C Lh0 Kh0 mwX6_plus_0 mwX6_plus_1 dX6_plus_1 ?_
  refine q_iload_n (pc := 4) C dX6_plus_4 rfl 2 rfl ?_
  obtain ⟨b2, h⟩ := h
  refine q_iald (pc := 5) C Lr1 Kr1 b2 dX6_plus_5 ?_
  refine q_aload_n (pc := 6) C dX6_plus_6 rfl 0 rfl ?_
  refine q_g6_3 (pc := 7) C Lh0 Kh0 mwX6_plus_0 mwX6_plus_1 dX6_plus_7 ?_
  refine q_iload_n (pc := 10) C dX6_plus_10 rfl 3 rfl ?_
  obtain ⟨b3, h⟩ := h
  refine q_iald (pc := 11) C Lr1 Kr1 b3 dX6_plus_11 ?_
  refine q_icmp_le (tgt := 24) (pc := 12) C dX6_plus_12 (by decide) (fun c4 => ?_) (fun c4 => ?_)
  · replace h := h.1 c4
    refine q_aload_n (pc := 24) C dX6_plus_24 rfl 0 rfl ?_
    refine q_g6_3 (pc := 25) C Lh0 Kh0 mwX6_plus_0 mwX6_plus_1 dX6_plus_25 ?_
    refine q_iload_n (pc := 28) C dX6_plus_28 rfl 3 rfl ?_
    obtain ⟨b5, h⟩ := h
    refine q_iald (pc := 29) C Lr1 Kr1 b5 dX6_plus_29 ?_
    exact sbX6_plus_30 C Lh0 Kh0 h
  · replace h := h.2 c4
    refine q_aload_n (pc := 15) C dX6_plus_15 rfl 0 rfl ?_
    refine q_g6_3 (pc := 16) C Lh0 Kh0 mwX6_plus_0 mwX6_plus_1 dX6_plus_16 ?_
    refine q_iload_n (pc := 19) C dX6_plus_19 rfl 2 rfl ?_
    obtain ⟨b25, h⟩ := h
    refine q_iald (pc := 20) C Lr1 Kr1 b25 dX6_plus_20 ?_
    refine q_goto (tgt := 30) (pc := 21) C dX6_plus_21 (by decide) ?_
    exact sbX6_plus_30 C Lh0 Kh0 h
theorem mwX6_minus_0 : ∀ w ∈ wsX60, w ∈ wsX6_minus := by decide +kernel
theorem mwX6_minus_1 : Cond.fieldLink RX6 13 "IntFileModel" "lens" "[I" ∈ wsX6_minus := by decide +kernel
theorem mwX6_minus_2 : Cond.constant RX6 43 (65535) ∈ wsX6_minus := by decide +kernel
def bkX6_minus_63 (G : qG) (h0 : Nat) (x1 : Int32) (x2 : Int32) (x3 : Int32) (x4 : Int32) (x6 : Int32) (s0 : Int32) (post : qS → Prop) (kb14 : Int32 → Int32 → qS → Prop) (σ : qS) : Prop := ∀ v15 : Int32, v15 = x6 + 1 → kb14 s0 v15 σ
set_option maxHeartbeats 4000000 in
set_option maxRecDepth 100000 in
theorem sbX6_minus_63 {p : Program} {l : Launch} {e : Env} {s : State} {m : MethodId} {args : Array Value} {below : List Frame} {meth : Method} {c : Code} {E : qE} {L : List Nat} {G : qG} {A : Nat → Prop} (C : q_C p s m args meth c cX6_minus 8 wsX6_minus RX6 none E L G A) {h0 : Nat} {x1 : Int32} {x2 : Int32} {x3 : Int32} {x4 : Int32} {x6 : Int32} {s0 : Int32} (Lh0 : h0 ∈ L) (Kh0 : G.1 h0 = 6) {post : qS → Prop} {kb14 : Int32 → Int32 → qS → Prop} (Hkb14 : ∀ (y5 : Int32) (y6 : Int32) (τ : qS), kb14 y5 y6 τ → Wd p l e (q_rm 2) s m args below meth c E L G A (MQ below (va_Qv post (q_B E L G) A) args s 0 0 A) 8 τ 14 [(0, .ref h0), (1, .int x1), (2, .int x2), (3, .int x3), (4, .int x4), (5, .int y5), (6, .int y6)] []) {σ : qS} (h : bkX6_minus_63 G h0 x1 x2 x3 x4 x6 s0 post kb14 σ) : Wd p l e (q_rm 2) s m args below meth c E L G A (MQ below (va_Qv post (q_B E L G) A) args s 0 0 A) 8 σ 63 [(0, .ref h0), (1, .int x1), (2, .int x2), (3, .int x3), (4, .int x4), (6, .int x6)] [.int s0] := by
  unfold bkX6_minus_63 at h
  refine q_istore (pc := 63) (lv' := [(5, .int s0), (0, .ref h0), (1, .int x1), (2, .int x2), (3, .int x3), (4, .int x4), (6, .int x6)]) C dX6_minus_63 (by decide) rfl ?_
  obtain ⟨v15, ev15⟩ : ∃ z : Int32, z = x6 + 1 := ⟨_, rfl⟩
  replace h := h v15 ev15
  refine q_iinc (pc := 65) (v := v15) (j := 6) (lv' := [(6, .int v15), (5, .int s0), (0, .ref h0), (1, .int x1), (2, .int x2), (3, .int x3), (4, .int x4)]) C dX6_minus_65 rfl (by rw [ev15]; rfl) (by decide) rfl ?_
  refine q_goto (tgt := 14) (pc := 68) C dX6_minus_68 (by decide) ?_
  refine q_lv (lv' := [(0, .ref h0), (1, .int x1), (2, .int x2), (3, .int x3), (4, .int x4), (5, .int s0), (6, .int v15)]) [2, 3, 4, 5, 6, 1, 0] rfl ?_
  exact Hkb14 s0 v15 σ h
def lpX6_minus_14 (G : qG) (h0 : Nat) (x1 : Int32) (x2 : Int32) (x3 : Int32) (x4 : Int32) (post : qS → Prop) (kx71 : qS → Prop) : Nat → Int32 → Int32 → qS → Prop
  | 0, _, _, _ => False
  | n + 1, x5, x6, σ => ((x4 ≤ x6 → kx71 σ) ∧ (¬ x4 ≤ x6 → wpX6_digit G h0 x2 x6 σ (fun (u8 : Int32) (σ7 : qS) => wpX6_digit G h0 x3 x6 σ7 (fun (u10 : Int32) (σ9 : qS) => ∀ v11 : Int32, v11 = (u8 - u10) - x5 → wpX6_put G h0 x1 x6 (v11 &&& 65535) σ9 (fun (σ12 : qS) => ((0 ≤ v11 → bkX6_minus_63 G h0 x1 x2 x3 x4 x6 0 post (lpX6_minus_14 G h0 x1 x2 x3 x4 post kx71 n) σ12) ∧ (¬ 0 ≤ v11 → bkX6_minus_63 G h0 x1 x2 x3 x4 x6 1 post (lpX6_minus_14 G h0 x1 x2 x3 x4 post kx71 n) σ12)))))))
set_option maxHeartbeats 4000000 in
set_option maxRecDepth 100000 in
theorem slX6_minus_14 {p : Program} {l : Launch} {e : Env} {s : State} {m : MethodId} {args : Array Value} {below : List Frame} {meth : Method} {c : Code} {E : qE} {L : List Nat} {G : qG} {A : Nat → Prop} (C : q_C p s m args meth c cX6_minus 8 wsX6_minus RX6 none E L G A) {h0 : Nat} {x1 : Int32} {x2 : Int32} {x3 : Int32} {x4 : Int32} (Lh0 : h0 ∈ L) (Kh0 : G.1 h0 = 6) {post : qS → Prop} {kx71 : qS → Prop} (Hkx71 : ∀  (τ : qS), kx71  τ → Wd p l e (q_rm 2) s m args below meth c E L G A (MQ below (va_Qv post (q_B E L G) A) args s 0 0 A) 8 τ 71 [(0, .ref h0), (1, .int x1), (4, .int x4)] []) : ∀ (n : Nat) (x5 : Int32) (x6 : Int32) (σ : qS), lpX6_minus_14 G h0 x1 x2 x3 x4 post kx71 n x5 x6 σ → Wd p l e (q_rm 2) s m args below meth c E L G A (MQ below (va_Qv post (q_B E L G) A) args s 0 0 A) 8 σ 14 [(0, .ref h0), (1, .int x1), (2, .int x2), (3, .int x3), (4, .int x4), (5, .int x5), (6, .int x6)] [] := by
  intro n
  induction n with
  | zero => intro x5 x6 σ h; exact h.elim
  | succ n ih =>
    intro x5 x6 σ h
    unfold lpX6_minus_14 at h
    refine q_iload (pc := 14) C dX6_minus_14 6 rfl ?_
    refine q_iload (pc := 16) C dX6_minus_16 4 rfl ?_
    refine q_icmp_ge (tgt := 71) (pc := 18) C dX6_minus_18 (by decide) (fun c6 => ?_) (fun c6 => ?_)
    · replace h := h.1 c6
      refine q_lv (lv' := [(0, .ref h0), (1, .int x1), (4, .int x4)]) [0, 1, 4] rfl ?_
      exact Hkx71  σ h
    · replace h := h.2 c6
      refine q_aload_n (pc := 21) C dX6_minus_21 rfl 0 rfl ?_
      refine q_iload_n (pc := 22) C dX6_minus_22 rfl 2 rfl ?_
      refine q_iload (pc := 23) C dX6_minus_23 6 rfl ?_
      refine q_cVi (pc := 25) (As := [.int x2, .int x6]) (ci := 6) (Cn := RX6) (T := TX6) (N := 9) C (sdX6_digit C.2.2.2.2.2.1 C.2.2.2.2.2.2 Lh0 Kh0 h) (cwV 2 C.1.2.2.2.2 gX6_minus_X6_digit rfl rfl rfl (by decide +kernel) (q_room (by decide) (by decide))) Lh0 (qc6 Kh0 _) rfl rfl rfl (Nat.le_of_ble_eq_true rfl) dX6_minus_25 (fun u8 σ7 h => ?_)
      refine q_aload_n (pc := 28) C dX6_minus_28 rfl 0 rfl ?_
      refine q_iload_n (pc := 29) C dX6_minus_29 rfl 3 rfl ?_
      refine q_iload (pc := 30) C dX6_minus_30 6 rfl ?_
      refine q_cVi (pc := 32) (As := [.int x3, .int x6]) (ci := 6) (Cn := RX6) (T := TX6) (N := 9) C (sdX6_digit C.2.2.2.2.2.1 C.2.2.2.2.2.2 Lh0 Kh0 h) (cwV 2 C.1.2.2.2.2 gX6_minus_X6_digit rfl rfl rfl (by decide +kernel) (q_room (by decide) (by decide))) Lh0 (qc6 Kh0 _) rfl rfl rfl (Nat.le_of_ble_eq_true rfl) dX6_minus_32 (fun u10 σ9 h => ?_)
      refine q_isub (pc := 35) C dX6_minus_35 ?_
      refine q_iload (pc := 36) C dX6_minus_36 5 rfl ?_
      refine q_isub (pc := 38) C dX6_minus_38 ?_
      refine q_topi (fun v11 ev11 => ?_)
      replace h := h v11 ev11
      refine q_istore (pc := 39) (lv' := [(7, .int v11), (0, .ref h0), (1, .int x1), (2, .int x2), (3, .int x3), (4, .int x4), (5, .int x5), (6, .int x6)]) C dX6_minus_39 (by decide) rfl ?_
      refine q_aload_n (pc := 41) C dX6_minus_41 rfl 1 rfl ?_
      refine q_iload_n (pc := 42) C dX6_minus_42 rfl 2 rfl ?_
      refine q_iload (pc := 43) C dX6_minus_43 7 rfl ?_
      refine q_iload (pc := 45) C dX6_minus_45 0 rfl ?_
      refine q_ldc (pc := 47) (v := 65535) C dX6_minus_47 mwX6_minus_2 ?_
      refine q_iand (pc := 49) C dX6_minus_49 ?_
      refine q_cVv (pc := 50) (As := [.int x1, .int x6, .int (v11 &&& 65535)]) (ci := 6) (Cn := RX6) (T := TX6) (N := 9) C (sdX6_put C.2.2.2.2.2.1 C.2.2.2.2.2.2 Lh0 Kh0 h) (cwV 3 C.1.2.2.2.2 gX6_minus_X6_put rfl rfl rfl (by decide +kernel) (q_room (by decide) (by decide))) Lh0 (qc6 Kh0 _) rfl rfl rfl (Nat.le_of_ble_eq_true rfl) dX6_minus_50 (fun σ12 h => ?_)
      refine q_iload (pc := 53) C dX6_minus_53 0 rfl ?_
      refine q_if_ge (tgt := 62) (pc := 55) C dX6_minus_55 (by decide) (fun c14 => ?_) (fun c14 => ?_)
      · replace h := h.1 c14
        refine q_iconst (pc := 62) (v := 0) C dX6_minus_62 (by decide) ?_
        refine q_lv (lv' := [(0, .ref h0), (1, .int x1), (2, .int x2), (3, .int x3), (4, .int x4), (6, .int x6)]) [1, 2, 3, 4, 5, 7] rfl ?_
        exact sbX6_minus_63 C Lh0 Kh0 ih h
      · replace h := h.2 c14
        refine q_iconst (pc := 58) (v := 1) C dX6_minus_58 (by decide) ?_
        refine q_goto (tgt := 63) (pc := 59) C dX6_minus_59 (by decide) ?_
        refine q_lv (lv' := [(0, .ref h0), (1, .int x1), (2, .int x2), (3, .int x3), (4, .int x4), (6, .int x6)]) [1, 2, 3, 4, 5, 7] rfl ?_
        exact sbX6_minus_63 C Lh0 Kh0 ih h
def wpX6_minus (G : qG) (h0 : Nat) (x1 : Int32) (x2 : Int32) (x3 : Int32) (σ : qS) (post : qS → Prop) : Prop := vp_in x2 (G.2.2 ((G.2.1 h0 3))) ∧ ∀ v3 : Int32, v3 = σ ((G.2.1 h0 3)) x2.toNatClampNeg → ∀ v4 : Int32, v4 = 0 → ∀ v5 : Int32, v5 = 0 → ∃ n19 : Nat, lpX6_minus_14 G h0 x1 x2 x3 v3 post (fun  (σ16 : qS) => wpX6_trim G h0 x1 v3 σ16 (fun (σ17 : qS) => post σ17)) n19 v4 v5 σ
set_option maxHeartbeats 4000000 in
set_option maxRecDepth 100000 in
theorem sdX6_minus {l : Launch} {E : qE} {L : List Nat} {G : qG} (hN : L.Nodup) (hG : q_WF G L) {h0 : Nat} {x1 : Int32} {x2 : Int32} {x3 : Int32} (Lh0 : h0 ∈ L) (Kh0 : G.1 h0 = 6) {σ : qS} {post : qS → Prop} (h : wpX6_minus G h0 x1 x2 x3 σ post) : MtV l E L G yX6_minus wsX6_minus (q_rm 2) [.ref h0, .int x1, .int x2, .int x3] σ post := by
  refine q_met (Qc := fun sz => va_Qv post (q_B E L G) (q_free L sz)) (cc := cX6_minus) (maxL := 8) (ret := none) (own := RX6) (by decide) rfl rfl (Nat.le_of_ble_eq_true rfl) hN hG ?_
  intro p e s m below meth c C
  unfold wpX6_minus at h
  refine q_aload_n (pc := 0) C dX6_minus_0 rfl 0 rfl ?_
  obtain ⟨Lr1, Kr1⟩ := qw_6_3 C.2.2.2.2.2.2 Lh0 Kh0
  refine q_g6_3 (pc := 1) C Lh0 Kh0 mwX6_minus_0 mwX6_minus_1 dX6_minus_1 ?_
  refine q_iload_n (pc := 4) C dX6_minus_4 rfl 2 rfl ?_
  obtain ⟨b2, h⟩ := h
  refine q_iald (pc := 5) C Lr1 Kr1 b2 dX6_minus_5 ?_
  refine q_topi (fun v3 ev3 => ?_)
  replace h := h v3 ev3
  refine q_istore (pc := 6) (lv' := [(4, .int v3), (0, .ref h0), (1, .int x1), (2, .int x2), (3, .int x3)]) C dX6_minus_6 (by decide) rfl ?_
  refine q_iconst (pc := 8) (v := 0) C dX6_minus_8 (by decide) ?_
  refine q_topi (fun v4 ev4 => ?_)
  replace h := h v4 ev4
  refine q_istore (pc := 9) (lv' := [(5, .int v4), (4, .int v3), (0, .ref h0), (1, .int x1), (2, .int x2), (3, .int x3)]) C dX6_minus_9 (by decide) rfl ?_
  refine q_iconst (pc := 11) (v := 0) C dX6_minus_11 (by decide) ?_
  refine q_topi (fun v5 ev5 => ?_)
  replace h := h v5 ev5
  refine q_istore (pc := 12) (lv' := [(6, .int v5), (5, .int v4), (4, .int v3), (0, .ref h0), (1, .int x1), (2, .int x2), (3, .int x3)]) C dX6_minus_12 (by decide) rfl ?_
  refine q_lv (lv' := [(0, .ref h0), (1, .int x1), (2, .int x2), (3, .int x3), (4, .int v3), (5, .int v4), (6, .int v5)]) [3, 4, 5, 6, 2, 1, 0] rfl ?_
  obtain ⟨n19, h⟩ := h
  refine slX6_minus_14 C Lh0 Kh0 ?_ n19 v4 v5 σ h
  · intro σ16 h
    refine q_aload_n (pc := 71) C dX6_minus_71 rfl 0 rfl ?_
    refine q_iload_n (pc := 72) C dX6_minus_72 rfl 1 rfl ?_
    refine q_iload (pc := 73) C dX6_minus_73 2 rfl ?_
    refine q_cVv (pc := 75) (As := [.int x1, .int v3]) (ci := 6) (Cn := RX6) (T := TX6) (N := 9) C (sdX6_trim C.2.2.2.2.2.1 C.2.2.2.2.2.2 Lh0 Kh0 h) (cwV 2 C.1.2.2.2.2 gX6_minus_X6_trim rfl rfl rfl (by decide +kernel) (q_room (by decide) (by decide))) Lh0 (qc6 Kh0 _) rfl rfl rfl (Nat.le_of_ble_eq_true rfl) dX6_minus_75 (fun σ17 h => ?_)
    exact q_vret (pc := 78) C dX6_minus_78 h
theorem mwX6_times_0 : ∀ w ∈ wsX60, w ∈ wsX6_times := by decide +kernel
theorem mwX6_times_1 : Cond.fieldLink RX6 13 "IntFileModel" "lens" "[I" ∈ wsX6_times := by decide +kernel
theorem mwX6_times_2 : Cond.fieldLink RX6 7 "IntFileModel" "cells" "[I" ∈ wsX6_times := by decide +kernel
theorem mwX6_times_3 : Cond.constantLong RX6 33 (65535) ∈ wsX6_times := by decide +kernel
theorem mwX6_times_4 : Cond.fieldLink RX6 16 "IntFileModel" "below" "[Z" ∈ wsX6_times := by decide +kernel
def lpX6_times_18 (G : qG) (h0 : Nat) (x1 : Int32) (x2 : Int32) (x3 : Int32) (x4 : Int32) (post : qS → Prop) (kx39 : qS → Prop) : Nat → Int32 → qS → Prop
  | 0, _, _ => False
  | n + 1, x5, σ => ((x4 ≤ x5 → kx39 σ) ∧ (¬ x4 ≤ x5 → wpX6_put G h0 x1 x5 0 σ (fun (σ7 : qS) => ∀ v9 : Int32, v9 = x5 + 1 → lpX6_times_18 G h0 x1 x2 x3 x4 post kx39 n v9 σ7)))
set_option maxHeartbeats 4000000 in
set_option maxRecDepth 100000 in
theorem slX6_times_18 {p : Program} {l : Launch} {e : Env} {s : State} {m : MethodId} {args : Array Value} {below : List Frame} {meth : Method} {c : Code} {E : qE} {L : List Nat} {G : qG} {A : Nat → Prop} (C : q_C p s m args meth c cX6_times 13 wsX6_times RX6 none E L G A) {h0 : Nat} {x1 : Int32} {x2 : Int32} {x3 : Int32} {x4 : Int32} (Lh0 : h0 ∈ L) (Kh0 : G.1 h0 = 6) {post : qS → Prop} {kx39 : qS → Prop} (Hkx39 : ∀  (τ : qS), kx39  τ → Wd p l e (q_rm 2) s m args below meth c E L G A (MQ below (va_Qv post (q_B E L G) A) args s 0 0 A) 13 τ 39 [(0, .ref h0), (1, .int x1), (2, .int x2), (3, .int x3), (4, .int x4)] []) : ∀ (n : Nat) (x5 : Int32) (σ : qS), lpX6_times_18 G h0 x1 x2 x3 x4 post kx39 n x5 σ → Wd p l e (q_rm 2) s m args below meth c E L G A (MQ below (va_Qv post (q_B E L G) A) args s 0 0 A) 13 σ 18 [(0, .ref h0), (1, .int x1), (2, .int x2), (3, .int x3), (4, .int x4), (5, .int x5)] [] := by
  intro n
  induction n with
  | zero => intro x5 σ h; exact h.elim
  | succ n ih =>
    intro x5 σ h
    unfold lpX6_times_18 at h
    refine q_iload (pc := 18) C dX6_times_18 5 rfl ?_
    refine q_iload (pc := 20) C dX6_times_20 4 rfl ?_
    refine q_icmp_ge (tgt := 39) (pc := 22) C dX6_times_22 (by decide) (fun c6 => ?_) (fun c6 => ?_)
    · replace h := h.1 c6
      refine q_lv (lv' := [(0, .ref h0), (1, .int x1), (2, .int x2), (3, .int x3), (4, .int x4)]) [0, 1, 2, 3, 4] rfl ?_
      exact Hkx39  σ h
    · replace h := h.2 c6
      refine q_aload_n (pc := 25) C dX6_times_25 rfl 0 rfl ?_
      refine q_iload_n (pc := 26) C dX6_times_26 rfl 1 rfl ?_
      refine q_iload (pc := 27) C dX6_times_27 5 rfl ?_
      refine q_iconst (pc := 29) (v := 0) C dX6_times_29 (by decide) ?_
      refine q_cVv (pc := 30) (As := [.int x1, .int x5, .int 0]) (ci := 6) (Cn := RX6) (T := TX6) (N := 9) C (sdX6_put C.2.2.2.2.2.1 C.2.2.2.2.2.2 Lh0 Kh0 h) (cwV 3 C.1.2.2.2.2 gX6_times_X6_put rfl rfl rfl (by decide +kernel) (q_room (by decide) (by decide))) Lh0 (qc6 Kh0 _) rfl rfl rfl (Nat.le_of_ble_eq_true rfl) dX6_times_30 (fun σ7 h => ?_)
      obtain ⟨v9, ev9⟩ : ∃ z : Int32, z = x5 + 1 := ⟨_, rfl⟩
      replace h := h v9 ev9
      refine q_iinc (pc := 33) (v := v9) (j := 5) (lv' := [(5, .int v9), (0, .ref h0), (1, .int x1), (2, .int x2), (3, .int x3), (4, .int x4)]) C dX6_times_33 rfl (by rw [ev9]; rfl) (by decide) rfl ?_
      refine q_goto (tgt := 18) (pc := 36) C dX6_times_36 (by decide) ?_
      refine q_lv (lv' := [(0, .ref h0), (1, .int x1), (2, .int x2), (3, .int x3), (4, .int x4), (5, .int v9)]) [1, 2, 3, 4, 5, 0] rfl ?_
      exact ih v9 σ7 h
def lpX6_times_69 (G : qG) (h0 : Nat) (x1 : Int32) (x2 : Int32) (x3 : Int32) (x4 : Int32) (x5 : Int32) (x8 : Int64) (post : qS → Prop) (kx144 : Int64 → qS → Prop) : Nat → Int64 → Int32 → qS → Prop
  | 0, _, _, _ => False
  | n + 1, x6, x10, σ => vp_in x3 (G.2.2 ((G.2.1 h0 3))) ∧ (((σ ((G.2.1 h0 3)) x3.toNatClampNeg) ≤ x10 → kx144 x6 σ) ∧ (¬ (σ ((G.2.1 h0 3)) x3.toNatClampNeg) ≤ x10 → vp_in ((((520 : Int32) * x1) + x5) + x10) (G.2.2 ((G.2.1 h0 2))) ∧ wpX6_digit G h0 x3 x10 σ (fun (u26 : Int32) (σ25 : qS) => ∀ v27 : Int64, v27 = (((σ ((G.2.1 h0 2)) ((((520 : Int32) * x1) + x5) + x10).toNatClampNeg).toInt64) + (x8 * u26.toInt64)) + x6 → wpX6_put G h0 x1 (x5 + x10) ((v27 &&& 65535).toInt32) σ25 (fun (σ28 : qS) => ∀ v30 : Int64, v30 = (v27.toUInt64 >>> ((16 : Int32).toInt64.toUInt64 &&& Int64.toUInt64 63)).toInt64 → ∀ v31 : Int32, v31 = x10 + 1 → lpX6_times_69 G h0 x1 x2 x3 x4 x5 x8 post kx144 n v30 v31 σ28))))
set_option maxHeartbeats 4000000 in
set_option maxRecDepth 100000 in
theorem slX6_times_69 {p : Program} {l : Launch} {e : Env} {s : State} {m : MethodId} {args : Array Value} {below : List Frame} {meth : Method} {c : Code} {E : qE} {L : List Nat} {G : qG} {A : Nat → Prop} (C : q_C p s m args meth c cX6_times 13 wsX6_times RX6 none E L G A) {h0 : Nat} {x1 : Int32} {x2 : Int32} {x3 : Int32} {x4 : Int32} {x5 : Int32} {x8 : Int64} (Lh0 : h0 ∈ L) (Kh0 : G.1 h0 = 6) {post : qS → Prop} {kx144 : Int64 → qS → Prop} (Hkx144 : ∀ (y6 : Int64) (τ : qS), kx144 y6 τ → Wd p l e (q_rm 2) s m args below meth c E L G A (MQ below (va_Qv post (q_B E L G) A) args s 0 0 A) 13 τ 144 [(0, .ref h0), (1, .int x1), (2, .int x2), (3, .int x3), (4, .int x4), (5, .int x5), (6, .long y6)] []) : ∀ (n : Nat) (x6 : Int64) (x10 : Int32) (σ : qS), lpX6_times_69 G h0 x1 x2 x3 x4 x5 x8 post kx144 n x6 x10 σ → Wd p l e (q_rm 2) s m args below meth c E L G A (MQ below (va_Qv post (q_B E L G) A) args s 0 0 A) 13 σ 69 [(0, .ref h0), (1, .int x1), (2, .int x2), (3, .int x3), (4, .int x4), (5, .int x5), (6, .long x6), (8, .long x8), (10, .int x10)] [] := by
  intro n
  induction n with
  | zero => intro x6 x10 σ h; exact h.elim
  | succ n ih =>
    intro x6 x10 σ h
    unfold lpX6_times_69 at h
    refine q_iload (pc := 69) C dX6_times_69 8 rfl ?_
    refine q_aload_n (pc := 71) C dX6_times_71 rfl 0 rfl ?_
    obtain ⟨Lr20, Kr20⟩ := qw_6_3 C.2.2.2.2.2.2 Lh0 Kh0
    refine q_g6_3 (pc := 72) C Lh0 Kh0 mwX6_times_0 mwX6_times_1 dX6_times_72 ?_
    refine q_iload_n (pc := 75) C dX6_times_75 rfl 3 rfl ?_
    obtain ⟨b21, h⟩ := h
    refine q_iald (pc := 76) C Lr20 Kr20 b21 dX6_times_76 ?_
    refine q_icmp_ge (tgt := 144) (pc := 77) C dX6_times_77 (by decide) (fun c22 => ?_) (fun c22 => ?_)
    · replace h := h.1 c22
      refine q_lv (lv' := [(0, .ref h0), (1, .int x1), (2, .int x2), (3, .int x3), (4, .int x4), (5, .int x5), (6, .long x6)]) [0, 1, 2, 3, 4, 5, 6] rfl ?_
      exact Hkx144 x6 σ h
    · replace h := h.2 c22
      refine q_aload_n (pc := 80) C dX6_times_80 rfl 0 rfl ?_
      obtain ⟨Lr23, Kr23⟩ := qw_6_2 C.2.2.2.2.2.2 Lh0 Kh0
      refine q_g6_2 (pc := 81) C Lh0 Kh0 mwX6_times_0 mwX6_times_2 dX6_times_81 ?_
      refine q_sipush (pc := 84) (v := 520) C dX6_times_84 (by decide) ?_
      refine q_iload_n (pc := 87) C dX6_times_87 rfl 1 rfl ?_
      refine q_imul (pc := 88) C dX6_times_88 ?_
      refine q_iload (pc := 89) C dX6_times_89 5 rfl ?_
      refine q_iadd (pc := 91) C dX6_times_91 ?_
      refine q_iload (pc := 92) C dX6_times_92 8 rfl ?_
      refine q_iadd (pc := 94) C dX6_times_94 ?_
      obtain ⟨b24, h⟩ := h
      refine q_iald (pc := 95) C Lr23 Kr23 b24 dX6_times_95 ?_
      refine q_i2l (pc := 96) C dX6_times_96 ?_
      refine q_lload (pc := 97) C dX6_times_97 7 rfl ?_
      refine q_aload_n (pc := 99) C dX6_times_99 rfl 0 rfl ?_
      refine q_iload_n (pc := 100) C dX6_times_100 rfl 3 rfl ?_
      refine q_iload (pc := 101) C dX6_times_101 8 rfl ?_
      refine q_cVi (pc := 103) (As := [.int x3, .int x10]) (ci := 6) (Cn := RX6) (T := TX6) (N := 9) C (sdX6_digit C.2.2.2.2.2.1 C.2.2.2.2.2.2 Lh0 Kh0 h) (cwV 2 C.1.2.2.2.2 gX6_times_X6_digit rfl rfl rfl (by decide +kernel) (q_room (by decide) (by decide))) Lh0 (qc6 Kh0 _) rfl rfl rfl (Nat.le_of_ble_eq_true rfl) dX6_times_103 (fun u26 σ25 h => ?_)
      refine q_i2l (pc := 106) C dX6_times_106 ?_
      refine q_lmul (pc := 107) C dX6_times_107 ?_
      refine q_ladd (pc := 108) C dX6_times_108 ?_
      refine q_lload (pc := 109) C dX6_times_109 6 rfl ?_
      refine q_ladd (pc := 111) C dX6_times_111 ?_
      refine q_topl (fun v27 ev27 => ?_)
      replace h := h v27 ev27
      refine q_lstore (pc := 112) (lv' := [(11, .long v27), (0, .ref h0), (1, .int x1), (2, .int x2), (3, .int x3), (4, .int x4), (5, .int x5), (6, .long x6), (8, .long x8), (10, .int x10)]) C dX6_times_112 (by decide) rfl ?_
      refine q_aload_n (pc := 114) C dX6_times_114 rfl 1 rfl ?_
      refine q_iload_n (pc := 115) C dX6_times_115 rfl 2 rfl ?_
      refine q_iload (pc := 116) C dX6_times_116 6 rfl ?_
      refine q_iload (pc := 118) C dX6_times_118 9 rfl ?_
      refine q_iadd (pc := 120) C dX6_times_120 ?_
      refine q_lload (pc := 121) C dX6_times_121 0 rfl ?_
      refine q_ldc2 (pc := 123) (v := 65535) C dX6_times_123 mwX6_times_3 ?_
      refine q_land (pc := 126) C dX6_times_126 ?_
      refine q_l2i (pc := 127) C dX6_times_127 ?_
      refine q_cVv (pc := 128) (As := [.int x1, .int (x5 + x10), .int ((v27 &&& 65535).toInt32)]) (ci := 6) (Cn := RX6) (T := TX6) (N := 9) C (sdX6_put C.2.2.2.2.2.1 C.2.2.2.2.2.2 Lh0 Kh0 h) (cwV 3 C.1.2.2.2.2 gX6_times_X6_put rfl rfl rfl (by decide +kernel) (q_room (by decide) (by decide))) Lh0 (qc6 Kh0 _) rfl rfl rfl (Nat.le_of_ble_eq_true rfl) dX6_times_128 (fun σ28 h => ?_)
      refine q_lload (pc := 131) C dX6_times_131 0 rfl ?_
      refine q_bipush (pc := 133) (v := 16) C dX6_times_133 (by decide) ?_
      refine q_lushr (pc := 135) C dX6_times_135 ?_
      refine q_topl (fun v30 ev30 => ?_)
      replace h := h v30 ev30
      refine q_lstore (pc := 136) (lv' := [(6, .long v30), (11, .long v27), (0, .ref h0), (1, .int x1), (2, .int x2), (3, .int x3), (4, .int x4), (5, .int x5), (8, .long x8), (10, .int x10)]) C dX6_times_136 (by decide) rfl ?_
      obtain ⟨v31, ev31⟩ : ∃ z : Int32, z = x10 + 1 := ⟨_, rfl⟩
      replace h := h v31 ev31
      refine q_iinc (pc := 138) (v := v31) (j := 9) (lv' := [(10, .int v31), (6, .long v30), (11, .long v27), (0, .ref h0), (1, .int x1), (2, .int x2), (3, .int x3), (4, .int x4), (5, .int x5), (8, .long x8)]) C dX6_times_138 rfl (by rw [ev31]; rfl) (by decide) rfl ?_
      refine q_goto (tgt := 69) (pc := 141) C dX6_times_141 (by decide) ?_
      refine q_lv (lv' := [(0, .ref h0), (1, .int x1), (2, .int x2), (3, .int x3), (4, .int x4), (5, .int x5), (6, .long v30), (8, .long x8), (10, .int v31)]) [3, 4, 5, 6, 7, 8, 1, 9, 0] rfl ?_
      exact ih v30 v31 σ28 h
def lpX6_times_42 (G : qG) (h0 : Nat) (x1 : Int32) (x2 : Int32) (x3 : Int32) (x4 : Int32) (post : qS → Prop) (kx167 : qS → Prop) : Nat → Int32 → qS → Prop
  | 0, _, _ => False
  | n + 1, x5, σ => vp_in x2 (G.2.2 ((G.2.1 h0 3))) ∧ (((σ ((G.2.1 h0 3)) x2.toNatClampNeg) ≤ x5 → kx167 σ) ∧ (¬ (σ ((G.2.1 h0 3)) x2.toNatClampNeg) ≤ x5 → ∀ v15 : Int64, v15 = 0 → wpX6_digit G h0 x2 x5 σ (fun (u17 : Int32) (σ16 : qS) => ∀ v18 : Int64, v18 = u17.toInt64 → ∀ v19 : Int32, v19 = 0 → ∃ n38 : Nat, lpX6_times_69 G h0 x1 x2 x3 x4 x5 v18 post (fun (w32 : Int64) (σ33 : qS) => vp_in x3 (G.2.2 ((G.2.1 h0 3))) ∧ wpX6_put G h0 x1 (x5 + (σ33 ((G.2.1 h0 3)) x3.toNatClampNeg)) w32.toInt32 σ33 (fun (σ35 : qS) => ∀ v37 : Int32, v37 = x5 + 1 → lpX6_times_42 G h0 x1 x2 x3 x4 post kx167 n v37 σ35)) n38 v15 v19 σ16)))
set_option maxHeartbeats 4000000 in
set_option maxRecDepth 100000 in
theorem slX6_times_42 {p : Program} {l : Launch} {e : Env} {s : State} {m : MethodId} {args : Array Value} {below : List Frame} {meth : Method} {c : Code} {E : qE} {L : List Nat} {G : qG} {A : Nat → Prop} (C : q_C p s m args meth c cX6_times 13 wsX6_times RX6 none E L G A) {h0 : Nat} {x1 : Int32} {x2 : Int32} {x3 : Int32} {x4 : Int32} (Lh0 : h0 ∈ L) (Kh0 : G.1 h0 = 6) {post : qS → Prop} {kx167 : qS → Prop} (Hkx167 : ∀  (τ : qS), kx167  τ → Wd p l e (q_rm 2) s m args below meth c E L G A (MQ below (va_Qv post (q_B E L G) A) args s 0 0 A) 13 τ 167 [(0, .ref h0), (1, .int x1), (4, .int x4)] []) : ∀ (n : Nat) (x5 : Int32) (σ : qS), lpX6_times_42 G h0 x1 x2 x3 x4 post kx167 n x5 σ → Wd p l e (q_rm 2) s m args below meth c E L G A (MQ below (va_Qv post (q_B E L G) A) args s 0 0 A) 13 σ 42 [(0, .ref h0), (1, .int x1), (2, .int x2), (3, .int x3), (4, .int x4), (5, .int x5)] [] := by
  intro n
  induction n with
  | zero => intro x5 σ h; exact h.elim
  | succ n ih =>
    intro x5 σ h
    unfold lpX6_times_42 at h
    refine q_iload (pc := 42) C dX6_times_42 5 rfl ?_
    refine q_aload_n (pc := 44) C dX6_times_44 rfl 0 rfl ?_
    obtain ⟨Lr12, Kr12⟩ := qw_6_3 C.2.2.2.2.2.2 Lh0 Kh0
    refine q_g6_3 (pc := 45) C Lh0 Kh0 mwX6_times_0 mwX6_times_1 dX6_times_45 ?_
    refine q_iload_n (pc := 48) C dX6_times_48 rfl 2 rfl ?_
    obtain ⟨b13, h⟩ := h
    refine q_iald (pc := 49) C Lr12 Kr12 b13 dX6_times_49 ?_
    refine q_icmp_ge (tgt := 167) (pc := 50) C dX6_times_50 (by decide) (fun c14 => ?_) (fun c14 => ?_)
    · replace h := h.1 c14
      refine q_lv (lv' := [(0, .ref h0), (1, .int x1), (4, .int x4)]) [0, 1, 4] rfl ?_
      exact Hkx167  σ h
    · replace h := h.2 c14
      refine q_lconst (pc := 53) (v := 0) C dX6_times_53 (by decide) ?_
      refine q_topl (fun v15 ev15 => ?_)
      replace h := h v15 ev15
      refine q_lstore (pc := 54) (lv' := [(6, .long v15), (0, .ref h0), (1, .int x1), (2, .int x2), (3, .int x3), (4, .int x4), (5, .int x5)]) C dX6_times_54 (by decide) rfl ?_
      refine q_aload_n (pc := 56) C dX6_times_56 rfl 1 rfl ?_
      refine q_iload_n (pc := 57) C dX6_times_57 rfl 3 rfl ?_
      refine q_iload (pc := 58) C dX6_times_58 6 rfl ?_
      refine q_cVi (pc := 60) (As := [.int x2, .int x5]) (ci := 6) (Cn := RX6) (T := TX6) (N := 9) C (sdX6_digit C.2.2.2.2.2.1 C.2.2.2.2.2.2 Lh0 Kh0 h) (cwV 2 C.1.2.2.2.2 gX6_times_X6_digit rfl rfl rfl (by decide +kernel) (q_room (by decide) (by decide))) Lh0 (qc6 Kh0 _) rfl rfl rfl (Nat.le_of_ble_eq_true rfl) dX6_times_60 (fun u17 σ16 h => ?_)
      refine q_i2l (pc := 63) C dX6_times_63 ?_
      refine q_topl (fun v18 ev18 => ?_)
      replace h := h v18 ev18
      refine q_lstore (pc := 64) (lv' := [(8, .long v18), (6, .long v15), (0, .ref h0), (1, .int x1), (2, .int x2), (3, .int x3), (4, .int x4), (5, .int x5)]) C dX6_times_64 (by decide) rfl ?_
      refine q_iconst (pc := 66) (v := 0) C dX6_times_66 (by decide) ?_
      refine q_topi (fun v19 ev19 => ?_)
      replace h := h v19 ev19
      refine q_istore (pc := 67) (lv' := [(10, .int v19), (8, .long v18), (6, .long v15), (0, .ref h0), (1, .int x1), (2, .int x2), (3, .int x3), (4, .int x4), (5, .int x5)]) C dX6_times_67 (by decide) rfl ?_
      refine q_lv (lv' := [(0, .ref h0), (1, .int x1), (2, .int x2), (3, .int x3), (4, .int x4), (5, .int x5), (6, .long v15), (8, .long v18), (10, .int v19)]) [3, 4, 5, 6, 7, 8, 2, 1, 0] rfl ?_
      obtain ⟨n38, h⟩ := h
      refine slX6_times_69 C Lh0 Kh0 ?_ n38 v15 v19 σ16 h
      · intro w32 σ33 h
        refine q_aload_n (pc := 144) C dX6_times_144 rfl 0 rfl ?_
        refine q_iload_n (pc := 145) C dX6_times_145 rfl 1 rfl ?_
        refine q_iload (pc := 146) C dX6_times_146 5 rfl ?_
        refine q_aload_n (pc := 148) C dX6_times_148 rfl 0 rfl ?_
        refine q_g6_3 (pc := 149) C Lh0 Kh0 mwX6_times_0 mwX6_times_1 dX6_times_149 ?_
        refine q_iload_n (pc := 152) C dX6_times_152 rfl 3 rfl ?_
        obtain ⟨b34, h⟩ := h
        refine q_iald (pc := 153) C Lr12 Kr12 b34 dX6_times_153 ?_
        refine q_iadd (pc := 154) C dX6_times_154 ?_
        refine q_lload (pc := 155) C dX6_times_155 6 rfl ?_
        refine q_l2i (pc := 157) C dX6_times_157 ?_
        refine q_cVv (pc := 158) (As := [.int x1, .int (x5 + (σ33 ((G.2.1 h0 3)) x3.toNatClampNeg)), .int w32.toInt32]) (ci := 6) (Cn := RX6) (T := TX6) (N := 9) C (sdX6_put C.2.2.2.2.2.1 C.2.2.2.2.2.2 Lh0 Kh0 h) (cwV 3 C.1.2.2.2.2 gX6_times_X6_put rfl rfl rfl (by decide +kernel) (q_room (by decide) (by decide))) Lh0 (qc6 Kh0 _) rfl rfl rfl (Nat.le_of_ble_eq_true rfl) dX6_times_158 (fun σ35 h => ?_)
        obtain ⟨v37, ev37⟩ : ∃ z : Int32, z = x5 + 1 := ⟨_, rfl⟩
        replace h := h v37 ev37
        refine q_iinc (pc := 161) (v := v37) (j := 5) (lv' := [(5, .int v37), (0, .ref h0), (1, .int x1), (2, .int x2), (3, .int x3), (4, .int x4), (6, .long w32)]) C dX6_times_161 rfl (by rw [ev37]; rfl) (by decide) rfl ?_
        refine q_goto (tgt := 42) (pc := 164) C dX6_times_164 (by decide) ?_
        refine q_lv (lv' := [(0, .ref h0), (1, .int x1), (2, .int x2), (3, .int x3), (4, .int x4), (5, .int v37)]) [1, 2, 3, 4, 5, 0] rfl ?_
        exact ih v37 σ35 h
def wpX6_times (G : qG) (h0 : Nat) (x1 : Int32) (x2 : Int32) (x3 : Int32) (σ : qS) (post : qS → Prop) : Prop := vp_in x2 (G.2.2 ((G.2.1 h0 3))) ∧ vp_in x3 (G.2.2 ((G.2.1 h0 3))) ∧ ∀ v4 : Int32, v4 = (σ ((G.2.1 h0 3)) x2.toNatClampNeg) + (σ ((G.2.1 h0 3)) x3.toNatClampNeg) → ∀ v5 : Int32, v5 = 0 → ∃ n46 : Nat, lpX6_times_18 G h0 x1 x2 x3 v4 post (fun  (σ10 : qS) => ∀ v11 : Int32, v11 = 0 → ∃ n45 : Nat, lpX6_times_42 G h0 x1 x2 x3 v4 post (fun  (σ39 : qS) => vp_in x1 (G.2.2 ((G.2.1 h0 4))) ∧ ∀ σ42 : qS, σ42 = q_st σ39 ((G.2.1 h0 4)) x1.toNatClampNeg 0 → wpX6_trim G h0 x1 v4 σ42 (fun (σ43 : qS) => post σ43)) n45 v11 σ10) n46 v5 σ
set_option maxHeartbeats 4000000 in
set_option maxRecDepth 100000 in
theorem sdX6_times {l : Launch} {E : qE} {L : List Nat} {G : qG} (hN : L.Nodup) (hG : q_WF G L) {h0 : Nat} {x1 : Int32} {x2 : Int32} {x3 : Int32} (Lh0 : h0 ∈ L) (Kh0 : G.1 h0 = 6) {σ : qS} {post : qS → Prop} (h : wpX6_times G h0 x1 x2 x3 σ post) : MtV l E L G yX6_times wsX6_times (q_rm 2) [.ref h0, .int x1, .int x2, .int x3] σ post := by
  refine q_met (Qc := fun sz => va_Qv post (q_B E L G) (q_free L sz)) (cc := cX6_times) (maxL := 13) (ret := none) (own := RX6) (by decide) rfl rfl (Nat.le_of_ble_eq_true rfl) hN hG ?_
  intro p e s m below meth c C
  unfold wpX6_times at h
  refine q_aload_n (pc := 0) C dX6_times_0 rfl 0 rfl ?_
  obtain ⟨Lr1, Kr1⟩ := qw_6_3 C.2.2.2.2.2.2 Lh0 Kh0
  refine q_g6_3 (pc := 1) C Lh0 Kh0 mwX6_times_0 mwX6_times_1 dX6_times_1 ?_
  refine q_iload_n (pc := 4) C dX6_times_4 rfl 2 rfl ?_
  obtain ⟨b2, h⟩ := h
  refine q_iald (pc := 5) C Lr1 Kr1 b2 dX6_times_5 ?_
  refine q_aload_n (pc := 6) C dX6_times_6 rfl 0 rfl ?_
  refine q_g6_3 (pc := 7) C Lh0 Kh0 mwX6_times_0 mwX6_times_1 dX6_times_7 ?_
  refine q_iload_n (pc := 10) C dX6_times_10 rfl 3 rfl ?_
  obtain ⟨b3, h⟩ := h
  refine q_iald (pc := 11) C Lr1 Kr1 b3 dX6_times_11 ?_
  refine q_iadd (pc := 12) C dX6_times_12 ?_
  refine q_topi (fun v4 ev4 => ?_)
  replace h := h v4 ev4
  refine q_istore (pc := 13) (lv' := [(4, .int v4), (0, .ref h0), (1, .int x1), (2, .int x2), (3, .int x3)]) C dX6_times_13 (by decide) rfl ?_
  refine q_iconst (pc := 15) (v := 0) C dX6_times_15 (by decide) ?_
  refine q_topi (fun v5 ev5 => ?_)
  replace h := h v5 ev5
  refine q_istore (pc := 16) (lv' := [(5, .int v5), (4, .int v4), (0, .ref h0), (1, .int x1), (2, .int x2), (3, .int x3)]) C dX6_times_16 (by decide) rfl ?_
  refine q_lv (lv' := [(0, .ref h0), (1, .int x1), (2, .int x2), (3, .int x3), (4, .int v4), (5, .int v5)]) [2, 3, 4, 5, 1, 0] rfl ?_
  obtain ⟨n46, h⟩ := h
  refine slX6_times_18 C Lh0 Kh0 ?_ n46 v5 σ h
  · intro σ10 h
    refine q_iconst (pc := 39) (v := 0) C dX6_times_39 (by decide) ?_
    refine q_topi (fun v11 ev11 => ?_)
    replace h := h v11 ev11
    refine q_istore (pc := 40) (lv' := [(5, .int v11), (0, .ref h0), (1, .int x1), (2, .int x2), (3, .int x3), (4, .int v4)]) C dX6_times_40 (by decide) rfl ?_
    refine q_lv (lv' := [(0, .ref h0), (1, .int x1), (2, .int x2), (3, .int x3), (4, .int v4), (5, .int v11)]) [1, 2, 3, 4, 5, 0] rfl ?_
    obtain ⟨n45, h⟩ := h
    refine slX6_times_42 C Lh0 Kh0 ?_ n45 v11 σ10 h
    · intro σ39 h
      refine q_aload_n (pc := 167) C dX6_times_167 rfl 0 rfl ?_
      obtain ⟨Lr40, Kr40⟩ := qw_6_4 C.2.2.2.2.2.2 Lh0 Kh0
      refine q_g6_4 (pc := 168) C Lh0 Kh0 mwX6_times_0 mwX6_times_4 dX6_times_168 ?_
      refine q_iload_n (pc := 171) C dX6_times_171 rfl 1 rfl ?_
      refine q_iconst (pc := 172) (v := 0) C dX6_times_172 (by decide) ?_
      obtain ⟨b41, h⟩ := h
      refine q_zast (pc := 173) C Lr40 Kr40 b41 (Or.inl rfl) dX6_times_173 (fun σ42 eσ42 => ?_)
      replace h := h σ42 eσ42
      refine q_aload_n (pc := 174) C dX6_times_174 rfl 0 rfl ?_
      refine q_iload_n (pc := 175) C dX6_times_175 rfl 1 rfl ?_
      refine q_iload (pc := 176) C dX6_times_176 2 rfl ?_
      refine q_cVv (pc := 178) (As := [.int x1, .int v4]) (ci := 6) (Cn := RX6) (T := TX6) (N := 9) C (sdX6_trim C.2.2.2.2.2.1 C.2.2.2.2.2.2 Lh0 Kh0 h) (cwV 2 C.1.2.2.2.2 gX6_times_X6_trim rfl rfl rfl (by decide +kernel) (q_room (by decide) (by decide))) Lh0 (qc6 Kh0 _) rfl rfl rfl (Nat.le_of_ble_eq_true rfl) dX6_times_178 (fun σ43 h => ?_)
      exact q_vret (pc := 181) C dX6_times_181 h
theorem mwX6_shiftUp_0 : ∀ w ∈ wsX60, w ∈ wsX6_shiftUp := by decide +kernel
theorem mwX6_shiftUp_1 : Cond.fieldLink RX6 13 "IntFileModel" "lens" "[I" ∈ wsX6_shiftUp := by decide +kernel
theorem mwX6_shiftUp_2 : Cond.constant RX6 43 (65535) ∈ wsX6_shiftUp := by decide +kernel
def bkX6_shiftUp_81 (G : qG) (h0 : Nat) (x1 : Int32) (x2 : Int32) (x4 : Int32) (x5 : Int32) (x6 : Int32) (x7 : Int32) (x8 : Int32) (s0 : Int32) (post : qS → Prop) (kb30 : Int32 → qS → Prop) (σ : qS) : Prop := wpX6_put G h0 x1 x7 (((x8 <<< (x5 &&& 31)) ||| ((s0 <<< (x5 &&& 31)) >>> ((16 : Int32) &&& 31))) &&& 65535) σ (fun (σ10 : qS) => ∀ v12 : Int32, v12 = x7 + (-1) → kb30 v12 σ10)
set_option maxHeartbeats 4000000 in
set_option maxRecDepth 100000 in
theorem sbX6_shiftUp_81 {p : Program} {l : Launch} {e : Env} {s : State} {m : MethodId} {args : Array Value} {below : List Frame} {meth : Method} {c : Code} {E : qE} {L : List Nat} {G : qG} {A : Nat → Prop} (C : q_C p s m args meth c cX6_shiftUp 10 wsX6_shiftUp RX6 none E L G A) {h0 : Nat} {x1 : Int32} {x2 : Int32} {x4 : Int32} {x5 : Int32} {x6 : Int32} {x7 : Int32} {x8 : Int32} {s0 : Int32} (Lh0 : h0 ∈ L) (Kh0 : G.1 h0 = 6) {post : qS → Prop} {kb30 : Int32 → qS → Prop} (Hkb30 : ∀ (y7 : Int32) (τ : qS), kb30 y7 τ → Wd p l e (q_rm 2) s m args below meth c E L G A (MQ below (va_Qv post (q_B E L G) A) args s 0 0 A) 10 τ 30 [(0, .ref h0), (1, .int x1), (2, .int x2), (4, .int x4), (5, .int x5), (6, .int x6), (7, .int y7)] []) {σ : qS} (h : bkX6_shiftUp_81 G h0 x1 x2 x4 x5 x6 x7 x8 s0 post kb30 σ) : Wd p l e (q_rm 2) s m args below meth c E L G A (MQ below (va_Qv post (q_B E L G) A) args s 0 0 A) 10 σ 81 [(0, .ref h0), (1, .int x1), (2, .int x2), (4, .int x4), (5, .int x5), (6, .int x6), (7, .int x7), (8, .int x8)] [.int s0] := by
  unfold bkX6_shiftUp_81 at h
  refine q_istore (pc := 81) (lv' := [(9, .int s0), (0, .ref h0), (1, .int x1), (2, .int x2), (4, .int x4), (5, .int x5), (6, .int x6), (7, .int x7), (8, .int x8)]) C dX6_shiftUp_81 (by decide) rfl ?_
  refine q_aload_n (pc := 83) C dX6_shiftUp_83 rfl 1 rfl ?_
  refine q_iload_n (pc := 84) C dX6_shiftUp_84 rfl 2 rfl ?_
  refine q_iload (pc := 85) C dX6_shiftUp_85 7 rfl ?_
  refine q_iload (pc := 87) C dX6_shiftUp_87 8 rfl ?_
  refine q_iload (pc := 89) C dX6_shiftUp_89 5 rfl ?_
  refine q_ishl (pc := 91) C dX6_shiftUp_91 ?_
  refine q_iload (pc := 92) C dX6_shiftUp_92 0 rfl ?_
  refine q_iload (pc := 94) C dX6_shiftUp_94 5 rfl ?_
  refine q_ishl (pc := 96) C dX6_shiftUp_96 ?_
  refine q_bipush (pc := 97) (v := 16) C dX6_shiftUp_97 (by decide) ?_
  refine q_ishr (pc := 99) C dX6_shiftUp_99 ?_
  refine q_ior (pc := 100) C dX6_shiftUp_100 ?_
  refine q_ldc (pc := 101) (v := 65535) C dX6_shiftUp_101 mwX6_shiftUp_2 ?_
  refine q_iand (pc := 103) C dX6_shiftUp_103 ?_
  refine q_cVv (pc := 104) (As := [.int x1, .int x7, .int (((x8 <<< (x5 &&& 31)) ||| ((s0 <<< (x5 &&& 31)) >>> ((16 : Int32) &&& 31))) &&& 65535)]) (ci := 6) (Cn := RX6) (T := TX6) (N := 9) C (sdX6_put C.2.2.2.2.2.1 C.2.2.2.2.2.2 Lh0 Kh0 h) (cwV 3 C.1.2.2.2.2 gX6_shiftUp_X6_put rfl rfl rfl (by decide +kernel) (q_room (by decide) (by decide))) Lh0 (qc6 Kh0 _) rfl rfl rfl (Nat.le_of_ble_eq_true rfl) dX6_shiftUp_104 (fun σ10 h => ?_)
  obtain ⟨v12, ev12⟩ : ∃ z : Int32, z = x7 + (-1) := ⟨_, rfl⟩
  replace h := h v12 ev12
  refine q_iinc (pc := 107) (v := v12) (j := 7) (lv' := [(7, .int v12), (9, .int s0), (0, .ref h0), (1, .int x1), (2, .int x2), (4, .int x4), (5, .int x5), (6, .int x6), (8, .int x8)]) C dX6_shiftUp_107 rfl (by rw [ev12]; rfl) (by decide) rfl ?_
  refine q_goto (tgt := 30) (pc := 110) C dX6_shiftUp_110 (by decide) ?_
  refine q_lv (lv' := [(0, .ref h0), (1, .int x1), (2, .int x2), (4, .int x4), (5, .int x5), (6, .int x6), (7, .int v12)]) [2, 3, 4, 5, 6, 7, 0] rfl ?_
  exact Hkb30 v12 σ10 h
def bkX6_shiftUp_56 (G : qG) (h0 : Nat) (x1 : Int32) (x2 : Int32) (x4 : Int32) (x5 : Int32) (x6 : Int32) (x7 : Int32) (s0 : Int32) (post : qS → Prop) (kb30 : Int32 → qS → Prop) (σ : qS) : Prop := ((x7 ≤ x4 → bkX6_shiftUp_81 G h0 x1 x2 x4 x5 x6 x7 s0 0 post kb30 σ) ∧ (¬ x7 ≤ x4 → wpX6_digit G h0 x2 ((x7 - x4) - 1) σ (fun (u14 : Int32) (σ13 : qS) => bkX6_shiftUp_81 G h0 x1 x2 x4 x5 x6 x7 s0 u14 post kb30 σ13)))
set_option maxHeartbeats 4000000 in
set_option maxRecDepth 100000 in
theorem sbX6_shiftUp_56 {p : Program} {l : Launch} {e : Env} {s : State} {m : MethodId} {args : Array Value} {below : List Frame} {meth : Method} {c : Code} {E : qE} {L : List Nat} {G : qG} {A : Nat → Prop} (C : q_C p s m args meth c cX6_shiftUp 10 wsX6_shiftUp RX6 none E L G A) {h0 : Nat} {x1 : Int32} {x2 : Int32} {x4 : Int32} {x5 : Int32} {x6 : Int32} {x7 : Int32} {s0 : Int32} (Lh0 : h0 ∈ L) (Kh0 : G.1 h0 = 6) {post : qS → Prop} {kb30 : Int32 → qS → Prop} (Hkb30 : ∀ (y7 : Int32) (τ : qS), kb30 y7 τ → Wd p l e (q_rm 2) s m args below meth c E L G A (MQ below (va_Qv post (q_B E L G) A) args s 0 0 A) 10 τ 30 [(0, .ref h0), (1, .int x1), (2, .int x2), (4, .int x4), (5, .int x5), (6, .int x6), (7, .int y7)] []) {σ : qS} (h : bkX6_shiftUp_56 G h0 x1 x2 x4 x5 x6 x7 s0 post kb30 σ) : Wd p l e (q_rm 2) s m args below meth c E L G A (MQ below (va_Qv post (q_B E L G) A) args s 0 0 A) 10 σ 56 [(0, .ref h0), (1, .int x1), (2, .int x2), (4, .int x4), (5, .int x5), (6, .int x6), (7, .int x7)] [.int s0] := by
  unfold bkX6_shiftUp_56 at h
  refine q_istore (pc := 56) (lv' := [(8, .int s0), (0, .ref h0), (1, .int x1), (2, .int x2), (4, .int x4), (5, .int x5), (6, .int x6), (7, .int x7)]) C dX6_shiftUp_56 (by decide) rfl ?_
  refine q_iload (pc := 58) C dX6_shiftUp_58 7 rfl ?_
  refine q_iload (pc := 60) C dX6_shiftUp_60 4 rfl ?_
  refine q_icmp_le (tgt := 80) (pc := 62) C dX6_shiftUp_62 (by decide) (fun c9 => ?_) (fun c9 => ?_)
  · replace h := h.1 c9
    refine q_iconst (pc := 80) (v := 0) C dX6_shiftUp_80 (by decide) ?_
    refine q_lv (lv' := [(0, .ref h0), (1, .int x1), (2, .int x2), (4, .int x4), (5, .int x5), (6, .int x6), (7, .int x7), (8, .int s0)]) [1, 2, 3, 4, 5, 6, 7, 0] rfl ?_
    exact sbX6_shiftUp_81 C Lh0 Kh0 Hkb30 h
  · replace h := h.2 c9
    refine q_aload_n (pc := 65) C dX6_shiftUp_65 rfl 1 rfl ?_
    refine q_iload_n (pc := 66) C dX6_shiftUp_66 rfl 3 rfl ?_
    refine q_iload (pc := 67) C dX6_shiftUp_67 7 rfl ?_
    refine q_iload (pc := 69) C dX6_shiftUp_69 4 rfl ?_
    refine q_isub (pc := 71) C dX6_shiftUp_71 ?_
    refine q_iconst (pc := 72) (v := 1) C dX6_shiftUp_72 (by decide) ?_
    refine q_isub (pc := 73) C dX6_shiftUp_73 ?_
    refine q_cVi (pc := 74) (As := [.int x2, .int ((x7 - x4) - 1)]) (ci := 6) (Cn := RX6) (T := TX6) (N := 9) C (sdX6_digit C.2.2.2.2.2.1 C.2.2.2.2.2.2 Lh0 Kh0 h) (cwV 2 C.1.2.2.2.2 gX6_shiftUp_X6_digit rfl rfl rfl (by decide +kernel) (q_room (by decide) (by decide))) Lh0 (qc6 Kh0 _) rfl rfl rfl (Nat.le_of_ble_eq_true rfl) dX6_shiftUp_74 (fun u14 σ13 h => ?_)
    refine q_goto (tgt := 81) (pc := 77) C dX6_shiftUp_77 (by decide) ?_
    refine q_lv (lv' := [(0, .ref h0), (1, .int x1), (2, .int x2), (4, .int x4), (5, .int x5), (6, .int x6), (7, .int x7), (8, .int s0)]) [1, 2, 3, 4, 5, 6, 7, 0] rfl ?_
    exact sbX6_shiftUp_81 C Lh0 Kh0 Hkb30 h
def lpX6_shiftUp_30 (G : qG) (h0 : Nat) (x1 : Int32) (x2 : Int32) (x4 : Int32) (x5 : Int32) (x6 : Int32) (post : qS → Prop) (kx113 : qS → Prop) : Nat → Int32 → qS → Prop
  | 0, _, _ => False
  | n + 1, x7, σ => ((x7 < 0 → kx113 σ) ∧ (¬ x7 < 0 → ((x7 < x4 → bkX6_shiftUp_56 G h0 x1 x2 x4 x5 x6 x7 0 post (lpX6_shiftUp_30 G h0 x1 x2 x4 x5 x6 post kx113 n) σ) ∧ (¬ x7 < x4 → wpX6_digit G h0 x2 (x7 - x4) σ (fun (u16 : Int32) (σ15 : qS) => bkX6_shiftUp_56 G h0 x1 x2 x4 x5 x6 x7 u16 post (lpX6_shiftUp_30 G h0 x1 x2 x4 x5 x6 post kx113 n) σ15)))))
set_option maxHeartbeats 4000000 in
set_option maxRecDepth 100000 in
theorem slX6_shiftUp_30 {p : Program} {l : Launch} {e : Env} {s : State} {m : MethodId} {args : Array Value} {below : List Frame} {meth : Method} {c : Code} {E : qE} {L : List Nat} {G : qG} {A : Nat → Prop} (C : q_C p s m args meth c cX6_shiftUp 10 wsX6_shiftUp RX6 none E L G A) {h0 : Nat} {x1 : Int32} {x2 : Int32} {x4 : Int32} {x5 : Int32} {x6 : Int32} (Lh0 : h0 ∈ L) (Kh0 : G.1 h0 = 6) {post : qS → Prop} {kx113 : qS → Prop} (Hkx113 : ∀  (τ : qS), kx113  τ → Wd p l e (q_rm 2) s m args below meth c E L G A (MQ below (va_Qv post (q_B E L G) A) args s 0 0 A) 10 τ 113 [(0, .ref h0), (1, .int x1), (6, .int x6)] []) : ∀ (n : Nat) (x7 : Int32) (σ : qS), lpX6_shiftUp_30 G h0 x1 x2 x4 x5 x6 post kx113 n x7 σ → Wd p l e (q_rm 2) s m args below meth c E L G A (MQ below (va_Qv post (q_B E L G) A) args s 0 0 A) 10 σ 30 [(0, .ref h0), (1, .int x1), (2, .int x2), (4, .int x4), (5, .int x5), (6, .int x6), (7, .int x7)] [] := by
  intro n
  induction n with
  | zero => intro x7 σ h; exact h.elim
  | succ n ih =>
    intro x7 σ h
    unfold lpX6_shiftUp_30 at h
    refine q_iload (pc := 30) C dX6_shiftUp_30 6 rfl ?_
    refine q_if_lt (tgt := 113) (pc := 32) C dX6_shiftUp_32 (by decide) (fun c7 => ?_) (fun c7 => ?_)
    · replace h := h.1 c7
      refine q_lv (lv' := [(0, .ref h0), (1, .int x1), (6, .int x6)]) [0, 1, 5] rfl ?_
      exact Hkx113  σ h
    · replace h := h.2 c7
      refine q_iload (pc := 35) C dX6_shiftUp_35 6 rfl ?_
      refine q_iload (pc := 37) C dX6_shiftUp_37 3 rfl ?_
      refine q_icmp_lt (tgt := 55) (pc := 39) C dX6_shiftUp_39 (by decide) (fun c8 => ?_) (fun c8 => ?_)
      · replace h := h.1 c8
        refine q_iconst (pc := 55) (v := 0) C dX6_shiftUp_55 (by decide) ?_
        exact sbX6_shiftUp_56 C Lh0 Kh0 ih h
      · replace h := h.2 c8
        refine q_aload_n (pc := 42) C dX6_shiftUp_42 rfl 0 rfl ?_
        refine q_iload_n (pc := 43) C dX6_shiftUp_43 rfl 2 rfl ?_
        refine q_iload (pc := 44) C dX6_shiftUp_44 6 rfl ?_
        refine q_iload (pc := 46) C dX6_shiftUp_46 3 rfl ?_
        refine q_isub (pc := 48) C dX6_shiftUp_48 ?_
        refine q_cVi (pc := 49) (As := [.int x2, .int (x7 - x4)]) (ci := 6) (Cn := RX6) (T := TX6) (N := 9) C (sdX6_digit C.2.2.2.2.2.1 C.2.2.2.2.2.2 Lh0 Kh0 h) (cwV 2 C.1.2.2.2.2 gX6_shiftUp_X6_digit rfl rfl rfl (by decide +kernel) (q_room (by decide) (by decide))) Lh0 (qc6 Kh0 _) rfl rfl rfl (Nat.le_of_ble_eq_true rfl) dX6_shiftUp_49 (fun u16 σ15 h => ?_)
        refine q_goto (tgt := 56) (pc := 52) C dX6_shiftUp_52 (by decide) ?_
        exact sbX6_shiftUp_56 C Lh0 Kh0 ih h
def wpX6_shiftUp (G : qG) (h0 : Nat) (x1 : Int32) (x2 : Int32) (x3 : Int32) (σ : qS) (post : qS → Prop) : Prop := ∀ v1 : Int32, v1 = x3 >>> ((4 : Int32) &&& 31) → ∀ v2 : Int32, v2 = x3 &&& 15 → vp_in x2 (G.2.2 ((G.2.1 h0 3))) ∧ ∀ v5 : Int32, v5 = ((σ ((G.2.1 h0 3)) x2.toNatClampNeg) + v1) + 1 → ∀ v6 : Int32, v6 = v5 - 1 → ∃ n20 : Nat, lpX6_shiftUp_30 G h0 x1 x2 v1 v2 v5 post (fun  (σ17 : qS) => wpX6_trim G h0 x1 v5 σ17 (fun (σ18 : qS) => post σ18)) n20 v6 σ
set_option maxHeartbeats 4000000 in
set_option maxRecDepth 100000 in
theorem sdX6_shiftUp {l : Launch} {E : qE} {L : List Nat} {G : qG} (hN : L.Nodup) (hG : q_WF G L) {h0 : Nat} {x1 : Int32} {x2 : Int32} {x3 : Int32} (Lh0 : h0 ∈ L) (Kh0 : G.1 h0 = 6) {σ : qS} {post : qS → Prop} (h : wpX6_shiftUp G h0 x1 x2 x3 σ post) : MtV l E L G yX6_shiftUp wsX6_shiftUp (q_rm 2) [.ref h0, .int x1, .int x2, .int x3] σ post := by
  refine q_met (Qc := fun sz => va_Qv post (q_B E L G) (q_free L sz)) (cc := cX6_shiftUp) (maxL := 10) (ret := none) (own := RX6) (by decide) rfl rfl (Nat.le_of_ble_eq_true rfl) hN hG ?_
  intro p e s m below meth c C
  unfold wpX6_shiftUp at h
  refine q_iload_n (pc := 0) C dX6_shiftUp_0 rfl 3 rfl ?_
  refine q_iconst (pc := 1) (v := 4) C dX6_shiftUp_1 (by decide) ?_
  refine q_ishr (pc := 2) C dX6_shiftUp_2 ?_
  refine q_topi (fun v1 ev1 => ?_)
  replace h := h v1 ev1
  refine q_istore (pc := 3) (lv' := [(4, .int v1), (0, .ref h0), (1, .int x1), (2, .int x2), (3, .int x3)]) C dX6_shiftUp_3 (by decide) rfl ?_
  refine q_iload_n (pc := 5) C dX6_shiftUp_5 rfl 4 rfl ?_
  refine q_bipush (pc := 6) (v := 15) C dX6_shiftUp_6 (by decide) ?_
  refine q_iand (pc := 8) C dX6_shiftUp_8 ?_
  refine q_topi (fun v2 ev2 => ?_)
  replace h := h v2 ev2
  refine q_istore (pc := 9) (lv' := [(5, .int v2), (4, .int v1), (0, .ref h0), (1, .int x1), (2, .int x2), (3, .int x3)]) C dX6_shiftUp_9 (by decide) rfl ?_
  refine q_aload_n (pc := 11) C dX6_shiftUp_11 rfl 2 rfl ?_
  obtain ⟨Lr3, Kr3⟩ := qw_6_3 C.2.2.2.2.2.2 Lh0 Kh0
  refine q_g6_3 (pc := 12) C Lh0 Kh0 mwX6_shiftUp_0 mwX6_shiftUp_1 dX6_shiftUp_12 ?_
  refine q_iload_n (pc := 15) C dX6_shiftUp_15 rfl 4 rfl ?_
  obtain ⟨b4, h⟩ := h
  refine q_iald (pc := 16) C Lr3 Kr3 b4 dX6_shiftUp_16 ?_
  refine q_iload (pc := 17) C dX6_shiftUp_17 1 rfl ?_
  refine q_iadd (pc := 19) C dX6_shiftUp_19 ?_
  refine q_iconst (pc := 20) (v := 1) C dX6_shiftUp_20 (by decide) ?_
  refine q_iadd (pc := 21) C dX6_shiftUp_21 ?_
  refine q_topi (fun v5 ev5 => ?_)
  replace h := h v5 ev5
  refine q_istore (pc := 22) (lv' := [(6, .int v5), (5, .int v2), (4, .int v1), (0, .ref h0), (1, .int x1), (2, .int x2), (3, .int x3)]) C dX6_shiftUp_22 (by decide) rfl ?_
  refine q_iload (pc := 24) C dX6_shiftUp_24 0 rfl ?_
  refine q_iconst (pc := 26) (v := 1) C dX6_shiftUp_26 (by decide) ?_
  refine q_isub (pc := 27) C dX6_shiftUp_27 ?_
  refine q_topi (fun v6 ev6 => ?_)
  replace h := h v6 ev6
  refine q_istore (pc := 28) (lv' := [(7, .int v6), (6, .int v5), (5, .int v2), (4, .int v1), (0, .ref h0), (1, .int x1), (2, .int x2), (3, .int x3)]) C dX6_shiftUp_28 (by decide) rfl ?_
  refine q_lv (lv' := [(0, .ref h0), (1, .int x1), (2, .int x2), (4, .int v1), (5, .int v2), (6, .int v5), (7, .int v6)]) [4, 5, 6, 3, 2, 1, 0] rfl ?_
  obtain ⟨n20, h⟩ := h
  refine slX6_shiftUp_30 C Lh0 Kh0 ?_ n20 v6 σ h
  · intro σ17 h
    refine q_aload_n (pc := 113) C dX6_shiftUp_113 rfl 0 rfl ?_
    refine q_iload_n (pc := 114) C dX6_shiftUp_114 rfl 1 rfl ?_
    refine q_iload (pc := 115) C dX6_shiftUp_115 2 rfl ?_
    refine q_cVv (pc := 117) (As := [.int x1, .int v5]) (ci := 6) (Cn := RX6) (T := TX6) (N := 9) C (sdX6_trim C.2.2.2.2.2.1 C.2.2.2.2.2.2 Lh0 Kh0 h) (cwV 2 C.1.2.2.2.2 gX6_shiftUp_X6_trim rfl rfl rfl (by decide +kernel) (q_room (by decide) (by decide))) Lh0 (qc6 Kh0 _) rfl rfl rfl (Nat.le_of_ble_eq_true rfl) dX6_shiftUp_117 (fun σ18 h => ?_)
    exact q_vret (pc := 120) C dX6_shiftUp_120 h
theorem mwX6_shiftDown_0 : ∀ w ∈ wsX60, w ∈ wsX6_shiftDown := by decide +kernel
theorem mwX6_shiftDown_1 : Cond.fieldLink RX6 13 "IntFileModel" "lens" "[I" ∈ wsX6_shiftDown := by decide +kernel
theorem mwX6_shiftDown_2 : Cond.constant RX6 43 (65535) ∈ wsX6_shiftDown := by decide +kernel
theorem mwX6_shiftDown_3 : Cond.fieldLink RX6 7 "IntFileModel" "cells" "[I" ∈ wsX6_shiftDown := by decide +kernel
def bkX6_shiftDown_121 (G : qG) (h0 : Nat) (x1 : Int32) (x2 : Int32) (x4 : Int32) (x5 : Int32) (x6 : Int32) (x7 : Int32) (x8 : Int32) (x9 : Int32) (s0 : Int32) (post : qS → Prop) (kb48 : Int32 → qS → Prop) (σ : qS) : Prop := wpX6_put G h0 x1 x8 (((((s0 <<< ((16 : Int32) &&& 31)) ||| x9).toUInt32 >>> (x5.toUInt32 &&& Int32.toUInt32 31)).toInt32) &&& 65535) σ (fun (σ13 : qS) => ∀ v15 : Int32, v15 = x8 + 1 → kb48 v15 σ13)
set_option maxHeartbeats 4000000 in
set_option maxRecDepth 100000 in
theorem sbX6_shiftDown_121 {p : Program} {l : Launch} {e : Env} {s : State} {m : MethodId} {args : Array Value} {below : List Frame} {meth : Method} {c : Code} {E : qE} {L : List Nat} {G : qG} {A : Nat → Prop} (C : q_C p s m args meth c cX6_shiftDown 11 wsX6_shiftDown RX6 none E L G A) {h0 : Nat} {x1 : Int32} {x2 : Int32} {x4 : Int32} {x5 : Int32} {x6 : Int32} {x7 : Int32} {x8 : Int32} {x9 : Int32} {s0 : Int32} (Lh0 : h0 ∈ L) (Kh0 : G.1 h0 = 6) {post : qS → Prop} {kb48 : Int32 → qS → Prop} (Hkb48 : ∀ (y8 : Int32) (τ : qS), kb48 y8 τ → Wd p l e (q_rm 2) s m args below meth c E L G A (MQ below (va_Qv post (q_B E L G) A) args s 0 0 A) 11 τ 48 [(0, .ref h0), (1, .int x1), (2, .int x2), (4, .int x4), (5, .int x5), (6, .int x6), (7, .int x7), (8, .int y8)] []) {σ : qS} (h : bkX6_shiftDown_121 G h0 x1 x2 x4 x5 x6 x7 x8 x9 s0 post kb48 σ) : Wd p l e (q_rm 2) s m args below meth c E L G A (MQ below (va_Qv post (q_B E L G) A) args s 0 0 A) 11 σ 121 [(0, .ref h0), (1, .int x1), (2, .int x2), (4, .int x4), (5, .int x5), (6, .int x6), (7, .int x7), (8, .int x8), (9, .int x9)] [.int s0] := by
  unfold bkX6_shiftDown_121 at h
  refine q_istore (pc := 121) (lv' := [(10, .int s0), (0, .ref h0), (1, .int x1), (2, .int x2), (4, .int x4), (5, .int x5), (6, .int x6), (7, .int x7), (8, .int x8), (9, .int x9)]) C dX6_shiftDown_121 (by decide) rfl ?_
  refine q_aload_n (pc := 123) C dX6_shiftDown_123 rfl 1 rfl ?_
  refine q_iload_n (pc := 124) C dX6_shiftDown_124 rfl 2 rfl ?_
  refine q_iload (pc := 125) C dX6_shiftDown_125 8 rfl ?_
  refine q_iload (pc := 127) C dX6_shiftDown_127 0 rfl ?_
  refine q_bipush (pc := 129) (v := 16) C dX6_shiftDown_129 (by decide) ?_
  refine q_ishl (pc := 131) C dX6_shiftDown_131 ?_
  refine q_iload (pc := 132) C dX6_shiftDown_132 9 rfl ?_
  refine q_ior (pc := 134) C dX6_shiftDown_134 ?_
  refine q_iload (pc := 135) C dX6_shiftDown_135 5 rfl ?_
  refine q_iushr (pc := 137) C dX6_shiftDown_137 ?_
  refine q_ldc (pc := 138) (v := 65535) C dX6_shiftDown_138 mwX6_shiftDown_2 ?_
  refine q_iand (pc := 140) C dX6_shiftDown_140 ?_
  refine q_cVv (pc := 141) (As := [.int x1, .int x8, .int (((((s0 <<< ((16 : Int32) &&& 31)) ||| x9).toUInt32 >>> (x5.toUInt32 &&& Int32.toUInt32 31)).toInt32) &&& 65535)]) (ci := 6) (Cn := RX6) (T := TX6) (N := 9) C (sdX6_put C.2.2.2.2.2.1 C.2.2.2.2.2.2 Lh0 Kh0 h) (cwV 3 C.1.2.2.2.2 gX6_shiftDown_X6_put rfl rfl rfl (by decide +kernel) (q_room (by decide) (by decide))) Lh0 (qc6 Kh0 _) rfl rfl rfl (Nat.le_of_ble_eq_true rfl) dX6_shiftDown_141 (fun σ13 h => ?_)
  obtain ⟨v15, ev15⟩ : ∃ z : Int32, z = x8 + 1 := ⟨_, rfl⟩
  replace h := h v15 ev15
  refine q_iinc (pc := 144) (v := v15) (j := 8) (lv' := [(8, .int v15), (10, .int s0), (0, .ref h0), (1, .int x1), (2, .int x2), (4, .int x4), (5, .int x5), (6, .int x6), (7, .int x7), (9, .int x9)]) C dX6_shiftDown_144 rfl (by rw [ev15]; rfl) (by decide) rfl ?_
  refine q_goto (tgt := 48) (pc := 147) C dX6_shiftDown_147 (by decide) ?_
  refine q_lv (lv' := [(0, .ref h0), (1, .int x1), (2, .int x2), (4, .int x4), (5, .int x5), (6, .int x6), (7, .int x7), (8, .int v15)]) [2, 3, 4, 5, 6, 7, 8, 0] rfl ?_
  exact Hkb48 v15 σ13 h
def bkX6_shiftDown_85 (G : qG) (h0 : Nat) (x1 : Int32) (x2 : Int32) (x4 : Int32) (x5 : Int32) (x6 : Int32) (x7 : Int32) (x8 : Int32) (s0 : Int32) (post : qS → Prop) (kb48 : Int32 → qS → Prop) (σ : qS) : Prop := ((x7 ≤ ((x8 + x4) + 1) → bkX6_shiftDown_121 G h0 x1 x2 x4 x5 x6 x7 x8 s0 0 post kb48 σ) ∧ (¬ x7 ≤ ((x8 + x4) + 1) → vp_in (((((520 : Int32) * x2) + x8) + x4) + 1) (G.2.2 ((G.2.1 h0 2))) ∧ bkX6_shiftDown_121 G h0 x1 x2 x4 x5 x6 x7 x8 s0 (σ ((G.2.1 h0 2)) (((((520 : Int32) * x2) + x8) + x4) + 1).toNatClampNeg) post kb48 σ))
set_option maxHeartbeats 4000000 in
set_option maxRecDepth 100000 in
theorem sbX6_shiftDown_85 {p : Program} {l : Launch} {e : Env} {s : State} {m : MethodId} {args : Array Value} {below : List Frame} {meth : Method} {c : Code} {E : qE} {L : List Nat} {G : qG} {A : Nat → Prop} (C : q_C p s m args meth c cX6_shiftDown 11 wsX6_shiftDown RX6 none E L G A) {h0 : Nat} {x1 : Int32} {x2 : Int32} {x4 : Int32} {x5 : Int32} {x6 : Int32} {x7 : Int32} {x8 : Int32} {s0 : Int32} (Lh0 : h0 ∈ L) (Kh0 : G.1 h0 = 6) {post : qS → Prop} {kb48 : Int32 → qS → Prop} (Hkb48 : ∀ (y8 : Int32) (τ : qS), kb48 y8 τ → Wd p l e (q_rm 2) s m args below meth c E L G A (MQ below (va_Qv post (q_B E L G) A) args s 0 0 A) 11 τ 48 [(0, .ref h0), (1, .int x1), (2, .int x2), (4, .int x4), (5, .int x5), (6, .int x6), (7, .int x7), (8, .int y8)] []) {σ : qS} (h : bkX6_shiftDown_85 G h0 x1 x2 x4 x5 x6 x7 x8 s0 post kb48 σ) : Wd p l e (q_rm 2) s m args below meth c E L G A (MQ below (va_Qv post (q_B E L G) A) args s 0 0 A) 11 σ 85 [(0, .ref h0), (1, .int x1), (2, .int x2), (4, .int x4), (5, .int x5), (6, .int x6), (7, .int x7), (8, .int x8)] [.int s0] := by
  unfold bkX6_shiftDown_85 at h
  refine q_istore (pc := 85) (lv' := [(9, .int s0), (0, .ref h0), (1, .int x1), (2, .int x2), (4, .int x4), (5, .int x5), (6, .int x6), (7, .int x7), (8, .int x8)]) C dX6_shiftDown_85 (by decide) rfl ?_
  refine q_iload (pc := 87) C dX6_shiftDown_87 8 rfl ?_
  refine q_iload (pc := 89) C dX6_shiftDown_89 4 rfl ?_
  refine q_iadd (pc := 91) C dX6_shiftDown_91 ?_
  refine q_iconst (pc := 92) (v := 1) C dX6_shiftDown_92 (by decide) ?_
  refine q_iadd (pc := 93) C dX6_shiftDown_93 ?_
  refine q_iload (pc := 94) C dX6_shiftDown_94 7 rfl ?_
  refine q_icmp_ge (tgt := 120) (pc := 96) C dX6_shiftDown_96 (by decide) (fun c12 => ?_) (fun c12 => ?_)
  · replace h := h.1 c12
    refine q_iconst (pc := 120) (v := 0) C dX6_shiftDown_120 (by decide) ?_
    refine q_lv (lv' := [(0, .ref h0), (1, .int x1), (2, .int x2), (4, .int x4), (5, .int x5), (6, .int x6), (7, .int x7), (8, .int x8), (9, .int s0)]) [1, 2, 3, 4, 5, 6, 7, 8, 0] rfl ?_
    exact sbX6_shiftDown_121 C Lh0 Kh0 Hkb48 h
  · replace h := h.2 c12
    refine q_aload_n (pc := 99) C dX6_shiftDown_99 rfl 1 rfl ?_
    obtain ⟨Lr16, Kr16⟩ := qw_6_2 C.2.2.2.2.2.2 Lh0 Kh0
    refine q_g6_2 (pc := 100) C Lh0 Kh0 mwX6_shiftDown_0 mwX6_shiftDown_3 dX6_shiftDown_100 ?_
    refine q_sipush (pc := 103) (v := 520) C dX6_shiftDown_103 (by decide) ?_
    refine q_iload_n (pc := 106) C dX6_shiftDown_106 rfl 3 rfl ?_
    refine q_imul (pc := 107) C dX6_shiftDown_107 ?_
    refine q_iload (pc := 108) C dX6_shiftDown_108 8 rfl ?_
    refine q_iadd (pc := 110) C dX6_shiftDown_110 ?_
    refine q_iload (pc := 111) C dX6_shiftDown_111 4 rfl ?_
    refine q_iadd (pc := 113) C dX6_shiftDown_113 ?_
    refine q_iconst (pc := 114) (v := 1) C dX6_shiftDown_114 (by decide) ?_
    refine q_iadd (pc := 115) C dX6_shiftDown_115 ?_
    obtain ⟨b17, h⟩ := h
    refine q_iald (pc := 116) C Lr16 Kr16 b17 dX6_shiftDown_116 ?_
    refine q_goto (tgt := 121) (pc := 117) C dX6_shiftDown_117 (by decide) ?_
    refine q_lv (lv' := [(0, .ref h0), (1, .int x1), (2, .int x2), (4, .int x4), (5, .int x5), (6, .int x6), (7, .int x7), (8, .int x8), (9, .int s0)]) [1, 2, 3, 4, 5, 6, 7, 8, 0] rfl ?_
    exact sbX6_shiftDown_121 C Lh0 Kh0 Hkb48 h
def lpX6_shiftDown_48 (G : qG) (h0 : Nat) (x1 : Int32) (x2 : Int32) (x4 : Int32) (x5 : Int32) (x6 : Int32) (x7 : Int32) (post : qS → Prop) (kx150 : qS → Prop) : Nat → Int32 → qS → Prop
  | 0, _, _ => False
  | n + 1, x8, σ => ((x6 ≤ x8 → kx150 σ) ∧ (¬ x6 ≤ x8 → ((x7 ≤ (x8 + x4) → bkX6_shiftDown_85 G h0 x1 x2 x4 x5 x6 x7 x8 0 post (lpX6_shiftDown_48 G h0 x1 x2 x4 x5 x6 x7 post kx150 n) σ) ∧ (¬ x7 ≤ (x8 + x4) → vp_in ((((520 : Int32) * x2) + x8) + x4) (G.2.2 ((G.2.1 h0 2))) ∧ bkX6_shiftDown_85 G h0 x1 x2 x4 x5 x6 x7 x8 (σ ((G.2.1 h0 2)) ((((520 : Int32) * x2) + x8) + x4).toNatClampNeg) post (lpX6_shiftDown_48 G h0 x1 x2 x4 x5 x6 x7 post kx150 n) σ))))
set_option maxHeartbeats 4000000 in
set_option maxRecDepth 100000 in
theorem slX6_shiftDown_48 {p : Program} {l : Launch} {e : Env} {s : State} {m : MethodId} {args : Array Value} {below : List Frame} {meth : Method} {c : Code} {E : qE} {L : List Nat} {G : qG} {A : Nat → Prop} (C : q_C p s m args meth c cX6_shiftDown 11 wsX6_shiftDown RX6 none E L G A) {h0 : Nat} {x1 : Int32} {x2 : Int32} {x4 : Int32} {x5 : Int32} {x6 : Int32} {x7 : Int32} (Lh0 : h0 ∈ L) (Kh0 : G.1 h0 = 6) {post : qS → Prop} {kx150 : qS → Prop} (Hkx150 : ∀  (τ : qS), kx150  τ → Wd p l e (q_rm 2) s m args below meth c E L G A (MQ below (va_Qv post (q_B E L G) A) args s 0 0 A) 11 τ 150 [(0, .ref h0), (1, .int x1), (6, .int x6)] []) : ∀ (n : Nat) (x8 : Int32) (σ : qS), lpX6_shiftDown_48 G h0 x1 x2 x4 x5 x6 x7 post kx150 n x8 σ → Wd p l e (q_rm 2) s m args below meth c E L G A (MQ below (va_Qv post (q_B E L G) A) args s 0 0 A) 11 σ 48 [(0, .ref h0), (1, .int x1), (2, .int x2), (4, .int x4), (5, .int x5), (6, .int x6), (7, .int x7), (8, .int x8)] [] := by
  intro n
  induction n with
  | zero => intro x8 σ h; exact h.elim
  | succ n ih =>
    intro x8 σ h
    unfold lpX6_shiftDown_48 at h
    refine q_iload (pc := 48) C dX6_shiftDown_48 7 rfl ?_
    refine q_iload (pc := 50) C dX6_shiftDown_50 5 rfl ?_
    refine q_icmp_ge (tgt := 150) (pc := 52) C dX6_shiftDown_52 (by decide) (fun c10 => ?_) (fun c10 => ?_)
    · replace h := h.1 c10
      refine q_lv (lv' := [(0, .ref h0), (1, .int x1), (6, .int x6)]) [0, 1, 5] rfl ?_
      exact Hkx150  σ h
    · replace h := h.2 c10
      refine q_iload (pc := 55) C dX6_shiftDown_55 7 rfl ?_
      refine q_iload (pc := 57) C dX6_shiftDown_57 3 rfl ?_
      refine q_iadd (pc := 59) C dX6_shiftDown_59 ?_
      refine q_iload (pc := 60) C dX6_shiftDown_60 6 rfl ?_
      refine q_icmp_ge (tgt := 84) (pc := 62) C dX6_shiftDown_62 (by decide) (fun c11 => ?_) (fun c11 => ?_)
      · replace h := h.1 c11
        refine q_iconst (pc := 84) (v := 0) C dX6_shiftDown_84 (by decide) ?_
        exact sbX6_shiftDown_85 C Lh0 Kh0 ih h
      · replace h := h.2 c11
        refine q_aload_n (pc := 65) C dX6_shiftDown_65 rfl 0 rfl ?_
        obtain ⟨Lr18, Kr18⟩ := qw_6_2 C.2.2.2.2.2.2 Lh0 Kh0
        refine q_g6_2 (pc := 66) C Lh0 Kh0 mwX6_shiftDown_0 mwX6_shiftDown_3 dX6_shiftDown_66 ?_
        refine q_sipush (pc := 69) (v := 520) C dX6_shiftDown_69 (by decide) ?_
        refine q_iload_n (pc := 72) C dX6_shiftDown_72 rfl 2 rfl ?_
        refine q_imul (pc := 73) C dX6_shiftDown_73 ?_
        refine q_iload (pc := 74) C dX6_shiftDown_74 7 rfl ?_
        refine q_iadd (pc := 76) C dX6_shiftDown_76 ?_
        refine q_iload (pc := 77) C dX6_shiftDown_77 3 rfl ?_
        refine q_iadd (pc := 79) C dX6_shiftDown_79 ?_
        obtain ⟨b19, h⟩ := h
        refine q_iald (pc := 80) C Lr18 Kr18 b19 dX6_shiftDown_80 ?_
        refine q_goto (tgt := 85) (pc := 81) C dX6_shiftDown_81 (by decide) ?_
        exact sbX6_shiftDown_85 C Lh0 Kh0 ih h
def bkX6_shiftDown_35 (G : qG) (h0 : Nat) (x1 : Int32) (x2 : Int32) (x4 : Int32) (x5 : Int32) (s0 : Int32) (post : qS → Prop) (σ : qS) : Prop := vp_in x2 (G.2.2 ((G.2.1 h0 3))) ∧ ∀ v8 : Int32, v8 = σ ((G.2.1 h0 3)) x2.toNatClampNeg → ∀ v9 : Int32, v9 = 0 → ∃ n23 : Nat, lpX6_shiftDown_48 G h0 x1 x2 x4 x5 s0 v8 post (fun  (σ20 : qS) => wpX6_trim G h0 x1 s0 σ20 (fun (σ21 : qS) => post σ21)) n23 v9 σ
set_option maxHeartbeats 4000000 in
set_option maxRecDepth 100000 in
theorem sbX6_shiftDown_35 {p : Program} {l : Launch} {e : Env} {s : State} {m : MethodId} {args : Array Value} {below : List Frame} {meth : Method} {c : Code} {E : qE} {L : List Nat} {G : qG} {A : Nat → Prop} (C : q_C p s m args meth c cX6_shiftDown 11 wsX6_shiftDown RX6 none E L G A) {h0 : Nat} {x1 : Int32} {x2 : Int32} {x4 : Int32} {x5 : Int32} {s0 : Int32} (Lh0 : h0 ∈ L) (Kh0 : G.1 h0 = 6) {post : qS → Prop} {σ : qS} (h : bkX6_shiftDown_35 G h0 x1 x2 x4 x5 s0 post σ) : Wd p l e (q_rm 2) s m args below meth c E L G A (MQ below (va_Qv post (q_B E L G) A) args s 0 0 A) 11 σ 35 [(0, .ref h0), (1, .int x1), (2, .int x2), (4, .int x4), (5, .int x5)] [.int s0] := by
  unfold bkX6_shiftDown_35 at h
  refine q_istore (pc := 35) (lv' := [(6, .int s0), (0, .ref h0), (1, .int x1), (2, .int x2), (4, .int x4), (5, .int x5)]) C dX6_shiftDown_35 (by decide) rfl ?_
  refine q_aload_n (pc := 37) C dX6_shiftDown_37 rfl 1 rfl ?_
  obtain ⟨Lr6, Kr6⟩ := qw_6_3 C.2.2.2.2.2.2 Lh0 Kh0
  refine q_g6_3 (pc := 38) C Lh0 Kh0 mwX6_shiftDown_0 mwX6_shiftDown_1 dX6_shiftDown_38 ?_
  refine q_iload_n (pc := 41) C dX6_shiftDown_41 rfl 3 rfl ?_
  obtain ⟨b7, h⟩ := h
  refine q_iald (pc := 42) C Lr6 Kr6 b7 dX6_shiftDown_42 ?_
  refine q_topi (fun v8 ev8 => ?_)
  replace h := h v8 ev8
  refine q_istore (pc := 43) (lv' := [(7, .int v8), (6, .int s0), (0, .ref h0), (1, .int x1), (2, .int x2), (4, .int x4), (5, .int x5)]) C dX6_shiftDown_43 (by decide) rfl ?_
  refine q_iconst (pc := 45) (v := 0) C dX6_shiftDown_45 (by decide) ?_
  refine q_topi (fun v9 ev9 => ?_)
  replace h := h v9 ev9
  refine q_istore (pc := 46) (lv' := [(8, .int v9), (7, .int v8), (6, .int s0), (0, .ref h0), (1, .int x1), (2, .int x2), (4, .int x4), (5, .int x5)]) C dX6_shiftDown_46 (by decide) rfl ?_
  refine q_lv (lv' := [(0, .ref h0), (1, .int x1), (2, .int x2), (4, .int x4), (5, .int x5), (6, .int s0), (7, .int v8), (8, .int v9)]) [3, 4, 5, 6, 7, 2, 1, 0] rfl ?_
  obtain ⟨n23, h⟩ := h
  refine slX6_shiftDown_48 C Lh0 Kh0 ?_ n23 v9 σ h
  · intro σ20 h
    refine q_aload_n (pc := 150) C dX6_shiftDown_150 rfl 0 rfl ?_
    refine q_iload_n (pc := 151) C dX6_shiftDown_151 rfl 1 rfl ?_
    refine q_iload (pc := 152) C dX6_shiftDown_152 2 rfl ?_
    refine q_cVv (pc := 154) (As := [.int x1, .int s0]) (ci := 6) (Cn := RX6) (T := TX6) (N := 9) C (sdX6_trim C.2.2.2.2.2.1 C.2.2.2.2.2.2 Lh0 Kh0 h) (cwV 2 C.1.2.2.2.2 gX6_shiftDown_X6_trim rfl rfl rfl (by decide +kernel) (q_room (by decide) (by decide))) Lh0 (qc6 Kh0 _) rfl rfl rfl (Nat.le_of_ble_eq_true rfl) dX6_shiftDown_154 (fun σ21 h => ?_)
    exact q_vret (pc := 157) C dX6_shiftDown_157 h
def wpX6_shiftDown (G : qG) (h0 : Nat) (x1 : Int32) (x2 : Int32) (x3 : Int32) (σ : qS) (post : qS → Prop) : Prop := ∀ v1 : Int32, v1 = x3 >>> ((4 : Int32) &&& 31) → ∀ v2 : Int32, v2 = x3 &&& 15 → vp_in x2 (G.2.2 ((G.2.1 h0 3))) ∧ (((σ ((G.2.1 h0 3)) x2.toNatClampNeg) ≤ v1 → bkX6_shiftDown_35 G h0 x1 x2 v1 v2 0 post σ) ∧ (¬ (σ ((G.2.1 h0 3)) x2.toNatClampNeg) ≤ v1 → vp_in x2 (G.2.2 ((G.2.1 h0 3))) ∧ bkX6_shiftDown_35 G h0 x1 x2 v1 v2 ((σ ((G.2.1 h0 3)) x2.toNatClampNeg) - v1) post σ))
set_option maxHeartbeats 4000000 in
set_option maxRecDepth 100000 in
theorem sdX6_shiftDown {l : Launch} {E : qE} {L : List Nat} {G : qG} (hN : L.Nodup) (hG : q_WF G L) {h0 : Nat} {x1 : Int32} {x2 : Int32} {x3 : Int32} (Lh0 : h0 ∈ L) (Kh0 : G.1 h0 = 6) {σ : qS} {post : qS → Prop} (h : wpX6_shiftDown G h0 x1 x2 x3 σ post) : MtV l E L G yX6_shiftDown wsX6_shiftDown (q_rm 2) [.ref h0, .int x1, .int x2, .int x3] σ post := by
  refine q_met (Qc := fun sz => va_Qv post (q_B E L G) (q_free L sz)) (cc := cX6_shiftDown) (maxL := 11) (ret := none) (own := RX6) (by decide) rfl rfl (Nat.le_of_ble_eq_true rfl) hN hG ?_
  intro p e s m below meth c C
  unfold wpX6_shiftDown at h
  refine q_iload_n (pc := 0) C dX6_shiftDown_0 rfl 3 rfl ?_
  refine q_iconst (pc := 1) (v := 4) C dX6_shiftDown_1 (by decide) ?_
  refine q_ishr (pc := 2) C dX6_shiftDown_2 ?_
  refine q_topi (fun v1 ev1 => ?_)
  replace h := h v1 ev1
  refine q_istore (pc := 3) (lv' := [(4, .int v1), (0, .ref h0), (1, .int x1), (2, .int x2), (3, .int x3)]) C dX6_shiftDown_3 (by decide) rfl ?_
  refine q_iload_n (pc := 5) C dX6_shiftDown_5 rfl 4 rfl ?_
  refine q_bipush (pc := 6) (v := 15) C dX6_shiftDown_6 (by decide) ?_
  refine q_iand (pc := 8) C dX6_shiftDown_8 ?_
  refine q_topi (fun v2 ev2 => ?_)
  replace h := h v2 ev2
  refine q_istore (pc := 9) (lv' := [(5, .int v2), (4, .int v1), (0, .ref h0), (1, .int x1), (2, .int x2), (3, .int x3)]) C dX6_shiftDown_9 (by decide) rfl ?_
  refine q_aload_n (pc := 11) C dX6_shiftDown_11 rfl 2 rfl ?_
  obtain ⟨Lr3, Kr3⟩ := qw_6_3 C.2.2.2.2.2.2 Lh0 Kh0
  refine q_g6_3 (pc := 12) C Lh0 Kh0 mwX6_shiftDown_0 mwX6_shiftDown_1 dX6_shiftDown_12 ?_
  refine q_iload_n (pc := 15) C dX6_shiftDown_15 rfl 4 rfl ?_
  obtain ⟨b4, h⟩ := h
  refine q_iald (pc := 16) C Lr3 Kr3 b4 dX6_shiftDown_16 ?_
  refine q_iload (pc := 17) C dX6_shiftDown_17 1 rfl ?_
  refine q_icmp_le (tgt := 34) (pc := 19) C dX6_shiftDown_19 (by decide) (fun c5 => ?_) (fun c5 => ?_)
  · replace h := h.1 c5
    refine q_iconst (pc := 34) (v := 0) C dX6_shiftDown_34 (by decide) ?_
    refine q_lv (lv' := [(0, .ref h0), (1, .int x1), (2, .int x2), (4, .int v1), (5, .int v2)]) [2, 3, 4, 1, 0] rfl ?_
    exact sbX6_shiftDown_35 C Lh0 Kh0 h
  · replace h := h.2 c5
    refine q_aload_n (pc := 22) C dX6_shiftDown_22 rfl 2 rfl ?_
    refine q_g6_3 (pc := 23) C Lh0 Kh0 mwX6_shiftDown_0 mwX6_shiftDown_1 dX6_shiftDown_23 ?_
    refine q_iload_n (pc := 26) C dX6_shiftDown_26 rfl 4 rfl ?_
    obtain ⟨b24, h⟩ := h
    refine q_iald (pc := 27) C Lr3 Kr3 b24 dX6_shiftDown_27 ?_
    refine q_iload (pc := 28) C dX6_shiftDown_28 1 rfl ?_
    refine q_isub (pc := 30) C dX6_shiftDown_30 ?_
    refine q_goto (tgt := 35) (pc := 31) C dX6_shiftDown_31 (by decide) ?_
    refine q_lv (lv' := [(0, .ref h0), (1, .int x1), (2, .int x2), (4, .int v1), (5, .int v2)]) [2, 3, 4, 1, 0] rfl ?_
    exact sbX6_shiftDown_35 C Lh0 Kh0 h
theorem mwX6_divide_0 : ∀ w ∈ wsX60, w ∈ wsX6_divide := by decide +kernel
theorem mwX6_divide_1 : Cond.fieldLink RX6 16 "IntFileModel" "below" "[Z" ∈ wsX6_divide := by decide +kernel
theorem mwX6_divide_2 : Cond.fieldLink RX6 13 "IntFileModel" "lens" "[I" ∈ wsX6_divide := by decide +kernel
theorem mwX6_divide_3 : Cond.constant RX6 54 (32768) ∈ wsX6_divide := by decide +kernel
theorem mwX6_divide_4 : Cond.fieldLink RX6 7 "IntFileModel" "cells" "[I" ∈ wsX6_divide := by decide +kernel
theorem mwX6_divide_5 : Cond.constantLong RX6 33 (65535) ∈ wsX6_divide := by decide +kernel
theorem mwX6_divide_6 : Cond.constant RX6 43 (65535) ∈ wsX6_divide := by decide +kernel
def lpX6_divide_51 (G : qG) (h0 : Nat) (x1 : Int32) (x2 : Int32) (post : qS → Prop) (kx78 : Int32 → qS → Prop) : Nat → Int32 → qS → Prop
  | 0, _, _ => False
  | n + 1, x3, σ => vp_in x2 (G.2.2 ((G.2.1 h0 3))) ∧ wpX6_digit G h0 x2 ((σ ((G.2.1 h0 3)) x2.toNatClampNeg) - 1) σ (fun (u13 : Int32) (σ12 : qS) => ((((u13 <<< (x3 &&& 31)) &&& 32768) = 0 → ∀ v15 : Int32, v15 = x3 + 1 → lpX6_divide_51 G h0 x1 x2 post kx78 n v15 σ12) ∧ (¬ ((u13 <<< (x3 &&& 31)) &&& 32768) = 0 → kx78 x3 σ12)))
set_option maxHeartbeats 4000000 in
set_option maxRecDepth 100000 in
theorem slX6_divide_51 {p : Program} {l : Launch} {e : Env} {s : State} {m : MethodId} {args : Array Value} {below : List Frame} {meth : Method} {c : Code} {E : qE} {L : List Nat} {G : qG} {A : Nat → Prop} (C : q_C p s m args meth c cX6_divide 20 wsX6_divide RX6 none E L G A) {h0 : Nat} {x1 : Int32} {x2 : Int32} (Lh0 : h0 ∈ L) (Kh0 : G.1 h0 = 6) {post : qS → Prop} {kx78 : Int32 → qS → Prop} (Hkx78 : ∀ (y3 : Int32) (τ : qS), kx78 y3 τ → Wd p l e (q_rm 3) s m args below meth c E L G A (MQ below (va_Qv post (q_B E L G) A) args s 0 0 A) 20 τ 78 [(0, .ref h0), (1, .int x1), (2, .int x2), (3, .int y3)] []) : ∀ (n : Nat) (x3 : Int32) (σ : qS), lpX6_divide_51 G h0 x1 x2 post kx78 n x3 σ → Wd p l e (q_rm 3) s m args below meth c E L G A (MQ below (va_Qv post (q_B E L G) A) args s 0 0 A) 20 σ 51 [(0, .ref h0), (1, .int x1), (2, .int x2), (3, .int x3)] [] := by
  intro n
  induction n with
  | zero => intro x3 σ h; exact h.elim
  | succ n ih =>
    intro x3 σ h
    unfold lpX6_divide_51 at h
    refine q_aload_n (pc := 51) C dX6_divide_51 rfl 0 rfl ?_
    refine q_iload_n (pc := 52) C dX6_divide_52 rfl 2 rfl ?_
    refine q_aload_n (pc := 53) C dX6_divide_53 rfl 0 rfl ?_
    obtain ⟨Lr10, Kr10⟩ := qw_6_3 C.2.2.2.2.2.2 Lh0 Kh0
    refine q_g6_3 (pc := 54) C Lh0 Kh0 mwX6_divide_0 mwX6_divide_2 dX6_divide_54 ?_
    refine q_iload_n (pc := 57) C dX6_divide_57 rfl 2 rfl ?_
    obtain ⟨b11, h⟩ := h
    refine q_iald (pc := 58) C Lr10 Kr10 b11 dX6_divide_58 ?_
    refine q_iconst (pc := 59) (v := 1) C dX6_divide_59 (by decide) ?_
    refine q_isub (pc := 60) C dX6_divide_60 ?_
    refine q_cVi (pc := 61) (As := [.int x2, .int ((σ ((G.2.1 h0 3)) x2.toNatClampNeg) - 1)]) (ci := 6) (Cn := RX6) (T := TX6) (N := 9) C (sdX6_digit C.2.2.2.2.2.1 C.2.2.2.2.2.2 Lh0 Kh0 h) (cwV 2 C.1.2.2.2.2 gX6_divide_X6_digit rfl rfl rfl (by decide +kernel) (q_room (by decide) (by decide))) Lh0 (qc6 Kh0 _) rfl rfl rfl (Nat.le_of_ble_eq_true rfl) dX6_divide_61 (fun u13 σ12 h => ?_)
    refine q_iload_n (pc := 64) C dX6_divide_64 rfl 3 rfl ?_
    refine q_ishl (pc := 65) C dX6_divide_65 ?_
    refine q_ldc (pc := 66) (v := 32768) C dX6_divide_66 mwX6_divide_3 ?_
    refine q_iand (pc := 68) C dX6_divide_68 ?_
    refine q_if_ne (tgt := 78) (pc := 69) C dX6_divide_69 (by decide) (fun c14 => ?_) (fun c14 => ?_)
    · replace h := h.2 c14
      exact Hkx78 x3 σ12 h
    · replace h := h.1 c14
      obtain ⟨v15, ev15⟩ : ∃ z : Int32, z = x3 + 1 := ⟨_, rfl⟩
      replace h := h v15 ev15
      refine q_iinc (pc := 72) (v := v15) (j := 3) (lv' := [(3, .int v15), (0, .ref h0), (1, .int x1), (2, .int x2)]) C dX6_divide_72 rfl (by rw [ev15]; rfl) (by decide) rfl ?_
      refine q_goto (tgt := 51) (pc := 75) C dX6_divide_75 (by decide) ?_
      refine q_lv (lv' := [(0, .ref h0), (1, .int x1), (2, .int x2), (3, .int v15)]) [1, 2, 3, 0] rfl ?_
      exact ih v15 σ12 h
def lpX6_divide_122 (G : qG) (h0 : Nat) (x3 : Int32) (x4 : Int32) (x5 : Int32) (post : qS → Prop) (kx144 : qS → Prop) : Nat → Int32 → qS → Prop
  | 0, _, _ => False
  | n + 1, x6, σ => ((x5 ≤ x6 → kx144 σ) ∧ (¬ x5 ≤ x6 → wpX6_put G h0 18 x6 0 σ (fun (σ30 : qS) => ∀ v32 : Int32, v32 = x6 + 1 → lpX6_divide_122 G h0 x3 x4 x5 post kx144 n v32 σ30)))
set_option maxHeartbeats 4000000 in
set_option maxRecDepth 100000 in
theorem slX6_divide_122 {p : Program} {l : Launch} {e : Env} {s : State} {m : MethodId} {args : Array Value} {below : List Frame} {meth : Method} {c : Code} {E : qE} {L : List Nat} {G : qG} {A : Nat → Prop} (C : q_C p s m args meth c cX6_divide 20 wsX6_divide RX6 none E L G A) {h0 : Nat} {x3 : Int32} {x4 : Int32} {x5 : Int32} (Lh0 : h0 ∈ L) (Kh0 : G.1 h0 = 6) {post : qS → Prop} {kx144 : qS → Prop} (Hkx144 : ∀  (τ : qS), kx144  τ → Wd p l e (q_rm 3) s m args below meth c E L G A (MQ below (va_Qv post (q_B E L G) A) args s 0 0 A) 20 τ 144 [(0, .ref h0), (3, .int x3), (4, .int x4), (5, .int x5)] []) : ∀ (n : Nat) (x6 : Int32) (σ : qS), lpX6_divide_122 G h0 x3 x4 x5 post kx144 n x6 σ → Wd p l e (q_rm 3) s m args below meth c E L G A (MQ below (va_Qv post (q_B E L G) A) args s 0 0 A) 20 σ 122 [(0, .ref h0), (3, .int x3), (4, .int x4), (5, .int x5), (6, .int x6)] [] := by
  intro n
  induction n with
  | zero => intro x6 σ h; exact h.elim
  | succ n ih =>
    intro x6 σ h
    unfold lpX6_divide_122 at h
    refine q_iload (pc := 122) C dX6_divide_122 4 rfl ?_
    refine q_iload (pc := 124) C dX6_divide_124 3 rfl ?_
    refine q_icmp_ge (tgt := 144) (pc := 126) C dX6_divide_126 (by decide) (fun c29 => ?_) (fun c29 => ?_)
    · replace h := h.1 c29
      refine q_lv (lv' := [(0, .ref h0), (3, .int x3), (4, .int x4), (5, .int x5)]) [0, 1, 2, 3] rfl ?_
      exact Hkx144  σ h
    · replace h := h.2 c29
      refine q_aload_n (pc := 129) C dX6_divide_129 rfl 0 rfl ?_
      refine q_bipush (pc := 130) (v := 18) C dX6_divide_130 (by decide) ?_
      refine q_iload (pc := 132) C dX6_divide_132 4 rfl ?_
      refine q_iconst (pc := 134) (v := 0) C dX6_divide_134 (by decide) ?_
      refine q_cVv (pc := 135) (As := [.int 18, .int x6, .int 0]) (ci := 6) (Cn := RX6) (T := TX6) (N := 9) C (sdX6_put C.2.2.2.2.2.1 C.2.2.2.2.2.2 Lh0 Kh0 h) (cwV 3 C.1.2.2.2.2 gX6_divide_X6_put rfl rfl rfl (by decide +kernel) (q_room (by decide) (by decide))) Lh0 (qc6 Kh0 _) rfl rfl rfl (Nat.le_of_ble_eq_true rfl) dX6_divide_135 (fun σ30 h => ?_)
      obtain ⟨v32, ev32⟩ : ∃ z : Int32, z = x6 + 1 := ⟨_, rfl⟩
      replace h := h v32 ev32
      refine q_iinc (pc := 138) (v := v32) (j := 4) (lv' := [(6, .int v32), (0, .ref h0), (3, .int x3), (4, .int x4), (5, .int x5)]) C dX6_divide_138 rfl (by rw [ev32]; rfl) (by decide) rfl ?_
      refine q_goto (tgt := 122) (pc := 141) C dX6_divide_141 (by decide) ?_
      refine q_lv (lv' := [(0, .ref h0), (3, .int x3), (4, .int x4), (5, .int x5), (6, .int v32)]) [1, 2, 3, 4, 0] rfl ?_
      exact ih v32 σ30 h
def lpX6_divide_244 (G : qG) (h0 : Nat) (x3 : Int32) (x4 : Int32) (x5 : Int32) (x6 : Int64) (x8 : Int32) (x11 : Int64) (post : qS → Prop) (kx319 : Int64 → qS → Prop) : Nat → Int64 → Int32 → qS → Prop
  | 0, _, _, _ => False
  | n + 1, x13, x15, σ => ((x4 ≤ x15 → kx319 x13 σ) ∧ (¬ x4 ≤ x15 → vp_in (((9360 : Int32) + x8) + x15) (G.2.2 ((G.2.1 h0 2))) ∧ vp_in ((9880 : Int32) + x15) (G.2.2 ((G.2.1 h0 2))) ∧ ∀ v52 : Int64, v52 = (((σ ((G.2.1 h0 2)) (((9360 : Int32) + x8) + x15).toNatClampNeg).toInt64) - (x11 * ((σ ((G.2.1 h0 2)) ((9880 : Int32) + x15).toNatClampNeg).toInt64))) - x13 → wpX6_put G h0 18 (x8 + x15) ((v52 &&& 65535).toInt32) σ (fun (σ53 : qS) => ∀ v55 : Int64, v55 = -(v52 >>> ((16 : Int32).toInt64 &&& 63)) → ∀ v56 : Int32, v56 = x15 + 1 → lpX6_divide_244 G h0 x3 x4 x5 x6 x8 x11 post kx319 n v55 v56 σ53)))
set_option maxHeartbeats 4000000 in
set_option maxRecDepth 100000 in
theorem slX6_divide_244 {p : Program} {l : Launch} {e : Env} {s : State} {m : MethodId} {args : Array Value} {below : List Frame} {meth : Method} {c : Code} {E : qE} {L : List Nat} {G : qG} {A : Nat → Prop} (C : q_C p s m args meth c cX6_divide 20 wsX6_divide RX6 none E L G A) {h0 : Nat} {x3 : Int32} {x4 : Int32} {x5 : Int32} {x6 : Int64} {x8 : Int32} {x11 : Int64} (Lh0 : h0 ∈ L) (Kh0 : G.1 h0 = 6) {post : qS → Prop} {kx319 : Int64 → qS → Prop} (Hkx319 : ∀ (y13 : Int64) (τ : qS), kx319 y13 τ → Wd p l e (q_rm 3) s m args below meth c E L G A (MQ below (va_Qv post (q_B E L G) A) args s 0 0 A) 20 τ 319 [(0, .ref h0), (3, .int x3), (4, .int x4), (5, .int x5), (6, .long x6), (8, .int x8), (11, .long x11), (13, .long y13)] []) : ∀ (n : Nat) (x13 : Int64) (x15 : Int32) (σ : qS), lpX6_divide_244 G h0 x3 x4 x5 x6 x8 x11 post kx319 n x13 x15 σ → Wd p l e (q_rm 3) s m args below meth c E L G A (MQ below (va_Qv post (q_B E L G) A) args s 0 0 A) 20 σ 244 [(0, .ref h0), (3, .int x3), (4, .int x4), (5, .int x5), (6, .long x6), (8, .int x8), (11, .long x11), (13, .long x13), (15, .int x15)] [] := by
  intro n
  induction n with
  | zero => intro x13 x15 σ h; exact h.elim
  | succ n ih =>
    intro x13 x15 σ h
    unfold lpX6_divide_244 at h
    refine q_iload (pc := 244) C dX6_divide_244 8 rfl ?_
    refine q_iload (pc := 246) C dX6_divide_246 2 rfl ?_
    refine q_icmp_ge (tgt := 319) (pc := 248) C dX6_divide_248 (by decide) (fun c48 => ?_) (fun c48 => ?_)
    · replace h := h.1 c48
      refine q_lv (lv' := [(0, .ref h0), (3, .int x3), (4, .int x4), (5, .int x5), (6, .long x6), (8, .int x8), (11, .long x11), (13, .long x13)]) [0, 1, 2, 3, 4, 5, 6, 7] rfl ?_
      exact Hkx319 x13 σ h
    · replace h := h.2 c48
      refine q_aload_n (pc := 251) C dX6_divide_251 rfl 0 rfl ?_
      obtain ⟨Lr49, Kr49⟩ := qw_6_2 C.2.2.2.2.2.2 Lh0 Kh0
      refine q_g6_2 (pc := 252) C Lh0 Kh0 mwX6_divide_0 mwX6_divide_4 dX6_divide_252 ?_
      refine q_sipush (pc := 255) (v := 9360) C dX6_divide_255 (by decide) ?_
      refine q_iload (pc := 258) C dX6_divide_258 5 rfl ?_
      refine q_iadd (pc := 260) C dX6_divide_260 ?_
      refine q_iload (pc := 261) C dX6_divide_261 8 rfl ?_
      refine q_iadd (pc := 263) C dX6_divide_263 ?_
      obtain ⟨b50, h⟩ := h
      refine q_iald (pc := 264) C Lr49 Kr49 b50 dX6_divide_264 ?_
      refine q_i2l (pc := 265) C dX6_divide_265 ?_
      refine q_lload (pc := 266) C dX6_divide_266 6 rfl ?_
      refine q_aload_n (pc := 268) C dX6_divide_268 rfl 0 rfl ?_
      refine q_g6_2 (pc := 269) C Lh0 Kh0 mwX6_divide_0 mwX6_divide_4 dX6_divide_269 ?_
      refine q_sipush (pc := 272) (v := 9880) C dX6_divide_272 (by decide) ?_
      refine q_iload (pc := 275) C dX6_divide_275 8 rfl ?_
      refine q_iadd (pc := 277) C dX6_divide_277 ?_
      obtain ⟨b51, h⟩ := h
      refine q_iald (pc := 278) C Lr49 Kr49 b51 dX6_divide_278 ?_
      refine q_i2l (pc := 279) C dX6_divide_279 ?_
      refine q_lmul (pc := 280) C dX6_divide_280 ?_
      refine q_lsub (pc := 281) C dX6_divide_281 ?_
      refine q_lload (pc := 282) C dX6_divide_282 7 rfl ?_
      refine q_lsub (pc := 284) C dX6_divide_284 ?_
      refine q_topl (fun v52 ev52 => ?_)
      replace h := h v52 ev52
      refine q_lstore (pc := 285) (lv' := [(16, .long v52), (0, .ref h0), (3, .int x3), (4, .int x4), (5, .int x5), (6, .long x6), (8, .int x8), (11, .long x11), (13, .long x13), (15, .int x15)]) C dX6_divide_285 (by decide) rfl ?_
      refine q_aload_n (pc := 287) C dX6_divide_287 rfl 1 rfl ?_
      refine q_bipush (pc := 288) (v := 18) C dX6_divide_288 (by decide) ?_
      refine q_iload (pc := 290) C dX6_divide_290 6 rfl ?_
      refine q_iload (pc := 292) C dX6_divide_292 9 rfl ?_
      refine q_iadd (pc := 294) C dX6_divide_294 ?_
      refine q_lload (pc := 295) C dX6_divide_295 0 rfl ?_
      refine q_ldc2 (pc := 297) (v := 65535) C dX6_divide_297 mwX6_divide_5 ?_
      refine q_land (pc := 300) C dX6_divide_300 ?_
      refine q_l2i (pc := 301) C dX6_divide_301 ?_
      refine q_cVv (pc := 302) (As := [.int 18, .int (x8 + x15), .int ((v52 &&& 65535).toInt32)]) (ci := 6) (Cn := RX6) (T := TX6) (N := 9) C (sdX6_put C.2.2.2.2.2.1 C.2.2.2.2.2.2 Lh0 Kh0 h) (cwV 3 C.1.2.2.2.2 gX6_divide_X6_put rfl rfl rfl (by decide +kernel) (q_room (by decide) (by decide))) Lh0 (qc6 Kh0 _) rfl rfl rfl (Nat.le_of_ble_eq_true rfl) dX6_divide_302 (fun σ53 h => ?_)
      refine q_lload (pc := 305) C dX6_divide_305 0 rfl ?_
      refine q_bipush (pc := 307) (v := 16) C dX6_divide_307 (by decide) ?_
      refine q_lshr (pc := 309) C dX6_divide_309 ?_
      refine q_lneg (pc := 310) C dX6_divide_310 ?_
      refine q_topl (fun v55 ev55 => ?_)
      replace h := h v55 ev55
      refine q_lstore (pc := 311) (lv' := [(13, .long v55), (16, .long v52), (0, .ref h0), (3, .int x3), (4, .int x4), (5, .int x5), (6, .long x6), (8, .int x8), (11, .long x11), (15, .int x15)]) C dX6_divide_311 (by decide) rfl ?_
      obtain ⟨v56, ev56⟩ : ∃ z : Int32, z = x15 + 1 := ⟨_, rfl⟩
      replace h := h v56 ev56
      refine q_iinc (pc := 313) (v := v56) (j := 9) (lv' := [(15, .int v56), (13, .long v55), (16, .long v52), (0, .ref h0), (3, .int x3), (4, .int x4), (5, .int x5), (6, .long x6), (8, .int x8), (11, .long x11)]) C dX6_divide_313 rfl (by rw [ev56]; rfl) (by decide) rfl ?_
      refine q_goto (tgt := 244) (pc := 316) C dX6_divide_316 (by decide) ?_
      refine q_lv (lv' := [(0, .ref h0), (3, .int x3), (4, .int x4), (5, .int x5), (6, .long x6), (8, .int x8), (11, .long x11), (13, .long v55), (15, .int v56)]) [3, 4, 5, 6, 7, 8, 9, 1, 0] rfl ?_
      exact ih v55 v56 σ53 h
def lpX6_divide_358 (G : qG) (h0 : Nat) (x3 : Int32) (x4 : Int32) (x5 : Int32) (x6 : Int64) (x8 : Int32) (x11 : Int64) (x15 : Int64) (post : qS → Prop) (kx425 : Int32 → qS → Prop) : Nat → Int32 → Int32 → qS → Prop
  | 0, _, _, _ => False
  | n + 1, x17, x18, σ => ((x4 ≤ x18 → kx425 x17 σ) ∧ (¬ x4 ≤ x18 → vp_in (((9360 : Int32) + x8) + x18) (G.2.2 ((G.2.1 h0 2))) ∧ vp_in ((9880 : Int32) + x18) (G.2.2 ((G.2.1 h0 2))) ∧ ∀ v70 : Int32, v70 = ((σ ((G.2.1 h0 2)) (((9360 : Int32) + x8) + x18).toNatClampNeg) + (σ ((G.2.1 h0 2)) ((9880 : Int32) + x18).toNatClampNeg)) + x17 → wpX6_put G h0 18 (x8 + x18) (v70 &&& 65535) σ (fun (σ71 : qS) => ∀ v73 : Int32, v73 = v70 >>> ((16 : Int32) &&& 31) → ∀ v74 : Int32, v74 = x18 + 1 → lpX6_divide_358 G h0 x3 x4 x5 x6 x8 x11 x15 post kx425 n v73 v74 σ71)))
set_option maxHeartbeats 4000000 in
set_option maxRecDepth 100000 in
theorem slX6_divide_358 {p : Program} {l : Launch} {e : Env} {s : State} {m : MethodId} {args : Array Value} {below : List Frame} {meth : Method} {c : Code} {E : qE} {L : List Nat} {G : qG} {A : Nat → Prop} (C : q_C p s m args meth c cX6_divide 20 wsX6_divide RX6 none E L G A) {h0 : Nat} {x3 : Int32} {x4 : Int32} {x5 : Int32} {x6 : Int64} {x8 : Int32} {x11 : Int64} {x15 : Int64} (Lh0 : h0 ∈ L) (Kh0 : G.1 h0 = 6) {post : qS → Prop} {kx425 : Int32 → qS → Prop} (Hkx425 : ∀ (y17 : Int32) (τ : qS), kx425 y17 τ → Wd p l e (q_rm 3) s m args below meth c E L G A (MQ below (va_Qv post (q_B E L G) A) args s 0 0 A) 20 τ 425 [(0, .ref h0), (3, .int x3), (4, .int x4), (5, .int x5), (6, .long x6), (8, .int x8), (11, .long x11), (15, .long x15), (17, .int y17)] []) : ∀ (n : Nat) (x17 : Int32) (x18 : Int32) (σ : qS), lpX6_divide_358 G h0 x3 x4 x5 x6 x8 x11 x15 post kx425 n x17 x18 σ → Wd p l e (q_rm 3) s m args below meth c E L G A (MQ below (va_Qv post (q_B E L G) A) args s 0 0 A) 20 σ 358 [(0, .ref h0), (3, .int x3), (4, .int x4), (5, .int x5), (6, .long x6), (8, .int x8), (11, .long x11), (15, .long x15), (17, .int x17), (18, .int x18)] [] := by
  intro n
  induction n with
  | zero => intro x17 x18 σ h; exact h.elim
  | succ n ih =>
    intro x17 x18 σ h
    unfold lpX6_divide_358 at h
    refine q_iload (pc := 358) C dX6_divide_358 9 rfl ?_
    refine q_iload (pc := 360) C dX6_divide_360 2 rfl ?_
    refine q_icmp_ge (tgt := 425) (pc := 362) C dX6_divide_362 (by decide) (fun c66 => ?_) (fun c66 => ?_)
    · replace h := h.1 c66
      refine q_lv (lv' := [(0, .ref h0), (3, .int x3), (4, .int x4), (5, .int x5), (6, .long x6), (8, .int x8), (11, .long x11), (15, .long x15), (17, .int x17)]) [0, 1, 2, 3, 4, 5, 6, 7, 8] rfl ?_
      exact Hkx425 x17 σ h
    · replace h := h.2 c66
      refine q_aload_n (pc := 365) C dX6_divide_365 rfl 0 rfl ?_
      obtain ⟨Lr67, Kr67⟩ := qw_6_2 C.2.2.2.2.2.2 Lh0 Kh0
      refine q_g6_2 (pc := 366) C Lh0 Kh0 mwX6_divide_0 mwX6_divide_4 dX6_divide_366 ?_
      refine q_sipush (pc := 369) (v := 9360) C dX6_divide_369 (by decide) ?_
      refine q_iload (pc := 372) C dX6_divide_372 5 rfl ?_
      refine q_iadd (pc := 374) C dX6_divide_374 ?_
      refine q_iload (pc := 375) C dX6_divide_375 9 rfl ?_
      refine q_iadd (pc := 377) C dX6_divide_377 ?_
      obtain ⟨b68, h⟩ := h
      refine q_iald (pc := 378) C Lr67 Kr67 b68 dX6_divide_378 ?_
      refine q_aload_n (pc := 379) C dX6_divide_379 rfl 0 rfl ?_
      refine q_g6_2 (pc := 380) C Lh0 Kh0 mwX6_divide_0 mwX6_divide_4 dX6_divide_380 ?_
      refine q_sipush (pc := 383) (v := 9880) C dX6_divide_383 (by decide) ?_
      refine q_iload (pc := 386) C dX6_divide_386 9 rfl ?_
      refine q_iadd (pc := 388) C dX6_divide_388 ?_
      obtain ⟨b69, h⟩ := h
      refine q_iald (pc := 389) C Lr67 Kr67 b69 dX6_divide_389 ?_
      refine q_iadd (pc := 390) C dX6_divide_390 ?_
      refine q_iload (pc := 391) C dX6_divide_391 8 rfl ?_
      refine q_iadd (pc := 393) C dX6_divide_393 ?_
      refine q_topi (fun v70 ev70 => ?_)
      replace h := h v70 ev70
      refine q_istore (pc := 394) (lv' := [(19, .int v70), (0, .ref h0), (3, .int x3), (4, .int x4), (5, .int x5), (6, .long x6), (8, .int x8), (11, .long x11), (15, .long x15), (17, .int x17), (18, .int x18)]) C dX6_divide_394 (by decide) rfl ?_
      refine q_aload_n (pc := 396) C dX6_divide_396 rfl 1 rfl ?_
      refine q_bipush (pc := 397) (v := 18) C dX6_divide_397 (by decide) ?_
      refine q_iload (pc := 399) C dX6_divide_399 6 rfl ?_
      refine q_iload (pc := 401) C dX6_divide_401 10 rfl ?_
      refine q_iadd (pc := 403) C dX6_divide_403 ?_
      refine q_iload (pc := 404) C dX6_divide_404 0 rfl ?_
      refine q_ldc (pc := 406) (v := 65535) C dX6_divide_406 mwX6_divide_6 ?_
      refine q_iand (pc := 408) C dX6_divide_408 ?_
      refine q_cVv (pc := 409) (As := [.int 18, .int (x8 + x18), .int (v70 &&& 65535)]) (ci := 6) (Cn := RX6) (T := TX6) (N := 9) C (sdX6_put C.2.2.2.2.2.1 C.2.2.2.2.2.2 Lh0 Kh0 h) (cwV 3 C.1.2.2.2.2 gX6_divide_X6_put rfl rfl rfl (by decide +kernel) (q_room (by decide) (by decide))) Lh0 (qc6 Kh0 _) rfl rfl rfl (Nat.le_of_ble_eq_true rfl) dX6_divide_409 (fun σ71 h => ?_)
      refine q_iload (pc := 412) C dX6_divide_412 0 rfl ?_
      refine q_bipush (pc := 414) (v := 16) C dX6_divide_414 (by decide) ?_
      refine q_ishr (pc := 416) C dX6_divide_416 ?_
      refine q_topi (fun v73 ev73 => ?_)
      replace h := h v73 ev73
      refine q_istore (pc := 417) (lv' := [(17, .int v73), (19, .int v70), (0, .ref h0), (3, .int x3), (4, .int x4), (5, .int x5), (6, .long x6), (8, .int x8), (11, .long x11), (15, .long x15), (18, .int x18)]) C dX6_divide_417 (by decide) rfl ?_
      obtain ⟨v74, ev74⟩ : ∃ z : Int32, z = x18 + 1 := ⟨_, rfl⟩
      replace h := h v74 ev74
      refine q_iinc (pc := 419) (v := v74) (j := 10) (lv' := [(18, .int v74), (17, .int v73), (19, .int v70), (0, .ref h0), (3, .int x3), (4, .int x4), (5, .int x5), (6, .long x6), (8, .int x8), (11, .long x11), (15, .long x15)]) C dX6_divide_419 rfl (by rw [ev74]; rfl) (by decide) rfl ?_
      refine q_goto (tgt := 358) (pc := 422) C dX6_divide_422 (by decide) ?_
      refine q_lv (lv' := [(0, .ref h0), (3, .int x3), (4, .int x4), (5, .int x5), (6, .long x6), (8, .int x8), (11, .long x11), (15, .long x15), (17, .int v73), (18, .int v74)]) [3, 4, 5, 6, 7, 8, 9, 10, 1, 0] rfl ?_
      exact ih v73 v74 σ71 h
def lpX6_divide_339 (G : qG) (h0 : Nat) (x3 : Int32) (x4 : Int32) (x5 : Int32) (x6 : Int64) (x8 : Int32) (post : qS → Prop) (kx436 : Int64 → Int64 → qS → Prop) : Nat → Int64 → Int64 → qS → Prop
  | 0, _, _, _ => False
  | n + 1, x11, x15, σ => ((0 ≤ (lg_cmp x15 0) → kx436 x11 x15 σ) ∧ (¬ 0 ≤ (lg_cmp x15 0) → ∀ v63 : Int64, v63 = x11 - 1 → ∀ v64 : Int32, v64 = 0 → ∀ v65 : Int32, v65 = 0 → ∃ n78 : Nat, lpX6_divide_358 G h0 x3 x4 x5 x6 x8 v63 x15 post (fun (w75 : Int32) (σ76 : qS) => ∀ v77 : Int64, v77 = x15 + w75.toInt64 → lpX6_divide_339 G h0 x3 x4 x5 x6 x8 post kx436 n v63 v77 σ76) n78 v64 v65 σ))
set_option maxHeartbeats 4000000 in
set_option maxRecDepth 100000 in
theorem slX6_divide_339 {p : Program} {l : Launch} {e : Env} {s : State} {m : MethodId} {args : Array Value} {below : List Frame} {meth : Method} {c : Code} {E : qE} {L : List Nat} {G : qG} {A : Nat → Prop} (C : q_C p s m args meth c cX6_divide 20 wsX6_divide RX6 none E L G A) {h0 : Nat} {x3 : Int32} {x4 : Int32} {x5 : Int32} {x6 : Int64} {x8 : Int32} (Lh0 : h0 ∈ L) (Kh0 : G.1 h0 = 6) {post : qS → Prop} {kx436 : Int64 → Int64 → qS → Prop} (Hkx436 : ∀ (y11 : Int64) (y15 : Int64) (τ : qS), kx436 y11 y15 τ → Wd p l e (q_rm 3) s m args below meth c E L G A (MQ below (va_Qv post (q_B E L G) A) args s 0 0 A) 20 τ 436 [(0, .ref h0), (3, .int x3), (4, .int x4), (5, .int x5), (6, .long x6), (8, .int x8), (11, .long y11), (15, .long y15)] []) : ∀ (n : Nat) (x11 : Int64) (x15 : Int64) (σ : qS), lpX6_divide_339 G h0 x3 x4 x5 x6 x8 post kx436 n x11 x15 σ → Wd p l e (q_rm 3) s m args below meth c E L G A (MQ below (va_Qv post (q_B E L G) A) args s 0 0 A) 20 σ 339 [(0, .ref h0), (3, .int x3), (4, .int x4), (5, .int x5), (6, .long x6), (8, .int x8), (11, .long x11), (15, .long x15)] [] := by
  intro n
  induction n with
  | zero => intro x11 x15 σ h; exact h.elim
  | succ n ih =>
    intro x11 x15 σ h
    unfold lpX6_divide_339 at h
    refine q_lload (pc := 339) C dX6_divide_339 7 rfl ?_
    refine q_lconst (pc := 341) (v := 0) C dX6_divide_341 (by decide) ?_
    refine q_lcmp (pc := 342) C dX6_divide_342 ?_
    refine q_if_ge (tgt := 436) (pc := 343) C dX6_divide_343 (by decide) (fun c62 => ?_) (fun c62 => ?_)
    · replace h := h.1 c62
      exact Hkx436 x11 x15 σ h
    · replace h := h.2 c62
      refine q_lload (pc := 346) C dX6_divide_346 6 rfl ?_
      refine q_lconst (pc := 348) (v := 1) C dX6_divide_348 (by decide) ?_
      refine q_lsub (pc := 349) C dX6_divide_349 ?_
      refine q_topl (fun v63 ev63 => ?_)
      replace h := h v63 ev63
      refine q_lstore (pc := 350) (lv' := [(11, .long v63), (0, .ref h0), (3, .int x3), (4, .int x4), (5, .int x5), (6, .long x6), (8, .int x8), (15, .long x15)]) C dX6_divide_350 (by decide) rfl ?_
      refine q_iconst (pc := 352) (v := 0) C dX6_divide_352 (by decide) ?_
      refine q_topi (fun v64 ev64 => ?_)
      replace h := h v64 ev64
      refine q_istore (pc := 353) (lv' := [(17, .int v64), (11, .long v63), (0, .ref h0), (3, .int x3), (4, .int x4), (5, .int x5), (6, .long x6), (8, .int x8), (15, .long x15)]) C dX6_divide_353 (by decide) rfl ?_
      refine q_iconst (pc := 355) (v := 0) C dX6_divide_355 (by decide) ?_
      refine q_topi (fun v65 ev65 => ?_)
      replace h := h v65 ev65
      refine q_istore (pc := 356) (lv' := [(18, .int v65), (17, .int v64), (11, .long v63), (0, .ref h0), (3, .int x3), (4, .int x4), (5, .int x5), (6, .long x6), (8, .int x8), (15, .long x15)]) C dX6_divide_356 (by decide) rfl ?_
      refine q_lv (lv' := [(0, .ref h0), (3, .int x3), (4, .int x4), (5, .int x5), (6, .long x6), (8, .int x8), (11, .long v63), (15, .long x15), (17, .int v64), (18, .int v65)]) [3, 4, 5, 6, 7, 8, 2, 9, 1, 0] rfl ?_
      obtain ⟨n78, h⟩ := h
      refine slX6_divide_358 C Lh0 Kh0 ?_ n78 v64 v65 σ h
      · intro w75 σ76 h
        refine q_lload (pc := 425) C dX6_divide_425 7 rfl ?_
        refine q_iload (pc := 427) C dX6_divide_427 8 rfl ?_
        refine q_i2l (pc := 429) C dX6_divide_429 ?_
        refine q_ladd (pc := 430) C dX6_divide_430 ?_
        refine q_topl (fun v77 ev77 => ?_)
        replace h := h v77 ev77
        refine q_lstore (pc := 431) (lv' := [(15, .long v77), (0, .ref h0), (3, .int x3), (4, .int x4), (5, .int x5), (6, .long x6), (8, .int x8), (11, .long v63), (17, .int w75)]) C dX6_divide_431 (by decide) rfl ?_
        refine q_goto (tgt := 339) (pc := 433) C dX6_divide_433 (by decide) ?_
        refine q_lv (lv' := [(0, .ref h0), (3, .int x3), (4, .int x4), (5, .int x5), (6, .long x6), (8, .int x8), (11, .long v63), (15, .long v77)]) [1, 2, 3, 4, 5, 6, 7, 0] rfl ?_
        exact ih v63 v77 σ76 h
def bkX6_divide_236 (G : qG) (h0 : Nat) (x3 : Int32) (x4 : Int32) (x5 : Int32) (x6 : Int64) (x8 : Int32) (s0 : Int64) (post : qS → Prop) (kb169 : Int32 → qS → Prop) (σ : qS) : Prop := ∀ v46 : Int64, v46 = 0 → ∀ v47 : Int32, v47 = 0 → ∃ n88 : Nat, lpX6_divide_244 G h0 x3 x4 x5 x6 x8 s0 post (fun (w57 : Int64) (σ58 : qS) => vp_in (((9360 : Int32) + x8) + x4) (G.2.2 ((G.2.1 h0 2))) ∧ ∀ v61 : Int64, v61 = ((σ58 ((G.2.1 h0 2)) (((9360 : Int32) + x8) + x4).toNatClampNeg).toInt64) - w57 → ∃ n87 : Nat, lpX6_divide_339 G h0 x3 x4 x5 x6 x8 post (fun (w79 : Int64) (w80 : Int64) (σ81 : qS) => wpX6_put G h0 18 (x8 + x4) w80.toInt32 σ81 (fun (σ82 : qS) => wpX6_put G h0 16 x8 w79.toInt32 σ82 (fun (σ84 : qS) => ∀ v86 : Int32, v86 = x8 + (-1) → kb169 v86 σ84))) n87 s0 v61 σ58) n88 v46 v47 σ
set_option maxHeartbeats 4000000 in
set_option maxRecDepth 100000 in
theorem sbX6_divide_236 {p : Program} {l : Launch} {e : Env} {s : State} {m : MethodId} {args : Array Value} {below : List Frame} {meth : Method} {c : Code} {E : qE} {L : List Nat} {G : qG} {A : Nat → Prop} (C : q_C p s m args meth c cX6_divide 20 wsX6_divide RX6 none E L G A) {h0 : Nat} {x3 : Int32} {x4 : Int32} {x5 : Int32} {x6 : Int64} {x8 : Int32} {s0 : Int64} (Lh0 : h0 ∈ L) (Kh0 : G.1 h0 = 6) {post : qS → Prop} {kb169 : Int32 → qS → Prop} (Hkb169 : ∀ (y8 : Int32) (τ : qS), kb169 y8 τ → Wd p l e (q_rm 3) s m args below meth c E L G A (MQ below (va_Qv post (q_B E L G) A) args s 0 0 A) 20 τ 169 [(0, .ref h0), (3, .int x3), (4, .int x4), (5, .int x5), (6, .long x6), (8, .int y8)] []) {σ : qS} (h : bkX6_divide_236 G h0 x3 x4 x5 x6 x8 s0 post kb169 σ) : Wd p l e (q_rm 3) s m args below meth c E L G A (MQ below (va_Qv post (q_B E L G) A) args s 0 0 A) 20 σ 236 [(0, .ref h0), (3, .int x3), (4, .int x4), (5, .int x5), (6, .long x6), (8, .int x8)] [.long s0] := by
  unfold bkX6_divide_236 at h
  refine q_lstore (pc := 236) (lv' := [(11, .long s0), (0, .ref h0), (3, .int x3), (4, .int x4), (5, .int x5), (6, .long x6), (8, .int x8)]) C dX6_divide_236 (by decide) rfl ?_
  refine q_lconst (pc := 238) (v := 0) C dX6_divide_238 (by decide) ?_
  refine q_topl (fun v46 ev46 => ?_)
  replace h := h v46 ev46
  refine q_lstore (pc := 239) (lv' := [(13, .long v46), (11, .long s0), (0, .ref h0), (3, .int x3), (4, .int x4), (5, .int x5), (6, .long x6), (8, .int x8)]) C dX6_divide_239 (by decide) rfl ?_
  refine q_iconst (pc := 241) (v := 0) C dX6_divide_241 (by decide) ?_
  refine q_topi (fun v47 ev47 => ?_)
  replace h := h v47 ev47
  refine q_istore (pc := 242) (lv' := [(15, .int v47), (13, .long v46), (11, .long s0), (0, .ref h0), (3, .int x3), (4, .int x4), (5, .int x5), (6, .long x6), (8, .int x8)]) C dX6_divide_242 (by decide) rfl ?_
  refine q_lv (lv' := [(0, .ref h0), (3, .int x3), (4, .int x4), (5, .int x5), (6, .long x6), (8, .int x8), (11, .long s0), (13, .long v46), (15, .int v47)]) [3, 4, 5, 6, 7, 8, 2, 1, 0] rfl ?_
  obtain ⟨n88, h⟩ := h
  refine slX6_divide_244 C Lh0 Kh0 ?_ n88 v46 v47 σ h
  · intro w57 σ58 h
    refine q_aload_n (pc := 319) C dX6_divide_319 rfl 0 rfl ?_
    obtain ⟨Lr59, Kr59⟩ := qw_6_2 C.2.2.2.2.2.2 Lh0 Kh0
    refine q_g6_2 (pc := 320) C Lh0 Kh0 mwX6_divide_0 mwX6_divide_4 dX6_divide_320 ?_
    refine q_sipush (pc := 323) (v := 9360) C dX6_divide_323 (by decide) ?_
    refine q_iload (pc := 326) C dX6_divide_326 5 rfl ?_
    refine q_iadd (pc := 328) C dX6_divide_328 ?_
    refine q_iload (pc := 329) C dX6_divide_329 2 rfl ?_
    refine q_iadd (pc := 331) C dX6_divide_331 ?_
    obtain ⟨b60, h⟩ := h
    refine q_iald (pc := 332) C Lr59 Kr59 b60 dX6_divide_332 ?_
    refine q_i2l (pc := 333) C dX6_divide_333 ?_
    refine q_lload (pc := 334) C dX6_divide_334 7 rfl ?_
    refine q_lsub (pc := 336) C dX6_divide_336 ?_
    refine q_topl (fun v61 ev61 => ?_)
    replace h := h v61 ev61
    refine q_lstore (pc := 337) (lv' := [(15, .long v61), (0, .ref h0), (3, .int x3), (4, .int x4), (5, .int x5), (6, .long x6), (8, .int x8), (11, .long s0), (13, .long w57)]) C dX6_divide_337 (by decide) rfl ?_
    refine q_lv (lv' := [(0, .ref h0), (3, .int x3), (4, .int x4), (5, .int x5), (6, .long x6), (8, .int x8), (11, .long s0), (15, .long v61)]) [1, 2, 3, 4, 5, 6, 7, 0] rfl ?_
    obtain ⟨n87, h⟩ := h
    refine slX6_divide_339 C Lh0 Kh0 ?_ n87 s0 v61 σ58 h
    · intro w79 w80 σ81 h
      refine q_aload_n (pc := 436) C dX6_divide_436 rfl 0 rfl ?_
      refine q_bipush (pc := 437) (v := 18) C dX6_divide_437 (by decide) ?_
      refine q_iload (pc := 439) C dX6_divide_439 5 rfl ?_
      refine q_iload (pc := 441) C dX6_divide_441 2 rfl ?_
      refine q_iadd (pc := 443) C dX6_divide_443 ?_
      refine q_lload (pc := 444) C dX6_divide_444 7 rfl ?_
      refine q_l2i (pc := 446) C dX6_divide_446 ?_
      refine q_cVv (pc := 447) (As := [.int 18, .int (x8 + x4), .int w80.toInt32]) (ci := 6) (Cn := RX6) (T := TX6) (N := 9) C (sdX6_put C.2.2.2.2.2.1 C.2.2.2.2.2.2 Lh0 Kh0 h) (cwV 3 C.1.2.2.2.2 gX6_divide_X6_put rfl rfl rfl (by decide +kernel) (q_room (by decide) (by decide))) Lh0 (qc6 Kh0 _) rfl rfl rfl (Nat.le_of_ble_eq_true rfl) dX6_divide_447 (fun σ82 h => ?_)
      refine q_aload_n (pc := 450) C dX6_divide_450 rfl 0 rfl ?_
      refine q_bipush (pc := 451) (v := 16) C dX6_divide_451 (by decide) ?_
      refine q_iload (pc := 453) C dX6_divide_453 5 rfl ?_
      refine q_lload (pc := 455) C dX6_divide_455 6 rfl ?_
      refine q_l2i (pc := 457) C dX6_divide_457 ?_
      refine q_cVv (pc := 458) (As := [.int 16, .int x8, .int w79.toInt32]) (ci := 6) (Cn := RX6) (T := TX6) (N := 9) C (sdX6_put C.2.2.2.2.2.1 C.2.2.2.2.2.2 Lh0 Kh0 h) (cwV 3 C.1.2.2.2.2 gX6_divide_X6_put rfl rfl rfl (by decide +kernel) (q_room (by decide) (by decide))) Lh0 (qc6 Kh0 _) rfl rfl rfl (Nat.le_of_ble_eq_true rfl) dX6_divide_458 (fun σ84 h => ?_)
      obtain ⟨v86, ev86⟩ : ∃ z : Int32, z = x8 + (-1) := ⟨_, rfl⟩
      replace h := h v86 ev86
      refine q_iinc (pc := 461) (v := v86) (j := 5) (lv' := [(8, .int v86), (0, .ref h0), (3, .int x3), (4, .int x4), (5, .int x5), (6, .long x6), (11, .long w79), (15, .long w80)]) C dX6_divide_461 rfl (by rw [ev86]; rfl) (by decide) rfl ?_
      refine q_goto (tgt := 169) (pc := 464) C dX6_divide_464 (by decide) ?_
      refine q_lv (lv' := [(0, .ref h0), (3, .int x3), (4, .int x4), (5, .int x5), (6, .long x6), (8, .int v86)]) [1, 2, 3, 4, 5, 0] rfl ?_
      exact Hkb169 v86 σ84 h
def lpX6_divide_169 (G : qG) (h0 : Nat) (x3 : Int32) (x4 : Int32) (x5 : Int32) (x6 : Int64) (post : qS → Prop) (kx467 : qS → Prop) : Nat → Int32 → qS → Prop
  | 0, _, _ => False
  | n + 1, x8, σ => ((x8 < 0 → kx467 σ) ∧ (¬ x8 < 0 → vp_in (((9360 : Int32) + x8) + x4) (G.2.2 ((G.2.1 h0 2))) ∧ vp_in ((((9360 : Int32) + x8) + x4) - 1) (G.2.2 ((G.2.1 h0 2))) ∧ ∀ v42 : Int64, v42 = (((σ ((G.2.1 h0 2)) (((9360 : Int32) + x8) + x4).toNatClampNeg).toInt64) <<< ((16 : Int32).toInt64 &&& 63)) ||| ((σ ((G.2.1 h0 2)) ((((9360 : Int32) + x8) + x4) - 1).toNatClampNeg).toInt64) → ¬ x6 = 0 ∧ ∀ v44 : Int64, v44 = v42 / x6 → (((lg_cmp v44 65535) ≤ 0 → bkX6_divide_236 G h0 x3 x4 x5 x6 x8 v44 post (lpX6_divide_169 G h0 x3 x4 x5 x6 post kx467 n) σ) ∧ (¬ (lg_cmp v44 65535) ≤ 0 → bkX6_divide_236 G h0 x3 x4 x5 x6 x8 65535 post (lpX6_divide_169 G h0 x3 x4 x5 x6 post kx467 n) σ))))
set_option maxHeartbeats 4000000 in
set_option maxRecDepth 100000 in
theorem slX6_divide_169 {p : Program} {l : Launch} {e : Env} {s : State} {m : MethodId} {args : Array Value} {below : List Frame} {meth : Method} {c : Code} {E : qE} {L : List Nat} {G : qG} {A : Nat → Prop} (C : q_C p s m args meth c cX6_divide 20 wsX6_divide RX6 none E L G A) {h0 : Nat} {x3 : Int32} {x4 : Int32} {x5 : Int32} {x6 : Int64} (Lh0 : h0 ∈ L) (Kh0 : G.1 h0 = 6) {post : qS → Prop} {kx467 : qS → Prop} (Hkx467 : ∀  (τ : qS), kx467  τ → Wd p l e (q_rm 3) s m args below meth c E L G A (MQ below (va_Qv post (q_B E L G) A) args s 0 0 A) 20 τ 467 [(0, .ref h0), (3, .int x3), (4, .int x4), (5, .int x5)] []) : ∀ (n : Nat) (x8 : Int32) (σ : qS), lpX6_divide_169 G h0 x3 x4 x5 x6 post kx467 n x8 σ → Wd p l e (q_rm 3) s m args below meth c E L G A (MQ below (va_Qv post (q_B E L G) A) args s 0 0 A) 20 σ 169 [(0, .ref h0), (3, .int x3), (4, .int x4), (5, .int x5), (6, .long x6), (8, .int x8)] [] := by
  intro n
  induction n with
  | zero => intro x8 σ h; exact h.elim
  | succ n ih =>
    intro x8 σ h
    unfold lpX6_divide_169 at h
    refine q_iload (pc := 169) C dX6_divide_169 5 rfl ?_
    refine q_if_lt (tgt := 467) (pc := 171) C dX6_divide_171 (by decide) (fun c38 => ?_) (fun c38 => ?_)
    · replace h := h.1 c38
      refine q_lv (lv' := [(0, .ref h0), (3, .int x3), (4, .int x4), (5, .int x5)]) [0, 1, 2, 3] rfl ?_
      exact Hkx467  σ h
    · replace h := h.2 c38
      refine q_aload_n (pc := 174) C dX6_divide_174 rfl 0 rfl ?_
      obtain ⟨Lr39, Kr39⟩ := qw_6_2 C.2.2.2.2.2.2 Lh0 Kh0
      refine q_g6_2 (pc := 175) C Lh0 Kh0 mwX6_divide_0 mwX6_divide_4 dX6_divide_175 ?_
      refine q_sipush (pc := 178) (v := 9360) C dX6_divide_178 (by decide) ?_
      refine q_iload (pc := 181) C dX6_divide_181 5 rfl ?_
      refine q_iadd (pc := 183) C dX6_divide_183 ?_
      refine q_iload (pc := 184) C dX6_divide_184 2 rfl ?_
      refine q_iadd (pc := 186) C dX6_divide_186 ?_
      obtain ⟨b40, h⟩ := h
      refine q_iald (pc := 187) C Lr39 Kr39 b40 dX6_divide_187 ?_
      refine q_i2l (pc := 188) C dX6_divide_188 ?_
      refine q_bipush (pc := 189) (v := 16) C dX6_divide_189 (by decide) ?_
      refine q_lshl (pc := 191) C dX6_divide_191 ?_
      refine q_aload_n (pc := 192) C dX6_divide_192 rfl 0 rfl ?_
      refine q_g6_2 (pc := 193) C Lh0 Kh0 mwX6_divide_0 mwX6_divide_4 dX6_divide_193 ?_
      refine q_sipush (pc := 196) (v := 9360) C dX6_divide_196 (by decide) ?_
      refine q_iload (pc := 199) C dX6_divide_199 5 rfl ?_
      refine q_iadd (pc := 201) C dX6_divide_201 ?_
      refine q_iload (pc := 202) C dX6_divide_202 2 rfl ?_
      refine q_iadd (pc := 204) C dX6_divide_204 ?_
      refine q_iconst (pc := 205) (v := 1) C dX6_divide_205 (by decide) ?_
      refine q_isub (pc := 206) C dX6_divide_206 ?_
      obtain ⟨b41, h⟩ := h
      refine q_iald (pc := 207) C Lr39 Kr39 b41 dX6_divide_207 ?_
      refine q_i2l (pc := 208) C dX6_divide_208 ?_
      refine q_lor (pc := 209) C dX6_divide_209 ?_
      refine q_topl (fun v42 ev42 => ?_)
      replace h := h v42 ev42
      refine q_lstore (pc := 210) (lv' := [(9, .long v42), (0, .ref h0), (3, .int x3), (4, .int x4), (5, .int x5), (6, .long x6), (8, .int x8)]) C dX6_divide_210 (by decide) rfl ?_
      refine q_lload (pc := 212) C dX6_divide_212 0 rfl ?_
      refine q_lload (pc := 214) C dX6_divide_214 5 rfl ?_
      obtain ⟨z43, h⟩ := h
      refine q_ldiv (pc := 216) C dX6_divide_216 z43 ?_
      refine q_topl (fun v44 ev44 => ?_)
      replace h := h v44 ev44
      refine q_lstore (pc := 217) (lv' := [(11, .long v44), (9, .long v42), (0, .ref h0), (3, .int x3), (4, .int x4), (5, .int x5), (6, .long x6), (8, .int x8)]) C dX6_divide_217 (by decide) rfl ?_
      refine q_lload (pc := 219) C dX6_divide_219 0 rfl ?_
      refine q_ldc2 (pc := 221) (v := 65535) C dX6_divide_221 mwX6_divide_5 ?_
      refine q_lcmp (pc := 224) C dX6_divide_224 ?_
      refine q_if_le (tgt := 234) (pc := 225) C dX6_divide_225 (by decide) (fun c45 => ?_) (fun c45 => ?_)
      · replace h := h.1 c45
        refine q_lload (pc := 234) C dX6_divide_234 0 rfl ?_
        refine q_lv (lv' := [(0, .ref h0), (3, .int x3), (4, .int x4), (5, .int x5), (6, .long x6), (8, .int x8)]) [2, 3, 4, 5, 6, 7] rfl ?_
        exact sbX6_divide_236 C Lh0 Kh0 ih h
      · replace h := h.2 c45
        refine q_ldc2 (pc := 228) (v := 65535) C dX6_divide_228 mwX6_divide_5 ?_
        refine q_goto (tgt := 236) (pc := 231) C dX6_divide_231 (by decide) ?_
        refine q_lv (lv' := [(0, .ref h0), (3, .int x3), (4, .int x4), (5, .int x5), (6, .long x6), (8, .int x8)]) [2, 3, 4, 5, 6, 7] rfl ?_
        exact sbX6_divide_236 C Lh0 Kh0 ih h
def wpX6_divide (G : qG) (h0 : Nat) (x1 : Int32) (x2 : Int32) (σ : qS) (post : qS → Prop) : Prop := vp_in 16 (G.2.2 ((G.2.1 h0 4))) ∧ ∀ σ3 : qS, σ3 = q_st σ ((G.2.1 h0 4)) (16 : Int32).toNatClampNeg 0 → vp_in 17 (G.2.2 ((G.2.1 h0 4))) ∧ ∀ σ5 : qS, σ5 = q_st σ3 ((G.2.1 h0 4)) (17 : Int32).toNatClampNeg 0 → wpX6_order G h0 x1 x2 σ5 (fun (u7 : Int32) (σ6 : qS) => ((0 ≤ u7 → ∀ v9 : Int32, v9 = 0 → ∃ n98 : Nat, lpX6_divide_51 G h0 x1 x2 post (fun (w16 : Int32) (σ17 : qS) => wpX6_shiftUp G h0 18 x1 w16 σ17 (fun (σ18 : qS) => wpX6_shiftUp G h0 19 x2 w16 σ18 (fun (σ20 : qS) => vp_in 19 (G.2.2 ((G.2.1 h0 3))) ∧ ∀ v24 : Int32, v24 = σ20 ((G.2.1 h0 3)) (19 : Int32).toNatClampNeg → vp_in x1 (G.2.2 ((G.2.1 h0 3))) ∧ ∀ v26 : Int32, v26 = (σ20 ((G.2.1 h0 3)) x1.toNatClampNeg) + 1 → vp_in 18 (G.2.2 ((G.2.1 h0 3))) ∧ ∀ v28 : Int32, v28 = σ20 ((G.2.1 h0 3)) (18 : Int32).toNatClampNeg → ∃ n97 : Nat, lpX6_divide_122 G h0 w16 v24 v26 post (fun  (σ33 : qS) => vp_in (((9880 : Int32) + v24) - 1) (G.2.2 ((G.2.1 h0 2))) ∧ ∀ v36 : Int64, v36 = (σ33 ((G.2.1 h0 2)) (((9880 : Int32) + v24) - 1).toNatClampNeg).toInt64 → ∀ v37 : Int32, v37 = (v26 - v24) - 1 → ∃ n96 : Nat, lpX6_divide_169 G h0 w16 v24 v26 v36 post (fun  (σ89 : qS) => wpX6_trim G h0 16 (v26 - v24) σ89 (fun (σ90 : qS) => wpX6_trim G h0 18 v24 σ90 (fun (σ92 : qS) => wpX6_shiftDown G h0 17 18 w16 σ92 (fun (σ94 : qS) => post σ94)))) n96 v37 σ33) n97 v28 σ20))) n98 v9 σ6) ∧ (¬ 0 ≤ u7 → vp_in 16 (G.2.2 ((G.2.1 h0 3))) ∧ ∀ σ101 : qS, σ101 = q_st σ6 ((G.2.1 h0 3)) (16 : Int32).toNatClampNeg 0 → wpX6_move G h0 17 x1 σ101 (fun (σ102 : qS) => vp_in 17 (G.2.2 ((G.2.1 h0 4))) ∧ ∀ σ105 : qS, σ105 = q_st σ102 ((G.2.1 h0 4)) (17 : Int32).toNatClampNeg 0 → post σ105))))
set_option maxHeartbeats 4000000 in
set_option maxRecDepth 100000 in
theorem sdX6_divide {l : Launch} {E : qE} {L : List Nat} {G : qG} (hN : L.Nodup) (hG : q_WF G L) {h0 : Nat} {x1 : Int32} {x2 : Int32} (Lh0 : h0 ∈ L) (Kh0 : G.1 h0 = 6) {σ : qS} {post : qS → Prop} (h : wpX6_divide G h0 x1 x2 σ post) : MtV l E L G yX6_divide wsX6_divide (q_rm 3) [.ref h0, .int x1, .int x2] σ post := by
  refine q_met (Qc := fun sz => va_Qv post (q_B E L G) (q_free L sz)) (cc := cX6_divide) (maxL := 20) (ret := none) (own := RX6) (by decide) rfl rfl (Nat.le_of_ble_eq_true rfl) hN hG ?_
  intro p e s m below meth c C
  unfold wpX6_divide at h
  refine q_aload_n (pc := 0) C dX6_divide_0 rfl 0 rfl ?_
  obtain ⟨Lr1, Kr1⟩ := qw_6_4 C.2.2.2.2.2.2 Lh0 Kh0
  refine q_g6_4 (pc := 1) C Lh0 Kh0 mwX6_divide_0 mwX6_divide_1 dX6_divide_1 ?_
  refine q_bipush (pc := 4) (v := 16) C dX6_divide_4 (by decide) ?_
  refine q_iconst (pc := 6) (v := 0) C dX6_divide_6 (by decide) ?_
  obtain ⟨b2, h⟩ := h
  refine q_zast (pc := 7) C Lr1 Kr1 b2 (Or.inl rfl) dX6_divide_7 (fun σ3 eσ3 => ?_)
  replace h := h σ3 eσ3
  refine q_aload_n (pc := 8) C dX6_divide_8 rfl 0 rfl ?_
  refine q_g6_4 (pc := 9) C Lh0 Kh0 mwX6_divide_0 mwX6_divide_1 dX6_divide_9 ?_
  refine q_bipush (pc := 12) (v := 17) C dX6_divide_12 (by decide) ?_
  refine q_iconst (pc := 14) (v := 0) C dX6_divide_14 (by decide) ?_
  obtain ⟨b4, h⟩ := h
  refine q_zast (pc := 15) C Lr1 Kr1 b4 (Or.inl rfl) dX6_divide_15 (fun σ5 eσ5 => ?_)
  replace h := h σ5 eσ5
  refine q_aload_n (pc := 16) C dX6_divide_16 rfl 0 rfl ?_
  refine q_iload_n (pc := 17) C dX6_divide_17 rfl 1 rfl ?_
  refine q_iload_n (pc := 18) C dX6_divide_18 rfl 2 rfl ?_
  refine q_cVi (pc := 19) (As := [.int x1, .int x2]) (ci := 6) (Cn := RX6) (T := TX6) (N := 9) C (sdX6_order C.2.2.2.2.2.1 C.2.2.2.2.2.2 Lh0 Kh0 h) (cwV 2 C.1.2.2.2.2 gX6_divide_X6_order rfl rfl rfl (by decide +kernel) (q_room (by decide) (by decide))) Lh0 (qc6 Kh0 _) rfl rfl rfl (Nat.le_of_ble_eq_true rfl) dX6_divide_19 (fun u7 σ6 h => ?_)
  refine q_if_ge (tgt := 49) (pc := 22) C dX6_divide_22 (by decide) (fun c8 => ?_) (fun c8 => ?_)
  · replace h := h.1 c8
    refine q_iconst (pc := 49) (v := 0) C dX6_divide_49 (by decide) ?_
    refine q_topi (fun v9 ev9 => ?_)
    replace h := h v9 ev9
    refine q_istore_n (pc := 50) (lv' := [(3, .int v9), (0, .ref h0), (1, .int x1), (2, .int x2)]) C dX6_divide_50 rfl (by decide) rfl ?_
    refine q_lv (lv' := [(0, .ref h0), (1, .int x1), (2, .int x2), (3, .int v9)]) [1, 2, 3, 0] rfl ?_
    obtain ⟨n98, h⟩ := h
    refine slX6_divide_51 C Lh0 Kh0 ?_ n98 v9 σ6 h
    · intro w16 σ17 h
      refine q_aload_n (pc := 78) C dX6_divide_78 rfl 0 rfl ?_
      refine q_bipush (pc := 79) (v := 18) C dX6_divide_79 (by decide) ?_
      refine q_iload_n (pc := 81) C dX6_divide_81 rfl 1 rfl ?_
      refine q_iload_n (pc := 82) C dX6_divide_82 rfl 3 rfl ?_
      refine q_cVv (pc := 83) (As := [.int 18, .int x1, .int w16]) (ci := 6) (Cn := RX6) (T := TX6) (N := 9) C (sdX6_shiftUp C.2.2.2.2.2.1 C.2.2.2.2.2.2 Lh0 Kh0 h) (cwV 3 C.1.2.2.2.2 gX6_divide_X6_shiftUp rfl rfl rfl (by decide +kernel) (q_room (by decide) (by decide))) Lh0 (qc6 Kh0 _) rfl rfl rfl (Nat.le_of_ble_eq_true rfl) dX6_divide_83 (fun σ18 h => ?_)
      refine q_aload_n (pc := 86) C dX6_divide_86 rfl 0 rfl ?_
      refine q_bipush (pc := 87) (v := 19) C dX6_divide_87 (by decide) ?_
      refine q_iload_n (pc := 89) C dX6_divide_89 rfl 2 rfl ?_
      refine q_iload_n (pc := 90) C dX6_divide_90 rfl 3 rfl ?_
      refine q_cVv (pc := 91) (As := [.int 19, .int x2, .int w16]) (ci := 6) (Cn := RX6) (T := TX6) (N := 9) C (sdX6_shiftUp C.2.2.2.2.2.1 C.2.2.2.2.2.2 Lh0 Kh0 h) (cwV 3 C.1.2.2.2.2 gX6_divide_X6_shiftUp rfl rfl rfl (by decide +kernel) (q_room (by decide) (by decide))) Lh0 (qc6 Kh0 _) rfl rfl rfl (Nat.le_of_ble_eq_true rfl) dX6_divide_91 (fun σ20 h => ?_)
      refine q_aload_n (pc := 94) C dX6_divide_94 rfl 0 rfl ?_
      obtain ⟨Lr22, Kr22⟩ := qw_6_3 C.2.2.2.2.2.2 Lh0 Kh0
      refine q_g6_3 (pc := 95) C Lh0 Kh0 mwX6_divide_0 mwX6_divide_2 dX6_divide_95 ?_
      refine q_bipush (pc := 98) (v := 19) C dX6_divide_98 (by decide) ?_
      obtain ⟨b23, h⟩ := h
      refine q_iald (pc := 100) C Lr22 Kr22 b23 dX6_divide_100 ?_
      refine q_topi (fun v24 ev24 => ?_)
      replace h := h v24 ev24
      refine q_istore (pc := 101) (lv' := [(4, .int v24), (0, .ref h0), (1, .int x1), (2, .int x2), (3, .int w16)]) C dX6_divide_101 (by decide) rfl ?_
      refine q_aload_n (pc := 103) C dX6_divide_103 rfl 1 rfl ?_
      refine q_g6_3 (pc := 104) C Lh0 Kh0 mwX6_divide_0 mwX6_divide_2 dX6_divide_104 ?_
      refine q_iload_n (pc := 107) C dX6_divide_107 rfl 2 rfl ?_
      obtain ⟨b25, h⟩ := h
      refine q_iald (pc := 108) C Lr22 Kr22 b25 dX6_divide_108 ?_
      refine q_iconst (pc := 109) (v := 1) C dX6_divide_109 (by decide) ?_
      refine q_iadd (pc := 110) C dX6_divide_110 ?_
      refine q_topi (fun v26 ev26 => ?_)
      replace h := h v26 ev26
      refine q_istore (pc := 111) (lv' := [(5, .int v26), (4, .int v24), (0, .ref h0), (1, .int x1), (2, .int x2), (3, .int w16)]) C dX6_divide_111 (by decide) rfl ?_
      refine q_aload_n (pc := 113) C dX6_divide_113 rfl 2 rfl ?_
      refine q_g6_3 (pc := 114) C Lh0 Kh0 mwX6_divide_0 mwX6_divide_2 dX6_divide_114 ?_
      refine q_bipush (pc := 117) (v := 18) C dX6_divide_117 (by decide) ?_
      obtain ⟨b27, h⟩ := h
      refine q_iald (pc := 119) C Lr22 Kr22 b27 dX6_divide_119 ?_
      refine q_topi (fun v28 ev28 => ?_)
      replace h := h v28 ev28
      refine q_istore (pc := 120) (lv' := [(6, .int v28), (5, .int v26), (4, .int v24), (0, .ref h0), (1, .int x1), (2, .int x2), (3, .int w16)]) C dX6_divide_120 (by decide) rfl ?_
      refine q_lv (lv' := [(0, .ref h0), (3, .int w16), (4, .int v24), (5, .int v26), (6, .int v28)]) [3, 6, 2, 1, 0] rfl ?_
      obtain ⟨n97, h⟩ := h
      refine slX6_divide_122 C Lh0 Kh0 ?_ n97 v28 σ20 h
      · intro σ33 h
        refine q_aload_n (pc := 144) C dX6_divide_144 rfl 0 rfl ?_
        obtain ⟨Lr34, Kr34⟩ := qw_6_2 C.2.2.2.2.2.2 Lh0 Kh0
        refine q_g6_2 (pc := 145) C Lh0 Kh0 mwX6_divide_0 mwX6_divide_4 dX6_divide_145 ?_
        refine q_sipush (pc := 148) (v := 9880) C dX6_divide_148 (by decide) ?_
        refine q_iload (pc := 151) C dX6_divide_151 2 rfl ?_
        refine q_iadd (pc := 153) C dX6_divide_153 ?_
        refine q_iconst (pc := 154) (v := 1) C dX6_divide_154 (by decide) ?_
        refine q_isub (pc := 155) C dX6_divide_155 ?_
        obtain ⟨b35, h⟩ := h
        refine q_iald (pc := 156) C Lr34 Kr34 b35 dX6_divide_156 ?_
        refine q_i2l (pc := 157) C dX6_divide_157 ?_
        refine q_topl (fun v36 ev36 => ?_)
        replace h := h v36 ev36
        refine q_lstore (pc := 158) (lv' := [(6, .long v36), (0, .ref h0), (3, .int w16), (4, .int v24), (5, .int v26)]) C dX6_divide_158 (by decide) rfl ?_
        refine q_iload (pc := 160) C dX6_divide_160 4 rfl ?_
        refine q_iload (pc := 162) C dX6_divide_162 3 rfl ?_
        refine q_isub (pc := 164) C dX6_divide_164 ?_
        refine q_iconst (pc := 165) (v := 1) C dX6_divide_165 (by decide) ?_
        refine q_isub (pc := 166) C dX6_divide_166 ?_
        refine q_topi (fun v37 ev37 => ?_)
        replace h := h v37 ev37
        refine q_istore (pc := 167) (lv' := [(8, .int v37), (6, .long v36), (0, .ref h0), (3, .int w16), (4, .int v24), (5, .int v26)]) C dX6_divide_167 (by decide) rfl ?_
        refine q_lv (lv' := [(0, .ref h0), (3, .int w16), (4, .int v24), (5, .int v26), (6, .long v36), (8, .int v37)]) [2, 3, 4, 5, 1, 0] rfl ?_
        obtain ⟨n96, h⟩ := h
        refine slX6_divide_169 C Lh0 Kh0 ?_ n96 v37 σ33 h
        · intro σ89 h
          refine q_aload_n (pc := 467) C dX6_divide_467 rfl 0 rfl ?_
          refine q_bipush (pc := 468) (v := 16) C dX6_divide_468 (by decide) ?_
          refine q_iload (pc := 470) C dX6_divide_470 3 rfl ?_
          refine q_iload (pc := 472) C dX6_divide_472 2 rfl ?_
          refine q_isub (pc := 474) C dX6_divide_474 ?_
          refine q_cVv (pc := 475) (As := [.int 16, .int (v26 - v24)]) (ci := 6) (Cn := RX6) (T := TX6) (N := 9) C (sdX6_trim C.2.2.2.2.2.1 C.2.2.2.2.2.2 Lh0 Kh0 h) (cwV 2 C.1.2.2.2.2 gX6_divide_X6_trim rfl rfl rfl (by decide +kernel) (q_room (by decide) (by decide))) Lh0 (qc6 Kh0 _) rfl rfl rfl (Nat.le_of_ble_eq_true rfl) dX6_divide_475 (fun σ90 h => ?_)
          refine q_aload_n (pc := 478) C dX6_divide_478 rfl 0 rfl ?_
          refine q_bipush (pc := 479) (v := 18) C dX6_divide_479 (by decide) ?_
          refine q_iload (pc := 481) C dX6_divide_481 2 rfl ?_
          refine q_cVv (pc := 483) (As := [.int 18, .int v24]) (ci := 6) (Cn := RX6) (T := TX6) (N := 9) C (sdX6_trim C.2.2.2.2.2.1 C.2.2.2.2.2.2 Lh0 Kh0 h) (cwV 2 C.1.2.2.2.2 gX6_divide_X6_trim rfl rfl rfl (by decide +kernel) (q_room (by decide) (by decide))) Lh0 (qc6 Kh0 _) rfl rfl rfl (Nat.le_of_ble_eq_true rfl) dX6_divide_483 (fun σ92 h => ?_)
          refine q_aload_n (pc := 486) C dX6_divide_486 rfl 0 rfl ?_
          refine q_bipush (pc := 487) (v := 17) C dX6_divide_487 (by decide) ?_
          refine q_bipush (pc := 489) (v := 18) C dX6_divide_489 (by decide) ?_
          refine q_iload_n (pc := 491) C dX6_divide_491 rfl 1 rfl ?_
          refine q_cVv (pc := 492) (As := [.int 17, .int 18, .int w16]) (ci := 6) (Cn := RX6) (T := TX6) (N := 9) C (sdX6_shiftDown C.2.2.2.2.2.1 C.2.2.2.2.2.2 Lh0 Kh0 h) (cwV 3 C.1.2.2.2.2 gX6_divide_X6_shiftDown rfl rfl rfl (by decide +kernel) (q_room (by decide) (by decide))) Lh0 (qc6 Kh0 _) rfl rfl rfl (Nat.le_of_ble_eq_true rfl) dX6_divide_492 (fun σ94 h => ?_)
          exact q_vret (pc := 495) C dX6_divide_495 h
  · replace h := h.2 c8
    refine q_aload_n (pc := 25) C dX6_divide_25 rfl 0 rfl ?_
    obtain ⟨Lr99, Kr99⟩ := qw_6_3 C.2.2.2.2.2.2 Lh0 Kh0
    refine q_g6_3 (pc := 26) C Lh0 Kh0 mwX6_divide_0 mwX6_divide_2 dX6_divide_26 ?_
    refine q_bipush (pc := 29) (v := 16) C dX6_divide_29 (by decide) ?_
    refine q_iconst (pc := 31) (v := 0) C dX6_divide_31 (by decide) ?_
    obtain ⟨b100, h⟩ := h
    refine q_iast (pc := 32) C Lr99 Kr99 b100 dX6_divide_32 (fun σ101 eσ101 => ?_)
    replace h := h σ101 eσ101
    refine q_aload_n (pc := 33) C dX6_divide_33 rfl 0 rfl ?_
    refine q_bipush (pc := 34) (v := 17) C dX6_divide_34 (by decide) ?_
    refine q_iload_n (pc := 36) C dX6_divide_36 rfl 1 rfl ?_
    refine q_cVv (pc := 37) (As := [.int 17, .int x1]) (ci := 6) (Cn := RX6) (T := TX6) (N := 9) C (sdX6_move C.2.2.2.2.2.1 C.2.2.2.2.2.2 Lh0 Kh0 h) (cwV 2 C.1.2.2.2.2 gX6_divide_X6_move rfl rfl rfl (by decide +kernel) (q_room (by decide) (by decide))) Lh0 (qc6 Kh0 _) rfl rfl rfl (Nat.le_of_ble_eq_true rfl) dX6_divide_37 (fun σ102 h => ?_)
    refine q_aload_n (pc := 40) C dX6_divide_40 rfl 0 rfl ?_
    refine q_g6_4 (pc := 41) C Lh0 Kh0 mwX6_divide_0 mwX6_divide_1 dX6_divide_41 ?_
    refine q_bipush (pc := 44) (v := 17) C dX6_divide_44 (by decide) ?_
    refine q_iconst (pc := 46) (v := 0) C dX6_divide_46 (by decide) ?_
    obtain ⟨b104, h⟩ := h
    refine q_zast (pc := 47) C Lr1 Kr1 b104 (Or.inl rfl) dX6_divide_47 (fun σ105 eσ105 => ?_)
    replace h := h σ105 eσ105
    exact q_vret (pc := 48) C dX6_divide_48 h
theorem mwX6_is_0 : ∀ w ∈ wsX60, w ∈ wsX6_is := by decide +kernel
theorem mwX6_is_1 : Cond.fieldLink RX6 26 "IntFileModel" "registers" "I" ∈ wsX6_is := by decide +kernel
def wpX6_is (G : qG) (h0 : Nat) (x1 : Int32) (σ : qS) (post : Int32 → qS → Prop) : Prop := ((x1 < 0 → post 0 σ) ∧ (¬ x1 < 0 → (((σ h0 0) ≤ x1 → post 0 σ) ∧ (¬ (σ h0 0) ≤ x1 → post 1 σ))))
set_option maxHeartbeats 4000000 in
set_option maxRecDepth 100000 in
theorem sdX6_is {l : Launch} {E : qE} {L : List Nat} {G : qG} (hN : L.Nodup) (hG : q_WF G L) {h0 : Nat} {x1 : Int32} (Lh0 : h0 ∈ L) (Kh0 : G.1 h0 = 6) {σ : qS} {post : Int32 → qS → Prop} (h : wpX6_is G h0 x1 σ post) : MtI l E L G yX6_is wsX6_is (q_rm 1) [.ref h0, .int x1] σ post := by
  refine q_met (Qc := fun sz => va_Qi post (q_B E L G) (q_free L sz)) (cc := cX6_is) (maxL := 2) (ret := (some .boolean)) (own := RX6) (by decide) rfl rfl (Nat.le_of_ble_eq_true rfl) hN hG ?_
  intro p e s m below meth c C
  unfold wpX6_is at h
  refine q_iload_n (pc := 0) C dX6_is_0 rfl 1 rfl ?_
  refine q_if_lt (tgt := 16) (pc := 1) C dX6_is_1 (by decide) (fun c1 => ?_) (fun c1 => ?_)
  · replace h := h.1 c1
    refine q_iconst (pc := 16) (v := 0) C dX6_is_16 (by decide) ?_
    exact q_zret (pc := 17) C dX6_is_17 (Or.inl rfl) h
  · replace h := h.2 c1
    refine q_iload_n (pc := 4) C dX6_is_4 rfl 1 rfl ?_
    refine q_aload_n (pc := 5) C dX6_is_5 rfl 0 rfl ?_
    refine q_g6_0 (pc := 6) C Lh0 Kh0 mwX6_is_0 mwX6_is_1 dX6_is_6 ?_
    refine q_icmp_ge (tgt := 16) (pc := 9) C dX6_is_9 (by decide) (fun c2 => ?_) (fun c2 => ?_)
    · replace h := h.1 c2
      refine q_iconst (pc := 16) (v := 0) C dX6_is_16 (by decide) ?_
      exact q_zret (pc := 17) C dX6_is_17 (Or.inl rfl) h
    · replace h := h.2 c2
      refine q_iconst (pc := 12) (v := 1) C dX6_is_12 (by decide) ?_
      refine q_goto (tgt := 17) (pc := 13) C dX6_is_13 (by decide) ?_
      exact q_zret (pc := 17) C dX6_is_17 (Or.inr rfl) h
theorem mwX6_keep_0 : ∀ w ∈ wsX60, w ∈ wsX6_keep := by decide +kernel
theorem mwX6_keep_1 : Cond.fieldLink RX6 13 "IntFileModel" "lens" "[I" ∈ wsX6_keep := by decide +kernel
theorem mwX6_keep_2 : Cond.fieldLink RX6 30 "IntFileModel" "most" "I" ∈ wsX6_keep := by decide +kernel
def wpX6_keep (G : qG) (h0 : Nat) (x1 : Int32) (x2 : Int32) (σ : qS) (post : Int32 → qS → Prop) : Prop := vp_in x2 (G.2.2 ((G.2.1 h0 3))) ∧ (((σ ((G.2.1 h0 3)) x2.toNatClampNeg) ≤ (σ h0 1) → wpX6_move G h0 x1 x2 σ (fun (σ4 : qS) => post 0 σ4)) ∧ (¬ (σ ((G.2.1 h0 3)) x2.toNatClampNeg) ≤ (σ h0 1) → post ((-3)) σ))
set_option maxHeartbeats 4000000 in
set_option maxRecDepth 100000 in
theorem sdX6_keep {l : Launch} {E : qE} {L : List Nat} {G : qG} (hN : L.Nodup) (hG : q_WF G L) {h0 : Nat} {x1 : Int32} {x2 : Int32} (Lh0 : h0 ∈ L) (Kh0 : G.1 h0 = 6) {σ : qS} {post : Int32 → qS → Prop} (h : wpX6_keep G h0 x1 x2 σ post) : MtI l E L G yX6_keep wsX6_keep (q_rm 2) [.ref h0, .int x1, .int x2] σ post := by
  refine q_met (Qc := fun sz => va_Qi post (q_B E L G) (q_free L sz)) (cc := cX6_keep) (maxL := 3) (ret := (some .int)) (own := RX6) (by decide) rfl rfl (Nat.le_of_ble_eq_true rfl) hN hG ?_
  intro p e s m below meth c C
  unfold wpX6_keep at h
  refine q_aload_n (pc := 0) C dX6_keep_0 rfl 0 rfl ?_
  obtain ⟨Lr1, Kr1⟩ := qw_6_3 C.2.2.2.2.2.2 Lh0 Kh0
  refine q_g6_3 (pc := 1) C Lh0 Kh0 mwX6_keep_0 mwX6_keep_1 dX6_keep_1 ?_
  refine q_iload_n (pc := 4) C dX6_keep_4 rfl 2 rfl ?_
  obtain ⟨b2, h⟩ := h
  refine q_iald (pc := 5) C Lr1 Kr1 b2 dX6_keep_5 ?_
  refine q_aload_n (pc := 6) C dX6_keep_6 rfl 0 rfl ?_
  refine q_g6_1 (pc := 7) C Lh0 Kh0 mwX6_keep_0 mwX6_keep_2 dX6_keep_7 ?_
  refine q_icmp_le (tgt := 16) (pc := 10) C dX6_keep_10 (by decide) (fun c3 => ?_) (fun c3 => ?_)
  · replace h := h.1 c3
    refine q_aload_n (pc := 16) C dX6_keep_16 rfl 0 rfl ?_
    refine q_iload_n (pc := 17) C dX6_keep_17 rfl 1 rfl ?_
    refine q_iload_n (pc := 18) C dX6_keep_18 rfl 2 rfl ?_
    refine q_cVv (pc := 19) (As := [.int x1, .int x2]) (ci := 6) (Cn := RX6) (T := TX6) (N := 9) C (sdX6_move C.2.2.2.2.2.1 C.2.2.2.2.2.2 Lh0 Kh0 h) (cwV 2 C.1.2.2.2.2 gX6_keep_X6_move rfl rfl rfl (by decide +kernel) (q_room (by decide) (by decide))) Lh0 (qc6 Kh0 _) rfl rfl rfl (Nat.le_of_ble_eq_true rfl) dX6_keep_19 (fun σ4 h => ?_)
    refine q_iconst (pc := 22) (v := 0) C dX6_keep_22 (by decide) ?_
    exact q_iret (pc := 23) C dX6_keep_23 h
  · replace h := h.2 c3
    refine q_bipush (pc := 13) (v := (-3)) C dX6_keep_13 (by decide) ?_
    exact q_iret (pc := 15) C dX6_keep_15 h
theorem mwX6_set_0 : ∀ w ∈ wsX60, w ∈ wsX6_set := by decide +kernel
theorem mwX6_set_1 : Cond.fieldLink RX6 16 "IntFileModel" "below" "[Z" ∈ wsX6_set := by decide +kernel
def bkX6_set_43 (G : qG) (h0 : Nat) (x1 : Int32) (s0 : Nat) (s1 : Int32) (s2 : Int32) (post : Int32 → qS → Prop) (σ : qS) : Prop := vp_in s1 (G.2.2 s0) ∧ (s2 = 0 ∨ s2 = 1) ∧ ∀ σ11 : qS, σ11 = q_st σ s0 s1.toNatClampNeg s2 → wpX6_keep G h0 x1 12 σ11 (fun (u13 : Int32) (σ12 : qS) => post u13 σ12)
set_option maxHeartbeats 4000000 in
set_option maxRecDepth 100000 in
theorem sbX6_set_43 {p : Program} {l : Launch} {e : Env} {s : State} {m : MethodId} {args : Array Value} {below : List Frame} {meth : Method} {c : Code} {E : qE} {L : List Nat} {G : qG} {A : Nat → Prop} (C : q_C p s m args meth c cX6_set 3 wsX6_set RX6 (some .int) E L G A) {h0 : Nat} {x1 : Int32} {s0 : Nat} {s1 : Int32} {s2 : Int32} (Lh0 : h0 ∈ L) (Kh0 : G.1 h0 = 6) (Ls0 : s0 ∈ L) (Ks0 : G.1 s0 = 9) {post : Int32 → qS → Prop} {σ : qS} (h : bkX6_set_43 G h0 x1 s0 s1 s2 post σ) : Wd p l e (q_rm 3) s m args below meth c E L G A (MQ below (va_Qi post (q_B E L G) A) args s 0 0 A) 3 σ 43 [(0, .ref h0), (1, .int x1)] [.int s2, .int s1, .ref s0] := by
  unfold bkX6_set_43 at h
  obtain ⟨b9, h⟩ := h
  obtain ⟨z10, h⟩ := h
  refine q_zast (pc := 43) C Ls0 Ks0 b9 z10 dX6_set_43 (fun σ11 eσ11 => ?_)
  replace h := h σ11 eσ11
  refine q_aload_n (pc := 44) C dX6_set_44 rfl 0 rfl ?_
  refine q_iload_n (pc := 45) C dX6_set_45 rfl 1 rfl ?_
  refine q_bipush (pc := 46) (v := 12) C dX6_set_46 (by decide) ?_
  refine q_cVi (pc := 48) (As := [.int x1, .int 12]) (ci := 6) (Cn := RX6) (T := TX6) (N := 9) C (sdX6_keep C.2.2.2.2.2.1 C.2.2.2.2.2.2 Lh0 Kh0 h) (cwV 2 C.1.2.2.2.2 gX6_set_X6_keep rfl rfl rfl (by decide +kernel) (q_room (by decide) (by decide))) Lh0 (qc6 Kh0 _) rfl rfl rfl (Nat.le_of_ble_eq_true rfl) dX6_set_48 (fun u13 σ12 h => ?_)
  exact q_iret (pc := 51) C dX6_set_51 h
def bkX6_set_25 (G : qG) (h0 : Nat) (x1 : Int32) (x2 : Int32) (s0 : Nat) (s1 : Int32) (s2 : Int64) (post : Int32 → qS → Prop) (σ : qS) : Prop := wpX6_small G s0 s1 s2 σ (fun (σ5 : qS) => ((0 ≤ x2 → bkX6_set_43 G h0 x1 ((G.2.1 h0 4)) 12 0 post σ5) ∧ (¬ 0 ≤ x2 → bkX6_set_43 G h0 x1 ((G.2.1 h0 4)) 12 1 post σ5)))
set_option maxHeartbeats 4000000 in
set_option maxRecDepth 100000 in
theorem sbX6_set_25 {p : Program} {l : Launch} {e : Env} {s : State} {m : MethodId} {args : Array Value} {below : List Frame} {meth : Method} {c : Code} {E : qE} {L : List Nat} {G : qG} {A : Nat → Prop} (C : q_C p s m args meth c cX6_set 3 wsX6_set RX6 (some .int) E L G A) {h0 : Nat} {x1 : Int32} {x2 : Int32} {s0 : Nat} {s1 : Int32} {s2 : Int64} (Lh0 : h0 ∈ L) (Kh0 : G.1 h0 = 6) (Ls0 : s0 ∈ L) (Ks0 : G.1 s0 = 6) {post : Int32 → qS → Prop} {σ : qS} (h : bkX6_set_25 G h0 x1 x2 s0 s1 s2 post σ) : Wd p l e (q_rm 3) s m args below meth c E L G A (MQ below (va_Qi post (q_B E L G) A) args s 0 0 A) 3 σ 25 [(0, .ref h0), (1, .int x1), (2, .int x2)] [.long s2, .int s1, .ref s0] := by
  unfold bkX6_set_25 at h
  refine q_cVv (pc := 25) (As := [.int s1, .long s2]) (ci := 6) (Cn := RX6) (T := TX6) (N := 9) C (sdX6_small C.2.2.2.2.2.1 C.2.2.2.2.2.2 Ls0 Ks0 h) (cwV 2 C.1.2.2.2.2 gX6_set_X6_small rfl rfl rfl (by decide +kernel) (q_room (by decide) (by decide))) Ls0 (qc6 Ks0 _) rfl rfl rfl (Nat.le_of_ble_eq_true rfl) dX6_set_25 (fun σ5 h => ?_)
  refine q_aload_n (pc := 28) C dX6_set_28 rfl 0 rfl ?_
  obtain ⟨Lr7, Kr7⟩ := qw_6_4 C.2.2.2.2.2.2 Lh0 Kh0
  refine q_g6_4 (pc := 29) C Lh0 Kh0 mwX6_set_0 mwX6_set_1 dX6_set_29 ?_
  refine q_bipush (pc := 32) (v := 12) C dX6_set_32 (by decide) ?_
  refine q_iload_n (pc := 34) C dX6_set_34 rfl 2 rfl ?_
  refine q_if_ge (tgt := 42) (pc := 35) C dX6_set_35 (by decide) (fun c8 => ?_) (fun c8 => ?_)
  · replace h := h.1 c8
    refine q_iconst (pc := 42) (v := 0) C dX6_set_42 (by decide) ?_
    refine q_lv (lv' := [(0, .ref h0), (1, .int x1)]) [0, 1] rfl ?_
    exact sbX6_set_43 C Lh0 Kh0 Lr7 Kr7 h
  · replace h := h.2 c8
    refine q_iconst (pc := 38) (v := 1) C dX6_set_38 (by decide) ?_
    refine q_goto (tgt := 43) (pc := 39) C dX6_set_39 (by decide) ?_
    refine q_lv (lv' := [(0, .ref h0), (1, .int x1)]) [0, 1] rfl ?_
    exact sbX6_set_43 C Lh0 Kh0 Lr7 Kr7 h
def wpX6_set (G : qG) (h0 : Nat) (x1 : Int32) (x2 : Int32) (σ : qS) (post : Int32 → qS → Prop) : Prop := wpX6_is G h0 x1 σ (fun (u2 : Int32) (σ1 : qS) => ((u2 = 0 → post ((-1)) σ1) ∧ (¬ u2 = 0 → ((0 ≤ x2 → bkX6_set_25 G h0 x1 x2 h0 12 x2.toInt64 post σ1) ∧ (¬ 0 ≤ x2 → bkX6_set_25 G h0 x1 x2 h0 12 (-x2.toInt64) post σ1)))))
set_option maxHeartbeats 4000000 in
set_option maxRecDepth 100000 in
theorem sdX6_set {l : Launch} {E : qE} {L : List Nat} {G : qG} (hN : L.Nodup) (hG : q_WF G L) {h0 : Nat} {x1 : Int32} {x2 : Int32} (Lh0 : h0 ∈ L) (Kh0 : G.1 h0 = 6) {σ : qS} {post : Int32 → qS → Prop} (h : wpX6_set G h0 x1 x2 σ post) : MtI l E L G yX6_set wsX6_set (q_rm 3) [.ref h0, .int x1, .int x2] σ post := by
  refine q_met (Qc := fun sz => va_Qi post (q_B E L G) (q_free L sz)) (cc := cX6_set) (maxL := 3) (ret := (some .int)) (own := RX6) (by decide) rfl rfl (Nat.le_of_ble_eq_true rfl) hN hG ?_
  intro p e s m below meth c C
  unfold wpX6_set at h
  refine q_aload_n (pc := 0) C dX6_set_0 rfl 0 rfl ?_
  refine q_iload_n (pc := 1) C dX6_set_1 rfl 1 rfl ?_
  refine q_cVi (pc := 2) (As := [.int x1]) (ci := 6) (Cn := RX6) (T := TX6) (N := 9) C (sdX6_is C.2.2.2.2.2.1 C.2.2.2.2.2.2 Lh0 Kh0 h) (cwV 1 C.1.2.2.2.2 gX6_set_X6_is rfl rfl rfl (by decide +kernel) (q_room (by decide) (by decide))) Lh0 (qc6 Kh0 _) rfl rfl rfl (Nat.le_of_ble_eq_true rfl) dX6_set_2 (fun u2 σ1 h => ?_)
  refine q_if_ne (tgt := 10) (pc := 5) C dX6_set_5 (by decide) (fun c3 => ?_) (fun c3 => ?_)
  · replace h := h.2 c3
    refine q_aload_n (pc := 10) C dX6_set_10 rfl 0 rfl ?_
    refine q_bipush (pc := 11) (v := 12) C dX6_set_11 (by decide) ?_
    refine q_iload_n (pc := 13) C dX6_set_13 rfl 2 rfl ?_
    refine q_if_ge (tgt := 23) (pc := 14) C dX6_set_14 (by decide) (fun c4 => ?_) (fun c4 => ?_)
    · replace h := h.1 c4
      refine q_iload_n (pc := 23) C dX6_set_23 rfl 2 rfl ?_
      refine q_i2l (pc := 24) C dX6_set_24 ?_
      exact sbX6_set_25 C Lh0 Kh0 Lh0 Kh0 h
    · replace h := h.2 c4
      refine q_iload_n (pc := 17) C dX6_set_17 rfl 2 rfl ?_
      refine q_i2l (pc := 18) C dX6_set_18 ?_
      refine q_lneg (pc := 19) C dX6_set_19 ?_
      refine q_goto (tgt := 25) (pc := 20) C dX6_set_20 (by decide) ?_
      exact sbX6_set_25 C Lh0 Kh0 Lh0 Kh0 h
  · replace h := h.1 c3
    refine q_iconst (pc := 8) (v := (-1)) C dX6_set_8 (by decide) ?_
    exact q_iret (pc := 9) C dX6_set_9 h
theorem mwX6_push_0 : Cond.constantLong RX6 72 (4294967295) ∈ wsX6_push := by decide +kernel
theorem mwX6_push_1 : ∀ w ∈ wsX60, w ∈ wsX6_push := by decide +kernel
theorem mwX6_push_2 : Cond.fieldLink RX6 16 "IntFileModel" "below" "[Z" ∈ wsX6_push := by decide +kernel
theorem mwX6_push_3 : Cond.fieldLink RX6 13 "IntFileModel" "lens" "[I" ∈ wsX6_push := by decide +kernel
def bkX6_push_71 (G : qG) (h0 : Nat) (x1 : Int32) (s0 : Nat) (s1 : Int32) (s2 : Int32) (post : Int32 → qS → Prop) (σ : qS) : Prop := vp_in s1 (G.2.2 s0) ∧ (s2 = 0 ∨ s2 = 1) ∧ ∀ σ15 : qS, σ15 = q_st σ s0 s1.toNatClampNeg s2 → wpX6_keep G h0 x1 14 σ15 (fun (u17 : Int32) (σ16 : qS) => post u17 σ16)
set_option maxHeartbeats 4000000 in
set_option maxRecDepth 100000 in
theorem sbX6_push_71 {p : Program} {l : Launch} {e : Env} {s : State} {m : MethodId} {args : Array Value} {below : List Frame} {meth : Method} {c : Code} {E : qE} {L : List Nat} {G : qG} {A : Nat → Prop} (C : q_C p s m args meth c cX6_push 3 wsX6_push RX6 (some .int) E L G A) {h0 : Nat} {x1 : Int32} {s0 : Nat} {s1 : Int32} {s2 : Int32} (Lh0 : h0 ∈ L) (Kh0 : G.1 h0 = 6) (Ls0 : s0 ∈ L) (Ks0 : G.1 s0 = 9) {post : Int32 → qS → Prop} {σ : qS} (h : bkX6_push_71 G h0 x1 s0 s1 s2 post σ) : Wd p l e (q_rm 3) s m args below meth c E L G A (MQ below (va_Qi post (q_B E L G) A) args s 0 0 A) 3 σ 71 [(0, .ref h0), (1, .int x1)] [.int s2, .int s1, .ref s0] := by
  unfold bkX6_push_71 at h
  obtain ⟨b13, h⟩ := h
  obtain ⟨z14, h⟩ := h
  refine q_zast (pc := 71) C Ls0 Ks0 b13 z14 dX6_push_71 (fun σ15 eσ15 => ?_)
  replace h := h σ15 eσ15
  refine q_aload_n (pc := 72) C dX6_push_72 rfl 0 rfl ?_
  refine q_iload_n (pc := 73) C dX6_push_73 rfl 1 rfl ?_
  refine q_bipush (pc := 74) (v := 14) C dX6_push_74 (by decide) ?_
  refine q_cVi (pc := 76) (As := [.int x1, .int 14]) (ci := 6) (Cn := RX6) (T := TX6) (N := 9) C (sdX6_keep C.2.2.2.2.2.1 C.2.2.2.2.2.2 Lh0 Kh0 h) (cwV 2 C.1.2.2.2.2 gX6_push_X6_keep rfl rfl rfl (by decide +kernel) (q_room (by decide) (by decide))) Lh0 (qc6 Kh0 _) rfl rfl rfl (Nat.le_of_ble_eq_true rfl) dX6_push_76 (fun u17 σ16 h => ?_)
  exact q_iret (pc := 79) C dX6_push_79 h
def bkX6_push_70 (G : qG) (h0 : Nat) (x1 : Int32) (s0 : Nat) (s1 : Int32) (post : Int32 → qS → Prop) (σ : qS) : Prop := bkX6_push_71 G h0 x1 s0 s1 0 post σ
set_option maxHeartbeats 4000000 in
set_option maxRecDepth 100000 in
theorem sbX6_push_70 {p : Program} {l : Launch} {e : Env} {s : State} {m : MethodId} {args : Array Value} {below : List Frame} {meth : Method} {c : Code} {E : qE} {L : List Nat} {G : qG} {A : Nat → Prop} (C : q_C p s m args meth c cX6_push 3 wsX6_push RX6 (some .int) E L G A) {h0 : Nat} {x1 : Int32} {s0 : Nat} {s1 : Int32} (Lh0 : h0 ∈ L) (Kh0 : G.1 h0 = 6) (Ls0 : s0 ∈ L) (Ks0 : G.1 s0 = 9) {post : Int32 → qS → Prop} {σ : qS} (h : bkX6_push_70 G h0 x1 s0 s1 post σ) : Wd p l e (q_rm 3) s m args below meth c E L G A (MQ below (va_Qi post (q_B E L G) A) args s 0 0 A) 3 σ 70 [(0, .ref h0), (1, .int x1)] [.int s1, .ref s0] := by
  unfold bkX6_push_70 at h
  refine q_iconst (pc := 70) (v := 0) C dX6_push_70 (by decide) ?_
  exact sbX6_push_71 C Lh0 Kh0 Ls0 Ks0 h
def wpX6_push (G : qG) (h0 : Nat) (x1 : Int32) (x2 : Int32) (σ : qS) (post : Int32 → qS → Prop) : Prop := wpX6_is G h0 x1 σ (fun (u2 : Int32) (σ1 : qS) => ((u2 = 0 → post ((-1)) σ1) ∧ (¬ u2 = 0 → wpX6_small G h0 13 (x2.toInt64 &&& 4294967295) σ1 (fun (σ4 : qS) => wpX6_shiftUp G h0 12 x1 32 σ4 (fun (σ6 : qS) => wpX6_plus G h0 14 12 13 σ6 (fun (σ8 : qS) => vp_in x1 (G.2.2 ((G.2.1 h0 4))) ∧ (((σ8 ((G.2.1 h0 4)) x1.toNatClampNeg) = 0 → bkX6_push_70 G h0 x1 ((G.2.1 h0 4)) 14 post σ8) ∧ (¬ (σ8 ((G.2.1 h0 4)) x1.toNatClampNeg) = 0 → vp_in 14 (G.2.2 ((G.2.1 h0 3))) ∧ (((σ8 ((G.2.1 h0 3)) (14 : Int32).toNatClampNeg) ≤ 0 → bkX6_push_70 G h0 x1 ((G.2.1 h0 4)) 14 post σ8) ∧ (¬ (σ8 ((G.2.1 h0 3)) (14 : Int32).toNatClampNeg) ≤ 0 → bkX6_push_71 G h0 x1 ((G.2.1 h0 4)) 14 1 post σ8))))))))))
set_option maxHeartbeats 4000000 in
set_option maxRecDepth 100000 in
theorem sdX6_push {l : Launch} {E : qE} {L : List Nat} {G : qG} (hN : L.Nodup) (hG : q_WF G L) {h0 : Nat} {x1 : Int32} {x2 : Int32} (Lh0 : h0 ∈ L) (Kh0 : G.1 h0 = 6) {σ : qS} {post : Int32 → qS → Prop} (h : wpX6_push G h0 x1 x2 σ post) : MtI l E L G yX6_push wsX6_push (q_rm 3) [.ref h0, .int x1, .int x2] σ post := by
  refine q_met (Qc := fun sz => va_Qi post (q_B E L G) (q_free L sz)) (cc := cX6_push) (maxL := 3) (ret := (some .int)) (own := RX6) (by decide) rfl rfl (Nat.le_of_ble_eq_true rfl) hN hG ?_
  intro p e s m below meth c C
  unfold wpX6_push at h
  refine q_aload_n (pc := 0) C dX6_push_0 rfl 0 rfl ?_
  refine q_iload_n (pc := 1) C dX6_push_1 rfl 1 rfl ?_
  refine q_cVi (pc := 2) (As := [.int x1]) (ci := 6) (Cn := RX6) (T := TX6) (N := 9) C (sdX6_is C.2.2.2.2.2.1 C.2.2.2.2.2.2 Lh0 Kh0 h) (cwV 1 C.1.2.2.2.2 gX6_push_X6_is rfl rfl rfl (by decide +kernel) (q_room (by decide) (by decide))) Lh0 (qc6 Kh0 _) rfl rfl rfl (Nat.le_of_ble_eq_true rfl) dX6_push_2 (fun u2 σ1 h => ?_)
  refine q_if_ne (tgt := 10) (pc := 5) C dX6_push_5 (by decide) (fun c3 => ?_) (fun c3 => ?_)
  · replace h := h.2 c3
    refine q_aload_n (pc := 10) C dX6_push_10 rfl 0 rfl ?_
    refine q_bipush (pc := 11) (v := 13) C dX6_push_11 (by decide) ?_
    refine q_iload_n (pc := 13) C dX6_push_13 rfl 2 rfl ?_
    refine q_i2l (pc := 14) C dX6_push_14 ?_
    refine q_ldc2 (pc := 15) (v := 4294967295) C dX6_push_15 mwX6_push_0 ?_
    refine q_land (pc := 18) C dX6_push_18 ?_
    refine q_cVv (pc := 19) (As := [.int 13, .long (x2.toInt64 &&& 4294967295)]) (ci := 6) (Cn := RX6) (T := TX6) (N := 9) C (sdX6_small C.2.2.2.2.2.1 C.2.2.2.2.2.2 Lh0 Kh0 h) (cwV 2 C.1.2.2.2.2 gX6_push_X6_small rfl rfl rfl (by decide +kernel) (q_room (by decide) (by decide))) Lh0 (qc6 Kh0 _) rfl rfl rfl (Nat.le_of_ble_eq_true rfl) dX6_push_19 (fun σ4 h => ?_)
    refine q_aload_n (pc := 22) C dX6_push_22 rfl 0 rfl ?_
    refine q_bipush (pc := 23) (v := 12) C dX6_push_23 (by decide) ?_
    refine q_iload_n (pc := 25) C dX6_push_25 rfl 1 rfl ?_
    refine q_bipush (pc := 26) (v := 32) C dX6_push_26 (by decide) ?_
    refine q_cVv (pc := 28) (As := [.int 12, .int x1, .int 32]) (ci := 6) (Cn := RX6) (T := TX6) (N := 9) C (sdX6_shiftUp C.2.2.2.2.2.1 C.2.2.2.2.2.2 Lh0 Kh0 h) (cwV 3 C.1.2.2.2.2 gX6_push_X6_shiftUp rfl rfl rfl (by decide +kernel) (q_room (by decide) (by decide))) Lh0 (qc6 Kh0 _) rfl rfl rfl (Nat.le_of_ble_eq_true rfl) dX6_push_28 (fun σ6 h => ?_)
    refine q_aload_n (pc := 31) C dX6_push_31 rfl 0 rfl ?_
    refine q_bipush (pc := 32) (v := 14) C dX6_push_32 (by decide) ?_
    refine q_bipush (pc := 34) (v := 12) C dX6_push_34 (by decide) ?_
    refine q_bipush (pc := 36) (v := 13) C dX6_push_36 (by decide) ?_
    refine q_cVv (pc := 38) (As := [.int 14, .int 12, .int 13]) (ci := 6) (Cn := RX6) (T := TX6) (N := 9) C (sdX6_plus C.2.2.2.2.2.1 C.2.2.2.2.2.2 Lh0 Kh0 h) (cwV 3 C.1.2.2.2.2 gX6_push_X6_plus rfl rfl rfl (by decide +kernel) (q_room (by decide) (by decide))) Lh0 (qc6 Kh0 _) rfl rfl rfl (Nat.le_of_ble_eq_true rfl) dX6_push_38 (fun σ8 h => ?_)
    refine q_aload_n (pc := 41) C dX6_push_41 rfl 0 rfl ?_
    obtain ⟨Lr10, Kr10⟩ := qw_6_4 C.2.2.2.2.2.2 Lh0 Kh0
    refine q_g6_4 (pc := 42) C Lh0 Kh0 mwX6_push_1 mwX6_push_2 dX6_push_42 ?_
    refine q_bipush (pc := 45) (v := 14) C dX6_push_45 (by decide) ?_
    refine q_aload_n (pc := 47) C dX6_push_47 rfl 0 rfl ?_
    refine q_g6_4 (pc := 48) C Lh0 Kh0 mwX6_push_1 mwX6_push_2 dX6_push_48 ?_
    refine q_iload_n (pc := 51) C dX6_push_51 rfl 1 rfl ?_
    obtain ⟨b11, h⟩ := h
    refine q_zald (pc := 52) C Lr10 Kr10 b11 dX6_push_52 ?_
    refine q_if_eq (tgt := 70) (pc := 53) C dX6_push_53 (by decide) (fun c12 => ?_) (fun c12 => ?_)
    · replace h := h.1 c12
      refine q_lv (lv' := [(0, .ref h0), (1, .int x1)]) [0, 1] rfl ?_
      exact sbX6_push_70 C Lh0 Kh0 Lr10 Kr10 h
    · replace h := h.2 c12
      refine q_aload_n (pc := 56) C dX6_push_56 rfl 0 rfl ?_
      obtain ⟨Lr18, Kr18⟩ := qw_6_3 C.2.2.2.2.2.2 Lh0 Kh0
      refine q_g6_3 (pc := 57) C Lh0 Kh0 mwX6_push_1 mwX6_push_3 dX6_push_57 ?_
      refine q_bipush (pc := 60) (v := 14) C dX6_push_60 (by decide) ?_
      obtain ⟨b19, h⟩ := h
      refine q_iald (pc := 62) C Lr18 Kr18 b19 dX6_push_62 ?_
      refine q_if_le (tgt := 70) (pc := 63) C dX6_push_63 (by decide) (fun c20 => ?_) (fun c20 => ?_)
      · replace h := h.1 c20
        refine q_lv (lv' := [(0, .ref h0), (1, .int x1)]) [0, 1] rfl ?_
        exact sbX6_push_70 C Lh0 Kh0 Lr10 Kr10 h
      · replace h := h.2 c20
        refine q_iconst (pc := 66) (v := 1) C dX6_push_66 (by decide) ?_
        refine q_goto (tgt := 71) (pc := 67) C dX6_push_67 (by decide) ?_
        refine q_lv (lv' := [(0, .ref h0), (1, .int x1)]) [0, 1] rfl ?_
        exact sbX6_push_71 C Lh0 Kh0 Lr10 Kr10 h
  · replace h := h.1 c3
    refine q_iconst (pc := 8) (v := (-1)) C dX6_push_8 (by decide) ?_
    exact q_iret (pc := 9) C dX6_push_9 h
def wpX6_copy (G : qG) (h0 : Nat) (x1 : Int32) (x2 : Int32) (σ : qS) (post : Int32 → qS → Prop) : Prop := wpX6_is G h0 x1 σ (fun (u2 : Int32) (σ1 : qS) => ((u2 = 0 → post ((-1)) σ1) ∧ (¬ u2 = 0 → wpX6_is G h0 x2 σ1 (fun (u5 : Int32) (σ4 : qS) => ((u5 = 0 → post ((-1)) σ4) ∧ (¬ u5 = 0 → wpX6_move G h0 12 x2 σ4 (fun (σ7 : qS) => wpX6_keep G h0 x1 12 σ7 (fun (u10 : Int32) (σ9 : qS) => post u10 σ9))))))))
set_option maxHeartbeats 4000000 in
set_option maxRecDepth 100000 in
theorem sdX6_copy {l : Launch} {E : qE} {L : List Nat} {G : qG} (hN : L.Nodup) (hG : q_WF G L) {h0 : Nat} {x1 : Int32} {x2 : Int32} (Lh0 : h0 ∈ L) (Kh0 : G.1 h0 = 6) {σ : qS} {post : Int32 → qS → Prop} (h : wpX6_copy G h0 x1 x2 σ post) : MtI l E L G yX6_copy wsX6_copy (q_rm 3) [.ref h0, .int x1, .int x2] σ post := by
  refine q_met (Qc := fun sz => va_Qi post (q_B E L G) (q_free L sz)) (cc := cX6_copy) (maxL := 3) (ret := (some .int)) (own := RX6) (by decide) rfl rfl (Nat.le_of_ble_eq_true rfl) hN hG ?_
  intro p e s m below meth c C
  unfold wpX6_copy at h
  refine q_aload_n (pc := 0) C dX6_copy_0 rfl 0 rfl ?_
  refine q_iload_n (pc := 1) C dX6_copy_1 rfl 1 rfl ?_
  refine q_cVi (pc := 2) (As := [.int x1]) (ci := 6) (Cn := RX6) (T := TX6) (N := 9) C (sdX6_is C.2.2.2.2.2.1 C.2.2.2.2.2.2 Lh0 Kh0 h) (cwV 1 C.1.2.2.2.2 gX6_copy_X6_is rfl rfl rfl (by decide +kernel) (q_room (by decide) (by decide))) Lh0 (qc6 Kh0 _) rfl rfl rfl (Nat.le_of_ble_eq_true rfl) dX6_copy_2 (fun u2 σ1 h => ?_)
  refine q_if_eq (tgt := 16) (pc := 5) C dX6_copy_5 (by decide) (fun c3 => ?_) (fun c3 => ?_)
  · replace h := h.1 c3
    refine q_iconst (pc := 16) (v := (-1)) C dX6_copy_16 (by decide) ?_
    exact q_iret (pc := 17) C dX6_copy_17 h
  · replace h := h.2 c3
    refine q_aload_n (pc := 8) C dX6_copy_8 rfl 0 rfl ?_
    refine q_iload_n (pc := 9) C dX6_copy_9 rfl 2 rfl ?_
    refine q_cVi (pc := 10) (As := [.int x2]) (ci := 6) (Cn := RX6) (T := TX6) (N := 9) C (sdX6_is C.2.2.2.2.2.1 C.2.2.2.2.2.2 Lh0 Kh0 h) (cwV 1 C.1.2.2.2.2 gX6_copy_X6_is rfl rfl rfl (by decide +kernel) (q_room (by decide) (by decide))) Lh0 (qc6 Kh0 _) rfl rfl rfl (Nat.le_of_ble_eq_true rfl) dX6_copy_10 (fun u5 σ4 h => ?_)
    refine q_if_ne (tgt := 18) (pc := 13) C dX6_copy_13 (by decide) (fun c6 => ?_) (fun c6 => ?_)
    · replace h := h.2 c6
      refine q_aload_n (pc := 18) C dX6_copy_18 rfl 0 rfl ?_
      refine q_bipush (pc := 19) (v := 12) C dX6_copy_19 (by decide) ?_
      refine q_iload_n (pc := 21) C dX6_copy_21 rfl 2 rfl ?_
      refine q_cVv (pc := 22) (As := [.int 12, .int x2]) (ci := 6) (Cn := RX6) (T := TX6) (N := 9) C (sdX6_move C.2.2.2.2.2.1 C.2.2.2.2.2.2 Lh0 Kh0 h) (cwV 2 C.1.2.2.2.2 gX6_copy_X6_move rfl rfl rfl (by decide +kernel) (q_room (by decide) (by decide))) Lh0 (qc6 Kh0 _) rfl rfl rfl (Nat.le_of_ble_eq_true rfl) dX6_copy_22 (fun σ7 h => ?_)
      refine q_aload_n (pc := 25) C dX6_copy_25 rfl 0 rfl ?_
      refine q_iload_n (pc := 26) C dX6_copy_26 rfl 1 rfl ?_
      refine q_bipush (pc := 27) (v := 12) C dX6_copy_27 (by decide) ?_
      refine q_cVi (pc := 29) (As := [.int x1, .int 12]) (ci := 6) (Cn := RX6) (T := TX6) (N := 9) C (sdX6_keep C.2.2.2.2.2.1 C.2.2.2.2.2.2 Lh0 Kh0 h) (cwV 2 C.1.2.2.2.2 gX6_copy_X6_keep rfl rfl rfl (by decide +kernel) (q_room (by decide) (by decide))) Lh0 (qc6 Kh0 _) rfl rfl rfl (Nat.le_of_ble_eq_true rfl) dX6_copy_29 (fun u10 σ9 h => ?_)
      exact q_iret (pc := 32) C dX6_copy_32 h
    · replace h := h.1 c6
      refine q_iconst (pc := 16) (v := (-1)) C dX6_copy_16 (by decide) ?_
      exact q_iret (pc := 17) C dX6_copy_17 h
theorem mwX6_neg_0 : ∀ w ∈ wsX60, w ∈ wsX6_neg := by decide +kernel
theorem mwX6_neg_1 : Cond.fieldLink RX6 16 "IntFileModel" "below" "[Z" ∈ wsX6_neg := by decide +kernel
theorem mwX6_neg_2 : Cond.fieldLink RX6 13 "IntFileModel" "lens" "[I" ∈ wsX6_neg := by decide +kernel
def bkX6_neg_38 (G : qG) (s0 : Nat) (s1 : Int32) (s2 : Int32) (post : Int32 → qS → Prop) (σ : qS) : Prop := vp_in s1 (G.2.2 s0) ∧ (s2 = 0 ∨ s2 = 1) ∧ ∀ σ9 : qS, σ9 = q_st σ s0 s1.toNatClampNeg s2 → post 0 σ9
set_option maxHeartbeats 4000000 in
set_option maxRecDepth 100000 in
theorem sbX6_neg_38 {p : Program} {l : Launch} {e : Env} {s : State} {m : MethodId} {args : Array Value} {below : List Frame} {meth : Method} {c : Code} {E : qE} {L : List Nat} {G : qG} {A : Nat → Prop} (C : q_C p s m args meth c cX6_neg 2 wsX6_neg RX6 (some .int) E L G A) {s0 : Nat} {s1 : Int32} {s2 : Int32} (Ls0 : s0 ∈ L) (Ks0 : G.1 s0 = 9) {post : Int32 → qS → Prop} {σ : qS} (h : bkX6_neg_38 G s0 s1 s2 post σ) : Wd p l e (q_rm 2) s m args below meth c E L G A (MQ below (va_Qi post (q_B E L G) A) args s 0 0 A) 2 σ 38 [] [.int s2, .int s1, .ref s0] := by
  unfold bkX6_neg_38 at h
  obtain ⟨b7, h⟩ := h
  obtain ⟨z8, h⟩ := h
  refine q_zast (pc := 38) C Ls0 Ks0 b7 z8 dX6_neg_38 (fun σ9 eσ9 => ?_)
  replace h := h σ9 eσ9
  refine q_iconst (pc := 39) (v := 0) C dX6_neg_39 (by decide) ?_
  exact q_iret (pc := 40) C dX6_neg_40 h
def bkX6_neg_37 (G : qG) (s0 : Nat) (s1 : Int32) (post : Int32 → qS → Prop) (σ : qS) : Prop := bkX6_neg_38 G s0 s1 0 post σ
set_option maxHeartbeats 4000000 in
set_option maxRecDepth 100000 in
theorem sbX6_neg_37 {p : Program} {l : Launch} {e : Env} {s : State} {m : MethodId} {args : Array Value} {below : List Frame} {meth : Method} {c : Code} {E : qE} {L : List Nat} {G : qG} {A : Nat → Prop} (C : q_C p s m args meth c cX6_neg 2 wsX6_neg RX6 (some .int) E L G A) {s0 : Nat} {s1 : Int32} (Ls0 : s0 ∈ L) (Ks0 : G.1 s0 = 9) {post : Int32 → qS → Prop} {σ : qS} (h : bkX6_neg_37 G s0 s1 post σ) : Wd p l e (q_rm 2) s m args below meth c E L G A (MQ below (va_Qi post (q_B E L G) A) args s 0 0 A) 2 σ 37 [] [.int s1, .ref s0] := by
  unfold bkX6_neg_37 at h
  refine q_iconst (pc := 37) (v := 0) C dX6_neg_37 (by decide) ?_
  exact sbX6_neg_38 C Ls0 Ks0 h
def wpX6_neg (G : qG) (h0 : Nat) (x1 : Int32) (σ : qS) (post : Int32 → qS → Prop) : Prop := wpX6_is G h0 x1 σ (fun (u2 : Int32) (σ1 : qS) => ((u2 = 0 → post ((-1)) σ1) ∧ (¬ u2 = 0 → vp_in x1 (G.2.2 ((G.2.1 h0 4))) ∧ (((σ1 ((G.2.1 h0 4)) x1.toNatClampNeg) = 0 → vp_in x1 (G.2.2 ((G.2.1 h0 3))) ∧ (((σ1 ((G.2.1 h0 3)) x1.toNatClampNeg) ≤ 0 → bkX6_neg_37 G ((G.2.1 h0 4)) x1 post σ1) ∧ (¬ (σ1 ((G.2.1 h0 3)) x1.toNatClampNeg) ≤ 0 → bkX6_neg_38 G ((G.2.1 h0 4)) x1 1 post σ1))) ∧ (¬ (σ1 ((G.2.1 h0 4)) x1.toNatClampNeg) = 0 → bkX6_neg_37 G ((G.2.1 h0 4)) x1 post σ1)))))
set_option maxHeartbeats 4000000 in
set_option maxRecDepth 100000 in
theorem sdX6_neg {l : Launch} {E : qE} {L : List Nat} {G : qG} (hN : L.Nodup) (hG : q_WF G L) {h0 : Nat} {x1 : Int32} (Lh0 : h0 ∈ L) (Kh0 : G.1 h0 = 6) {σ : qS} {post : Int32 → qS → Prop} (h : wpX6_neg G h0 x1 σ post) : MtI l E L G yX6_neg wsX6_neg (q_rm 2) [.ref h0, .int x1] σ post := by
  refine q_met (Qc := fun sz => va_Qi post (q_B E L G) (q_free L sz)) (cc := cX6_neg) (maxL := 2) (ret := (some .int)) (own := RX6) (by decide) rfl rfl (Nat.le_of_ble_eq_true rfl) hN hG ?_
  intro p e s m below meth c C
  unfold wpX6_neg at h
  refine q_aload_n (pc := 0) C dX6_neg_0 rfl 0 rfl ?_
  refine q_iload_n (pc := 1) C dX6_neg_1 rfl 1 rfl ?_
  refine q_cVi (pc := 2) (As := [.int x1]) (ci := 6) (Cn := RX6) (T := TX6) (N := 9) C (sdX6_is C.2.2.2.2.2.1 C.2.2.2.2.2.2 Lh0 Kh0 h) (cwV 1 C.1.2.2.2.2 gX6_neg_X6_is rfl rfl rfl (by decide +kernel) (q_room (by decide) (by decide))) Lh0 (qc6 Kh0 _) rfl rfl rfl (Nat.le_of_ble_eq_true rfl) dX6_neg_2 (fun u2 σ1 h => ?_)
  refine q_if_ne (tgt := 10) (pc := 5) C dX6_neg_5 (by decide) (fun c3 => ?_) (fun c3 => ?_)
  · replace h := h.2 c3
    refine q_aload_n (pc := 10) C dX6_neg_10 rfl 0 rfl ?_
    obtain ⟨Lr4, Kr4⟩ := qw_6_4 C.2.2.2.2.2.2 Lh0 Kh0
    refine q_g6_4 (pc := 11) C Lh0 Kh0 mwX6_neg_0 mwX6_neg_1 dX6_neg_11 ?_
    refine q_iload_n (pc := 14) C dX6_neg_14 rfl 1 rfl ?_
    refine q_aload_n (pc := 15) C dX6_neg_15 rfl 0 rfl ?_
    refine q_g6_4 (pc := 16) C Lh0 Kh0 mwX6_neg_0 mwX6_neg_1 dX6_neg_16 ?_
    refine q_iload_n (pc := 19) C dX6_neg_19 rfl 1 rfl ?_
    obtain ⟨b5, h⟩ := h
    refine q_zald (pc := 20) C Lr4 Kr4 b5 dX6_neg_20 ?_
    refine q_if_ne (tgt := 37) (pc := 21) C dX6_neg_21 (by decide) (fun c6 => ?_) (fun c6 => ?_)
    · replace h := h.2 c6
      refine q_lv (lv' := []) [] rfl ?_
      exact sbX6_neg_37 C Lr4 Kr4 h
    · replace h := h.1 c6
      refine q_aload_n (pc := 24) C dX6_neg_24 rfl 0 rfl ?_
      obtain ⟨Lr10, Kr10⟩ := qw_6_3 C.2.2.2.2.2.2 Lh0 Kh0
      refine q_g6_3 (pc := 25) C Lh0 Kh0 mwX6_neg_0 mwX6_neg_2 dX6_neg_25 ?_
      refine q_iload_n (pc := 28) C dX6_neg_28 rfl 1 rfl ?_
      obtain ⟨b11, h⟩ := h
      refine q_iald (pc := 29) C Lr10 Kr10 b11 dX6_neg_29 ?_
      refine q_if_le (tgt := 37) (pc := 30) C dX6_neg_30 (by decide) (fun c12 => ?_) (fun c12 => ?_)
      · replace h := h.1 c12
        refine q_lv (lv' := []) [] rfl ?_
        exact sbX6_neg_37 C Lr4 Kr4 h
      · replace h := h.2 c12
        refine q_iconst (pc := 33) (v := 1) C dX6_neg_33 (by decide) ?_
        refine q_goto (tgt := 38) (pc := 34) C dX6_neg_34 (by decide) ?_
        refine q_lv (lv' := []) [] rfl ?_
        exact sbX6_neg_38 C Lr4 Kr4 h
  · replace h := h.1 c3
    refine q_iconst (pc := 8) (v := (-1)) C dX6_neg_8 (by decide) ?_
    exact q_iret (pc := 9) C dX6_neg_9 h
theorem mwX6_sum_0 : ∀ w ∈ wsX60, w ∈ wsX6_sum := by decide +kernel
theorem mwX6_sum_1 : Cond.fieldLink RX6 16 "IntFileModel" "below" "[Z" ∈ wsX6_sum := by decide +kernel
theorem mwX6_sum_2 : Cond.fieldLink RX6 13 "IntFileModel" "lens" "[I" ∈ wsX6_sum := by decide +kernel
def bkX6_sum_150 (G : qG) (s0 : Nat) (s1 : Int32) (post : qS → Prop) (σ : qS) : Prop := vp_in s1 (G.2.2 s0) ∧ ∀ σ14 : qS, σ14 = q_st σ s0 s1.toNatClampNeg 0 → post σ14
set_option maxHeartbeats 4000000 in
set_option maxRecDepth 100000 in
theorem sbX6_sum_150 {p : Program} {l : Launch} {e : Env} {s : State} {m : MethodId} {args : Array Value} {below : List Frame} {meth : Method} {c : Code} {E : qE} {L : List Nat} {G : qG} {A : Nat → Prop} (C : q_C p s m args meth c cX6_sum 5 wsX6_sum RX6 none E L G A) {s0 : Nat} {s1 : Int32} (Ls0 : s0 ∈ L) (Ks0 : G.1 s0 = 9) {post : qS → Prop} {σ : qS} (h : bkX6_sum_150 G s0 s1 post σ) : Wd p l e (q_rm 3) s m args below meth c E L G A (MQ below (va_Qv post (q_B E L G) A) args s 0 0 A) 5 σ 150 [] [.int s1, .ref s0] := by
  unfold bkX6_sum_150 at h
  refine q_iconst (pc := 150) (v := 0) C dX6_sum_150 (by decide) ?_
  obtain ⟨b13, h⟩ := h
  refine q_zast (pc := 151) C Ls0 Ks0 b13 (Or.inl rfl) dX6_sum_151 (fun σ14 eσ14 => ?_)
  replace h := h σ14 eσ14
  exact q_vret (pc := 152) C dX6_sum_152 h
def bkX6_sum_113 (G : qG) (s0 : Nat) (s1 : Int32) (s2 : Int32) (post : qS → Prop) (σ : qS) : Prop := vp_in s1 (G.2.2 s0) ∧ (s2 = 0 ∨ s2 = 1) ∧ ∀ σ26 : qS, σ26 = q_st σ s0 s1.toNatClampNeg s2 → post σ26
set_option maxHeartbeats 4000000 in
set_option maxRecDepth 100000 in
theorem sbX6_sum_113 {p : Program} {l : Launch} {e : Env} {s : State} {m : MethodId} {args : Array Value} {below : List Frame} {meth : Method} {c : Code} {E : qE} {L : List Nat} {G : qG} {A : Nat → Prop} (C : q_C p s m args meth c cX6_sum 5 wsX6_sum RX6 none E L G A) {s0 : Nat} {s1 : Int32} {s2 : Int32} (Ls0 : s0 ∈ L) (Ks0 : G.1 s0 = 9) {post : qS → Prop} {σ : qS} (h : bkX6_sum_113 G s0 s1 s2 post σ) : Wd p l e (q_rm 3) s m args below meth c E L G A (MQ below (va_Qv post (q_B E L G) A) args s 0 0 A) 5 σ 113 [] [.int s2, .int s1, .ref s0] := by
  unfold bkX6_sum_113 at h
  obtain ⟨b24, h⟩ := h
  obtain ⟨z25, h⟩ := h
  refine q_zast (pc := 113) C Ls0 Ks0 b24 z25 dX6_sum_113 (fun σ26 eσ26 => ?_)
  replace h := h σ26 eσ26
  refine q_goto (tgt := 152) (pc := 114) C dX6_sum_114 (by decide) ?_
  exact q_vret (pc := 152) C dX6_sum_152 h
def bkX6_sum_112 (G : qG) (s0 : Nat) (s1 : Int32) (post : qS → Prop) (σ : qS) : Prop := bkX6_sum_113 G s0 s1 0 post σ
set_option maxHeartbeats 4000000 in
set_option maxRecDepth 100000 in
theorem sbX6_sum_112 {p : Program} {l : Launch} {e : Env} {s : State} {m : MethodId} {args : Array Value} {below : List Frame} {meth : Method} {c : Code} {E : qE} {L : List Nat} {G : qG} {A : Nat → Prop} (C : q_C p s m args meth c cX6_sum 5 wsX6_sum RX6 none E L G A) {s0 : Nat} {s1 : Int32} (Ls0 : s0 ∈ L) (Ks0 : G.1 s0 = 9) {post : qS → Prop} {σ : qS} (h : bkX6_sum_112 G s0 s1 post σ) : Wd p l e (q_rm 3) s m args below meth c E L G A (MQ below (va_Qv post (q_B E L G) A) args s 0 0 A) 5 σ 112 [] [.int s1, .ref s0] := by
  unfold bkX6_sum_112 at h
  refine q_iconst (pc := 112) (v := 0) C dX6_sum_112 (by decide) ?_
  exact sbX6_sum_113 C Ls0 Ks0 h
def bkX6_sum_62 (G : qG) (s0 : Nat) (s1 : Int32) (s2 : Int32) (post : qS → Prop) (σ : qS) : Prop := vp_in s1 (G.2.2 s0) ∧ (s2 = 0 ∨ s2 = 1) ∧ ∀ σ35 : qS, σ35 = q_st σ s0 s1.toNatClampNeg s2 → post σ35
set_option maxHeartbeats 4000000 in
set_option maxRecDepth 100000 in
theorem sbX6_sum_62 {p : Program} {l : Launch} {e : Env} {s : State} {m : MethodId} {args : Array Value} {below : List Frame} {meth : Method} {c : Code} {E : qE} {L : List Nat} {G : qG} {A : Nat → Prop} (C : q_C p s m args meth c cX6_sum 5 wsX6_sum RX6 none E L G A) {s0 : Nat} {s1 : Int32} {s2 : Int32} (Ls0 : s0 ∈ L) (Ks0 : G.1 s0 = 9) {post : qS → Prop} {σ : qS} (h : bkX6_sum_62 G s0 s1 s2 post σ) : Wd p l e (q_rm 3) s m args below meth c E L G A (MQ below (va_Qv post (q_B E L G) A) args s 0 0 A) 5 σ 62 [] [.int s2, .int s1, .ref s0] := by
  unfold bkX6_sum_62 at h
  obtain ⟨b33, h⟩ := h
  obtain ⟨z34, h⟩ := h
  refine q_zast (pc := 62) C Ls0 Ks0 b33 z34 dX6_sum_62 (fun σ35 eσ35 => ?_)
  replace h := h σ35 eσ35
  refine q_goto (tgt := 152) (pc := 63) C dX6_sum_63 (by decide) ?_
  exact q_vret (pc := 152) C dX6_sum_152 h
def bkX6_sum_61 (G : qG) (s0 : Nat) (s1 : Int32) (post : qS → Prop) (σ : qS) : Prop := bkX6_sum_62 G s0 s1 0 post σ
set_option maxHeartbeats 4000000 in
set_option maxRecDepth 100000 in
theorem sbX6_sum_61 {p : Program} {l : Launch} {e : Env} {s : State} {m : MethodId} {args : Array Value} {below : List Frame} {meth : Method} {c : Code} {E : qE} {L : List Nat} {G : qG} {A : Nat → Prop} (C : q_C p s m args meth c cX6_sum 5 wsX6_sum RX6 none E L G A) {s0 : Nat} {s1 : Int32} (Ls0 : s0 ∈ L) (Ks0 : G.1 s0 = 9) {post : qS → Prop} {σ : qS} (h : bkX6_sum_61 G s0 s1 post σ) : Wd p l e (q_rm 3) s m args below meth c E L G A (MQ below (va_Qv post (q_B E L G) A) args s 0 0 A) 5 σ 61 [] [.int s1, .ref s0] := by
  unfold bkX6_sum_61 at h
  refine q_iconst (pc := 61) (v := 0) C dX6_sum_61 (by decide) ?_
  exact sbX6_sum_62 C Ls0 Ks0 h
def bkX6_sum_15 (G : qG) (h0 : Nat) (x1 : Int32) (x2 : Int32) (s0 : Int32) (post : qS → Prop) (σ : qS) : Prop := vp_in x1 (G.2.2 ((G.2.1 h0 4))) ∧ (((σ ((G.2.1 h0 4)) x1.toNatClampNeg) = s0 → wpX6_plus G h0 14 x1 x2 σ (fun (σ30 : qS) => ((s0 = 0 → bkX6_sum_61 G ((G.2.1 h0 4)) 14 post σ30) ∧ (¬ s0 = 0 → vp_in 14 (G.2.2 ((G.2.1 h0 3))) ∧ (((σ30 ((G.2.1 h0 3)) (14 : Int32).toNatClampNeg) ≤ 0 → bkX6_sum_61 G ((G.2.1 h0 4)) 14 post σ30) ∧ (¬ (σ30 ((G.2.1 h0 3)) (14 : Int32).toNatClampNeg) ≤ 0 → bkX6_sum_62 G ((G.2.1 h0 4)) 14 1 post σ30)))))) ∧ (¬ (σ ((G.2.1 h0 4)) x1.toNatClampNeg) = s0 → wpX6_order G h0 x1 x2 σ (fun (u8 : Int32) (σ7 : qS) => ((u8 < 0 → wpX6_minus G h0 14 x2 x1 σ7 (fun (σ10 : qS) => ((s0 = 0 → bkX6_sum_150 G ((G.2.1 h0 4)) 14 post σ10) ∧ (¬ s0 = 0 → vp_in 14 (G.2.2 ((G.2.1 h0 3))) ∧ (((σ10 ((G.2.1 h0 3)) (14 : Int32).toNatClampNeg) ≤ 0 → bkX6_sum_150 G ((G.2.1 h0 4)) 14 post σ10) ∧ (¬ (σ10 ((G.2.1 h0 3)) (14 : Int32).toNatClampNeg) ≤ 0 → vp_in 14 (G.2.2 ((G.2.1 h0 4))) ∧ ∀ σ19 : qS, σ19 = q_st σ10 ((G.2.1 h0 4)) (14 : Int32).toNatClampNeg 1 → post σ19)))))) ∧ (¬ u8 < 0 → wpX6_minus G h0 14 x1 x2 σ7 (fun (σ20 : qS) => vp_in x1 (G.2.2 ((G.2.1 h0 4))) ∧ (((σ20 ((G.2.1 h0 4)) x1.toNatClampNeg) = 0 → bkX6_sum_112 G ((G.2.1 h0 4)) 14 post σ20) ∧ (¬ (σ20 ((G.2.1 h0 4)) x1.toNatClampNeg) = 0 → vp_in 14 (G.2.2 ((G.2.1 h0 3))) ∧ (((σ20 ((G.2.1 h0 3)) (14 : Int32).toNatClampNeg) ≤ 0 → bkX6_sum_112 G ((G.2.1 h0 4)) 14 post σ20) ∧ (¬ (σ20 ((G.2.1 h0 3)) (14 : Int32).toNatClampNeg) ≤ 0 → bkX6_sum_113 G ((G.2.1 h0 4)) 14 1 post σ20))))))))))
set_option maxHeartbeats 4000000 in
set_option maxRecDepth 100000 in
theorem sbX6_sum_15 {p : Program} {l : Launch} {e : Env} {s : State} {m : MethodId} {args : Array Value} {below : List Frame} {meth : Method} {c : Code} {E : qE} {L : List Nat} {G : qG} {A : Nat → Prop} (C : q_C p s m args meth c cX6_sum 5 wsX6_sum RX6 none E L G A) {h0 : Nat} {x1 : Int32} {x2 : Int32} {s0 : Int32} (Lh0 : h0 ∈ L) (Kh0 : G.1 h0 = 6) {post : qS → Prop} {σ : qS} (h : bkX6_sum_15 G h0 x1 x2 s0 post σ) : Wd p l e (q_rm 3) s m args below meth c E L G A (MQ below (va_Qv post (q_B E L G) A) args s 0 0 A) 5 σ 15 [(0, .ref h0), (1, .int x1), (2, .int x2)] [.int s0] := by
  unfold bkX6_sum_15 at h
  refine q_istore (pc := 15) (lv' := [(4, .int s0), (0, .ref h0), (1, .int x1), (2, .int x2)]) C dX6_sum_15 (by decide) rfl ?_
  refine q_aload_n (pc := 17) C dX6_sum_17 rfl 1 rfl ?_
  obtain ⟨Lr4, Kr4⟩ := qw_6_4 C.2.2.2.2.2.2 Lh0 Kh0
  refine q_g6_4 (pc := 18) C Lh0 Kh0 mwX6_sum_0 mwX6_sum_1 dX6_sum_18 ?_
  refine q_iload_n (pc := 21) C dX6_sum_21 rfl 2 rfl ?_
  obtain ⟨b5, h⟩ := h
  refine q_zald (pc := 22) C Lr4 Kr4 b5 dX6_sum_22 ?_
  refine q_iload (pc := 23) C dX6_sum_23 0 rfl ?_
  refine q_icmp_ne (tgt := 66) (pc := 25) C dX6_sum_25 (by decide) (fun c6 => ?_) (fun c6 => ?_)
  · replace h := h.2 c6
    refine q_aload_n (pc := 66) C dX6_sum_66 rfl 1 rfl ?_
    refine q_iload_n (pc := 67) C dX6_sum_67 rfl 2 rfl ?_
    refine q_iload_n (pc := 68) C dX6_sum_68 rfl 3 rfl ?_
    refine q_cVi (pc := 69) (As := [.int x1, .int x2]) (ci := 6) (Cn := RX6) (T := TX6) (N := 9) C (sdX6_order C.2.2.2.2.2.1 C.2.2.2.2.2.2 Lh0 Kh0 h) (cwV 2 C.1.2.2.2.2 gX6_sum_X6_order rfl rfl rfl (by decide +kernel) (q_room (by decide) (by decide))) Lh0 (qc6 Kh0 _) rfl rfl rfl (Nat.le_of_ble_eq_true rfl) dX6_sum_69 (fun u8 σ7 h => ?_)
    refine q_if_lt (tgt := 117) (pc := 72) C dX6_sum_72 (by decide) (fun c9 => ?_) (fun c9 => ?_)
    · replace h := h.1 c9
      refine q_aload_n (pc := 117) C dX6_sum_117 rfl 1 rfl ?_
      refine q_bipush (pc := 118) (v := 14) C dX6_sum_118 (by decide) ?_
      refine q_iload_n (pc := 120) C dX6_sum_120 rfl 3 rfl ?_
      refine q_iload_n (pc := 121) C dX6_sum_121 rfl 2 rfl ?_
      refine q_cVv (pc := 122) (As := [.int 14, .int x2, .int x1]) (ci := 6) (Cn := RX6) (T := TX6) (N := 9) C (sdX6_minus C.2.2.2.2.2.1 C.2.2.2.2.2.2 Lh0 Kh0 h) (cwV 3 C.1.2.2.2.2 gX6_sum_X6_minus rfl rfl rfl (by decide +kernel) (q_room (by decide) (by decide))) Lh0 (qc6 Kh0 _) rfl rfl rfl (Nat.le_of_ble_eq_true rfl) dX6_sum_122 (fun σ10 h => ?_)
      refine q_aload_n (pc := 125) C dX6_sum_125 rfl 1 rfl ?_
      refine q_g6_4 (pc := 126) C Lh0 Kh0 mwX6_sum_0 mwX6_sum_1 dX6_sum_126 ?_
      refine q_bipush (pc := 129) (v := 14) C dX6_sum_129 (by decide) ?_
      refine q_iload (pc := 131) C dX6_sum_131 0 rfl ?_
      refine q_if_eq (tgt := 150) (pc := 133) C dX6_sum_133 (by decide) (fun c12 => ?_) (fun c12 => ?_)
      · replace h := h.1 c12
        refine q_lv (lv' := []) [] rfl ?_
        exact sbX6_sum_150 C Lr4 Kr4 h
      · replace h := h.2 c12
        refine q_aload_n (pc := 136) C dX6_sum_136 rfl 1 rfl ?_
        obtain ⟨Lr15, Kr15⟩ := qw_6_3 C.2.2.2.2.2.2 Lh0 Kh0
        refine q_g6_3 (pc := 137) C Lh0 Kh0 mwX6_sum_0 mwX6_sum_2 dX6_sum_137 ?_
        refine q_bipush (pc := 140) (v := 14) C dX6_sum_140 (by decide) ?_
        obtain ⟨b16, h⟩ := h
        refine q_iald (pc := 142) C Lr15 Kr15 b16 dX6_sum_142 ?_
        refine q_if_le (tgt := 150) (pc := 143) C dX6_sum_143 (by decide) (fun c17 => ?_) (fun c17 => ?_)
        · replace h := h.1 c17
          refine q_lv (lv' := []) [] rfl ?_
          exact sbX6_sum_150 C Lr4 Kr4 h
        · replace h := h.2 c17
          refine q_iconst (pc := 146) (v := 1) C dX6_sum_146 (by decide) ?_
          refine q_goto (tgt := 151) (pc := 147) C dX6_sum_147 (by decide) ?_
          obtain ⟨b18, h⟩ := h
          refine q_zast (pc := 151) C Lr4 Kr4 b18 (Or.inr rfl) dX6_sum_151 (fun σ19 eσ19 => ?_)
          replace h := h σ19 eσ19
          exact q_vret (pc := 152) C dX6_sum_152 h
    · replace h := h.2 c9
      refine q_aload_n (pc := 75) C dX6_sum_75 rfl 1 rfl ?_
      refine q_bipush (pc := 76) (v := 14) C dX6_sum_76 (by decide) ?_
      refine q_iload_n (pc := 78) C dX6_sum_78 rfl 2 rfl ?_
      refine q_iload_n (pc := 79) C dX6_sum_79 rfl 3 rfl ?_
      refine q_cVv (pc := 80) (As := [.int 14, .int x1, .int x2]) (ci := 6) (Cn := RX6) (T := TX6) (N := 9) C (sdX6_minus C.2.2.2.2.2.1 C.2.2.2.2.2.2 Lh0 Kh0 h) (cwV 3 C.1.2.2.2.2 gX6_sum_X6_minus rfl rfl rfl (by decide +kernel) (q_room (by decide) (by decide))) Lh0 (qc6 Kh0 _) rfl rfl rfl (Nat.le_of_ble_eq_true rfl) dX6_sum_80 (fun σ20 h => ?_)
      refine q_aload_n (pc := 83) C dX6_sum_83 rfl 1 rfl ?_
      refine q_g6_4 (pc := 84) C Lh0 Kh0 mwX6_sum_0 mwX6_sum_1 dX6_sum_84 ?_
      refine q_bipush (pc := 87) (v := 14) C dX6_sum_87 (by decide) ?_
      refine q_aload_n (pc := 89) C dX6_sum_89 rfl 1 rfl ?_
      refine q_g6_4 (pc := 90) C Lh0 Kh0 mwX6_sum_0 mwX6_sum_1 dX6_sum_90 ?_
      refine q_iload_n (pc := 93) C dX6_sum_93 rfl 2 rfl ?_
      obtain ⟨b22, h⟩ := h
      refine q_zald (pc := 94) C Lr4 Kr4 b22 dX6_sum_94 ?_
      refine q_if_eq (tgt := 112) (pc := 95) C dX6_sum_95 (by decide) (fun c23 => ?_) (fun c23 => ?_)
      · replace h := h.1 c23
        refine q_lv (lv' := []) [] rfl ?_
        exact sbX6_sum_112 C Lr4 Kr4 h
      · replace h := h.2 c23
        refine q_aload_n (pc := 98) C dX6_sum_98 rfl 1 rfl ?_
        obtain ⟨Lr27, Kr27⟩ := qw_6_3 C.2.2.2.2.2.2 Lh0 Kh0
        refine q_g6_3 (pc := 99) C Lh0 Kh0 mwX6_sum_0 mwX6_sum_2 dX6_sum_99 ?_
        refine q_bipush (pc := 102) (v := 14) C dX6_sum_102 (by decide) ?_
        obtain ⟨b28, h⟩ := h
        refine q_iald (pc := 104) C Lr27 Kr27 b28 dX6_sum_104 ?_
        refine q_if_le (tgt := 112) (pc := 105) C dX6_sum_105 (by decide) (fun c29 => ?_) (fun c29 => ?_)
        · replace h := h.1 c29
          refine q_lv (lv' := []) [] rfl ?_
          exact sbX6_sum_112 C Lr4 Kr4 h
        · replace h := h.2 c29
          refine q_iconst (pc := 108) (v := 1) C dX6_sum_108 (by decide) ?_
          refine q_goto (tgt := 113) (pc := 109) C dX6_sum_109 (by decide) ?_
          refine q_lv (lv' := []) [] rfl ?_
          exact sbX6_sum_113 C Lr4 Kr4 h
  · replace h := h.1 c6
    refine q_aload_n (pc := 28) C dX6_sum_28 rfl 1 rfl ?_
    refine q_bipush (pc := 29) (v := 14) C dX6_sum_29 (by decide) ?_
    refine q_iload_n (pc := 31) C dX6_sum_31 rfl 2 rfl ?_
    refine q_iload_n (pc := 32) C dX6_sum_32 rfl 3 rfl ?_
    refine q_cVv (pc := 33) (As := [.int 14, .int x1, .int x2]) (ci := 6) (Cn := RX6) (T := TX6) (N := 9) C (sdX6_plus C.2.2.2.2.2.1 C.2.2.2.2.2.2 Lh0 Kh0 h) (cwV 3 C.1.2.2.2.2 gX6_sum_X6_plus rfl rfl rfl (by decide +kernel) (q_room (by decide) (by decide))) Lh0 (qc6 Kh0 _) rfl rfl rfl (Nat.le_of_ble_eq_true rfl) dX6_sum_33 (fun σ30 h => ?_)
    refine q_aload_n (pc := 36) C dX6_sum_36 rfl 1 rfl ?_
    refine q_g6_4 (pc := 37) C Lh0 Kh0 mwX6_sum_0 mwX6_sum_1 dX6_sum_37 ?_
    refine q_bipush (pc := 40) (v := 14) C dX6_sum_40 (by decide) ?_
    refine q_iload (pc := 42) C dX6_sum_42 0 rfl ?_
    refine q_if_eq (tgt := 61) (pc := 44) C dX6_sum_44 (by decide) (fun c32 => ?_) (fun c32 => ?_)
    · replace h := h.1 c32
      refine q_lv (lv' := []) [] rfl ?_
      exact sbX6_sum_61 C Lr4 Kr4 h
    · replace h := h.2 c32
      refine q_aload_n (pc := 47) C dX6_sum_47 rfl 1 rfl ?_
      obtain ⟨Lr36, Kr36⟩ := qw_6_3 C.2.2.2.2.2.2 Lh0 Kh0
      refine q_g6_3 (pc := 48) C Lh0 Kh0 mwX6_sum_0 mwX6_sum_2 dX6_sum_48 ?_
      refine q_bipush (pc := 51) (v := 14) C dX6_sum_51 (by decide) ?_
      obtain ⟨b37, h⟩ := h
      refine q_iald (pc := 53) C Lr36 Kr36 b37 dX6_sum_53 ?_
      refine q_if_le (tgt := 61) (pc := 54) C dX6_sum_54 (by decide) (fun c38 => ?_) (fun c38 => ?_)
      · replace h := h.1 c38
        refine q_lv (lv' := []) [] rfl ?_
        exact sbX6_sum_61 C Lr4 Kr4 h
      · replace h := h.2 c38
        refine q_iconst (pc := 57) (v := 1) C dX6_sum_57 (by decide) ?_
        refine q_goto (tgt := 62) (pc := 58) C dX6_sum_58 (by decide) ?_
        refine q_lv (lv' := []) [] rfl ?_
        exact sbX6_sum_62 C Lr4 Kr4 h
def wpX6_sum (G : qG) (h0 : Nat) (x1 : Int32) (x2 : Int32) (x3 : Int32) (σ : qS) (post : qS → Prop) : Prop := vp_in x2 (G.2.2 ((G.2.1 h0 4))) ∧ (((σ ((G.2.1 h0 4)) x2.toNatClampNeg) = x3 → bkX6_sum_15 G h0 x1 x2 0 post σ) ∧ (¬ (σ ((G.2.1 h0 4)) x2.toNatClampNeg) = x3 → bkX6_sum_15 G h0 x1 x2 1 post σ))
set_option maxHeartbeats 4000000 in
set_option maxRecDepth 100000 in
theorem sdX6_sum {l : Launch} {E : qE} {L : List Nat} {G : qG} (hN : L.Nodup) (hG : q_WF G L) {h0 : Nat} {x1 : Int32} {x2 : Int32} {x3 : Int32} (Lh0 : h0 ∈ L) (Kh0 : G.1 h0 = 6) {σ : qS} {post : qS → Prop} (h : wpX6_sum G h0 x1 x2 x3 σ post) : MtV l E L G yX6_sum wsX6_sum (q_rm 3) [.ref h0, .int x1, .int x2, .int x3] σ post := by
  refine q_met (Qc := fun sz => va_Qv post (q_B E L G) (q_free L sz)) (cc := cX6_sum) (maxL := 5) (ret := none) (own := RX6) (by decide) rfl rfl (Nat.le_of_ble_eq_true rfl) hN hG ?_
  intro p e s m below meth c C
  unfold wpX6_sum at h
  refine q_aload_n (pc := 0) C dX6_sum_0 rfl 0 rfl ?_
  obtain ⟨Lr1, Kr1⟩ := qw_6_4 C.2.2.2.2.2.2 Lh0 Kh0
  refine q_g6_4 (pc := 1) C Lh0 Kh0 mwX6_sum_0 mwX6_sum_1 dX6_sum_1 ?_
  refine q_iload_n (pc := 4) C dX6_sum_4 rfl 2 rfl ?_
  obtain ⟨b2, h⟩ := h
  refine q_zald (pc := 5) C Lr1 Kr1 b2 dX6_sum_5 ?_
  refine q_iload_n (pc := 6) C dX6_sum_6 rfl 3 rfl ?_
  refine q_icmp_eq (tgt := 14) (pc := 7) C dX6_sum_7 (by decide) (fun c3 => ?_) (fun c3 => ?_)
  · replace h := h.1 c3
    refine q_iconst (pc := 14) (v := 0) C dX6_sum_14 (by decide) ?_
    refine q_lv (lv' := [(0, .ref h0), (1, .int x1), (2, .int x2)]) [0, 1, 2] rfl ?_
    exact sbX6_sum_15 C Lh0 Kh0 h
  · replace h := h.2 c3
    refine q_iconst (pc := 10) (v := 1) C dX6_sum_10 (by decide) ?_
    refine q_goto (tgt := 15) (pc := 11) C dX6_sum_11 (by decide) ?_
    refine q_lv (lv' := [(0, .ref h0), (1, .int x1), (2, .int x2)]) [0, 1, 2] rfl ?_
    exact sbX6_sum_15 C Lh0 Kh0 h
def wpX6_add (G : qG) (h0 : Nat) (x1 : Int32) (x2 : Int32) (x3 : Int32) (σ : qS) (post : Int32 → qS → Prop) : Prop := wpX6_is G h0 x1 σ (fun (u2 : Int32) (σ1 : qS) => ((u2 = 0 → post ((-1)) σ1) ∧ (¬ u2 = 0 → wpX6_is G h0 x2 σ1 (fun (u5 : Int32) (σ4 : qS) => ((u5 = 0 → post ((-1)) σ4) ∧ (¬ u5 = 0 → wpX6_is G h0 x3 σ4 (fun (u8 : Int32) (σ7 : qS) => ((u8 = 0 → post ((-1)) σ7) ∧ (¬ u8 = 0 → wpX6_sum G h0 x2 x3 0 σ7 (fun (σ10 : qS) => wpX6_keep G h0 x1 14 σ10 (fun (u13 : Int32) (σ12 : qS) => post u13 σ12)))))))))))
set_option maxHeartbeats 4000000 in
set_option maxRecDepth 100000 in
theorem sdX6_add {l : Launch} {E : qE} {L : List Nat} {G : qG} (hN : L.Nodup) (hG : q_WF G L) {h0 : Nat} {x1 : Int32} {x2 : Int32} {x3 : Int32} (Lh0 : h0 ∈ L) (Kh0 : G.1 h0 = 6) {σ : qS} {post : Int32 → qS → Prop} (h : wpX6_add G h0 x1 x2 x3 σ post) : MtI l E L G yX6_add wsX6_add (q_rm 4) [.ref h0, .int x1, .int x2, .int x3] σ post := by
  refine q_met (Qc := fun sz => va_Qi post (q_B E L G) (q_free L sz)) (cc := cX6_add) (maxL := 4) (ret := (some .int)) (own := RX6) (by decide) rfl rfl (Nat.le_of_ble_eq_true rfl) hN hG ?_
  intro p e s m below meth c C
  unfold wpX6_add at h
  refine q_aload_n (pc := 0) C dX6_add_0 rfl 0 rfl ?_
  refine q_iload_n (pc := 1) C dX6_add_1 rfl 1 rfl ?_
  refine q_cVi (pc := 2) (As := [.int x1]) (ci := 6) (Cn := RX6) (T := TX6) (N := 9) C (sdX6_is C.2.2.2.2.2.1 C.2.2.2.2.2.2 Lh0 Kh0 h) (cwV 1 C.1.2.2.2.2 gX6_add_X6_is rfl rfl rfl (by decide +kernel) (q_room (by decide) (by decide))) Lh0 (qc6 Kh0 _) rfl rfl rfl (Nat.le_of_ble_eq_true rfl) dX6_add_2 (fun u2 σ1 h => ?_)
  refine q_if_eq (tgt := 24) (pc := 5) C dX6_add_5 (by decide) (fun c3 => ?_) (fun c3 => ?_)
  · replace h := h.1 c3
    refine q_iconst (pc := 24) (v := (-1)) C dX6_add_24 (by decide) ?_
    exact q_iret (pc := 25) C dX6_add_25 h
  · replace h := h.2 c3
    refine q_aload_n (pc := 8) C dX6_add_8 rfl 0 rfl ?_
    refine q_iload_n (pc := 9) C dX6_add_9 rfl 2 rfl ?_
    refine q_cVi (pc := 10) (As := [.int x2]) (ci := 6) (Cn := RX6) (T := TX6) (N := 9) C (sdX6_is C.2.2.2.2.2.1 C.2.2.2.2.2.2 Lh0 Kh0 h) (cwV 1 C.1.2.2.2.2 gX6_add_X6_is rfl rfl rfl (by decide +kernel) (q_room (by decide) (by decide))) Lh0 (qc6 Kh0 _) rfl rfl rfl (Nat.le_of_ble_eq_true rfl) dX6_add_10 (fun u5 σ4 h => ?_)
    refine q_if_eq (tgt := 24) (pc := 13) C dX6_add_13 (by decide) (fun c6 => ?_) (fun c6 => ?_)
    · replace h := h.1 c6
      refine q_iconst (pc := 24) (v := (-1)) C dX6_add_24 (by decide) ?_
      exact q_iret (pc := 25) C dX6_add_25 h
    · replace h := h.2 c6
      refine q_aload_n (pc := 16) C dX6_add_16 rfl 0 rfl ?_
      refine q_iload_n (pc := 17) C dX6_add_17 rfl 3 rfl ?_
      refine q_cVi (pc := 18) (As := [.int x3]) (ci := 6) (Cn := RX6) (T := TX6) (N := 9) C (sdX6_is C.2.2.2.2.2.1 C.2.2.2.2.2.2 Lh0 Kh0 h) (cwV 1 C.1.2.2.2.2 gX6_add_X6_is rfl rfl rfl (by decide +kernel) (q_room (by decide) (by decide))) Lh0 (qc6 Kh0 _) rfl rfl rfl (Nat.le_of_ble_eq_true rfl) dX6_add_18 (fun u8 σ7 h => ?_)
      refine q_if_ne (tgt := 26) (pc := 21) C dX6_add_21 (by decide) (fun c9 => ?_) (fun c9 => ?_)
      · replace h := h.2 c9
        refine q_aload_n (pc := 26) C dX6_add_26 rfl 0 rfl ?_
        refine q_iload_n (pc := 27) C dX6_add_27 rfl 2 rfl ?_
        refine q_iload_n (pc := 28) C dX6_add_28 rfl 3 rfl ?_
        refine q_iconst (pc := 29) (v := 0) C dX6_add_29 (by decide) ?_
        refine q_cVv (pc := 30) (As := [.int x2, .int x3, .int 0]) (ci := 6) (Cn := RX6) (T := TX6) (N := 9) C (sdX6_sum C.2.2.2.2.2.1 C.2.2.2.2.2.2 Lh0 Kh0 h) (cwV 3 C.1.2.2.2.2 gX6_add_X6_sum rfl rfl rfl (by decide +kernel) (q_room (by decide) (by decide))) Lh0 (qc6 Kh0 _) rfl rfl rfl (Nat.le_of_ble_eq_true rfl) dX6_add_30 (fun σ10 h => ?_)
        refine q_aload_n (pc := 33) C dX6_add_33 rfl 0 rfl ?_
        refine q_iload_n (pc := 34) C dX6_add_34 rfl 1 rfl ?_
        refine q_bipush (pc := 35) (v := 14) C dX6_add_35 (by decide) ?_
        refine q_cVi (pc := 37) (As := [.int x1, .int 14]) (ci := 6) (Cn := RX6) (T := TX6) (N := 9) C (sdX6_keep C.2.2.2.2.2.1 C.2.2.2.2.2.2 Lh0 Kh0 h) (cwV 2 C.1.2.2.2.2 gX6_add_X6_keep rfl rfl rfl (by decide +kernel) (q_room (by decide) (by decide))) Lh0 (qc6 Kh0 _) rfl rfl rfl (Nat.le_of_ble_eq_true rfl) dX6_add_37 (fun u13 σ12 h => ?_)
        exact q_iret (pc := 40) C dX6_add_40 h
      · replace h := h.1 c9
        refine q_iconst (pc := 24) (v := (-1)) C dX6_add_24 (by decide) ?_
        exact q_iret (pc := 25) C dX6_add_25 h
def wpX6_sub (G : qG) (h0 : Nat) (x1 : Int32) (x2 : Int32) (x3 : Int32) (σ : qS) (post : Int32 → qS → Prop) : Prop := wpX6_is G h0 x1 σ (fun (u2 : Int32) (σ1 : qS) => ((u2 = 0 → post ((-1)) σ1) ∧ (¬ u2 = 0 → wpX6_is G h0 x2 σ1 (fun (u5 : Int32) (σ4 : qS) => ((u5 = 0 → post ((-1)) σ4) ∧ (¬ u5 = 0 → wpX6_is G h0 x3 σ4 (fun (u8 : Int32) (σ7 : qS) => ((u8 = 0 → post ((-1)) σ7) ∧ (¬ u8 = 0 → wpX6_sum G h0 x2 x3 1 σ7 (fun (σ10 : qS) => wpX6_keep G h0 x1 14 σ10 (fun (u13 : Int32) (σ12 : qS) => post u13 σ12)))))))))))
set_option maxHeartbeats 4000000 in
set_option maxRecDepth 100000 in
theorem sdX6_sub {l : Launch} {E : qE} {L : List Nat} {G : qG} (hN : L.Nodup) (hG : q_WF G L) {h0 : Nat} {x1 : Int32} {x2 : Int32} {x3 : Int32} (Lh0 : h0 ∈ L) (Kh0 : G.1 h0 = 6) {σ : qS} {post : Int32 → qS → Prop} (h : wpX6_sub G h0 x1 x2 x3 σ post) : MtI l E L G yX6_sub wsX6_sub (q_rm 4) [.ref h0, .int x1, .int x2, .int x3] σ post := by
  refine q_met (Qc := fun sz => va_Qi post (q_B E L G) (q_free L sz)) (cc := cX6_sub) (maxL := 4) (ret := (some .int)) (own := RX6) (by decide) rfl rfl (Nat.le_of_ble_eq_true rfl) hN hG ?_
  intro p e s m below meth c C
  unfold wpX6_sub at h
  refine q_aload_n (pc := 0) C dX6_sub_0 rfl 0 rfl ?_
  refine q_iload_n (pc := 1) C dX6_sub_1 rfl 1 rfl ?_
  refine q_cVi (pc := 2) (As := [.int x1]) (ci := 6) (Cn := RX6) (T := TX6) (N := 9) C (sdX6_is C.2.2.2.2.2.1 C.2.2.2.2.2.2 Lh0 Kh0 h) (cwV 1 C.1.2.2.2.2 gX6_sub_X6_is rfl rfl rfl (by decide +kernel) (q_room (by decide) (by decide))) Lh0 (qc6 Kh0 _) rfl rfl rfl (Nat.le_of_ble_eq_true rfl) dX6_sub_2 (fun u2 σ1 h => ?_)
  refine q_if_eq (tgt := 24) (pc := 5) C dX6_sub_5 (by decide) (fun c3 => ?_) (fun c3 => ?_)
  · replace h := h.1 c3
    refine q_iconst (pc := 24) (v := (-1)) C dX6_sub_24 (by decide) ?_
    exact q_iret (pc := 25) C dX6_sub_25 h
  · replace h := h.2 c3
    refine q_aload_n (pc := 8) C dX6_sub_8 rfl 0 rfl ?_
    refine q_iload_n (pc := 9) C dX6_sub_9 rfl 2 rfl ?_
    refine q_cVi (pc := 10) (As := [.int x2]) (ci := 6) (Cn := RX6) (T := TX6) (N := 9) C (sdX6_is C.2.2.2.2.2.1 C.2.2.2.2.2.2 Lh0 Kh0 h) (cwV 1 C.1.2.2.2.2 gX6_sub_X6_is rfl rfl rfl (by decide +kernel) (q_room (by decide) (by decide))) Lh0 (qc6 Kh0 _) rfl rfl rfl (Nat.le_of_ble_eq_true rfl) dX6_sub_10 (fun u5 σ4 h => ?_)
    refine q_if_eq (tgt := 24) (pc := 13) C dX6_sub_13 (by decide) (fun c6 => ?_) (fun c6 => ?_)
    · replace h := h.1 c6
      refine q_iconst (pc := 24) (v := (-1)) C dX6_sub_24 (by decide) ?_
      exact q_iret (pc := 25) C dX6_sub_25 h
    · replace h := h.2 c6
      refine q_aload_n (pc := 16) C dX6_sub_16 rfl 0 rfl ?_
      refine q_iload_n (pc := 17) C dX6_sub_17 rfl 3 rfl ?_
      refine q_cVi (pc := 18) (As := [.int x3]) (ci := 6) (Cn := RX6) (T := TX6) (N := 9) C (sdX6_is C.2.2.2.2.2.1 C.2.2.2.2.2.2 Lh0 Kh0 h) (cwV 1 C.1.2.2.2.2 gX6_sub_X6_is rfl rfl rfl (by decide +kernel) (q_room (by decide) (by decide))) Lh0 (qc6 Kh0 _) rfl rfl rfl (Nat.le_of_ble_eq_true rfl) dX6_sub_18 (fun u8 σ7 h => ?_)
      refine q_if_ne (tgt := 26) (pc := 21) C dX6_sub_21 (by decide) (fun c9 => ?_) (fun c9 => ?_)
      · replace h := h.2 c9
        refine q_aload_n (pc := 26) C dX6_sub_26 rfl 0 rfl ?_
        refine q_iload_n (pc := 27) C dX6_sub_27 rfl 2 rfl ?_
        refine q_iload_n (pc := 28) C dX6_sub_28 rfl 3 rfl ?_
        refine q_iconst (pc := 29) (v := 1) C dX6_sub_29 (by decide) ?_
        refine q_cVv (pc := 30) (As := [.int x2, .int x3, .int 1]) (ci := 6) (Cn := RX6) (T := TX6) (N := 9) C (sdX6_sum C.2.2.2.2.2.1 C.2.2.2.2.2.2 Lh0 Kh0 h) (cwV 3 C.1.2.2.2.2 gX6_sub_X6_sum rfl rfl rfl (by decide +kernel) (q_room (by decide) (by decide))) Lh0 (qc6 Kh0 _) rfl rfl rfl (Nat.le_of_ble_eq_true rfl) dX6_sub_30 (fun σ10 h => ?_)
        refine q_aload_n (pc := 33) C dX6_sub_33 rfl 0 rfl ?_
        refine q_iload_n (pc := 34) C dX6_sub_34 rfl 1 rfl ?_
        refine q_bipush (pc := 35) (v := 14) C dX6_sub_35 (by decide) ?_
        refine q_cVi (pc := 37) (As := [.int x1, .int 14]) (ci := 6) (Cn := RX6) (T := TX6) (N := 9) C (sdX6_keep C.2.2.2.2.2.1 C.2.2.2.2.2.2 Lh0 Kh0 h) (cwV 2 C.1.2.2.2.2 gX6_sub_X6_keep rfl rfl rfl (by decide +kernel) (q_room (by decide) (by decide))) Lh0 (qc6 Kh0 _) rfl rfl rfl (Nat.le_of_ble_eq_true rfl) dX6_sub_37 (fun u13 σ12 h => ?_)
        exact q_iret (pc := 40) C dX6_sub_40 h
      · replace h := h.1 c9
        refine q_iconst (pc := 24) (v := (-1)) C dX6_sub_24 (by decide) ?_
        exact q_iret (pc := 25) C dX6_sub_25 h
theorem mwX6_mul_0 : ∀ w ∈ wsX60, w ∈ wsX6_mul := by decide +kernel
theorem mwX6_mul_1 : Cond.fieldLink RX6 16 "IntFileModel" "below" "[Z" ∈ wsX6_mul := by decide +kernel
theorem mwX6_mul_2 : Cond.fieldLink RX6 13 "IntFileModel" "lens" "[I" ∈ wsX6_mul := by decide +kernel
def bkX6_mul_70 (G : qG) (h0 : Nat) (x1 : Int32) (s0 : Nat) (s1 : Int32) (s2 : Int32) (post : Int32 → qS → Prop) (σ : qS) : Prop := vp_in s1 (G.2.2 s0) ∧ (s2 = 0 ∨ s2 = 1) ∧ ∀ σ18 : qS, σ18 = q_st σ s0 s1.toNatClampNeg s2 → wpX6_keep G h0 x1 14 σ18 (fun (u20 : Int32) (σ19 : qS) => post u20 σ19)
set_option maxHeartbeats 4000000 in
set_option maxRecDepth 100000 in
theorem sbX6_mul_70 {p : Program} {l : Launch} {e : Env} {s : State} {m : MethodId} {args : Array Value} {below : List Frame} {meth : Method} {c : Code} {E : qE} {L : List Nat} {G : qG} {A : Nat → Prop} (C : q_C p s m args meth c cX6_mul 4 wsX6_mul RX6 (some .int) E L G A) {h0 : Nat} {x1 : Int32} {s0 : Nat} {s1 : Int32} {s2 : Int32} (Lh0 : h0 ∈ L) (Kh0 : G.1 h0 = 6) (Ls0 : s0 ∈ L) (Ks0 : G.1 s0 = 9) {post : Int32 → qS → Prop} {σ : qS} (h : bkX6_mul_70 G h0 x1 s0 s1 s2 post σ) : Wd p l e (q_rm 3) s m args below meth c E L G A (MQ below (va_Qi post (q_B E L G) A) args s 0 0 A) 4 σ 70 [(0, .ref h0), (1, .int x1)] [.int s2, .int s1, .ref s0] := by
  unfold bkX6_mul_70 at h
  obtain ⟨b16, h⟩ := h
  obtain ⟨z17, h⟩ := h
  refine q_zast (pc := 70) C Ls0 Ks0 b16 z17 dX6_mul_70 (fun σ18 eσ18 => ?_)
  replace h := h σ18 eσ18
  refine q_aload_n (pc := 71) C dX6_mul_71 rfl 0 rfl ?_
  refine q_iload_n (pc := 72) C dX6_mul_72 rfl 1 rfl ?_
  refine q_bipush (pc := 73) (v := 14) C dX6_mul_73 (by decide) ?_
  refine q_cVi (pc := 75) (As := [.int x1, .int 14]) (ci := 6) (Cn := RX6) (T := TX6) (N := 9) C (sdX6_keep C.2.2.2.2.2.1 C.2.2.2.2.2.2 Lh0 Kh0 h) (cwV 2 C.1.2.2.2.2 gX6_mul_X6_keep rfl rfl rfl (by decide +kernel) (q_room (by decide) (by decide))) Lh0 (qc6 Kh0 _) rfl rfl rfl (Nat.le_of_ble_eq_true rfl) dX6_mul_75 (fun u20 σ19 h => ?_)
  exact q_iret (pc := 78) C dX6_mul_78 h
def bkX6_mul_69 (G : qG) (h0 : Nat) (x1 : Int32) (s0 : Nat) (s1 : Int32) (post : Int32 → qS → Prop) (σ : qS) : Prop := bkX6_mul_70 G h0 x1 s0 s1 0 post σ
set_option maxHeartbeats 4000000 in
set_option maxRecDepth 100000 in
theorem sbX6_mul_69 {p : Program} {l : Launch} {e : Env} {s : State} {m : MethodId} {args : Array Value} {below : List Frame} {meth : Method} {c : Code} {E : qE} {L : List Nat} {G : qG} {A : Nat → Prop} (C : q_C p s m args meth c cX6_mul 4 wsX6_mul RX6 (some .int) E L G A) {h0 : Nat} {x1 : Int32} {s0 : Nat} {s1 : Int32} (Lh0 : h0 ∈ L) (Kh0 : G.1 h0 = 6) (Ls0 : s0 ∈ L) (Ks0 : G.1 s0 = 9) {post : Int32 → qS → Prop} {σ : qS} (h : bkX6_mul_69 G h0 x1 s0 s1 post σ) : Wd p l e (q_rm 3) s m args below meth c E L G A (MQ below (va_Qi post (q_B E L G) A) args s 0 0 A) 4 σ 69 [(0, .ref h0), (1, .int x1)] [.int s1, .ref s0] := by
  unfold bkX6_mul_69 at h
  refine q_iconst (pc := 69) (v := 0) C dX6_mul_69 (by decide) ?_
  exact sbX6_mul_70 C Lh0 Kh0 Ls0 Ks0 h
def wpX6_mul (G : qG) (h0 : Nat) (x1 : Int32) (x2 : Int32) (x3 : Int32) (σ : qS) (post : Int32 → qS → Prop) : Prop := wpX6_is G h0 x1 σ (fun (u2 : Int32) (σ1 : qS) => ((u2 = 0 → post ((-1)) σ1) ∧ (¬ u2 = 0 → wpX6_is G h0 x2 σ1 (fun (u5 : Int32) (σ4 : qS) => ((u5 = 0 → post ((-1)) σ4) ∧ (¬ u5 = 0 → wpX6_is G h0 x3 σ4 (fun (u8 : Int32) (σ7 : qS) => ((u8 = 0 → post ((-1)) σ7) ∧ (¬ u8 = 0 → wpX6_times G h0 14 x2 x3 σ7 (fun (σ10 : qS) => vp_in x2 (G.2.2 ((G.2.1 h0 4))) ∧ vp_in x3 (G.2.2 ((G.2.1 h0 4))) ∧ (((σ10 ((G.2.1 h0 4)) x2.toNatClampNeg) = (σ10 ((G.2.1 h0 4)) x3.toNatClampNeg) → bkX6_mul_69 G h0 x1 ((G.2.1 h0 4)) 14 post σ10) ∧ (¬ (σ10 ((G.2.1 h0 4)) x2.toNatClampNeg) = (σ10 ((G.2.1 h0 4)) x3.toNatClampNeg) → vp_in 14 (G.2.2 ((G.2.1 h0 3))) ∧ (((σ10 ((G.2.1 h0 3)) (14 : Int32).toNatClampNeg) ≤ 0 → bkX6_mul_69 G h0 x1 ((G.2.1 h0 4)) 14 post σ10) ∧ (¬ (σ10 ((G.2.1 h0 3)) (14 : Int32).toNatClampNeg) ≤ 0 → bkX6_mul_70 G h0 x1 ((G.2.1 h0 4)) 14 1 post σ10))))))))))))))
set_option maxHeartbeats 4000000 in
set_option maxRecDepth 100000 in
theorem sdX6_mul {l : Launch} {E : qE} {L : List Nat} {G : qG} (hN : L.Nodup) (hG : q_WF G L) {h0 : Nat} {x1 : Int32} {x2 : Int32} {x3 : Int32} (Lh0 : h0 ∈ L) (Kh0 : G.1 h0 = 6) {σ : qS} {post : Int32 → qS → Prop} (h : wpX6_mul G h0 x1 x2 x3 σ post) : MtI l E L G yX6_mul wsX6_mul (q_rm 3) [.ref h0, .int x1, .int x2, .int x3] σ post := by
  refine q_met (Qc := fun sz => va_Qi post (q_B E L G) (q_free L sz)) (cc := cX6_mul) (maxL := 4) (ret := (some .int)) (own := RX6) (by decide) rfl rfl (Nat.le_of_ble_eq_true rfl) hN hG ?_
  intro p e s m below meth c C
  unfold wpX6_mul at h
  refine q_aload_n (pc := 0) C dX6_mul_0 rfl 0 rfl ?_
  refine q_iload_n (pc := 1) C dX6_mul_1 rfl 1 rfl ?_
  refine q_cVi (pc := 2) (As := [.int x1]) (ci := 6) (Cn := RX6) (T := TX6) (N := 9) C (sdX6_is C.2.2.2.2.2.1 C.2.2.2.2.2.2 Lh0 Kh0 h) (cwV 1 C.1.2.2.2.2 gX6_mul_X6_is rfl rfl rfl (by decide +kernel) (q_room (by decide) (by decide))) Lh0 (qc6 Kh0 _) rfl rfl rfl (Nat.le_of_ble_eq_true rfl) dX6_mul_2 (fun u2 σ1 h => ?_)
  refine q_if_eq (tgt := 24) (pc := 5) C dX6_mul_5 (by decide) (fun c3 => ?_) (fun c3 => ?_)
  · replace h := h.1 c3
    refine q_iconst (pc := 24) (v := (-1)) C dX6_mul_24 (by decide) ?_
    exact q_iret (pc := 25) C dX6_mul_25 h
  · replace h := h.2 c3
    refine q_aload_n (pc := 8) C dX6_mul_8 rfl 0 rfl ?_
    refine q_iload_n (pc := 9) C dX6_mul_9 rfl 2 rfl ?_
    refine q_cVi (pc := 10) (As := [.int x2]) (ci := 6) (Cn := RX6) (T := TX6) (N := 9) C (sdX6_is C.2.2.2.2.2.1 C.2.2.2.2.2.2 Lh0 Kh0 h) (cwV 1 C.1.2.2.2.2 gX6_mul_X6_is rfl rfl rfl (by decide +kernel) (q_room (by decide) (by decide))) Lh0 (qc6 Kh0 _) rfl rfl rfl (Nat.le_of_ble_eq_true rfl) dX6_mul_10 (fun u5 σ4 h => ?_)
    refine q_if_eq (tgt := 24) (pc := 13) C dX6_mul_13 (by decide) (fun c6 => ?_) (fun c6 => ?_)
    · replace h := h.1 c6
      refine q_iconst (pc := 24) (v := (-1)) C dX6_mul_24 (by decide) ?_
      exact q_iret (pc := 25) C dX6_mul_25 h
    · replace h := h.2 c6
      refine q_aload_n (pc := 16) C dX6_mul_16 rfl 0 rfl ?_
      refine q_iload_n (pc := 17) C dX6_mul_17 rfl 3 rfl ?_
      refine q_cVi (pc := 18) (As := [.int x3]) (ci := 6) (Cn := RX6) (T := TX6) (N := 9) C (sdX6_is C.2.2.2.2.2.1 C.2.2.2.2.2.2 Lh0 Kh0 h) (cwV 1 C.1.2.2.2.2 gX6_mul_X6_is rfl rfl rfl (by decide +kernel) (q_room (by decide) (by decide))) Lh0 (qc6 Kh0 _) rfl rfl rfl (Nat.le_of_ble_eq_true rfl) dX6_mul_18 (fun u8 σ7 h => ?_)
      refine q_if_ne (tgt := 26) (pc := 21) C dX6_mul_21 (by decide) (fun c9 => ?_) (fun c9 => ?_)
      · replace h := h.2 c9
        refine q_aload_n (pc := 26) C dX6_mul_26 rfl 0 rfl ?_
        refine q_bipush (pc := 27) (v := 14) C dX6_mul_27 (by decide) ?_
        refine q_iload_n (pc := 29) C dX6_mul_29 rfl 2 rfl ?_
        refine q_iload_n (pc := 30) C dX6_mul_30 rfl 3 rfl ?_
        refine q_cVv (pc := 31) (As := [.int 14, .int x2, .int x3]) (ci := 6) (Cn := RX6) (T := TX6) (N := 9) C (sdX6_times C.2.2.2.2.2.1 C.2.2.2.2.2.2 Lh0 Kh0 h) (cwV 3 C.1.2.2.2.2 gX6_mul_X6_times rfl rfl rfl (by decide +kernel) (q_room (by decide) (by decide))) Lh0 (qc6 Kh0 _) rfl rfl rfl (Nat.le_of_ble_eq_true rfl) dX6_mul_31 (fun σ10 h => ?_)
        refine q_aload_n (pc := 34) C dX6_mul_34 rfl 0 rfl ?_
        obtain ⟨Lr12, Kr12⟩ := qw_6_4 C.2.2.2.2.2.2 Lh0 Kh0
        refine q_g6_4 (pc := 35) C Lh0 Kh0 mwX6_mul_0 mwX6_mul_1 dX6_mul_35 ?_
        refine q_bipush (pc := 38) (v := 14) C dX6_mul_38 (by decide) ?_
        refine q_aload_n (pc := 40) C dX6_mul_40 rfl 0 rfl ?_
        refine q_g6_4 (pc := 41) C Lh0 Kh0 mwX6_mul_0 mwX6_mul_1 dX6_mul_41 ?_
        refine q_iload_n (pc := 44) C dX6_mul_44 rfl 2 rfl ?_
        obtain ⟨b13, h⟩ := h
        refine q_zald (pc := 45) C Lr12 Kr12 b13 dX6_mul_45 ?_
        refine q_aload_n (pc := 46) C dX6_mul_46 rfl 0 rfl ?_
        refine q_g6_4 (pc := 47) C Lh0 Kh0 mwX6_mul_0 mwX6_mul_1 dX6_mul_47 ?_
        refine q_iload_n (pc := 50) C dX6_mul_50 rfl 3 rfl ?_
        obtain ⟨b14, h⟩ := h
        refine q_zald (pc := 51) C Lr12 Kr12 b14 dX6_mul_51 ?_
        refine q_icmp_eq (tgt := 69) (pc := 52) C dX6_mul_52 (by decide) (fun c15 => ?_) (fun c15 => ?_)
        · replace h := h.1 c15
          refine q_lv (lv' := [(0, .ref h0), (1, .int x1)]) [0, 1] rfl ?_
          exact sbX6_mul_69 C Lh0 Kh0 Lr12 Kr12 h
        · replace h := h.2 c15
          refine q_aload_n (pc := 55) C dX6_mul_55 rfl 0 rfl ?_
          obtain ⟨Lr21, Kr21⟩ := qw_6_3 C.2.2.2.2.2.2 Lh0 Kh0
          refine q_g6_3 (pc := 56) C Lh0 Kh0 mwX6_mul_0 mwX6_mul_2 dX6_mul_56 ?_
          refine q_bipush (pc := 59) (v := 14) C dX6_mul_59 (by decide) ?_
          obtain ⟨b22, h⟩ := h
          refine q_iald (pc := 61) C Lr21 Kr21 b22 dX6_mul_61 ?_
          refine q_if_le (tgt := 69) (pc := 62) C dX6_mul_62 (by decide) (fun c23 => ?_) (fun c23 => ?_)
          · replace h := h.1 c23
            refine q_lv (lv' := [(0, .ref h0), (1, .int x1)]) [0, 1] rfl ?_
            exact sbX6_mul_69 C Lh0 Kh0 Lr12 Kr12 h
          · replace h := h.2 c23
            refine q_iconst (pc := 65) (v := 1) C dX6_mul_65 (by decide) ?_
            refine q_goto (tgt := 70) (pc := 66) C dX6_mul_66 (by decide) ?_
            refine q_lv (lv' := [(0, .ref h0), (1, .int x1)]) [0, 1] rfl ?_
            exact sbX6_mul_70 C Lh0 Kh0 Lr12 Kr12 h
      · replace h := h.1 c9
        refine q_iconst (pc := 24) (v := (-1)) C dX6_mul_24 (by decide) ?_
        exact q_iret (pc := 25) C dX6_mul_25 h
theorem mwX6_divMod_0 : ∀ w ∈ wsX60, w ∈ wsX6_divMod := by decide +kernel
theorem mwX6_divMod_1 : Cond.fieldLink RX6 13 "IntFileModel" "lens" "[I" ∈ wsX6_divMod := by decide +kernel
theorem mwX6_divMod_2 : Cond.fieldLink RX6 16 "IntFileModel" "below" "[Z" ∈ wsX6_divMod := by decide +kernel
def bkX6_divMod_144 (G : qG) (h0 : Nat) (x1 : Int32) (x2 : Int32) (s0 : Nat) (s1 : Int32) (s2 : Int32) (post : Int32 → qS → Prop) (σ : qS) : Prop := vp_in s1 (G.2.2 s0) ∧ (s2 = 0 ∨ s2 = 1) ∧ ∀ σ34 : qS, σ34 = q_st σ s0 s1.toNatClampNeg s2 → wpX6_move G h0 x1 16 σ34 (fun (σ35 : qS) => wpX6_move G h0 x2 17 σ35 (fun (σ37 : qS) => post 0 σ37))
set_option maxHeartbeats 4000000 in
set_option maxRecDepth 100000 in
theorem sbX6_divMod_144 {p : Program} {l : Launch} {e : Env} {s : State} {m : MethodId} {args : Array Value} {below : List Frame} {meth : Method} {c : Code} {E : qE} {L : List Nat} {G : qG} {A : Nat → Prop} (C : q_C p s m args meth c cX6_divMod 7 wsX6_divMod RX6 (some .int) E L G A) {h0 : Nat} {x1 : Int32} {x2 : Int32} {s0 : Nat} {s1 : Int32} {s2 : Int32} (Lh0 : h0 ∈ L) (Kh0 : G.1 h0 = 6) (Ls0 : s0 ∈ L) (Ks0 : G.1 s0 = 9) {post : Int32 → qS → Prop} {σ : qS} (h : bkX6_divMod_144 G h0 x1 x2 s0 s1 s2 post σ) : Wd p l e (q_rm 4) s m args below meth c E L G A (MQ below (va_Qi post (q_B E L G) A) args s 0 0 A) 7 σ 144 [(0, .ref h0), (1, .int x1), (2, .int x2)] [.int s2, .int s1, .ref s0] := by
  unfold bkX6_divMod_144 at h
  obtain ⟨b32, h⟩ := h
  obtain ⟨z33, h⟩ := h
  refine q_zast (pc := 144) C Ls0 Ks0 b32 z33 dX6_divMod_144 (fun σ34 eσ34 => ?_)
  replace h := h σ34 eσ34
  refine q_aload_n (pc := 145) C dX6_divMod_145 rfl 0 rfl ?_
  refine q_iload_n (pc := 146) C dX6_divMod_146 rfl 1 rfl ?_
  refine q_bipush (pc := 147) (v := 16) C dX6_divMod_147 (by decide) ?_
  refine q_cVv (pc := 149) (As := [.int x1, .int 16]) (ci := 6) (Cn := RX6) (T := TX6) (N := 9) C (sdX6_move C.2.2.2.2.2.1 C.2.2.2.2.2.2 Lh0 Kh0 h) (cwV 2 C.1.2.2.2.2 gX6_divMod_X6_move rfl rfl rfl (by decide +kernel) (q_room (by decide) (by decide))) Lh0 (qc6 Kh0 _) rfl rfl rfl (Nat.le_of_ble_eq_true rfl) dX6_divMod_149 (fun σ35 h => ?_)
  refine q_aload_n (pc := 152) C dX6_divMod_152 rfl 0 rfl ?_
  refine q_iload_n (pc := 153) C dX6_divMod_153 rfl 2 rfl ?_
  refine q_bipush (pc := 154) (v := 17) C dX6_divMod_154 (by decide) ?_
  refine q_cVv (pc := 156) (As := [.int x2, .int 17]) (ci := 6) (Cn := RX6) (T := TX6) (N := 9) C (sdX6_move C.2.2.2.2.2.1 C.2.2.2.2.2.2 Lh0 Kh0 h) (cwV 2 C.1.2.2.2.2 gX6_divMod_X6_move rfl rfl rfl (by decide +kernel) (q_room (by decide) (by decide))) Lh0 (qc6 Kh0 _) rfl rfl rfl (Nat.le_of_ble_eq_true rfl) dX6_divMod_156 (fun σ37 h => ?_)
  refine q_iconst (pc := 159) (v := 0) C dX6_divMod_159 (by decide) ?_
  exact q_iret (pc := 160) C dX6_divMod_160 h
def bkX6_divMod_143 (G : qG) (h0 : Nat) (x1 : Int32) (x2 : Int32) (s0 : Nat) (s1 : Int32) (post : Int32 → qS → Prop) (σ : qS) : Prop := bkX6_divMod_144 G h0 x1 x2 s0 s1 0 post σ
set_option maxHeartbeats 4000000 in
set_option maxRecDepth 100000 in
theorem sbX6_divMod_143 {p : Program} {l : Launch} {e : Env} {s : State} {m : MethodId} {args : Array Value} {below : List Frame} {meth : Method} {c : Code} {E : qE} {L : List Nat} {G : qG} {A : Nat → Prop} (C : q_C p s m args meth c cX6_divMod 7 wsX6_divMod RX6 (some .int) E L G A) {h0 : Nat} {x1 : Int32} {x2 : Int32} {s0 : Nat} {s1 : Int32} (Lh0 : h0 ∈ L) (Kh0 : G.1 h0 = 6) (Ls0 : s0 ∈ L) (Ks0 : G.1 s0 = 9) {post : Int32 → qS → Prop} {σ : qS} (h : bkX6_divMod_143 G h0 x1 x2 s0 s1 post σ) : Wd p l e (q_rm 4) s m args below meth c E L G A (MQ below (va_Qi post (q_B E L G) A) args s 0 0 A) 7 σ 143 [(0, .ref h0), (1, .int x1), (2, .int x2)] [.int s1, .ref s0] := by
  unfold bkX6_divMod_143 at h
  refine q_iconst (pc := 143) (v := 0) C dX6_divMod_143 (by decide) ?_
  exact sbX6_divMod_144 C Lh0 Kh0 Ls0 Ks0 h
def bkX6_divMod_117 (G : qG) (h0 : Nat) (x1 : Int32) (x2 : Int32) (x5 : Int32) (s0 : Nat) (s1 : Int32) (s2 : Int32) (post : Int32 → qS → Prop) (σ : qS) : Prop := vp_in s1 (G.2.2 s0) ∧ (s2 = 0 ∨ s2 = 1) ∧ ∀ σ29 : qS, σ29 = q_st σ s0 s1.toNatClampNeg s2 → ((x5 = 0 → bkX6_divMod_143 G h0 x1 x2 ((G.2.1 h0 4)) 17 post σ29) ∧ (¬ x5 = 0 → vp_in 17 (G.2.2 ((G.2.1 h0 3))) ∧ (((σ29 ((G.2.1 h0 3)) (17 : Int32).toNatClampNeg) ≤ 0 → bkX6_divMod_143 G h0 x1 x2 ((G.2.1 h0 4)) 17 post σ29) ∧ (¬ (σ29 ((G.2.1 h0 3)) (17 : Int32).toNatClampNeg) ≤ 0 → bkX6_divMod_144 G h0 x1 x2 ((G.2.1 h0 4)) 17 1 post σ29))))
set_option maxHeartbeats 4000000 in
set_option maxRecDepth 100000 in
theorem sbX6_divMod_117 {p : Program} {l : Launch} {e : Env} {s : State} {m : MethodId} {args : Array Value} {below : List Frame} {meth : Method} {c : Code} {E : qE} {L : List Nat} {G : qG} {A : Nat → Prop} (C : q_C p s m args meth c cX6_divMod 7 wsX6_divMod RX6 (some .int) E L G A) {h0 : Nat} {x1 : Int32} {x2 : Int32} {x5 : Int32} {s0 : Nat} {s1 : Int32} {s2 : Int32} (Lh0 : h0 ∈ L) (Kh0 : G.1 h0 = 6) (Ls0 : s0 ∈ L) (Ks0 : G.1 s0 = 9) {post : Int32 → qS → Prop} {σ : qS} (h : bkX6_divMod_117 G h0 x1 x2 x5 s0 s1 s2 post σ) : Wd p l e (q_rm 4) s m args below meth c E L G A (MQ below (va_Qi post (q_B E L G) A) args s 0 0 A) 7 σ 117 [(0, .ref h0), (1, .int x1), (2, .int x2), (5, .int x5)] [.int s2, .int s1, .ref s0] := by
  unfold bkX6_divMod_117 at h
  obtain ⟨b27, h⟩ := h
  obtain ⟨z28, h⟩ := h
  refine q_zast (pc := 117) C Ls0 Ks0 b27 z28 dX6_divMod_117 (fun σ29 eσ29 => ?_)
  replace h := h σ29 eσ29
  refine q_aload_n (pc := 118) C dX6_divMod_118 rfl 0 rfl ?_
  obtain ⟨Lr30, Kr30⟩ := qw_6_4 C.2.2.2.2.2.2 Lh0 Kh0
  refine q_g6_4 (pc := 119) C Lh0 Kh0 mwX6_divMod_0 mwX6_divMod_2 dX6_divMod_119 ?_
  refine q_bipush (pc := 122) (v := 17) C dX6_divMod_122 (by decide) ?_
  refine q_iload (pc := 124) C dX6_divMod_124 3 rfl ?_
  refine q_if_eq (tgt := 143) (pc := 126) C dX6_divMod_126 (by decide) (fun c31 => ?_) (fun c31 => ?_)
  · replace h := h.1 c31
    refine q_lv (lv' := [(0, .ref h0), (1, .int x1), (2, .int x2)]) [0, 1, 2] rfl ?_
    exact sbX6_divMod_143 C Lh0 Kh0 Lr30 Kr30 h
  · replace h := h.2 c31
    refine q_aload_n (pc := 129) C dX6_divMod_129 rfl 0 rfl ?_
    obtain ⟨Lr39, Kr39⟩ := qw_6_3 C.2.2.2.2.2.2 Lh0 Kh0
    refine q_g6_3 (pc := 130) C Lh0 Kh0 mwX6_divMod_0 mwX6_divMod_1 dX6_divMod_130 ?_
    refine q_bipush (pc := 133) (v := 17) C dX6_divMod_133 (by decide) ?_
    obtain ⟨b40, h⟩ := h
    refine q_iald (pc := 135) C Lr39 Kr39 b40 dX6_divMod_135 ?_
    refine q_if_le (tgt := 143) (pc := 136) C dX6_divMod_136 (by decide) (fun c41 => ?_) (fun c41 => ?_)
    · replace h := h.1 c41
      refine q_lv (lv' := [(0, .ref h0), (1, .int x1), (2, .int x2)]) [0, 1, 2] rfl ?_
      exact sbX6_divMod_143 C Lh0 Kh0 Lr30 Kr30 h
    · replace h := h.2 c41
      refine q_iconst (pc := 139) (v := 1) C dX6_divMod_139 (by decide) ?_
      refine q_goto (tgt := 144) (pc := 140) C dX6_divMod_140 (by decide) ?_
      refine q_lv (lv' := [(0, .ref h0), (1, .int x1), (2, .int x2)]) [0, 1, 2] rfl ?_
      exact sbX6_divMod_144 C Lh0 Kh0 Lr30 Kr30 h
def bkX6_divMod_116 (G : qG) (h0 : Nat) (x1 : Int32) (x2 : Int32) (x5 : Int32) (s0 : Nat) (s1 : Int32) (post : Int32 → qS → Prop) (σ : qS) : Prop := bkX6_divMod_117 G h0 x1 x2 x5 s0 s1 0 post σ
set_option maxHeartbeats 4000000 in
set_option maxRecDepth 100000 in
theorem sbX6_divMod_116 {p : Program} {l : Launch} {e : Env} {s : State} {m : MethodId} {args : Array Value} {below : List Frame} {meth : Method} {c : Code} {E : qE} {L : List Nat} {G : qG} {A : Nat → Prop} (C : q_C p s m args meth c cX6_divMod 7 wsX6_divMod RX6 (some .int) E L G A) {h0 : Nat} {x1 : Int32} {x2 : Int32} {x5 : Int32} {s0 : Nat} {s1 : Int32} (Lh0 : h0 ∈ L) (Kh0 : G.1 h0 = 6) (Ls0 : s0 ∈ L) (Ks0 : G.1 s0 = 9) {post : Int32 → qS → Prop} {σ : qS} (h : bkX6_divMod_116 G h0 x1 x2 x5 s0 s1 post σ) : Wd p l e (q_rm 4) s m args below meth c E L G A (MQ below (va_Qi post (q_B E L G) A) args s 0 0 A) 7 σ 116 [(0, .ref h0), (1, .int x1), (2, .int x2), (5, .int x5)] [.int s1, .ref s0] := by
  unfold bkX6_divMod_116 at h
  refine q_iconst (pc := 116) (v := 0) C dX6_divMod_116 (by decide) ?_
  exact sbX6_divMod_117 C Lh0 Kh0 Ls0 Ks0 h
def bkX6_divMod_82 (G : qG) (h0 : Nat) (x1 : Int32) (x2 : Int32) (x3 : Int32) (x4 : Int32) (x5 : Int32) (s0 : Int32) (post : Int32 → qS → Prop) (σ : qS) : Prop := wpX6_divide G h0 x3 x4 σ (fun (σ23 : qS) => ((s0 = 0 → bkX6_divMod_116 G h0 x1 x2 x5 ((G.2.1 h0 4)) 16 post σ23) ∧ (¬ s0 = 0 → vp_in 16 (G.2.2 ((G.2.1 h0 3))) ∧ (((σ23 ((G.2.1 h0 3)) (16 : Int32).toNatClampNeg) ≤ 0 → bkX6_divMod_116 G h0 x1 x2 x5 ((G.2.1 h0 4)) 16 post σ23) ∧ (¬ (σ23 ((G.2.1 h0 3)) (16 : Int32).toNatClampNeg) ≤ 0 → bkX6_divMod_117 G h0 x1 x2 x5 ((G.2.1 h0 4)) 16 1 post σ23)))))
set_option maxHeartbeats 4000000 in
set_option maxRecDepth 100000 in
theorem sbX6_divMod_82 {p : Program} {l : Launch} {e : Env} {s : State} {m : MethodId} {args : Array Value} {below : List Frame} {meth : Method} {c : Code} {E : qE} {L : List Nat} {G : qG} {A : Nat → Prop} (C : q_C p s m args meth c cX6_divMod 7 wsX6_divMod RX6 (some .int) E L G A) {h0 : Nat} {x1 : Int32} {x2 : Int32} {x3 : Int32} {x4 : Int32} {x5 : Int32} {s0 : Int32} (Lh0 : h0 ∈ L) (Kh0 : G.1 h0 = 6) {post : Int32 → qS → Prop} {σ : qS} (h : bkX6_divMod_82 G h0 x1 x2 x3 x4 x5 s0 post σ) : Wd p l e (q_rm 4) s m args below meth c E L G A (MQ below (va_Qi post (q_B E L G) A) args s 0 0 A) 7 σ 82 [(0, .ref h0), (1, .int x1), (2, .int x2), (3, .int x3), (4, .int x4), (5, .int x5)] [.int s0] := by
  unfold bkX6_divMod_82 at h
  refine q_istore (pc := 82) (lv' := [(6, .int s0), (0, .ref h0), (1, .int x1), (2, .int x2), (3, .int x3), (4, .int x4), (5, .int x5)]) C dX6_divMod_82 (by decide) rfl ?_
  refine q_aload_n (pc := 84) C dX6_divMod_84 rfl 1 rfl ?_
  refine q_iload_n (pc := 85) C dX6_divMod_85 rfl 4 rfl ?_
  refine q_iload (pc := 86) C dX6_divMod_86 5 rfl ?_
  refine q_cVv (pc := 88) (As := [.int x3, .int x4]) (ci := 6) (Cn := RX6) (T := TX6) (N := 9) C (sdX6_divide C.2.2.2.2.2.1 C.2.2.2.2.2.2 Lh0 Kh0 h) (cwV 2 C.1.2.2.2.2 gX6_divMod_X6_divide rfl rfl rfl (by decide +kernel) (q_room (by decide) (by decide))) Lh0 (qc6 Kh0 _) rfl rfl rfl (Nat.le_of_ble_eq_true rfl) dX6_divMod_88 (fun σ23 h => ?_)
  refine q_aload_n (pc := 91) C dX6_divMod_91 rfl 1 rfl ?_
  obtain ⟨Lr25, Kr25⟩ := qw_6_4 C.2.2.2.2.2.2 Lh0 Kh0
  refine q_g6_4 (pc := 92) C Lh0 Kh0 mwX6_divMod_0 mwX6_divMod_2 dX6_divMod_92 ?_
  refine q_bipush (pc := 95) (v := 16) C dX6_divMod_95 (by decide) ?_
  refine q_iload (pc := 97) C dX6_divMod_97 0 rfl ?_
  refine q_if_eq (tgt := 116) (pc := 99) C dX6_divMod_99 (by decide) (fun c26 => ?_) (fun c26 => ?_)
  · replace h := h.1 c26
    refine q_lv (lv' := [(0, .ref h0), (1, .int x1), (2, .int x2), (5, .int x5)]) [1, 2, 3, 6] rfl ?_
    exact sbX6_divMod_116 C Lh0 Kh0 Lr25 Kr25 h
  · replace h := h.2 c26
    refine q_aload_n (pc := 102) C dX6_divMod_102 rfl 1 rfl ?_
    obtain ⟨Lr42, Kr42⟩ := qw_6_3 C.2.2.2.2.2.2 Lh0 Kh0
    refine q_g6_3 (pc := 103) C Lh0 Kh0 mwX6_divMod_0 mwX6_divMod_1 dX6_divMod_103 ?_
    refine q_bipush (pc := 106) (v := 16) C dX6_divMod_106 (by decide) ?_
    obtain ⟨b43, h⟩ := h
    refine q_iald (pc := 108) C Lr42 Kr42 b43 dX6_divMod_108 ?_
    refine q_if_le (tgt := 116) (pc := 109) C dX6_divMod_109 (by decide) (fun c44 => ?_) (fun c44 => ?_)
    · replace h := h.1 c44
      refine q_lv (lv' := [(0, .ref h0), (1, .int x1), (2, .int x2), (5, .int x5)]) [1, 2, 3, 6] rfl ?_
      exact sbX6_divMod_116 C Lh0 Kh0 Lr25 Kr25 h
    · replace h := h.2 c44
      refine q_iconst (pc := 112) (v := 1) C dX6_divMod_112 (by decide) ?_
      refine q_goto (tgt := 117) (pc := 113) C dX6_divMod_113 (by decide) ?_
      refine q_lv (lv' := [(0, .ref h0), (1, .int x1), (2, .int x2), (5, .int x5)]) [1, 2, 3, 6] rfl ?_
      exact sbX6_divMod_117 C Lh0 Kh0 Lr25 Kr25 h
def wpX6_divMod (G : qG) (h0 : Nat) (x1 : Int32) (x2 : Int32) (x3 : Int32) (x4 : Int32) (σ : qS) (post : Int32 → qS → Prop) : Prop := wpX6_is G h0 x1 σ (fun (u2 : Int32) (σ1 : qS) => ((u2 = 0 → post ((-1)) σ1) ∧ (¬ u2 = 0 → wpX6_is G h0 x2 σ1 (fun (u5 : Int32) (σ4 : qS) => ((u5 = 0 → post ((-1)) σ4) ∧ (¬ u5 = 0 → wpX6_is G h0 x3 σ4 (fun (u8 : Int32) (σ7 : qS) => ((u8 = 0 → post ((-1)) σ7) ∧ (¬ u8 = 0 → wpX6_is G h0 x4 σ7 (fun (u11 : Int32) (σ10 : qS) => ((u11 = 0 → post ((-1)) σ10) ∧ (¬ u11 = 0 → vp_in x4 (G.2.2 ((G.2.1 h0 3))) ∧ (((σ10 ((G.2.1 h0 3)) x4.toNatClampNeg) = 0 → post ((-2)) σ10) ∧ (¬ (σ10 ((G.2.1 h0 3)) x4.toNatClampNeg) = 0 → ((x1 = x2 → post ((-2)) σ10) ∧ (¬ x1 = x2 → vp_in x3 (G.2.2 ((G.2.1 h0 4))) ∧ ∀ v19 : Int32, v19 = σ10 ((G.2.1 h0 4)) x3.toNatClampNeg → vp_in x3 (G.2.2 ((G.2.1 h0 4))) ∧ vp_in x4 (G.2.2 ((G.2.1 h0 4))) ∧ (((σ10 ((G.2.1 h0 4)) x3.toNatClampNeg) = (σ10 ((G.2.1 h0 4)) x4.toNatClampNeg) → bkX6_divMod_82 G h0 x1 x2 x3 x4 v19 0 post σ10) ∧ (¬ (σ10 ((G.2.1 h0 4)) x3.toNatClampNeg) = (σ10 ((G.2.1 h0 4)) x4.toNatClampNeg) → bkX6_divMod_82 G h0 x1 x2 x3 x4 v19 1 post σ10))))))))))))))))))
set_option maxHeartbeats 4000000 in
set_option maxRecDepth 100000 in
theorem sdX6_divMod {l : Launch} {E : qE} {L : List Nat} {G : qG} (hN : L.Nodup) (hG : q_WF G L) {h0 : Nat} {x1 : Int32} {x2 : Int32} {x3 : Int32} {x4 : Int32} (Lh0 : h0 ∈ L) (Kh0 : G.1 h0 = 6) {σ : qS} {post : Int32 → qS → Prop} (h : wpX6_divMod G h0 x1 x2 x3 x4 σ post) : MtI l E L G yX6_divMod wsX6_divMod (q_rm 4) [.ref h0, .int x1, .int x2, .int x3, .int x4] σ post := by
  refine q_met (Qc := fun sz => va_Qi post (q_B E L G) (q_free L sz)) (cc := cX6_divMod) (maxL := 7) (ret := (some .int)) (own := RX6) (by decide) rfl rfl (Nat.le_of_ble_eq_true rfl) hN hG ?_
  intro p e s m below meth c C
  unfold wpX6_divMod at h
  refine q_aload_n (pc := 0) C dX6_divMod_0 rfl 0 rfl ?_
  refine q_iload_n (pc := 1) C dX6_divMod_1 rfl 1 rfl ?_
  refine q_cVi (pc := 2) (As := [.int x1]) (ci := 6) (Cn := RX6) (T := TX6) (N := 9) C (sdX6_is C.2.2.2.2.2.1 C.2.2.2.2.2.2 Lh0 Kh0 h) (cwV 1 C.1.2.2.2.2 gX6_divMod_X6_is rfl rfl rfl (by decide +kernel) (q_room (by decide) (by decide))) Lh0 (qc6 Kh0 _) rfl rfl rfl (Nat.le_of_ble_eq_true rfl) dX6_divMod_2 (fun u2 σ1 h => ?_)
  refine q_if_eq (tgt := 33) (pc := 5) C dX6_divMod_5 (by decide) (fun c3 => ?_) (fun c3 => ?_)
  · replace h := h.1 c3
    refine q_iconst (pc := 33) (v := (-1)) C dX6_divMod_33 (by decide) ?_
    exact q_iret (pc := 34) C dX6_divMod_34 h
  · replace h := h.2 c3
    refine q_aload_n (pc := 8) C dX6_divMod_8 rfl 0 rfl ?_
    refine q_iload_n (pc := 9) C dX6_divMod_9 rfl 2 rfl ?_
    refine q_cVi (pc := 10) (As := [.int x2]) (ci := 6) (Cn := RX6) (T := TX6) (N := 9) C (sdX6_is C.2.2.2.2.2.1 C.2.2.2.2.2.2 Lh0 Kh0 h) (cwV 1 C.1.2.2.2.2 gX6_divMod_X6_is rfl rfl rfl (by decide +kernel) (q_room (by decide) (by decide))) Lh0 (qc6 Kh0 _) rfl rfl rfl (Nat.le_of_ble_eq_true rfl) dX6_divMod_10 (fun u5 σ4 h => ?_)
    refine q_if_eq (tgt := 33) (pc := 13) C dX6_divMod_13 (by decide) (fun c6 => ?_) (fun c6 => ?_)
    · replace h := h.1 c6
      refine q_iconst (pc := 33) (v := (-1)) C dX6_divMod_33 (by decide) ?_
      exact q_iret (pc := 34) C dX6_divMod_34 h
    · replace h := h.2 c6
      refine q_aload_n (pc := 16) C dX6_divMod_16 rfl 0 rfl ?_
      refine q_iload_n (pc := 17) C dX6_divMod_17 rfl 3 rfl ?_
      refine q_cVi (pc := 18) (As := [.int x3]) (ci := 6) (Cn := RX6) (T := TX6) (N := 9) C (sdX6_is C.2.2.2.2.2.1 C.2.2.2.2.2.2 Lh0 Kh0 h) (cwV 1 C.1.2.2.2.2 gX6_divMod_X6_is rfl rfl rfl (by decide +kernel) (q_room (by decide) (by decide))) Lh0 (qc6 Kh0 _) rfl rfl rfl (Nat.le_of_ble_eq_true rfl) dX6_divMod_18 (fun u8 σ7 h => ?_)
      refine q_if_eq (tgt := 33) (pc := 21) C dX6_divMod_21 (by decide) (fun c9 => ?_) (fun c9 => ?_)
      · replace h := h.1 c9
        refine q_iconst (pc := 33) (v := (-1)) C dX6_divMod_33 (by decide) ?_
        exact q_iret (pc := 34) C dX6_divMod_34 h
      · replace h := h.2 c9
        refine q_aload_n (pc := 24) C dX6_divMod_24 rfl 0 rfl ?_
        refine q_iload (pc := 25) C dX6_divMod_25 4 rfl ?_
        refine q_cVi (pc := 27) (As := [.int x4]) (ci := 6) (Cn := RX6) (T := TX6) (N := 9) C (sdX6_is C.2.2.2.2.2.1 C.2.2.2.2.2.2 Lh0 Kh0 h) (cwV 1 C.1.2.2.2.2 gX6_divMod_X6_is rfl rfl rfl (by decide +kernel) (q_room (by decide) (by decide))) Lh0 (qc6 Kh0 _) rfl rfl rfl (Nat.le_of_ble_eq_true rfl) dX6_divMod_27 (fun u11 σ10 h => ?_)
        refine q_if_ne (tgt := 35) (pc := 30) C dX6_divMod_30 (by decide) (fun c12 => ?_) (fun c12 => ?_)
        · replace h := h.2 c12
          refine q_aload_n (pc := 35) C dX6_divMod_35 rfl 0 rfl ?_
          obtain ⟨Lr13, Kr13⟩ := qw_6_3 C.2.2.2.2.2.2 Lh0 Kh0
          refine q_g6_3 (pc := 36) C Lh0 Kh0 mwX6_divMod_0 mwX6_divMod_1 dX6_divMod_36 ?_
          refine q_iload (pc := 39) C dX6_divMod_39 4 rfl ?_
          obtain ⟨b14, h⟩ := h
          refine q_iald (pc := 41) C Lr13 Kr13 b14 dX6_divMod_41 ?_
          refine q_if_eq (tgt := 50) (pc := 42) C dX6_divMod_42 (by decide) (fun c15 => ?_) (fun c15 => ?_)
          · replace h := h.1 c15
            refine q_bipush (pc := 50) (v := (-2)) C dX6_divMod_50 (by decide) ?_
            exact q_iret (pc := 52) C dX6_divMod_52 h
          · replace h := h.2 c15
            refine q_iload_n (pc := 45) C dX6_divMod_45 rfl 1 rfl ?_
            refine q_iload_n (pc := 46) C dX6_divMod_46 rfl 2 rfl ?_
            refine q_icmp_ne (tgt := 53) (pc := 47) C dX6_divMod_47 (by decide) (fun c16 => ?_) (fun c16 => ?_)
            · replace h := h.2 c16
              refine q_aload_n (pc := 53) C dX6_divMod_53 rfl 0 rfl ?_
              obtain ⟨Lr17, Kr17⟩ := qw_6_4 C.2.2.2.2.2.2 Lh0 Kh0
              refine q_g6_4 (pc := 54) C Lh0 Kh0 mwX6_divMod_0 mwX6_divMod_2 dX6_divMod_54 ?_
              refine q_iload_n (pc := 57) C dX6_divMod_57 rfl 3 rfl ?_
              obtain ⟨b18, h⟩ := h
              refine q_zald (pc := 58) C Lr17 Kr17 b18 dX6_divMod_58 ?_
              refine q_topi (fun v19 ev19 => ?_)
              replace h := h v19 ev19
              refine q_istore (pc := 59) (lv' := [(5, .int v19), (0, .ref h0), (1, .int x1), (2, .int x2), (3, .int x3), (4, .int x4)]) C dX6_divMod_59 (by decide) rfl ?_
              refine q_aload_n (pc := 61) C dX6_divMod_61 rfl 1 rfl ?_
              refine q_g6_4 (pc := 62) C Lh0 Kh0 mwX6_divMod_0 mwX6_divMod_2 dX6_divMod_62 ?_
              refine q_iload_n (pc := 65) C dX6_divMod_65 rfl 4 rfl ?_
              obtain ⟨b20, h⟩ := h
              refine q_zald (pc := 66) C Lr17 Kr17 b20 dX6_divMod_66 ?_
              refine q_aload_n (pc := 67) C dX6_divMod_67 rfl 1 rfl ?_
              refine q_g6_4 (pc := 68) C Lh0 Kh0 mwX6_divMod_0 mwX6_divMod_2 dX6_divMod_68 ?_
              refine q_iload (pc := 71) C dX6_divMod_71 5 rfl ?_
              obtain ⟨b21, h⟩ := h
              refine q_zald (pc := 73) C Lr17 Kr17 b21 dX6_divMod_73 ?_
              refine q_icmp_eq (tgt := 81) (pc := 74) C dX6_divMod_74 (by decide) (fun c22 => ?_) (fun c22 => ?_)
              · replace h := h.1 c22
                refine q_iconst (pc := 81) (v := 0) C dX6_divMod_81 (by decide) ?_
                refine q_lv (lv' := [(0, .ref h0), (1, .int x1), (2, .int x2), (3, .int x3), (4, .int x4), (5, .int v19)]) [1, 2, 3, 4, 5, 0] rfl ?_
                exact sbX6_divMod_82 C Lh0 Kh0 h
              · replace h := h.2 c22
                refine q_iconst (pc := 77) (v := 1) C dX6_divMod_77 (by decide) ?_
                refine q_goto (tgt := 82) (pc := 78) C dX6_divMod_78 (by decide) ?_
                refine q_lv (lv' := [(0, .ref h0), (1, .int x1), (2, .int x2), (3, .int x3), (4, .int x4), (5, .int v19)]) [1, 2, 3, 4, 5, 0] rfl ?_
                exact sbX6_divMod_82 C Lh0 Kh0 h
            · replace h := h.1 c16
              refine q_bipush (pc := 50) (v := (-2)) C dX6_divMod_50 (by decide) ?_
              exact q_iret (pc := 52) C dX6_divMod_52 h
        · replace h := h.1 c12
          refine q_iconst (pc := 33) (v := (-1)) C dX6_divMod_33 (by decide) ?_
          exact q_iret (pc := 34) C dX6_divMod_34 h
theorem mwX6_bitsOf_0 : ∀ w ∈ wsX60, w ∈ wsX6_bitsOf := by decide +kernel
theorem mwX6_bitsOf_1 : Cond.fieldLink RX6 13 "IntFileModel" "lens" "[I" ∈ wsX6_bitsOf := by decide +kernel
def lpX6_bitsOf_37 (G : qG) (post : Int32 → qS → Prop) (kx51 : Int32 → qS → Prop) : Nat → Int32 → Int32 → qS → Prop
  | 0, _, _, _ => False
  | n + 1, x2, x3, σ => ((x3 ≤ 0 → kx51 x2 σ) ∧ (¬ x3 ≤ 0 → ∀ v11 : Int32, v11 = x2 + 1 → ∀ v12 : Int32, v12 = x3 >>> ((1 : Int32) &&& 31) → lpX6_bitsOf_37 G post kx51 n v11 v12 σ))
set_option maxHeartbeats 4000000 in
set_option maxRecDepth 100000 in
theorem slX6_bitsOf_37 {p : Program} {l : Launch} {e : Env} {s : State} {m : MethodId} {args : Array Value} {below : List Frame} {meth : Method} {c : Code} {E : qE} {L : List Nat} {G : qG} {A : Nat → Prop} (C : q_C p s m args meth c cX6_bitsOf 4 wsX6_bitsOf RX6 (some .int) E L G A) {post : Int32 → qS → Prop} {kx51 : Int32 → qS → Prop} (Hkx51 : ∀ (y2 : Int32) (τ : qS), kx51 y2 τ → Wd p l e (q_rm 2) s m args below meth c E L G A (MQ below (va_Qi post (q_B E L G) A) args s 0 0 A) 4 τ 51 [(2, .int y2)] []) : ∀ (n : Nat) (x2 : Int32) (x3 : Int32) (σ : qS), lpX6_bitsOf_37 G post kx51 n x2 x3 σ → Wd p l e (q_rm 2) s m args below meth c E L G A (MQ below (va_Qi post (q_B E L G) A) args s 0 0 A) 4 σ 37 [(2, .int x2), (3, .int x3)] [] := by
  intro n
  induction n with
  | zero => intro x2 x3 σ h; exact h.elim
  | succ n ih =>
    intro x2 x3 σ h
    unfold lpX6_bitsOf_37 at h
    refine q_iload_n (pc := 37) C dX6_bitsOf_37 rfl 1 rfl ?_
    refine q_if_le (tgt := 51) (pc := 38) C dX6_bitsOf_38 (by decide) (fun c10 => ?_) (fun c10 => ?_)
    · replace h := h.1 c10
      refine q_lv (lv' := [(2, .int x2)]) [0] rfl ?_
      exact Hkx51 x2 σ h
    · replace h := h.2 c10
      obtain ⟨v11, ev11⟩ : ∃ z : Int32, z = x2 + 1 := ⟨_, rfl⟩
      replace h := h v11 ev11
      refine q_iinc (pc := 41) (v := v11) (j := 0) (lv' := [(2, .int v11), (3, .int x3)]) C dX6_bitsOf_41 rfl (by rw [ev11]; rfl) (by decide) rfl ?_
      refine q_iload_n (pc := 44) C dX6_bitsOf_44 rfl 1 rfl ?_
      refine q_iconst (pc := 45) (v := 1) C dX6_bitsOf_45 (by decide) ?_
      refine q_ishr (pc := 46) C dX6_bitsOf_46 ?_
      refine q_topi (fun v12 ev12 => ?_)
      replace h := h v12 ev12
      refine q_istore_n (pc := 47) (lv' := [(3, .int v12), (2, .int v11)]) C dX6_bitsOf_47 rfl (by decide) rfl ?_
      refine q_goto (tgt := 37) (pc := 48) C dX6_bitsOf_48 (by decide) ?_
      refine q_lv (lv' := [(2, .int v11), (3, .int v12)]) [1, 0] rfl ?_
      exact ih v11 v12 σ h
def wpX6_bitsOf (G : qG) (h0 : Nat) (x1 : Int32) (σ : qS) (post : Int32 → qS → Prop) : Prop := ∀ v1 : Int32, v1 = 0 → vp_in x1 (G.2.2 ((G.2.1 h0 3))) ∧ (((σ ((G.2.1 h0 3)) x1.toNatClampNeg) ≤ 0 → post v1 σ) ∧ (¬ (σ ((G.2.1 h0 3)) x1.toNatClampNeg) ≤ 0 → vp_in x1 (G.2.2 ((G.2.1 h0 3))) ∧ ∀ v6 : Int32, v6 = (16 : Int32) * ((σ ((G.2.1 h0 3)) x1.toNatClampNeg) - 1) → vp_in x1 (G.2.2 ((G.2.1 h0 3))) ∧ wpX6_digit G h0 x1 ((σ ((G.2.1 h0 3)) x1.toNatClampNeg) - 1) σ (fun (u9 : Int32) (σ8 : qS) => ∃ n15 : Nat, lpX6_bitsOf_37 G post (fun (w13 : Int32) (σ14 : qS) => post w13 σ14) n15 v6 u9 σ8)))
set_option maxHeartbeats 4000000 in
set_option maxRecDepth 100000 in
theorem sdX6_bitsOf {l : Launch} {E : qE} {L : List Nat} {G : qG} (hN : L.Nodup) (hG : q_WF G L) {h0 : Nat} {x1 : Int32} (Lh0 : h0 ∈ L) (Kh0 : G.1 h0 = 6) {σ : qS} {post : Int32 → qS → Prop} (h : wpX6_bitsOf G h0 x1 σ post) : MtI l E L G yX6_bitsOf wsX6_bitsOf (q_rm 2) [.ref h0, .int x1] σ post := by
  refine q_met (Qc := fun sz => va_Qi post (q_B E L G) (q_free L sz)) (cc := cX6_bitsOf) (maxL := 4) (ret := (some .int)) (own := RX6) (by decide) rfl rfl (Nat.le_of_ble_eq_true rfl) hN hG ?_
  intro p e s m below meth c C
  unfold wpX6_bitsOf at h
  refine q_iconst (pc := 0) (v := 0) C dX6_bitsOf_0 (by decide) ?_
  refine q_topi (fun v1 ev1 => ?_)
  replace h := h v1 ev1
  refine q_istore_n (pc := 1) (lv' := [(2, .int v1), (0, .ref h0), (1, .int x1)]) C dX6_bitsOf_1 rfl (by decide) rfl ?_
  refine q_aload_n (pc := 2) C dX6_bitsOf_2 rfl 1 rfl ?_
  obtain ⟨Lr2, Kr2⟩ := qw_6_3 C.2.2.2.2.2.2 Lh0 Kh0
  refine q_g6_3 (pc := 3) C Lh0 Kh0 mwX6_bitsOf_0 mwX6_bitsOf_1 dX6_bitsOf_3 ?_
  refine q_iload_n (pc := 6) C dX6_bitsOf_6 rfl 2 rfl ?_
  obtain ⟨b3, h⟩ := h
  refine q_iald (pc := 7) C Lr2 Kr2 b3 dX6_bitsOf_7 ?_
  refine q_if_le (tgt := 51) (pc := 8) C dX6_bitsOf_8 (by decide) (fun c4 => ?_) (fun c4 => ?_)
  · replace h := h.1 c4
    refine q_iload_n (pc := 51) C dX6_bitsOf_51 rfl 0 rfl ?_
    exact q_iret (pc := 52) C dX6_bitsOf_52 h
  · replace h := h.2 c4
    refine q_bipush (pc := 11) (v := 16) C dX6_bitsOf_11 (by decide) ?_
    refine q_aload_n (pc := 13) C dX6_bitsOf_13 rfl 1 rfl ?_
    refine q_g6_3 (pc := 14) C Lh0 Kh0 mwX6_bitsOf_0 mwX6_bitsOf_1 dX6_bitsOf_14 ?_
    refine q_iload_n (pc := 17) C dX6_bitsOf_17 rfl 2 rfl ?_
    obtain ⟨b5, h⟩ := h
    refine q_iald (pc := 18) C Lr2 Kr2 b5 dX6_bitsOf_18 ?_
    refine q_iconst (pc := 19) (v := 1) C dX6_bitsOf_19 (by decide) ?_
    refine q_isub (pc := 20) C dX6_bitsOf_20 ?_
    refine q_imul (pc := 21) C dX6_bitsOf_21 ?_
    refine q_topi (fun v6 ev6 => ?_)
    replace h := h v6 ev6
    refine q_istore_n (pc := 22) (lv' := [(2, .int v6), (0, .ref h0), (1, .int x1)]) C dX6_bitsOf_22 rfl (by decide) rfl ?_
    refine q_aload_n (pc := 23) C dX6_bitsOf_23 rfl 1 rfl ?_
    refine q_iload_n (pc := 24) C dX6_bitsOf_24 rfl 2 rfl ?_
    refine q_aload_n (pc := 25) C dX6_bitsOf_25 rfl 1 rfl ?_
    refine q_g6_3 (pc := 26) C Lh0 Kh0 mwX6_bitsOf_0 mwX6_bitsOf_1 dX6_bitsOf_26 ?_
    refine q_iload_n (pc := 29) C dX6_bitsOf_29 rfl 2 rfl ?_
    obtain ⟨b7, h⟩ := h
    refine q_iald (pc := 30) C Lr2 Kr2 b7 dX6_bitsOf_30 ?_
    refine q_iconst (pc := 31) (v := 1) C dX6_bitsOf_31 (by decide) ?_
    refine q_isub (pc := 32) C dX6_bitsOf_32 ?_
    refine q_cVi (pc := 33) (As := [.int x1, .int ((σ ((G.2.1 h0 3)) x1.toNatClampNeg) - 1)]) (ci := 6) (Cn := RX6) (T := TX6) (N := 9) C (sdX6_digit C.2.2.2.2.2.1 C.2.2.2.2.2.2 Lh0 Kh0 h) (cwV 2 C.1.2.2.2.2 gX6_bitsOf_X6_digit rfl rfl rfl (by decide +kernel) (q_room (by decide) (by decide))) Lh0 (qc6 Kh0 _) rfl rfl rfl (Nat.le_of_ble_eq_true rfl) dX6_bitsOf_33 (fun u9 σ8 h => ?_)
    refine q_istore_n (pc := 36) (lv' := [(3, .int u9), (2, .int v6), (0, .ref h0), (1, .int x1)]) C dX6_bitsOf_36 rfl (by decide) rfl ?_
    refine q_lv (lv' := [(2, .int v6), (3, .int u9)]) [1, 0] rfl ?_
    obtain ⟨n15, h⟩ := h
    refine slX6_bitsOf_37 C ?_ n15 v6 u9 σ8 h
    · intro w13 σ14 h
      refine q_iload_n (pc := 51) C dX6_bitsOf_51 rfl 0 rfl ?_
      exact q_iret (pc := 52) C dX6_bitsOf_52 h
theorem mwX6_shl_0 : ∀ w ∈ wsX60, w ∈ wsX6_shl := by decide +kernel
theorem mwX6_shl_1 : Cond.fieldLink RX6 13 "IntFileModel" "lens" "[I" ∈ wsX6_shl := by decide +kernel
theorem mwX6_shl_2 : Cond.fieldLink RX6 16 "IntFileModel" "below" "[Z" ∈ wsX6_shl := by decide +kernel
theorem mwX6_shl_3 : Cond.constantLong RX6 94 (16) ∈ wsX6_shl := by decide +kernel
theorem mwX6_shl_4 : Cond.fieldLink RX6 30 "IntFileModel" "most" "I" ∈ wsX6_shl := by decide +kernel
def bkX6_shl_121 (G : qG) (h0 : Nat) (x1 : Int32) (s0 : Nat) (s1 : Int32) (s2 : Int32) (post : Int32 → qS → Prop) (σ : qS) : Prop := vp_in s1 (G.2.2 s0) ∧ (s2 = 0 ∨ s2 = 1) ∧ ∀ σ23 : qS, σ23 = q_st σ s0 s1.toNatClampNeg s2 → wpX6_keep G h0 x1 14 σ23 (fun (u25 : Int32) (σ24 : qS) => post u25 σ24)
set_option maxHeartbeats 4000000 in
set_option maxRecDepth 100000 in
theorem sbX6_shl_121 {p : Program} {l : Launch} {e : Env} {s : State} {m : MethodId} {args : Array Value} {below : List Frame} {meth : Method} {c : Code} {E : qE} {L : List Nat} {G : qG} {A : Nat → Prop} (C : q_C p s m args meth c cX6_shl 5 wsX6_shl RX6 (some .int) E L G A) {h0 : Nat} {x1 : Int32} {s0 : Nat} {s1 : Int32} {s2 : Int32} (Lh0 : h0 ∈ L) (Kh0 : G.1 h0 = 6) (Ls0 : s0 ∈ L) (Ks0 : G.1 s0 = 9) {post : Int32 → qS → Prop} {σ : qS} (h : bkX6_shl_121 G h0 x1 s0 s1 s2 post σ) : Wd p l e (q_rm 3) s m args below meth c E L G A (MQ below (va_Qi post (q_B E L G) A) args s 0 0 A) 5 σ 121 [(0, .ref h0), (1, .int x1)] [.int s2, .int s1, .ref s0] := by
  unfold bkX6_shl_121 at h
  obtain ⟨b21, h⟩ := h
  obtain ⟨z22, h⟩ := h
  refine q_zast (pc := 121) C Ls0 Ks0 b21 z22 dX6_shl_121 (fun σ23 eσ23 => ?_)
  replace h := h σ23 eσ23
  refine q_aload_n (pc := 122) C dX6_shl_122 rfl 0 rfl ?_
  refine q_iload_n (pc := 123) C dX6_shl_123 rfl 1 rfl ?_
  refine q_bipush (pc := 124) (v := 14) C dX6_shl_124 (by decide) ?_
  refine q_cVi (pc := 126) (As := [.int x1, .int 14]) (ci := 6) (Cn := RX6) (T := TX6) (N := 9) C (sdX6_keep C.2.2.2.2.2.1 C.2.2.2.2.2.2 Lh0 Kh0 h) (cwV 2 C.1.2.2.2.2 gX6_shl_X6_keep rfl rfl rfl (by decide +kernel) (q_room (by decide) (by decide))) Lh0 (qc6 Kh0 _) rfl rfl rfl (Nat.le_of_ble_eq_true rfl) dX6_shl_126 (fun u25 σ24 h => ?_)
  exact q_iret (pc := 129) C dX6_shl_129 h
def bkX6_shl_120 (G : qG) (h0 : Nat) (x1 : Int32) (s0 : Nat) (s1 : Int32) (post : Int32 → qS → Prop) (σ : qS) : Prop := bkX6_shl_121 G h0 x1 s0 s1 0 post σ
set_option maxHeartbeats 4000000 in
set_option maxRecDepth 100000 in
theorem sbX6_shl_120 {p : Program} {l : Launch} {e : Env} {s : State} {m : MethodId} {args : Array Value} {below : List Frame} {meth : Method} {c : Code} {E : qE} {L : List Nat} {G : qG} {A : Nat → Prop} (C : q_C p s m args meth c cX6_shl 5 wsX6_shl RX6 (some .int) E L G A) {h0 : Nat} {x1 : Int32} {s0 : Nat} {s1 : Int32} (Lh0 : h0 ∈ L) (Kh0 : G.1 h0 = 6) (Ls0 : s0 ∈ L) (Ks0 : G.1 s0 = 9) {post : Int32 → qS → Prop} {σ : qS} (h : bkX6_shl_120 G h0 x1 s0 s1 post σ) : Wd p l e (q_rm 3) s m args below meth c E L G A (MQ below (va_Qi post (q_B E L G) A) args s 0 0 A) 5 σ 120 [(0, .ref h0), (1, .int x1)] [.int s1, .ref s0] := by
  unfold bkX6_shl_120 at h
  refine q_iconst (pc := 120) (v := 0) C dX6_shl_120 (by decide) ?_
  exact sbX6_shl_121 C Lh0 Kh0 Ls0 Ks0 h
def bkX6_shl_95 (G : qG) (h0 : Nat) (x1 : Int32) (x4 : Int32) (post : Int32 → qS → Prop) (σ : qS) : Prop := ((x4 = 0 → bkX6_shl_120 G h0 x1 ((G.2.1 h0 4)) 14 post σ) ∧ (¬ x4 = 0 → vp_in 14 (G.2.2 ((G.2.1 h0 3))) ∧ (((σ ((G.2.1 h0 3)) (14 : Int32).toNatClampNeg) ≤ 0 → bkX6_shl_120 G h0 x1 ((G.2.1 h0 4)) 14 post σ) ∧ (¬ (σ ((G.2.1 h0 3)) (14 : Int32).toNatClampNeg) ≤ 0 → bkX6_shl_121 G h0 x1 ((G.2.1 h0 4)) 14 1 post σ))))
set_option maxHeartbeats 4000000 in
set_option maxRecDepth 100000 in
theorem sbX6_shl_95 {p : Program} {l : Launch} {e : Env} {s : State} {m : MethodId} {args : Array Value} {below : List Frame} {meth : Method} {c : Code} {E : qE} {L : List Nat} {G : qG} {A : Nat → Prop} (C : q_C p s m args meth c cX6_shl 5 wsX6_shl RX6 (some .int) E L G A) {h0 : Nat} {x1 : Int32} {x4 : Int32} (Lh0 : h0 ∈ L) (Kh0 : G.1 h0 = 6) {post : Int32 → qS → Prop} {σ : qS} (h : bkX6_shl_95 G h0 x1 x4 post σ) : Wd p l e (q_rm 3) s m args below meth c E L G A (MQ below (va_Qi post (q_B E L G) A) args s 0 0 A) 5 σ 95 [(0, .ref h0), (1, .int x1), (4, .int x4)] [] := by
  unfold bkX6_shl_95 at h
  refine q_aload_n (pc := 95) C dX6_shl_95 rfl 0 rfl ?_
  obtain ⟨Lr19, Kr19⟩ := qw_6_4 C.2.2.2.2.2.2 Lh0 Kh0
  refine q_g6_4 (pc := 96) C Lh0 Kh0 mwX6_shl_0 mwX6_shl_2 dX6_shl_96 ?_
  refine q_bipush (pc := 99) (v := 14) C dX6_shl_99 (by decide) ?_
  refine q_iload (pc := 101) C dX6_shl_101 2 rfl ?_
  refine q_if_eq (tgt := 120) (pc := 103) C dX6_shl_103 (by decide) (fun c20 => ?_) (fun c20 => ?_)
  · replace h := h.1 c20
    refine q_lv (lv' := [(0, .ref h0), (1, .int x1)]) [0, 1] rfl ?_
    exact sbX6_shl_120 C Lh0 Kh0 Lr19 Kr19 h
  · replace h := h.2 c20
    refine q_aload_n (pc := 106) C dX6_shl_106 rfl 0 rfl ?_
    obtain ⟨Lr26, Kr26⟩ := qw_6_3 C.2.2.2.2.2.2 Lh0 Kh0
    refine q_g6_3 (pc := 107) C Lh0 Kh0 mwX6_shl_0 mwX6_shl_1 dX6_shl_107 ?_
    refine q_bipush (pc := 110) (v := 14) C dX6_shl_110 (by decide) ?_
    obtain ⟨b27, h⟩ := h
    refine q_iald (pc := 112) C Lr26 Kr26 b27 dX6_shl_112 ?_
    refine q_if_le (tgt := 120) (pc := 113) C dX6_shl_113 (by decide) (fun c28 => ?_) (fun c28 => ?_)
    · replace h := h.1 c28
      refine q_lv (lv' := [(0, .ref h0), (1, .int x1)]) [0, 1] rfl ?_
      exact sbX6_shl_120 C Lh0 Kh0 Lr19 Kr19 h
    · replace h := h.2 c28
      refine q_iconst (pc := 116) (v := 1) C dX6_shl_116 (by decide) ?_
      refine q_goto (tgt := 121) (pc := 117) C dX6_shl_117 (by decide) ?_
      refine q_lv (lv' := [(0, .ref h0), (1, .int x1)]) [0, 1] rfl ?_
      exact sbX6_shl_121 C Lh0 Kh0 Lr19 Kr19 h
def bkX6_shl_59 (G : qG) (h0 : Nat) (x1 : Int32) (x2 : Int32) (x3 : Int32) (post : Int32 → qS → Prop) (σ : qS) : Prop := vp_in x2 (G.2.2 ((G.2.1 h0 4))) ∧ ∀ v13 : Int32, v13 = σ ((G.2.1 h0 4)) x2.toNatClampNeg → vp_in x2 (G.2.2 ((G.2.1 h0 3))) ∧ (((σ ((G.2.1 h0 3)) x2.toNatClampNeg) = 0 → vp_in 14 (G.2.2 ((G.2.1 h0 3))) ∧ ∀ σ30 : qS, σ30 = q_st σ ((G.2.1 h0 3)) (14 : Int32).toNatClampNeg 0 → bkX6_shl_95 G h0 x1 v13 post σ30) ∧ (¬ (σ ((G.2.1 h0 3)) x2.toNatClampNeg) = 0 → wpX6_shiftUp G h0 14 x2 x3 σ (fun (σ17 : qS) => bkX6_shl_95 G h0 x1 v13 post σ17)))
set_option maxHeartbeats 4000000 in
set_option maxRecDepth 100000 in
theorem sbX6_shl_59 {p : Program} {l : Launch} {e : Env} {s : State} {m : MethodId} {args : Array Value} {below : List Frame} {meth : Method} {c : Code} {E : qE} {L : List Nat} {G : qG} {A : Nat → Prop} (C : q_C p s m args meth c cX6_shl 5 wsX6_shl RX6 (some .int) E L G A) {h0 : Nat} {x1 : Int32} {x2 : Int32} {x3 : Int32} (Lh0 : h0 ∈ L) (Kh0 : G.1 h0 = 6) {post : Int32 → qS → Prop} {σ : qS} (h : bkX6_shl_59 G h0 x1 x2 x3 post σ) : Wd p l e (q_rm 3) s m args below meth c E L G A (MQ below (va_Qi post (q_B E L G) A) args s 0 0 A) 5 σ 59 [(0, .ref h0), (1, .int x1), (2, .int x2), (3, .int x3)] [] := by
  unfold bkX6_shl_59 at h
  refine q_aload_n (pc := 59) C dX6_shl_59 rfl 0 rfl ?_
  obtain ⟨Lr11, Kr11⟩ := qw_6_4 C.2.2.2.2.2.2 Lh0 Kh0
  refine q_g6_4 (pc := 60) C Lh0 Kh0 mwX6_shl_0 mwX6_shl_2 dX6_shl_60 ?_
  refine q_iload_n (pc := 63) C dX6_shl_63 rfl 2 rfl ?_
  obtain ⟨b12, h⟩ := h
  refine q_zald (pc := 64) C Lr11 Kr11 b12 dX6_shl_64 ?_
  refine q_topi (fun v13 ev13 => ?_)
  replace h := h v13 ev13
  refine q_istore (pc := 65) (lv' := [(4, .int v13), (0, .ref h0), (1, .int x1), (2, .int x2), (3, .int x3)]) C dX6_shl_65 (by decide) rfl ?_
  refine q_aload_n (pc := 67) C dX6_shl_67 rfl 1 rfl ?_
  obtain ⟨Lr14, Kr14⟩ := qw_6_3 C.2.2.2.2.2.2 Lh0 Kh0
  refine q_g6_3 (pc := 68) C Lh0 Kh0 mwX6_shl_0 mwX6_shl_1 dX6_shl_68 ?_
  refine q_iload_n (pc := 71) C dX6_shl_71 rfl 3 rfl ?_
  obtain ⟨b15, h⟩ := h
  refine q_iald (pc := 72) C Lr14 Kr14 b15 dX6_shl_72 ?_
  refine q_if_ne (tgt := 87) (pc := 73) C dX6_shl_73 (by decide) (fun c16 => ?_) (fun c16 => ?_)
  · replace h := h.2 c16
    refine q_aload_n (pc := 87) C dX6_shl_87 rfl 1 rfl ?_
    refine q_bipush (pc := 88) (v := 14) C dX6_shl_88 (by decide) ?_
    refine q_iload_n (pc := 90) C dX6_shl_90 rfl 3 rfl ?_
    refine q_iload_n (pc := 91) C dX6_shl_91 rfl 4 rfl ?_
    refine q_cVv (pc := 92) (As := [.int 14, .int x2, .int x3]) (ci := 6) (Cn := RX6) (T := TX6) (N := 9) C (sdX6_shiftUp C.2.2.2.2.2.1 C.2.2.2.2.2.2 Lh0 Kh0 h) (cwV 3 C.1.2.2.2.2 gX6_shl_X6_shiftUp rfl rfl rfl (by decide +kernel) (q_room (by decide) (by decide))) Lh0 (qc6 Kh0 _) rfl rfl rfl (Nat.le_of_ble_eq_true rfl) dX6_shl_92 (fun σ17 h => ?_)
    refine q_lv (lv' := [(0, .ref h0), (1, .int x1), (4, .int v13)]) [1, 2, 0] rfl ?_
    exact sbX6_shl_95 C Lh0 Kh0 h
  · replace h := h.1 c16
    refine q_aload_n (pc := 76) C dX6_shl_76 rfl 1 rfl ?_
    refine q_g6_3 (pc := 77) C Lh0 Kh0 mwX6_shl_0 mwX6_shl_1 dX6_shl_77 ?_
    refine q_bipush (pc := 80) (v := 14) C dX6_shl_80 (by decide) ?_
    refine q_iconst (pc := 82) (v := 0) C dX6_shl_82 (by decide) ?_
    obtain ⟨b29, h⟩ := h
    refine q_iast (pc := 83) C Lr14 Kr14 b29 dX6_shl_83 (fun σ30 eσ30 => ?_)
    replace h := h σ30 eσ30
    refine q_goto (tgt := 95) (pc := 84) C dX6_shl_84 (by decide) ?_
    refine q_lv (lv' := [(0, .ref h0), (1, .int x1), (4, .int v13)]) [1, 2, 0] rfl ?_
    exact sbX6_shl_95 C Lh0 Kh0 h
def wpX6_shl (G : qG) (h0 : Nat) (x1 : Int32) (x2 : Int32) (x3 : Int32) (σ : qS) (post : Int32 → qS → Prop) : Prop := wpX6_is G h0 x1 σ (fun (u2 : Int32) (σ1 : qS) => ((u2 = 0 → post ((-1)) σ1) ∧ (¬ u2 = 0 → wpX6_is G h0 x2 σ1 (fun (u5 : Int32) (σ4 : qS) => ((u5 = 0 → post ((-1)) σ4) ∧ (¬ u5 = 0 → ((0 ≤ x3 → vp_in x2 (G.2.2 ((G.2.1 h0 3))) ∧ (((σ4 ((G.2.1 h0 3)) x2.toNatClampNeg) ≤ 0 → bkX6_shl_59 G h0 x1 x2 x3 post σ4) ∧ (¬ (σ4 ((G.2.1 h0 3)) x2.toNatClampNeg) ≤ 0 → wpX6_bitsOf G h0 x2 σ4 (fun (u32 : Int32) (σ31 : qS) => (((lg_cmp (u32.toInt64 + x3.toInt64) ((16 : Int64) * ((σ31 h0 1).toInt64))) ≤ 0 → bkX6_shl_59 G h0 x1 x2 x3 post σ31) ∧ (¬ (lg_cmp (u32.toInt64 + x3.toInt64) ((16 : Int64) * ((σ31 h0 1).toInt64))) ≤ 0 → post ((-3)) σ31)))))) ∧ (¬ 0 ≤ x3 → post ((-2)) σ4))))))))
set_option maxHeartbeats 4000000 in
set_option maxRecDepth 100000 in
theorem sdX6_shl {l : Launch} {E : qE} {L : List Nat} {G : qG} (hN : L.Nodup) (hG : q_WF G L) {h0 : Nat} {x1 : Int32} {x2 : Int32} {x3 : Int32} (Lh0 : h0 ∈ L) (Kh0 : G.1 h0 = 6) {σ : qS} {post : Int32 → qS → Prop} (h : wpX6_shl G h0 x1 x2 x3 σ post) : MtI l E L G yX6_shl wsX6_shl (q_rm 3) [.ref h0, .int x1, .int x2, .int x3] σ post := by
  refine q_met (Qc := fun sz => va_Qi post (q_B E L G) (q_free L sz)) (cc := cX6_shl) (maxL := 5) (ret := (some .int)) (own := RX6) (by decide) rfl rfl (Nat.le_of_ble_eq_true rfl) hN hG ?_
  intro p e s m below meth c C
  unfold wpX6_shl at h
  refine q_aload_n (pc := 0) C dX6_shl_0 rfl 0 rfl ?_
  refine q_iload_n (pc := 1) C dX6_shl_1 rfl 1 rfl ?_
  refine q_cVi (pc := 2) (As := [.int x1]) (ci := 6) (Cn := RX6) (T := TX6) (N := 9) C (sdX6_is C.2.2.2.2.2.1 C.2.2.2.2.2.2 Lh0 Kh0 h) (cwV 1 C.1.2.2.2.2 gX6_shl_X6_is rfl rfl rfl (by decide +kernel) (q_room (by decide) (by decide))) Lh0 (qc6 Kh0 _) rfl rfl rfl (Nat.le_of_ble_eq_true rfl) dX6_shl_2 (fun u2 σ1 h => ?_)
  refine q_if_eq (tgt := 16) (pc := 5) C dX6_shl_5 (by decide) (fun c3 => ?_) (fun c3 => ?_)
  · replace h := h.1 c3
    refine q_iconst (pc := 16) (v := (-1)) C dX6_shl_16 (by decide) ?_
    exact q_iret (pc := 17) C dX6_shl_17 h
  · replace h := h.2 c3
    refine q_aload_n (pc := 8) C dX6_shl_8 rfl 0 rfl ?_
    refine q_iload_n (pc := 9) C dX6_shl_9 rfl 2 rfl ?_
    refine q_cVi (pc := 10) (As := [.int x2]) (ci := 6) (Cn := RX6) (T := TX6) (N := 9) C (sdX6_is C.2.2.2.2.2.1 C.2.2.2.2.2.2 Lh0 Kh0 h) (cwV 1 C.1.2.2.2.2 gX6_shl_X6_is rfl rfl rfl (by decide +kernel) (q_room (by decide) (by decide))) Lh0 (qc6 Kh0 _) rfl rfl rfl (Nat.le_of_ble_eq_true rfl) dX6_shl_10 (fun u5 σ4 h => ?_)
    refine q_if_ne (tgt := 18) (pc := 13) C dX6_shl_13 (by decide) (fun c6 => ?_) (fun c6 => ?_)
    · replace h := h.2 c6
      refine q_iload_n (pc := 18) C dX6_shl_18 rfl 3 rfl ?_
      refine q_if_ge (tgt := 25) (pc := 19) C dX6_shl_19 (by decide) (fun c7 => ?_) (fun c7 => ?_)
      · replace h := h.1 c7
        refine q_aload_n (pc := 25) C dX6_shl_25 rfl 0 rfl ?_
        obtain ⟨Lr8, Kr8⟩ := qw_6_3 C.2.2.2.2.2.2 Lh0 Kh0
        refine q_g6_3 (pc := 26) C Lh0 Kh0 mwX6_shl_0 mwX6_shl_1 dX6_shl_26 ?_
        refine q_iload_n (pc := 29) C dX6_shl_29 rfl 2 rfl ?_
        obtain ⟨b9, h⟩ := h
        refine q_iald (pc := 30) C Lr8 Kr8 b9 dX6_shl_30 ?_
        refine q_if_le (tgt := 59) (pc := 31) C dX6_shl_31 (by decide) (fun c10 => ?_) (fun c10 => ?_)
        · replace h := h.1 c10
          exact sbX6_shl_59 C Lh0 Kh0 h
        · replace h := h.2 c10
          refine q_aload_n (pc := 34) C dX6_shl_34 rfl 0 rfl ?_
          refine q_iload_n (pc := 35) C dX6_shl_35 rfl 2 rfl ?_
          refine q_cVi (pc := 36) (As := [.int x2]) (ci := 6) (Cn := RX6) (T := TX6) (N := 9) C (sdX6_bitsOf C.2.2.2.2.2.1 C.2.2.2.2.2.2 Lh0 Kh0 h) (cwV 1 C.1.2.2.2.2 gX6_shl_X6_bitsOf rfl rfl rfl (by decide +kernel) (q_room (by decide) (by decide))) Lh0 (qc6 Kh0 _) rfl rfl rfl (Nat.le_of_ble_eq_true rfl) dX6_shl_36 (fun u32 σ31 h => ?_)
          refine q_i2l (pc := 39) C dX6_shl_39 ?_
          refine q_iload_n (pc := 40) C dX6_shl_40 rfl 3 rfl ?_
          refine q_i2l (pc := 41) C dX6_shl_41 ?_
          refine q_ladd (pc := 42) C dX6_shl_42 ?_
          refine q_ldc2 (pc := 43) (v := 16) C dX6_shl_43 mwX6_shl_3 ?_
          refine q_aload_n (pc := 46) C dX6_shl_46 rfl 0 rfl ?_
          refine q_g6_1 (pc := 47) C Lh0 Kh0 mwX6_shl_0 mwX6_shl_4 dX6_shl_47 ?_
          refine q_i2l (pc := 50) C dX6_shl_50 ?_
          refine q_lmul (pc := 51) C dX6_shl_51 ?_
          refine q_lcmp (pc := 52) C dX6_shl_52 ?_
          refine q_if_le (tgt := 59) (pc := 53) C dX6_shl_53 (by decide) (fun c33 => ?_) (fun c33 => ?_)
          · replace h := h.1 c33
            exact sbX6_shl_59 C Lh0 Kh0 h
          · replace h := h.2 c33
            refine q_bipush (pc := 56) (v := (-3)) C dX6_shl_56 (by decide) ?_
            exact q_iret (pc := 58) C dX6_shl_58 h
      · replace h := h.2 c7
        refine q_bipush (pc := 22) (v := (-2)) C dX6_shl_22 (by decide) ?_
        exact q_iret (pc := 24) C dX6_shl_24 h
    · replace h := h.1 c6
      refine q_iconst (pc := 16) (v := (-1)) C dX6_shl_16 (by decide) ?_
      exact q_iret (pc := 17) C dX6_shl_17 h
theorem mwX6_shr_0 : ∀ w ∈ wsX60, w ∈ wsX6_shr := by decide +kernel
theorem mwX6_shr_1 : Cond.fieldLink RX6 13 "IntFileModel" "lens" "[I" ∈ wsX6_shr := by decide +kernel
theorem mwX6_shr_2 : Cond.constantLong RX6 94 (16) ∈ wsX6_shr := by decide +kernel
theorem mwX6_shr_3 : Cond.constant RX6 43 (65535) ∈ wsX6_shr := by decide +kernel
theorem mwX6_shr_4 : Cond.fieldLink RX6 16 "IntFileModel" "below" "[Z" ∈ wsX6_shr := by decide +kernel
def bkX6_shr_108 (G : qG) (h0 : Nat) (x1 : Int32) (x2 : Int32) (x3 : Int32) (x5 : Int32) (s0 : Int32) (post : Int32 → qS → Prop) (kb31 : Int32 → Int32 → qS → Prop) (σ : qS) : Prop := ∀ v16 : Int32, v16 = x5 + 1 → kb31 s0 v16 σ
set_option maxHeartbeats 4000000 in
set_option maxRecDepth 100000 in
theorem sbX6_shr_108 {p : Program} {l : Launch} {e : Env} {s : State} {m : MethodId} {args : Array Value} {below : List Frame} {meth : Method} {c : Code} {E : qE} {L : List Nat} {G : qG} {A : Nat → Prop} (C : q_C p s m args meth c cX6_shr 7 wsX6_shr RX6 (some .int) E L G A) {h0 : Nat} {x1 : Int32} {x2 : Int32} {x3 : Int32} {x5 : Int32} {s0 : Int32} (Lh0 : h0 ∈ L) (Kh0 : G.1 h0 = 6) {post : Int32 → qS → Prop} {kb31 : Int32 → Int32 → qS → Prop} (Hkb31 : ∀ (y4 : Int32) (y5 : Int32) (τ : qS), kb31 y4 y5 τ → Wd p l e (q_rm 3) s m args below meth c E L G A (MQ below (va_Qi post (q_B E L G) A) args s 0 0 A) 7 τ 31 [(0, .ref h0), (1, .int x1), (2, .int x2), (3, .int x3), (4, .int y4), (5, .int y5)] []) {σ : qS} (h : bkX6_shr_108 G h0 x1 x2 x3 x5 s0 post kb31 σ) : Wd p l e (q_rm 3) s m args below meth c E L G A (MQ below (va_Qi post (q_B E L G) A) args s 0 0 A) 7 σ 108 [(0, .ref h0), (1, .int x1), (2, .int x2), (3, .int x3), (5, .int x5)] [.int s0] := by
  unfold bkX6_shr_108 at h
  refine q_istore (pc := 108) (lv' := [(4, .int s0), (0, .ref h0), (1, .int x1), (2, .int x2), (3, .int x3), (5, .int x5)]) C dX6_shr_108 (by decide) rfl ?_
  obtain ⟨v16, ev16⟩ : ∃ z : Int32, z = x5 + 1 := ⟨_, rfl⟩
  replace h := h v16 ev16
  refine q_iinc (pc := 110) (v := v16) (j := 5) (lv' := [(5, .int v16), (4, .int s0), (0, .ref h0), (1, .int x1), (2, .int x2), (3, .int x3)]) C dX6_shr_110 rfl (by rw [ev16]; rfl) (by decide) rfl ?_
  refine q_goto (tgt := 31) (pc := 113) C dX6_shr_113 (by decide) ?_
  refine q_lv (lv' := [(0, .ref h0), (1, .int x1), (2, .int x2), (3, .int x3), (4, .int s0), (5, .int v16)]) [2, 3, 4, 5, 1, 0] rfl ?_
  exact Hkb31 s0 v16 σ h
def bkX6_shr_103 (G : qG) (h0 : Nat) (x1 : Int32) (x2 : Int32) (x3 : Int32) (x5 : Int32) (post : Int32 → qS → Prop) (kb31 : Int32 → Int32 → qS → Prop) (σ : qS) : Prop := bkX6_shr_108 G h0 x1 x2 x3 x5 1 post kb31 σ
set_option maxHeartbeats 4000000 in
set_option maxRecDepth 100000 in
theorem sbX6_shr_103 {p : Program} {l : Launch} {e : Env} {s : State} {m : MethodId} {args : Array Value} {below : List Frame} {meth : Method} {c : Code} {E : qE} {L : List Nat} {G : qG} {A : Nat → Prop} (C : q_C p s m args meth c cX6_shr 7 wsX6_shr RX6 (some .int) E L G A) {h0 : Nat} {x1 : Int32} {x2 : Int32} {x3 : Int32} {x5 : Int32} (Lh0 : h0 ∈ L) (Kh0 : G.1 h0 = 6) {post : Int32 → qS → Prop} {kb31 : Int32 → Int32 → qS → Prop} (Hkb31 : ∀ (y4 : Int32) (y5 : Int32) (τ : qS), kb31 y4 y5 τ → Wd p l e (q_rm 3) s m args below meth c E L G A (MQ below (va_Qi post (q_B E L G) A) args s 0 0 A) 7 τ 31 [(0, .ref h0), (1, .int x1), (2, .int x2), (3, .int x3), (4, .int y4), (5, .int y5)] []) {σ : qS} (h : bkX6_shr_103 G h0 x1 x2 x3 x5 post kb31 σ) : Wd p l e (q_rm 3) s m args below meth c E L G A (MQ below (va_Qi post (q_B E L G) A) args s 0 0 A) 7 σ 103 [(0, .ref h0), (1, .int x1), (2, .int x2), (3, .int x3), (5, .int x5)] [] := by
  unfold bkX6_shr_103 at h
  refine q_iconst (pc := 103) (v := 1) C dX6_shr_103 (by decide) ?_
  refine q_goto (tgt := 108) (pc := 104) C dX6_shr_104 (by decide) ?_
  exact sbX6_shr_108 C Lh0 Kh0 Hkb31 h
def bkX6_shr_83 (G : qG) (h0 : Nat) (x1 : Int32) (x2 : Int32) (x3 : Int32) (x4 : Int32) (x5 : Int32) (s0 : Int32) (post : Int32 → qS → Prop) (kb31 : Int32 → Int32 → qS → Prop) (σ : qS) : Prop := ((x4 = 0 → wpX6_digit G h0 x2 x5 σ (fun (u18 : Int32) (σ17 : qS) => (((u18 &&& s0) = 0 → bkX6_shr_108 G h0 x1 x2 x3 x5 0 post kb31 σ17) ∧ (¬ (u18 &&& s0) = 0 → bkX6_shr_103 G h0 x1 x2 x3 x5 post kb31 σ17)))) ∧ (¬ x4 = 0 → bkX6_shr_103 G h0 x1 x2 x3 x5 post kb31 σ))
set_option maxHeartbeats 4000000 in
set_option maxRecDepth 100000 in
theorem sbX6_shr_83 {p : Program} {l : Launch} {e : Env} {s : State} {m : MethodId} {args : Array Value} {below : List Frame} {meth : Method} {c : Code} {E : qE} {L : List Nat} {G : qG} {A : Nat → Prop} (C : q_C p s m args meth c cX6_shr 7 wsX6_shr RX6 (some .int) E L G A) {h0 : Nat} {x1 : Int32} {x2 : Int32} {x3 : Int32} {x4 : Int32} {x5 : Int32} {s0 : Int32} (Lh0 : h0 ∈ L) (Kh0 : G.1 h0 = 6) {post : Int32 → qS → Prop} {kb31 : Int32 → Int32 → qS → Prop} (Hkb31 : ∀ (y4 : Int32) (y5 : Int32) (τ : qS), kb31 y4 y5 τ → Wd p l e (q_rm 3) s m args below meth c E L G A (MQ below (va_Qi post (q_B E L G) A) args s 0 0 A) 7 τ 31 [(0, .ref h0), (1, .int x1), (2, .int x2), (3, .int x3), (4, .int y4), (5, .int y5)] []) {σ : qS} (h : bkX6_shr_83 G h0 x1 x2 x3 x4 x5 s0 post kb31 σ) : Wd p l e (q_rm 3) s m args below meth c E L G A (MQ below (va_Qi post (q_B E L G) A) args s 0 0 A) 7 σ 83 [(0, .ref h0), (1, .int x1), (2, .int x2), (3, .int x3), (4, .int x4), (5, .int x5)] [.int s0] := by
  unfold bkX6_shr_83 at h
  refine q_istore (pc := 83) (lv' := [(6, .int s0), (0, .ref h0), (1, .int x1), (2, .int x2), (3, .int x3), (4, .int x4), (5, .int x5)]) C dX6_shr_83 (by decide) rfl ?_
  refine q_iload (pc := 85) C dX6_shr_85 5 rfl ?_
  refine q_if_ne (tgt := 103) (pc := 87) C dX6_shr_87 (by decide) (fun c15 => ?_) (fun c15 => ?_)
  · replace h := h.2 c15
    refine q_lv (lv' := [(0, .ref h0), (1, .int x1), (2, .int x2), (3, .int x3), (5, .int x5)]) [1, 2, 3, 4, 6] rfl ?_
    exact sbX6_shr_103 C Lh0 Kh0 Hkb31 h
  · replace h := h.1 c15
    refine q_aload_n (pc := 90) C dX6_shr_90 rfl 1 rfl ?_
    refine q_iload_n (pc := 91) C dX6_shr_91 rfl 3 rfl ?_
    refine q_iload (pc := 92) C dX6_shr_92 6 rfl ?_
    refine q_cVi (pc := 94) (As := [.int x2, .int x5]) (ci := 6) (Cn := RX6) (T := TX6) (N := 9) C (sdX6_digit C.2.2.2.2.2.1 C.2.2.2.2.2.2 Lh0 Kh0 h) (cwV 2 C.1.2.2.2.2 gX6_shr_X6_digit rfl rfl rfl (by decide +kernel) (q_room (by decide) (by decide))) Lh0 (qc6 Kh0 _) rfl rfl rfl (Nat.le_of_ble_eq_true rfl) dX6_shr_94 (fun u18 σ17 h => ?_)
    refine q_iload (pc := 97) C dX6_shr_97 0 rfl ?_
    refine q_iand (pc := 99) C dX6_shr_99 ?_
    refine q_if_eq (tgt := 107) (pc := 100) C dX6_shr_100 (by decide) (fun c19 => ?_) (fun c19 => ?_)
    · replace h := h.1 c19
      refine q_iconst (pc := 107) (v := 0) C dX6_shr_107 (by decide) ?_
      refine q_lv (lv' := [(0, .ref h0), (1, .int x1), (2, .int x2), (3, .int x3), (5, .int x5)]) [1, 2, 3, 4, 6] rfl ?_
      exact sbX6_shr_108 C Lh0 Kh0 Hkb31 h
    · replace h := h.2 c19
      refine q_lv (lv' := [(0, .ref h0), (1, .int x1), (2, .int x2), (3, .int x3), (5, .int x5)]) [1, 2, 3, 4, 6] rfl ?_
      exact sbX6_shr_103 C Lh0 Kh0 Hkb31 h
def lpX6_shr_31 (G : qG) (h0 : Nat) (x1 : Int32) (x2 : Int32) (x3 : Int32) (post : Int32 → qS → Prop) (kx116 : Int32 → qS → Prop) : Nat → Int32 → Int32 → qS → Prop
  | 0, _, _, _ => False
  | n + 1, x4, x5, σ => vp_in x2 (G.2.2 ((G.2.1 h0 3))) ∧ (((σ ((G.2.1 h0 3)) x2.toNatClampNeg) ≤ x5 → kx116 x4 σ) ∧ (¬ (σ ((G.2.1 h0 3)) x2.toNatClampNeg) ≤ x5 → ((0 ≤ (lg_cmp ((16 : Int64) * x5.toInt64) x3.toInt64) → kx116 x4 σ) ∧ (¬ 0 ≤ (lg_cmp ((16 : Int64) * x5.toInt64) x3.toInt64) → (((x3 - ((16 : Int32) * x5)) < 16 → bkX6_shr_83 G h0 x1 x2 x3 x4 x5 (((1 : Int32) <<< ((x3 - ((16 : Int32) * x5)) &&& 31)) - 1) post (lpX6_shr_31 G h0 x1 x2 x3 post kx116 n) σ) ∧ (¬ (x3 - ((16 : Int32) * x5)) < 16 → bkX6_shr_83 G h0 x1 x2 x3 x4 x5 65535 post (lpX6_shr_31 G h0 x1 x2 x3 post kx116 n) σ))))))
set_option maxHeartbeats 4000000 in
set_option maxRecDepth 100000 in
theorem slX6_shr_31 {p : Program} {l : Launch} {e : Env} {s : State} {m : MethodId} {args : Array Value} {below : List Frame} {meth : Method} {c : Code} {E : qE} {L : List Nat} {G : qG} {A : Nat → Prop} (C : q_C p s m args meth c cX6_shr 7 wsX6_shr RX6 (some .int) E L G A) {h0 : Nat} {x1 : Int32} {x2 : Int32} {x3 : Int32} (Lh0 : h0 ∈ L) (Kh0 : G.1 h0 = 6) {post : Int32 → qS → Prop} {kx116 : Int32 → qS → Prop} (Hkx116 : ∀ (y4 : Int32) (τ : qS), kx116 y4 τ → Wd p l e (q_rm 3) s m args below meth c E L G A (MQ below (va_Qi post (q_B E L G) A) args s 0 0 A) 7 τ 116 [(0, .ref h0), (1, .int x1), (2, .int x2), (3, .int x3), (4, .int y4)] []) : ∀ (n : Nat) (x4 : Int32) (x5 : Int32) (σ : qS), lpX6_shr_31 G h0 x1 x2 x3 post kx116 n x4 x5 σ → Wd p l e (q_rm 3) s m args below meth c E L G A (MQ below (va_Qi post (q_B E L G) A) args s 0 0 A) 7 σ 31 [(0, .ref h0), (1, .int x1), (2, .int x2), (3, .int x3), (4, .int x4), (5, .int x5)] [] := by
  intro n
  induction n with
  | zero => intro x4 x5 σ h; exact h.elim
  | succ n ih =>
    intro x4 x5 σ h
    unfold lpX6_shr_31 at h
    refine q_iload (pc := 31) C dX6_shr_31 5 rfl ?_
    refine q_aload_n (pc := 33) C dX6_shr_33 rfl 0 rfl ?_
    obtain ⟨Lr10, Kr10⟩ := qw_6_3 C.2.2.2.2.2.2 Lh0 Kh0
    refine q_g6_3 (pc := 34) C Lh0 Kh0 mwX6_shr_0 mwX6_shr_1 dX6_shr_34 ?_
    refine q_iload_n (pc := 37) C dX6_shr_37 rfl 2 rfl ?_
    obtain ⟨b11, h⟩ := h
    refine q_iald (pc := 38) C Lr10 Kr10 b11 dX6_shr_38 ?_
    refine q_icmp_ge (tgt := 116) (pc := 39) C dX6_shr_39 (by decide) (fun c12 => ?_) (fun c12 => ?_)
    · replace h := h.1 c12
      refine q_lv (lv' := [(0, .ref h0), (1, .int x1), (2, .int x2), (3, .int x3), (4, .int x4)]) [0, 1, 2, 3, 4] rfl ?_
      exact Hkx116 x4 σ h
    · replace h := h.2 c12
      refine q_ldc2 (pc := 42) (v := 16) C dX6_shr_42 mwX6_shr_2 ?_
      refine q_iload (pc := 45) C dX6_shr_45 5 rfl ?_
      refine q_i2l (pc := 47) C dX6_shr_47 ?_
      refine q_lmul (pc := 48) C dX6_shr_48 ?_
      refine q_iload_n (pc := 49) C dX6_shr_49 rfl 3 rfl ?_
      refine q_i2l (pc := 50) C dX6_shr_50 ?_
      refine q_lcmp (pc := 51) C dX6_shr_51 ?_
      refine q_if_ge (tgt := 116) (pc := 52) C dX6_shr_52 (by decide) (fun c13 => ?_) (fun c13 => ?_)
      · replace h := h.1 c13
        refine q_lv (lv' := [(0, .ref h0), (1, .int x1), (2, .int x2), (3, .int x3), (4, .int x4)]) [0, 1, 2, 3, 4] rfl ?_
        exact Hkx116 x4 σ h
      · replace h := h.2 c13
        refine q_iload_n (pc := 55) C dX6_shr_55 rfl 3 rfl ?_
        refine q_bipush (pc := 56) (v := 16) C dX6_shr_56 (by decide) ?_
        refine q_iload (pc := 58) C dX6_shr_58 5 rfl ?_
        refine q_imul (pc := 60) C dX6_shr_60 ?_
        refine q_isub (pc := 61) C dX6_shr_61 ?_
        refine q_bipush (pc := 62) (v := 16) C dX6_shr_62 (by decide) ?_
        refine q_icmp_lt (tgt := 72) (pc := 64) C dX6_shr_64 (by decide) (fun c14 => ?_) (fun c14 => ?_)
        · replace h := h.1 c14
          refine q_iconst (pc := 72) (v := 1) C dX6_shr_72 (by decide) ?_
          refine q_iload_n (pc := 73) C dX6_shr_73 rfl 3 rfl ?_
          refine q_bipush (pc := 74) (v := 16) C dX6_shr_74 (by decide) ?_
          refine q_iload (pc := 76) C dX6_shr_76 5 rfl ?_
          refine q_imul (pc := 78) C dX6_shr_78 ?_
          refine q_isub (pc := 79) C dX6_shr_79 ?_
          refine q_ishl (pc := 80) C dX6_shr_80 ?_
          refine q_iconst (pc := 81) (v := 1) C dX6_shr_81 (by decide) ?_
          refine q_isub (pc := 82) C dX6_shr_82 ?_
          exact sbX6_shr_83 C Lh0 Kh0 ih h
        · replace h := h.2 c14
          refine q_ldc (pc := 67) (v := 65535) C dX6_shr_67 mwX6_shr_3 ?_
          refine q_goto (tgt := 83) (pc := 69) C dX6_shr_69 (by decide) ?_
          exact sbX6_shr_83 C Lh0 Kh0 ih h
def bkX6_shr_201 (G : qG) (h0 : Nat) (x1 : Int32) (s0 : Nat) (s1 : Int32) (s2 : Int32) (post : Int32 → qS → Prop) (σ : qS) : Prop := vp_in s1 (G.2.2 s0) ∧ (s2 = 0 ∨ s2 = 1) ∧ ∀ σ34 : qS, σ34 = q_st σ s0 s1.toNatClampNeg s2 → wpX6_keep G h0 x1 14 σ34 (fun (u36 : Int32) (σ35 : qS) => post u36 σ35)
set_option maxHeartbeats 4000000 in
set_option maxRecDepth 100000 in
theorem sbX6_shr_201 {p : Program} {l : Launch} {e : Env} {s : State} {m : MethodId} {args : Array Value} {below : List Frame} {meth : Method} {c : Code} {E : qE} {L : List Nat} {G : qG} {A : Nat → Prop} (C : q_C p s m args meth c cX6_shr 7 wsX6_shr RX6 (some .int) E L G A) {h0 : Nat} {x1 : Int32} {s0 : Nat} {s1 : Int32} {s2 : Int32} (Lh0 : h0 ∈ L) (Kh0 : G.1 h0 = 6) (Ls0 : s0 ∈ L) (Ks0 : G.1 s0 = 9) {post : Int32 → qS → Prop} {σ : qS} (h : bkX6_shr_201 G h0 x1 s0 s1 s2 post σ) : Wd p l e (q_rm 3) s m args below meth c E L G A (MQ below (va_Qi post (q_B E L G) A) args s 0 0 A) 7 σ 201 [(0, .ref h0), (1, .int x1)] [.int s2, .int s1, .ref s0] := by
  unfold bkX6_shr_201 at h
  obtain ⟨b32, h⟩ := h
  obtain ⟨z33, h⟩ := h
  refine q_zast (pc := 201) C Ls0 Ks0 b32 z33 dX6_shr_201 (fun σ34 eσ34 => ?_)
  replace h := h σ34 eσ34
  refine q_aload_n (pc := 202) C dX6_shr_202 rfl 0 rfl ?_
  refine q_iload_n (pc := 203) C dX6_shr_203 rfl 1 rfl ?_
  refine q_bipush (pc := 204) (v := 14) C dX6_shr_204 (by decide) ?_
  refine q_cVi (pc := 206) (As := [.int x1, .int 14]) (ci := 6) (Cn := RX6) (T := TX6) (N := 9) C (sdX6_keep C.2.2.2.2.2.1 C.2.2.2.2.2.2 Lh0 Kh0 h) (cwV 2 C.1.2.2.2.2 gX6_shr_X6_keep rfl rfl rfl (by decide +kernel) (q_room (by decide) (by decide))) Lh0 (qc6 Kh0 _) rfl rfl rfl (Nat.le_of_ble_eq_true rfl) dX6_shr_206 (fun u36 σ35 h => ?_)
  exact q_iret (pc := 209) C dX6_shr_209 h
def bkX6_shr_200 (G : qG) (h0 : Nat) (x1 : Int32) (s0 : Nat) (s1 : Int32) (post : Int32 → qS → Prop) (σ : qS) : Prop := bkX6_shr_201 G h0 x1 s0 s1 0 post σ
set_option maxHeartbeats 4000000 in
set_option maxRecDepth 100000 in
theorem sbX6_shr_200 {p : Program} {l : Launch} {e : Env} {s : State} {m : MethodId} {args : Array Value} {below : List Frame} {meth : Method} {c : Code} {E : qE} {L : List Nat} {G : qG} {A : Nat → Prop} (C : q_C p s m args meth c cX6_shr 7 wsX6_shr RX6 (some .int) E L G A) {h0 : Nat} {x1 : Int32} {s0 : Nat} {s1 : Int32} (Lh0 : h0 ∈ L) (Kh0 : G.1 h0 = 6) (Ls0 : s0 ∈ L) (Ks0 : G.1 s0 = 9) {post : Int32 → qS → Prop} {σ : qS} (h : bkX6_shr_200 G h0 x1 s0 s1 post σ) : Wd p l e (q_rm 3) s m args below meth c E L G A (MQ below (va_Qi post (q_B E L G) A) args s 0 0 A) 7 σ 200 [(0, .ref h0), (1, .int x1)] [.int s1, .ref s0] := by
  unfold bkX6_shr_200 at h
  refine q_iconst (pc := 200) (v := 0) C dX6_shr_200 (by decide) ?_
  exact sbX6_shr_201 C Lh0 Kh0 Ls0 Ks0 h
def bkX6_shr_175 (G : qG) (h0 : Nat) (x1 : Int32) (x5 : Int32) (post : Int32 → qS → Prop) (σ : qS) : Prop := ((x5 = 0 → bkX6_shr_200 G h0 x1 ((G.2.1 h0 4)) 14 post σ) ∧ (¬ x5 = 0 → vp_in 14 (G.2.2 ((G.2.1 h0 3))) ∧ (((σ ((G.2.1 h0 3)) (14 : Int32).toNatClampNeg) ≤ 0 → bkX6_shr_200 G h0 x1 ((G.2.1 h0 4)) 14 post σ) ∧ (¬ (σ ((G.2.1 h0 3)) (14 : Int32).toNatClampNeg) ≤ 0 → bkX6_shr_201 G h0 x1 ((G.2.1 h0 4)) 14 1 post σ))))
set_option maxHeartbeats 4000000 in
set_option maxRecDepth 100000 in
theorem sbX6_shr_175 {p : Program} {l : Launch} {e : Env} {s : State} {m : MethodId} {args : Array Value} {below : List Frame} {meth : Method} {c : Code} {E : qE} {L : List Nat} {G : qG} {A : Nat → Prop} (C : q_C p s m args meth c cX6_shr 7 wsX6_shr RX6 (some .int) E L G A) {h0 : Nat} {x1 : Int32} {x5 : Int32} (Lh0 : h0 ∈ L) (Kh0 : G.1 h0 = 6) {post : Int32 → qS → Prop} {σ : qS} (h : bkX6_shr_175 G h0 x1 x5 post σ) : Wd p l e (q_rm 3) s m args below meth c E L G A (MQ below (va_Qi post (q_B E L G) A) args s 0 0 A) 7 σ 175 [(0, .ref h0), (1, .int x1), (5, .int x5)] [] := by
  unfold bkX6_shr_175 at h
  refine q_aload_n (pc := 175) C dX6_shr_175 rfl 0 rfl ?_
  obtain ⟨Lr30, Kr30⟩ := qw_6_4 C.2.2.2.2.2.2 Lh0 Kh0
  refine q_g6_4 (pc := 176) C Lh0 Kh0 mwX6_shr_0 mwX6_shr_4 dX6_shr_176 ?_
  refine q_bipush (pc := 179) (v := 14) C dX6_shr_179 (by decide) ?_
  refine q_iload (pc := 181) C dX6_shr_181 2 rfl ?_
  refine q_if_eq (tgt := 200) (pc := 183) C dX6_shr_183 (by decide) (fun c31 => ?_) (fun c31 => ?_)
  · replace h := h.1 c31
    refine q_lv (lv' := [(0, .ref h0), (1, .int x1)]) [0, 1] rfl ?_
    exact sbX6_shr_200 C Lh0 Kh0 Lr30 Kr30 h
  · replace h := h.2 c31
    refine q_aload_n (pc := 186) C dX6_shr_186 rfl 0 rfl ?_
    obtain ⟨Lr37, Kr37⟩ := qw_6_3 C.2.2.2.2.2.2 Lh0 Kh0
    refine q_g6_3 (pc := 187) C Lh0 Kh0 mwX6_shr_0 mwX6_shr_1 dX6_shr_187 ?_
    refine q_bipush (pc := 190) (v := 14) C dX6_shr_190 (by decide) ?_
    obtain ⟨b38, h⟩ := h
    refine q_iald (pc := 192) C Lr37 Kr37 b38 dX6_shr_192 ?_
    refine q_if_le (tgt := 200) (pc := 193) C dX6_shr_193 (by decide) (fun c39 => ?_) (fun c39 => ?_)
    · replace h := h.1 c39
      refine q_lv (lv' := [(0, .ref h0), (1, .int x1)]) [0, 1] rfl ?_
      exact sbX6_shr_200 C Lh0 Kh0 Lr30 Kr30 h
    · replace h := h.2 c39
      refine q_iconst (pc := 196) (v := 1) C dX6_shr_196 (by decide) ?_
      refine q_goto (tgt := 201) (pc := 197) C dX6_shr_197 (by decide) ?_
      refine q_lv (lv' := [(0, .ref h0), (1, .int x1)]) [0, 1] rfl ?_
      exact sbX6_shr_201 C Lh0 Kh0 Lr30 Kr30 h
def bkX6_shr_116 (G : qG) (h0 : Nat) (x1 : Int32) (x2 : Int32) (x3 : Int32) (x4 : Int32) (post : Int32 → qS → Prop) (σ : qS) : Prop := vp_in x2 (G.2.2 ((G.2.1 h0 4))) ∧ ∀ v24 : Int32, v24 = σ ((G.2.1 h0 4)) x2.toNatClampNeg → vp_in 14 (G.2.2 ((G.2.1 h0 4))) ∧ ∀ σ26 : qS, σ26 = q_st σ ((G.2.1 h0 4)) (14 : Int32).toNatClampNeg 0 → wpX6_shiftDown G h0 14 x2 x3 σ26 (fun (σ27 : qS) => ((v24 = 0 → bkX6_shr_175 G h0 x1 v24 post σ27) ∧ (¬ v24 = 0 → ((x4 = 0 → bkX6_shr_175 G h0 x1 v24 post σ27) ∧ (¬ x4 = 0 → wpX6_small G h0 13 1 σ27 (fun (σ41 : qS) => wpX6_plus G h0 15 14 13 σ41 (fun (σ43 : qS) => wpX6_move G h0 14 15 σ43 (fun (σ45 : qS) => bkX6_shr_175 G h0 x1 v24 post σ45))))))))
set_option maxHeartbeats 4000000 in
set_option maxRecDepth 100000 in
theorem sbX6_shr_116 {p : Program} {l : Launch} {e : Env} {s : State} {m : MethodId} {args : Array Value} {below : List Frame} {meth : Method} {c : Code} {E : qE} {L : List Nat} {G : qG} {A : Nat → Prop} (C : q_C p s m args meth c cX6_shr 7 wsX6_shr RX6 (some .int) E L G A) {h0 : Nat} {x1 : Int32} {x2 : Int32} {x3 : Int32} {x4 : Int32} (Lh0 : h0 ∈ L) (Kh0 : G.1 h0 = 6) {post : Int32 → qS → Prop} {σ : qS} (h : bkX6_shr_116 G h0 x1 x2 x3 x4 post σ) : Wd p l e (q_rm 3) s m args below meth c E L G A (MQ below (va_Qi post (q_B E L G) A) args s 0 0 A) 7 σ 116 [(0, .ref h0), (1, .int x1), (2, .int x2), (3, .int x3), (4, .int x4)] [] := by
  unfold bkX6_shr_116 at h
  refine q_aload_n (pc := 116) C dX6_shr_116 rfl 0 rfl ?_
  obtain ⟨Lr22, Kr22⟩ := qw_6_4 C.2.2.2.2.2.2 Lh0 Kh0
  refine q_g6_4 (pc := 117) C Lh0 Kh0 mwX6_shr_0 mwX6_shr_4 dX6_shr_117 ?_
  refine q_iload_n (pc := 120) C dX6_shr_120 rfl 2 rfl ?_
  obtain ⟨b23, h⟩ := h
  refine q_zald (pc := 121) C Lr22 Kr22 b23 dX6_shr_121 ?_
  refine q_topi (fun v24 ev24 => ?_)
  replace h := h v24 ev24
  refine q_istore (pc := 122) (lv' := [(5, .int v24), (0, .ref h0), (1, .int x1), (2, .int x2), (3, .int x3), (4, .int x4)]) C dX6_shr_122 (by decide) rfl ?_
  refine q_aload_n (pc := 124) C dX6_shr_124 rfl 1 rfl ?_
  refine q_g6_4 (pc := 125) C Lh0 Kh0 mwX6_shr_0 mwX6_shr_4 dX6_shr_125 ?_
  refine q_bipush (pc := 128) (v := 14) C dX6_shr_128 (by decide) ?_
  refine q_iconst (pc := 130) (v := 0) C dX6_shr_130 (by decide) ?_
  obtain ⟨b25, h⟩ := h
  refine q_zast (pc := 131) C Lr22 Kr22 b25 (Or.inl rfl) dX6_shr_131 (fun σ26 eσ26 => ?_)
  replace h := h σ26 eσ26
  refine q_aload_n (pc := 132) C dX6_shr_132 rfl 1 rfl ?_
  refine q_bipush (pc := 133) (v := 14) C dX6_shr_133 (by decide) ?_
  refine q_iload_n (pc := 135) C dX6_shr_135 rfl 3 rfl ?_
  refine q_iload_n (pc := 136) C dX6_shr_136 rfl 4 rfl ?_
  refine q_cVv (pc := 137) (As := [.int 14, .int x2, .int x3]) (ci := 6) (Cn := RX6) (T := TX6) (N := 9) C (sdX6_shiftDown C.2.2.2.2.2.1 C.2.2.2.2.2.2 Lh0 Kh0 h) (cwV 3 C.1.2.2.2.2 gX6_shr_X6_shiftDown rfl rfl rfl (by decide +kernel) (q_room (by decide) (by decide))) Lh0 (qc6 Kh0 _) rfl rfl rfl (Nat.le_of_ble_eq_true rfl) dX6_shr_137 (fun σ27 h => ?_)
  refine q_iload (pc := 140) C dX6_shr_140 0 rfl ?_
  refine q_if_eq (tgt := 175) (pc := 142) C dX6_shr_142 (by decide) (fun c29 => ?_) (fun c29 => ?_)
  · replace h := h.1 c29
    refine q_lv (lv' := [(0, .ref h0), (1, .int x1), (5, .int v24)]) [1, 2, 0] rfl ?_
    exact sbX6_shr_175 C Lh0 Kh0 h
  · replace h := h.2 c29
    refine q_iload (pc := 145) C dX6_shr_145 5 rfl ?_
    refine q_if_eq (tgt := 175) (pc := 147) C dX6_shr_147 (by decide) (fun c40 => ?_) (fun c40 => ?_)
    · replace h := h.1 c40
      refine q_lv (lv' := [(0, .ref h0), (1, .int x1), (5, .int v24)]) [1, 2, 0] rfl ?_
      exact sbX6_shr_175 C Lh0 Kh0 h
    · replace h := h.2 c40
      refine q_aload_n (pc := 150) C dX6_shr_150 rfl 1 rfl ?_
      refine q_bipush (pc := 151) (v := 13) C dX6_shr_151 (by decide) ?_
      refine q_lconst (pc := 153) (v := 1) C dX6_shr_153 (by decide) ?_
      refine q_cVv (pc := 154) (As := [.int 13, .long 1]) (ci := 6) (Cn := RX6) (T := TX6) (N := 9) C (sdX6_small C.2.2.2.2.2.1 C.2.2.2.2.2.2 Lh0 Kh0 h) (cwV 2 C.1.2.2.2.2 gX6_shr_X6_small rfl rfl rfl (by decide +kernel) (q_room (by decide) (by decide))) Lh0 (qc6 Kh0 _) rfl rfl rfl (Nat.le_of_ble_eq_true rfl) dX6_shr_154 (fun σ41 h => ?_)
      refine q_aload_n (pc := 157) C dX6_shr_157 rfl 1 rfl ?_
      refine q_bipush (pc := 158) (v := 15) C dX6_shr_158 (by decide) ?_
      refine q_bipush (pc := 160) (v := 14) C dX6_shr_160 (by decide) ?_
      refine q_bipush (pc := 162) (v := 13) C dX6_shr_162 (by decide) ?_
      refine q_cVv (pc := 164) (As := [.int 15, .int 14, .int 13]) (ci := 6) (Cn := RX6) (T := TX6) (N := 9) C (sdX6_plus C.2.2.2.2.2.1 C.2.2.2.2.2.2 Lh0 Kh0 h) (cwV 3 C.1.2.2.2.2 gX6_shr_X6_plus rfl rfl rfl (by decide +kernel) (q_room (by decide) (by decide))) Lh0 (qc6 Kh0 _) rfl rfl rfl (Nat.le_of_ble_eq_true rfl) dX6_shr_164 (fun σ43 h => ?_)
      refine q_aload_n (pc := 167) C dX6_shr_167 rfl 1 rfl ?_
      refine q_bipush (pc := 168) (v := 14) C dX6_shr_168 (by decide) ?_
      refine q_bipush (pc := 170) (v := 15) C dX6_shr_170 (by decide) ?_
      refine q_cVv (pc := 172) (As := [.int 14, .int 15]) (ci := 6) (Cn := RX6) (T := TX6) (N := 9) C (sdX6_move C.2.2.2.2.2.1 C.2.2.2.2.2.2 Lh0 Kh0 h) (cwV 2 C.1.2.2.2.2 gX6_shr_X6_move rfl rfl rfl (by decide +kernel) (q_room (by decide) (by decide))) Lh0 (qc6 Kh0 _) rfl rfl rfl (Nat.le_of_ble_eq_true rfl) dX6_shr_172 (fun σ45 h => ?_)
      refine q_lv (lv' := [(0, .ref h0), (1, .int x1), (5, .int v24)]) [1, 2, 0] rfl ?_
      exact sbX6_shr_175 C Lh0 Kh0 h
def wpX6_shr (G : qG) (h0 : Nat) (x1 : Int32) (x2 : Int32) (x3 : Int32) (σ : qS) (post : Int32 → qS → Prop) : Prop := wpX6_is G h0 x1 σ (fun (u2 : Int32) (σ1 : qS) => ((u2 = 0 → post ((-1)) σ1) ∧ (¬ u2 = 0 → wpX6_is G h0 x2 σ1 (fun (u5 : Int32) (σ4 : qS) => ((u5 = 0 → post ((-1)) σ4) ∧ (¬ u5 = 0 → ((0 ≤ x3 → ∀ v8 : Int32, v8 = 0 → ∀ v9 : Int32, v9 = 0 → ∃ n47 : Nat, lpX6_shr_31 G h0 x1 x2 x3 post (fun (w20 : Int32) (σ21 : qS) => bkX6_shr_116 G h0 x1 x2 x3 w20 post σ21) n47 v8 v9 σ4) ∧ (¬ 0 ≤ x3 → post ((-2)) σ4))))))))
set_option maxHeartbeats 4000000 in
set_option maxRecDepth 100000 in
theorem sdX6_shr {l : Launch} {E : qE} {L : List Nat} {G : qG} (hN : L.Nodup) (hG : q_WF G L) {h0 : Nat} {x1 : Int32} {x2 : Int32} {x3 : Int32} (Lh0 : h0 ∈ L) (Kh0 : G.1 h0 = 6) {σ : qS} {post : Int32 → qS → Prop} (h : wpX6_shr G h0 x1 x2 x3 σ post) : MtI l E L G yX6_shr wsX6_shr (q_rm 3) [.ref h0, .int x1, .int x2, .int x3] σ post := by
  refine q_met (Qc := fun sz => va_Qi post (q_B E L G) (q_free L sz)) (cc := cX6_shr) (maxL := 7) (ret := (some .int)) (own := RX6) (by decide) rfl rfl (Nat.le_of_ble_eq_true rfl) hN hG ?_
  intro p e s m below meth c C
  unfold wpX6_shr at h
  refine q_aload_n (pc := 0) C dX6_shr_0 rfl 0 rfl ?_
  refine q_iload_n (pc := 1) C dX6_shr_1 rfl 1 rfl ?_
  refine q_cVi (pc := 2) (As := [.int x1]) (ci := 6) (Cn := RX6) (T := TX6) (N := 9) C (sdX6_is C.2.2.2.2.2.1 C.2.2.2.2.2.2 Lh0 Kh0 h) (cwV 1 C.1.2.2.2.2 gX6_shr_X6_is rfl rfl rfl (by decide +kernel) (q_room (by decide) (by decide))) Lh0 (qc6 Kh0 _) rfl rfl rfl (Nat.le_of_ble_eq_true rfl) dX6_shr_2 (fun u2 σ1 h => ?_)
  refine q_if_eq (tgt := 16) (pc := 5) C dX6_shr_5 (by decide) (fun c3 => ?_) (fun c3 => ?_)
  · replace h := h.1 c3
    refine q_iconst (pc := 16) (v := (-1)) C dX6_shr_16 (by decide) ?_
    exact q_iret (pc := 17) C dX6_shr_17 h
  · replace h := h.2 c3
    refine q_aload_n (pc := 8) C dX6_shr_8 rfl 0 rfl ?_
    refine q_iload_n (pc := 9) C dX6_shr_9 rfl 2 rfl ?_
    refine q_cVi (pc := 10) (As := [.int x2]) (ci := 6) (Cn := RX6) (T := TX6) (N := 9) C (sdX6_is C.2.2.2.2.2.1 C.2.2.2.2.2.2 Lh0 Kh0 h) (cwV 1 C.1.2.2.2.2 gX6_shr_X6_is rfl rfl rfl (by decide +kernel) (q_room (by decide) (by decide))) Lh0 (qc6 Kh0 _) rfl rfl rfl (Nat.le_of_ble_eq_true rfl) dX6_shr_10 (fun u5 σ4 h => ?_)
    refine q_if_ne (tgt := 18) (pc := 13) C dX6_shr_13 (by decide) (fun c6 => ?_) (fun c6 => ?_)
    · replace h := h.2 c6
      refine q_iload_n (pc := 18) C dX6_shr_18 rfl 3 rfl ?_
      refine q_if_ge (tgt := 25) (pc := 19) C dX6_shr_19 (by decide) (fun c7 => ?_) (fun c7 => ?_)
      · replace h := h.1 c7
        refine q_iconst (pc := 25) (v := 0) C dX6_shr_25 (by decide) ?_
        refine q_topi (fun v8 ev8 => ?_)
        replace h := h v8 ev8
        refine q_istore (pc := 26) (lv' := [(4, .int v8), (0, .ref h0), (1, .int x1), (2, .int x2), (3, .int x3)]) C dX6_shr_26 (by decide) rfl ?_
        refine q_iconst (pc := 28) (v := 0) C dX6_shr_28 (by decide) ?_
        refine q_topi (fun v9 ev9 => ?_)
        replace h := h v9 ev9
        refine q_istore (pc := 29) (lv' := [(5, .int v9), (4, .int v8), (0, .ref h0), (1, .int x1), (2, .int x2), (3, .int x3)]) C dX6_shr_29 (by decide) rfl ?_
        refine q_lv (lv' := [(0, .ref h0), (1, .int x1), (2, .int x2), (3, .int x3), (4, .int v8), (5, .int v9)]) [2, 3, 4, 5, 1, 0] rfl ?_
        obtain ⟨n47, h⟩ := h
        refine slX6_shr_31 C Lh0 Kh0 ?_ n47 v8 v9 σ4 h
        · intro w20 σ21 h
          exact sbX6_shr_116 C Lh0 Kh0 h
      · replace h := h.2 c7
        refine q_bipush (pc := 22) (v := (-2)) C dX6_shr_22 (by decide) ?_
        exact q_iret (pc := 24) C dX6_shr_24 h
    · replace h := h.1 c6
      refine q_iconst (pc := 16) (v := (-1)) C dX6_shr_16 (by decide) ?_
      exact q_iret (pc := 17) C dX6_shr_17 h
theorem mwX6_gcd_0 : ∀ w ∈ wsX60, w ∈ wsX6_gcd := by decide +kernel
theorem mwX6_gcd_1 : Cond.fieldLink RX6 13 "IntFileModel" "lens" "[I" ∈ wsX6_gcd := by decide +kernel
theorem mwX6_gcd_2 : Cond.fieldLink RX6 16 "IntFileModel" "below" "[Z" ∈ wsX6_gcd := by decide +kernel
def lpX6_gcd_40 (G : qG) (h0 : Nat) (x1 : Int32) (post : Int32 → qS → Prop) (kx77 : qS → Prop) : Nat → qS → Prop
  | 0, _ => False
  | n + 1, σ => vp_in 21 (G.2.2 ((G.2.1 h0 3))) ∧ (((σ ((G.2.1 h0 3)) (21 : Int32).toNatClampNeg) ≤ 0 → kx77 σ) ∧ (¬ (σ ((G.2.1 h0 3)) (21 : Int32).toNatClampNeg) ≤ 0 → wpX6_divide G h0 20 21 σ (fun (σ17 : qS) => wpX6_move G h0 20 21 σ17 (fun (σ19 : qS) => wpX6_move G h0 21 17 σ19 (fun (σ21 : qS) => lpX6_gcd_40 G h0 x1 post kx77 n  σ21)))))
set_option maxHeartbeats 4000000 in
set_option maxRecDepth 100000 in
theorem slX6_gcd_40 {p : Program} {l : Launch} {e : Env} {s : State} {m : MethodId} {args : Array Value} {below : List Frame} {meth : Method} {c : Code} {E : qE} {L : List Nat} {G : qG} {A : Nat → Prop} (C : q_C p s m args meth c cX6_gcd 4 wsX6_gcd RX6 (some .int) E L G A) {h0 : Nat} {x1 : Int32} (Lh0 : h0 ∈ L) (Kh0 : G.1 h0 = 6) {post : Int32 → qS → Prop} {kx77 : qS → Prop} (Hkx77 : ∀  (τ : qS), kx77  τ → Wd p l e (q_rm 4) s m args below meth c E L G A (MQ below (va_Qi post (q_B E L G) A) args s 0 0 A) 4 τ 77 [(0, .ref h0), (1, .int x1)] []) : ∀ (n : Nat)  (σ : qS), lpX6_gcd_40 G h0 x1 post kx77 n  σ → Wd p l e (q_rm 4) s m args below meth c E L G A (MQ below (va_Qi post (q_B E L G) A) args s 0 0 A) 4 σ 40 [(0, .ref h0), (1, .int x1)] [] := by
  intro n
  induction n with
  | zero => intro  σ h; exact h.elim
  | succ n ih =>
    intro  σ h
    unfold lpX6_gcd_40 at h
    refine q_aload_n (pc := 40) C dX6_gcd_40 rfl 0 rfl ?_
    obtain ⟨Lr14, Kr14⟩ := qw_6_3 C.2.2.2.2.2.2 Lh0 Kh0
    refine q_g6_3 (pc := 41) C Lh0 Kh0 mwX6_gcd_0 mwX6_gcd_1 dX6_gcd_41 ?_
    refine q_bipush (pc := 44) (v := 21) C dX6_gcd_44 (by decide) ?_
    obtain ⟨b15, h⟩ := h
    refine q_iald (pc := 46) C Lr14 Kr14 b15 dX6_gcd_46 ?_
    refine q_if_le (tgt := 77) (pc := 47) C dX6_gcd_47 (by decide) (fun c16 => ?_) (fun c16 => ?_)
    · replace h := h.1 c16
      exact Hkx77  σ h
    · replace h := h.2 c16
      refine q_aload_n (pc := 50) C dX6_gcd_50 rfl 0 rfl ?_
      refine q_bipush (pc := 51) (v := 20) C dX6_gcd_51 (by decide) ?_
      refine q_bipush (pc := 53) (v := 21) C dX6_gcd_53 (by decide) ?_
      refine q_cVv (pc := 55) (As := [.int 20, .int 21]) (ci := 6) (Cn := RX6) (T := TX6) (N := 9) C (sdX6_divide C.2.2.2.2.2.1 C.2.2.2.2.2.2 Lh0 Kh0 h) (cwV 2 C.1.2.2.2.2 gX6_gcd_X6_divide rfl rfl rfl (by decide +kernel) (q_room (by decide) (by decide))) Lh0 (qc6 Kh0 _) rfl rfl rfl (Nat.le_of_ble_eq_true rfl) dX6_gcd_55 (fun σ17 h => ?_)
      refine q_aload_n (pc := 58) C dX6_gcd_58 rfl 0 rfl ?_
      refine q_bipush (pc := 59) (v := 20) C dX6_gcd_59 (by decide) ?_
      refine q_bipush (pc := 61) (v := 21) C dX6_gcd_61 (by decide) ?_
      refine q_cVv (pc := 63) (As := [.int 20, .int 21]) (ci := 6) (Cn := RX6) (T := TX6) (N := 9) C (sdX6_move C.2.2.2.2.2.1 C.2.2.2.2.2.2 Lh0 Kh0 h) (cwV 2 C.1.2.2.2.2 gX6_gcd_X6_move rfl rfl rfl (by decide +kernel) (q_room (by decide) (by decide))) Lh0 (qc6 Kh0 _) rfl rfl rfl (Nat.le_of_ble_eq_true rfl) dX6_gcd_63 (fun σ19 h => ?_)
      refine q_aload_n (pc := 66) C dX6_gcd_66 rfl 0 rfl ?_
      refine q_bipush (pc := 67) (v := 21) C dX6_gcd_67 (by decide) ?_
      refine q_bipush (pc := 69) (v := 17) C dX6_gcd_69 (by decide) ?_
      refine q_cVv (pc := 71) (As := [.int 21, .int 17]) (ci := 6) (Cn := RX6) (T := TX6) (N := 9) C (sdX6_move C.2.2.2.2.2.1 C.2.2.2.2.2.2 Lh0 Kh0 h) (cwV 2 C.1.2.2.2.2 gX6_gcd_X6_move rfl rfl rfl (by decide +kernel) (q_room (by decide) (by decide))) Lh0 (qc6 Kh0 _) rfl rfl rfl (Nat.le_of_ble_eq_true rfl) dX6_gcd_71 (fun σ21 h => ?_)
      refine q_goto (tgt := 40) (pc := 74) C dX6_gcd_74 (by decide) ?_
      exact ih  σ21 h
def wpX6_gcd (G : qG) (h0 : Nat) (x1 : Int32) (x2 : Int32) (x3 : Int32) (σ : qS) (post : Int32 → qS → Prop) : Prop := wpX6_is G h0 x1 σ (fun (u2 : Int32) (σ1 : qS) => ((u2 = 0 → post ((-1)) σ1) ∧ (¬ u2 = 0 → wpX6_is G h0 x2 σ1 (fun (u5 : Int32) (σ4 : qS) => ((u5 = 0 → post ((-1)) σ4) ∧ (¬ u5 = 0 → wpX6_is G h0 x3 σ4 (fun (u8 : Int32) (σ7 : qS) => ((u8 = 0 → post ((-1)) σ7) ∧ (¬ u8 = 0 → wpX6_move G h0 20 x2 σ7 (fun (σ10 : qS) => wpX6_move G h0 21 x3 σ10 (fun (σ12 : qS) => ∃ n29 : Nat, lpX6_gcd_40 G h0 x1 post (fun  (σ23 : qS) => vp_in 20 (G.2.2 ((G.2.1 h0 4))) ∧ ∀ σ26 : qS, σ26 = q_st σ23 ((G.2.1 h0 4)) (20 : Int32).toNatClampNeg 0 → wpX6_keep G h0 x1 20 σ26 (fun (u28 : Int32) (σ27 : qS) => post u28 σ27)) n29  σ12)))))))))))
set_option maxHeartbeats 4000000 in
set_option maxRecDepth 100000 in
theorem sdX6_gcd {l : Launch} {E : qE} {L : List Nat} {G : qG} (hN : L.Nodup) (hG : q_WF G L) {h0 : Nat} {x1 : Int32} {x2 : Int32} {x3 : Int32} (Lh0 : h0 ∈ L) (Kh0 : G.1 h0 = 6) {σ : qS} {post : Int32 → qS → Prop} (h : wpX6_gcd G h0 x1 x2 x3 σ post) : MtI l E L G yX6_gcd wsX6_gcd (q_rm 4) [.ref h0, .int x1, .int x2, .int x3] σ post := by
  refine q_met (Qc := fun sz => va_Qi post (q_B E L G) (q_free L sz)) (cc := cX6_gcd) (maxL := 4) (ret := (some .int)) (own := RX6) (by decide) rfl rfl (Nat.le_of_ble_eq_true rfl) hN hG ?_
  intro p e s m below meth c C
  unfold wpX6_gcd at h
  refine q_aload_n (pc := 0) C dX6_gcd_0 rfl 0 rfl ?_
  refine q_iload_n (pc := 1) C dX6_gcd_1 rfl 1 rfl ?_
  refine q_cVi (pc := 2) (As := [.int x1]) (ci := 6) (Cn := RX6) (T := TX6) (N := 9) C (sdX6_is C.2.2.2.2.2.1 C.2.2.2.2.2.2 Lh0 Kh0 h) (cwV 1 C.1.2.2.2.2 gX6_gcd_X6_is rfl rfl rfl (by decide +kernel) (q_room (by decide) (by decide))) Lh0 (qc6 Kh0 _) rfl rfl rfl (Nat.le_of_ble_eq_true rfl) dX6_gcd_2 (fun u2 σ1 h => ?_)
  refine q_if_eq (tgt := 24) (pc := 5) C dX6_gcd_5 (by decide) (fun c3 => ?_) (fun c3 => ?_)
  · replace h := h.1 c3
    refine q_iconst (pc := 24) (v := (-1)) C dX6_gcd_24 (by decide) ?_
    exact q_iret (pc := 25) C dX6_gcd_25 h
  · replace h := h.2 c3
    refine q_aload_n (pc := 8) C dX6_gcd_8 rfl 0 rfl ?_
    refine q_iload_n (pc := 9) C dX6_gcd_9 rfl 2 rfl ?_
    refine q_cVi (pc := 10) (As := [.int x2]) (ci := 6) (Cn := RX6) (T := TX6) (N := 9) C (sdX6_is C.2.2.2.2.2.1 C.2.2.2.2.2.2 Lh0 Kh0 h) (cwV 1 C.1.2.2.2.2 gX6_gcd_X6_is rfl rfl rfl (by decide +kernel) (q_room (by decide) (by decide))) Lh0 (qc6 Kh0 _) rfl rfl rfl (Nat.le_of_ble_eq_true rfl) dX6_gcd_10 (fun u5 σ4 h => ?_)
    refine q_if_eq (tgt := 24) (pc := 13) C dX6_gcd_13 (by decide) (fun c6 => ?_) (fun c6 => ?_)
    · replace h := h.1 c6
      refine q_iconst (pc := 24) (v := (-1)) C dX6_gcd_24 (by decide) ?_
      exact q_iret (pc := 25) C dX6_gcd_25 h
    · replace h := h.2 c6
      refine q_aload_n (pc := 16) C dX6_gcd_16 rfl 0 rfl ?_
      refine q_iload_n (pc := 17) C dX6_gcd_17 rfl 3 rfl ?_
      refine q_cVi (pc := 18) (As := [.int x3]) (ci := 6) (Cn := RX6) (T := TX6) (N := 9) C (sdX6_is C.2.2.2.2.2.1 C.2.2.2.2.2.2 Lh0 Kh0 h) (cwV 1 C.1.2.2.2.2 gX6_gcd_X6_is rfl rfl rfl (by decide +kernel) (q_room (by decide) (by decide))) Lh0 (qc6 Kh0 _) rfl rfl rfl (Nat.le_of_ble_eq_true rfl) dX6_gcd_18 (fun u8 σ7 h => ?_)
      refine q_if_ne (tgt := 26) (pc := 21) C dX6_gcd_21 (by decide) (fun c9 => ?_) (fun c9 => ?_)
      · replace h := h.2 c9
        refine q_aload_n (pc := 26) C dX6_gcd_26 rfl 0 rfl ?_
        refine q_bipush (pc := 27) (v := 20) C dX6_gcd_27 (by decide) ?_
        refine q_iload_n (pc := 29) C dX6_gcd_29 rfl 2 rfl ?_
        refine q_cVv (pc := 30) (As := [.int 20, .int x2]) (ci := 6) (Cn := RX6) (T := TX6) (N := 9) C (sdX6_move C.2.2.2.2.2.1 C.2.2.2.2.2.2 Lh0 Kh0 h) (cwV 2 C.1.2.2.2.2 gX6_gcd_X6_move rfl rfl rfl (by decide +kernel) (q_room (by decide) (by decide))) Lh0 (qc6 Kh0 _) rfl rfl rfl (Nat.le_of_ble_eq_true rfl) dX6_gcd_30 (fun σ10 h => ?_)
        refine q_aload_n (pc := 33) C dX6_gcd_33 rfl 0 rfl ?_
        refine q_bipush (pc := 34) (v := 21) C dX6_gcd_34 (by decide) ?_
        refine q_iload_n (pc := 36) C dX6_gcd_36 rfl 3 rfl ?_
        refine q_cVv (pc := 37) (As := [.int 21, .int x3]) (ci := 6) (Cn := RX6) (T := TX6) (N := 9) C (sdX6_move C.2.2.2.2.2.1 C.2.2.2.2.2.2 Lh0 Kh0 h) (cwV 2 C.1.2.2.2.2 gX6_gcd_X6_move rfl rfl rfl (by decide +kernel) (q_room (by decide) (by decide))) Lh0 (qc6 Kh0 _) rfl rfl rfl (Nat.le_of_ble_eq_true rfl) dX6_gcd_37 (fun σ12 h => ?_)
        refine q_lv (lv' := [(0, .ref h0), (1, .int x1)]) [0, 1] rfl ?_
        obtain ⟨n29, h⟩ := h
        refine slX6_gcd_40 C Lh0 Kh0 ?_ n29  σ12 h
        · intro σ23 h
          refine q_aload_n (pc := 77) C dX6_gcd_77 rfl 0 rfl ?_
          obtain ⟨Lr24, Kr24⟩ := qw_6_4 C.2.2.2.2.2.2 Lh0 Kh0
          refine q_g6_4 (pc := 78) C Lh0 Kh0 mwX6_gcd_0 mwX6_gcd_2 dX6_gcd_78 ?_
          refine q_bipush (pc := 81) (v := 20) C dX6_gcd_81 (by decide) ?_
          refine q_iconst (pc := 83) (v := 0) C dX6_gcd_83 (by decide) ?_
          obtain ⟨b25, h⟩ := h
          refine q_zast (pc := 84) C Lr24 Kr24 b25 (Or.inl rfl) dX6_gcd_84 (fun σ26 eσ26 => ?_)
          replace h := h σ26 eσ26
          refine q_aload_n (pc := 85) C dX6_gcd_85 rfl 0 rfl ?_
          refine q_iload_n (pc := 86) C dX6_gcd_86 rfl 1 rfl ?_
          refine q_bipush (pc := 87) (v := 20) C dX6_gcd_87 (by decide) ?_
          refine q_cVi (pc := 89) (As := [.int x1, .int 20]) (ci := 6) (Cn := RX6) (T := TX6) (N := 9) C (sdX6_keep C.2.2.2.2.2.1 C.2.2.2.2.2.2 Lh0 Kh0 h) (cwV 2 C.1.2.2.2.2 gX6_gcd_X6_keep rfl rfl rfl (by decide +kernel) (q_room (by decide) (by decide))) Lh0 (qc6 Kh0 _) rfl rfl rfl (Nat.le_of_ble_eq_true rfl) dX6_gcd_89 (fun u28 σ27 h => ?_)
          exact q_iret (pc := 92) C dX6_gcd_92 h
      · replace h := h.1 c9
        refine q_iconst (pc := 24) (v := (-1)) C dX6_gcd_24 (by decide) ?_
        exact q_iret (pc := 25) C dX6_gcd_25 h
def wpX6_timesRest (G : qG) (h0 : Nat) (x1 : Int32) (σ : qS) (post : qS → Prop) : Prop := wpX6_times G h0 15 20 x1 σ (fun (σ1 : qS) => wpX6_divide G h0 15 22 σ1 (fun (σ3 : qS) => wpX6_move G h0 20 17 σ3 (fun (σ5 : qS) => post σ5)))
set_option maxHeartbeats 4000000 in
set_option maxRecDepth 100000 in
theorem sdX6_timesRest {l : Launch} {E : qE} {L : List Nat} {G : qG} (hN : L.Nodup) (hG : q_WF G L) {h0 : Nat} {x1 : Int32} (Lh0 : h0 ∈ L) (Kh0 : G.1 h0 = 6) {σ : qS} {post : qS → Prop} (h : wpX6_timesRest G h0 x1 σ post) : MtV l E L G yX6_timesRest wsX6_timesRest (q_rm 4) [.ref h0, .int x1] σ post := by
  refine q_met (Qc := fun sz => va_Qv post (q_B E L G) (q_free L sz)) (cc := cX6_timesRest) (maxL := 2) (ret := none) (own := RX6) (by decide) rfl rfl (Nat.le_of_ble_eq_true rfl) hN hG ?_
  intro p e s m below meth c C
  unfold wpX6_timesRest at h
  refine q_aload_n (pc := 0) C dX6_timesRest_0 rfl 0 rfl ?_
  refine q_bipush (pc := 1) (v := 15) C dX6_timesRest_1 (by decide) ?_
  refine q_bipush (pc := 3) (v := 20) C dX6_timesRest_3 (by decide) ?_
  refine q_iload_n (pc := 5) C dX6_timesRest_5 rfl 1 rfl ?_
  refine q_cVv (pc := 6) (As := [.int 15, .int 20, .int x1]) (ci := 6) (Cn := RX6) (T := TX6) (N := 9) C (sdX6_times C.2.2.2.2.2.1 C.2.2.2.2.2.2 Lh0 Kh0 h) (cwV 3 C.1.2.2.2.2 gX6_timesRest_X6_times rfl rfl rfl (by decide +kernel) (q_room (by decide) (by decide))) Lh0 (qc6 Kh0 _) rfl rfl rfl (Nat.le_of_ble_eq_true rfl) dX6_timesRest_6 (fun σ1 h => ?_)
  refine q_aload_n (pc := 9) C dX6_timesRest_9 rfl 0 rfl ?_
  refine q_bipush (pc := 10) (v := 15) C dX6_timesRest_10 (by decide) ?_
  refine q_bipush (pc := 12) (v := 22) C dX6_timesRest_12 (by decide) ?_
  refine q_cVv (pc := 14) (As := [.int 15, .int 22]) (ci := 6) (Cn := RX6) (T := TX6) (N := 9) C (sdX6_divide C.2.2.2.2.2.1 C.2.2.2.2.2.2 Lh0 Kh0 h) (cwV 2 C.1.2.2.2.2 gX6_timesRest_X6_divide rfl rfl rfl (by decide +kernel) (q_room (by decide) (by decide))) Lh0 (qc6 Kh0 _) rfl rfl rfl (Nat.le_of_ble_eq_true rfl) dX6_timesRest_14 (fun σ3 h => ?_)
  refine q_aload_n (pc := 17) C dX6_timesRest_17 rfl 0 rfl ?_
  refine q_bipush (pc := 18) (v := 20) C dX6_timesRest_18 (by decide) ?_
  refine q_bipush (pc := 20) (v := 17) C dX6_timesRest_20 (by decide) ?_
  refine q_cVv (pc := 22) (As := [.int 20, .int 17]) (ci := 6) (Cn := RX6) (T := TX6) (N := 9) C (sdX6_move C.2.2.2.2.2.1 C.2.2.2.2.2.2 Lh0 Kh0 h) (cwV 2 C.1.2.2.2.2 gX6_timesRest_X6_move rfl rfl rfl (by decide +kernel) (q_room (by decide) (by decide))) Lh0 (qc6 Kh0 _) rfl rfl rfl (Nat.le_of_ble_eq_true rfl) dX6_timesRest_22 (fun σ5 h => ?_)
  exact q_vret (pc := 25) C dX6_timesRest_25 h
theorem mwX6_powMod_0 : ∀ w ∈ wsX60, w ∈ wsX6_powMod := by decide +kernel
theorem mwX6_powMod_1 : Cond.fieldLink RX6 13 "IntFileModel" "lens" "[I" ∈ wsX6_powMod := by decide +kernel
theorem mwX6_powMod_2 : Cond.fieldLink RX6 16 "IntFileModel" "below" "[Z" ∈ wsX6_powMod := by decide +kernel
def lpX6_powMod_180 (G : qG) (h0 : Nat) (x1 : Int32) (post : Int32 → qS → Prop) (kx233 : qS → Prop) : Nat → Int32 → qS → Prop
  | 0, _, _ => False
  | n + 1, x6, σ => ((x6 < 0 → kx233 σ) ∧ (¬ x6 < 0 → wpX6_move G h0 12 20 σ (fun (σ46 : qS) => wpX6_timesRest G h0 12 σ46 (fun (σ48 : qS) => wpX6_digit G h0 13 (x6 >>> ((4 : Int32) &&& 31)) σ48 (fun (u51 : Int32) (σ50 : qS) => ((((u51 >>> ((x6 &&& 15) &&& 31)) &&& 1) = 1 → wpX6_timesRest G h0 21 σ50 (fun (σ54 : qS) => ∀ v56 : Int32, v56 = x6 + (-1) → lpX6_powMod_180 G h0 x1 post kx233 n v56 σ54)) ∧ (¬ ((u51 >>> ((x6 &&& 15) &&& 31)) &&& 1) = 1 → ∀ v53 : Int32, v53 = x6 + (-1) → lpX6_powMod_180 G h0 x1 post kx233 n v53 σ50)))))))
set_option maxHeartbeats 4000000 in
set_option maxRecDepth 100000 in
theorem slX6_powMod_180 {p : Program} {l : Launch} {e : Env} {s : State} {m : MethodId} {args : Array Value} {below : List Frame} {meth : Method} {c : Code} {E : qE} {L : List Nat} {G : qG} {A : Nat → Prop} (C : q_C p s m args meth c cX6_powMod 7 wsX6_powMod RX6 (some .int) E L G A) {h0 : Nat} {x1 : Int32} (Lh0 : h0 ∈ L) (Kh0 : G.1 h0 = 6) {post : Int32 → qS → Prop} {kx233 : qS → Prop} (Hkx233 : ∀  (τ : qS), kx233  τ → Wd p l e (q_rm 5) s m args below meth c E L G A (MQ below (va_Qi post (q_B E L G) A) args s 0 0 A) 7 τ 233 [(0, .ref h0), (1, .int x1)] []) : ∀ (n : Nat) (x6 : Int32) (σ : qS), lpX6_powMod_180 G h0 x1 post kx233 n x6 σ → Wd p l e (q_rm 5) s m args below meth c E L G A (MQ below (va_Qi post (q_B E L G) A) args s 0 0 A) 7 σ 180 [(0, .ref h0), (1, .int x1), (6, .int x6)] [] := by
  intro n
  induction n with
  | zero => intro x6 σ h; exact h.elim
  | succ n ih =>
    intro x6 σ h
    unfold lpX6_powMod_180 at h
    refine q_iload (pc := 180) C dX6_powMod_180 2 rfl ?_
    refine q_if_lt (tgt := 233) (pc := 182) C dX6_powMod_182 (by decide) (fun c45 => ?_) (fun c45 => ?_)
    · replace h := h.1 c45
      refine q_lv (lv' := [(0, .ref h0), (1, .int x1)]) [0, 1] rfl ?_
      exact Hkx233  σ h
    · replace h := h.2 c45
      refine q_aload_n (pc := 185) C dX6_powMod_185 rfl 0 rfl ?_
      refine q_bipush (pc := 186) (v := 12) C dX6_powMod_186 (by decide) ?_
      refine q_bipush (pc := 188) (v := 20) C dX6_powMod_188 (by decide) ?_
      refine q_cVv (pc := 190) (As := [.int 12, .int 20]) (ci := 6) (Cn := RX6) (T := TX6) (N := 9) C (sdX6_move C.2.2.2.2.2.1 C.2.2.2.2.2.2 Lh0 Kh0 h) (cwV 2 C.1.2.2.2.2 gX6_powMod_X6_move rfl rfl rfl (by decide +kernel) (q_room (by decide) (by decide))) Lh0 (qc6 Kh0 _) rfl rfl rfl (Nat.le_of_ble_eq_true rfl) dX6_powMod_190 (fun σ46 h => ?_)
      refine q_aload_n (pc := 193) C dX6_powMod_193 rfl 0 rfl ?_
      refine q_bipush (pc := 194) (v := 12) C dX6_powMod_194 (by decide) ?_
      refine q_cVv (pc := 196) (As := [.int 12]) (ci := 6) (Cn := RX6) (T := TX6) (N := 9) C (sdX6_timesRest C.2.2.2.2.2.1 C.2.2.2.2.2.2 Lh0 Kh0 h) (cwV 1 C.1.2.2.2.2 gX6_powMod_X6_timesRest rfl rfl rfl (by decide +kernel) (q_room (by decide) (by decide))) Lh0 (qc6 Kh0 _) rfl rfl rfl (Nat.le_of_ble_eq_true rfl) dX6_powMod_196 (fun σ48 h => ?_)
      refine q_aload_n (pc := 199) C dX6_powMod_199 rfl 0 rfl ?_
      refine q_bipush (pc := 200) (v := 13) C dX6_powMod_200 (by decide) ?_
      refine q_iload (pc := 202) C dX6_powMod_202 2 rfl ?_
      refine q_iconst (pc := 204) (v := 4) C dX6_powMod_204 (by decide) ?_
      refine q_ishr (pc := 205) C dX6_powMod_205 ?_
      refine q_cVi (pc := 206) (As := [.int 13, .int (x6 >>> ((4 : Int32) &&& 31))]) (ci := 6) (Cn := RX6) (T := TX6) (N := 9) C (sdX6_digit C.2.2.2.2.2.1 C.2.2.2.2.2.2 Lh0 Kh0 h) (cwV 2 C.1.2.2.2.2 gX6_powMod_X6_digit rfl rfl rfl (by decide +kernel) (q_room (by decide) (by decide))) Lh0 (qc6 Kh0 _) rfl rfl rfl (Nat.le_of_ble_eq_true rfl) dX6_powMod_206 (fun u51 σ50 h => ?_)
      refine q_iload (pc := 209) C dX6_powMod_209 2 rfl ?_
      refine q_bipush (pc := 211) (v := 15) C dX6_powMod_211 (by decide) ?_
      refine q_iand (pc := 213) C dX6_powMod_213 ?_
      refine q_ishr (pc := 214) C dX6_powMod_214 ?_
      refine q_iconst (pc := 215) (v := 1) C dX6_powMod_215 (by decide) ?_
      refine q_iand (pc := 216) C dX6_powMod_216 ?_
      refine q_iconst (pc := 217) (v := 1) C dX6_powMod_217 (by decide) ?_
      refine q_icmp_ne (tgt := 227) (pc := 218) C dX6_powMod_218 (by decide) (fun c52 => ?_) (fun c52 => ?_)
      · replace h := h.2 c52
        obtain ⟨v53, ev53⟩ : ∃ z : Int32, z = x6 + (-1) := ⟨_, rfl⟩
        replace h := h v53 ev53
        refine q_iinc (pc := 227) (v := v53) (j := 2) (lv' := [(6, .int v53), (0, .ref h0), (1, .int x1)]) C dX6_powMod_227 rfl (by rw [ev53]; rfl) (by decide) rfl ?_
        refine q_goto (tgt := 180) (pc := 230) C dX6_powMod_230 (by decide) ?_
        refine q_lv (lv' := [(0, .ref h0), (1, .int x1), (6, .int v53)]) [1, 2, 0] rfl ?_
        exact ih v53 σ50 h
      · replace h := h.1 c52
        refine q_aload_n (pc := 221) C dX6_powMod_221 rfl 0 rfl ?_
        refine q_bipush (pc := 222) (v := 21) C dX6_powMod_222 (by decide) ?_
        refine q_cVv (pc := 224) (As := [.int 21]) (ci := 6) (Cn := RX6) (T := TX6) (N := 9) C (sdX6_timesRest C.2.2.2.2.2.1 C.2.2.2.2.2.2 Lh0 Kh0 h) (cwV 1 C.1.2.2.2.2 gX6_powMod_X6_timesRest rfl rfl rfl (by decide +kernel) (q_room (by decide) (by decide))) Lh0 (qc6 Kh0 _) rfl rfl rfl (Nat.le_of_ble_eq_true rfl) dX6_powMod_224 (fun σ54 h => ?_)
        obtain ⟨v56, ev56⟩ : ∃ z : Int32, z = x6 + (-1) := ⟨_, rfl⟩
        replace h := h v56 ev56
        refine q_iinc (pc := 227) (v := v56) (j := 2) (lv' := [(6, .int v56), (0, .ref h0), (1, .int x1)]) C dX6_powMod_227 rfl (by rw [ev56]; rfl) (by decide) rfl ?_
        refine q_goto (tgt := 180) (pc := 230) C dX6_powMod_230 (by decide) ?_
        refine q_lv (lv' := [(0, .ref h0), (1, .int x1), (6, .int v56)]) [1, 2, 0] rfl ?_
        exact ih v56 σ54 h
def bkX6_powMod_129 (G : qG) (h0 : Nat) (x1 : Int32) (x3 : Int32) (post : Int32 → qS → Prop) (σ : qS) : Prop := vp_in 21 (G.2.2 ((G.2.1 h0 4))) ∧ ∀ σ33 : qS, σ33 = q_st σ ((G.2.1 h0 4)) (21 : Int32).toNatClampNeg 0 → wpX6_bitsOf G h0 x3 σ33 (fun (u35 : Int32) (σ34 : qS) => wpX6_move G h0 13 x3 σ34 (fun (σ36 : qS) => wpX6_small G h0 12 1 σ36 (fun (σ38 : qS) => wpX6_divide G h0 12 22 σ38 (fun (σ40 : qS) => wpX6_move G h0 20 17 σ40 (fun (σ42 : qS) => ∀ v44 : Int32, v44 = u35 - 1 → ∃ n60 : Nat, lpX6_powMod_180 G h0 x1 post (fun  (σ57 : qS) => wpX6_keep G h0 x1 20 σ57 (fun (u59 : Int32) (σ58 : qS) => post u59 σ58)) n60 v44 σ42)))))
set_option maxHeartbeats 4000000 in
set_option maxRecDepth 100000 in
theorem sbX6_powMod_129 {p : Program} {l : Launch} {e : Env} {s : State} {m : MethodId} {args : Array Value} {below : List Frame} {meth : Method} {c : Code} {E : qE} {L : List Nat} {G : qG} {A : Nat → Prop} (C : q_C p s m args meth c cX6_powMod 7 wsX6_powMod RX6 (some .int) E L G A) {h0 : Nat} {x1 : Int32} {x3 : Int32} (Lh0 : h0 ∈ L) (Kh0 : G.1 h0 = 6) {post : Int32 → qS → Prop} {σ : qS} (h : bkX6_powMod_129 G h0 x1 x3 post σ) : Wd p l e (q_rm 5) s m args below meth c E L G A (MQ below (va_Qi post (q_B E L G) A) args s 0 0 A) 7 σ 129 [(0, .ref h0), (1, .int x1), (3, .int x3)] [] := by
  unfold bkX6_powMod_129 at h
  refine q_aload_n (pc := 129) C dX6_powMod_129 rfl 0 rfl ?_
  obtain ⟨Lr31, Kr31⟩ := qw_6_4 C.2.2.2.2.2.2 Lh0 Kh0
  refine q_g6_4 (pc := 130) C Lh0 Kh0 mwX6_powMod_0 mwX6_powMod_2 dX6_powMod_130 ?_
  refine q_bipush (pc := 133) (v := 21) C dX6_powMod_133 (by decide) ?_
  refine q_iconst (pc := 135) (v := 0) C dX6_powMod_135 (by decide) ?_
  obtain ⟨b32, h⟩ := h
  refine q_zast (pc := 136) C Lr31 Kr31 b32 (Or.inl rfl) dX6_powMod_136 (fun σ33 eσ33 => ?_)
  replace h := h σ33 eσ33
  refine q_aload_n (pc := 137) C dX6_powMod_137 rfl 0 rfl ?_
  refine q_iload_n (pc := 138) C dX6_powMod_138 rfl 2 rfl ?_
  refine q_cVi (pc := 139) (As := [.int x3]) (ci := 6) (Cn := RX6) (T := TX6) (N := 9) C (sdX6_bitsOf C.2.2.2.2.2.1 C.2.2.2.2.2.2 Lh0 Kh0 h) (cwV 1 C.1.2.2.2.2 gX6_powMod_X6_bitsOf rfl rfl rfl (by decide +kernel) (q_room (by decide) (by decide))) Lh0 (qc6 Kh0 _) rfl rfl rfl (Nat.le_of_ble_eq_true rfl) dX6_powMod_139 (fun u35 σ34 h => ?_)
  refine q_istore (pc := 142) (lv' := [(5, .int u35), (0, .ref h0), (1, .int x1), (3, .int x3)]) C dX6_powMod_142 (by decide) rfl ?_
  refine q_aload_n (pc := 144) C dX6_powMod_144 rfl 1 rfl ?_
  refine q_bipush (pc := 145) (v := 13) C dX6_powMod_145 (by decide) ?_
  refine q_iload_n (pc := 147) C dX6_powMod_147 rfl 3 rfl ?_
  refine q_cVv (pc := 148) (As := [.int 13, .int x3]) (ci := 6) (Cn := RX6) (T := TX6) (N := 9) C (sdX6_move C.2.2.2.2.2.1 C.2.2.2.2.2.2 Lh0 Kh0 h) (cwV 2 C.1.2.2.2.2 gX6_powMod_X6_move rfl rfl rfl (by decide +kernel) (q_room (by decide) (by decide))) Lh0 (qc6 Kh0 _) rfl rfl rfl (Nat.le_of_ble_eq_true rfl) dX6_powMod_148 (fun σ36 h => ?_)
  refine q_aload_n (pc := 151) C dX6_powMod_151 rfl 1 rfl ?_
  refine q_bipush (pc := 152) (v := 12) C dX6_powMod_152 (by decide) ?_
  refine q_lconst (pc := 154) (v := 1) C dX6_powMod_154 (by decide) ?_
  refine q_cVv (pc := 155) (As := [.int 12, .long 1]) (ci := 6) (Cn := RX6) (T := TX6) (N := 9) C (sdX6_small C.2.2.2.2.2.1 C.2.2.2.2.2.2 Lh0 Kh0 h) (cwV 2 C.1.2.2.2.2 gX6_powMod_X6_small rfl rfl rfl (by decide +kernel) (q_room (by decide) (by decide))) Lh0 (qc6 Kh0 _) rfl rfl rfl (Nat.le_of_ble_eq_true rfl) dX6_powMod_155 (fun σ38 h => ?_)
  refine q_aload_n (pc := 158) C dX6_powMod_158 rfl 1 rfl ?_
  refine q_bipush (pc := 159) (v := 12) C dX6_powMod_159 (by decide) ?_
  refine q_bipush (pc := 161) (v := 22) C dX6_powMod_161 (by decide) ?_
  refine q_cVv (pc := 163) (As := [.int 12, .int 22]) (ci := 6) (Cn := RX6) (T := TX6) (N := 9) C (sdX6_divide C.2.2.2.2.2.1 C.2.2.2.2.2.2 Lh0 Kh0 h) (cwV 2 C.1.2.2.2.2 gX6_powMod_X6_divide rfl rfl rfl (by decide +kernel) (q_room (by decide) (by decide))) Lh0 (qc6 Kh0 _) rfl rfl rfl (Nat.le_of_ble_eq_true rfl) dX6_powMod_163 (fun σ40 h => ?_)
  refine q_aload_n (pc := 166) C dX6_powMod_166 rfl 1 rfl ?_
  refine q_bipush (pc := 167) (v := 20) C dX6_powMod_167 (by decide) ?_
  refine q_bipush (pc := 169) (v := 17) C dX6_powMod_169 (by decide) ?_
  refine q_cVv (pc := 171) (As := [.int 20, .int 17]) (ci := 6) (Cn := RX6) (T := TX6) (N := 9) C (sdX6_move C.2.2.2.2.2.1 C.2.2.2.2.2.2 Lh0 Kh0 h) (cwV 2 C.1.2.2.2.2 gX6_powMod_X6_move rfl rfl rfl (by decide +kernel) (q_room (by decide) (by decide))) Lh0 (qc6 Kh0 _) rfl rfl rfl (Nat.le_of_ble_eq_true rfl) dX6_powMod_171 (fun σ42 h => ?_)
  refine q_iload (pc := 174) C dX6_powMod_174 0 rfl ?_
  refine q_iconst (pc := 176) (v := 1) C dX6_powMod_176 (by decide) ?_
  refine q_isub (pc := 177) C dX6_powMod_177 ?_
  refine q_topi (fun v44 ev44 => ?_)
  replace h := h v44 ev44
  refine q_istore (pc := 178) (lv' := [(6, .int v44), (5, .int u35), (0, .ref h0), (1, .int x1), (3, .int x3)]) C dX6_powMod_178 (by decide) rfl ?_
  refine q_lv (lv' := [(0, .ref h0), (1, .int x1), (6, .int v44)]) [2, 3, 0] rfl ?_
  obtain ⟨n60, h⟩ := h
  refine slX6_powMod_180 C Lh0 Kh0 ?_ n60 v44 σ42 h
  · intro σ57 h
    refine q_aload_n (pc := 233) C dX6_powMod_233 rfl 0 rfl ?_
    refine q_iload_n (pc := 234) C dX6_powMod_234 rfl 1 rfl ?_
    refine q_bipush (pc := 235) (v := 20) C dX6_powMod_235 (by decide) ?_
    refine q_cVi (pc := 237) (As := [.int x1, .int 20]) (ci := 6) (Cn := RX6) (T := TX6) (N := 9) C (sdX6_keep C.2.2.2.2.2.1 C.2.2.2.2.2.2 Lh0 Kh0 h) (cwV 2 C.1.2.2.2.2 gX6_powMod_X6_keep rfl rfl rfl (by decide +kernel) (q_room (by decide) (by decide))) Lh0 (qc6 Kh0 _) rfl rfl rfl (Nat.le_of_ble_eq_true rfl) dX6_powMod_237 (fun u59 σ58 h => ?_)
    exact q_iret (pc := 240) C dX6_powMod_240 h
def wpX6_powMod (G : qG) (h0 : Nat) (x1 : Int32) (x2 : Int32) (x3 : Int32) (x4 : Int32) (σ : qS) (post : Int32 → qS → Prop) : Prop := wpX6_is G h0 x1 σ (fun (u2 : Int32) (σ1 : qS) => ((u2 = 0 → post ((-1)) σ1) ∧ (¬ u2 = 0 → wpX6_is G h0 x2 σ1 (fun (u5 : Int32) (σ4 : qS) => ((u5 = 0 → post ((-1)) σ4) ∧ (¬ u5 = 0 → wpX6_is G h0 x3 σ4 (fun (u8 : Int32) (σ7 : qS) => ((u8 = 0 → post ((-1)) σ7) ∧ (¬ u8 = 0 → wpX6_is G h0 x4 σ7 (fun (u11 : Int32) (σ10 : qS) => ((u11 = 0 → post ((-1)) σ10) ∧ (¬ u11 = 0 → vp_in x4 (G.2.2 ((G.2.1 h0 3))) ∧ (((σ10 ((G.2.1 h0 3)) x4.toNatClampNeg) = 0 → post ((-2)) σ10) ∧ (¬ (σ10 ((G.2.1 h0 3)) x4.toNatClampNeg) = 0 → vp_in x4 (G.2.2 ((G.2.1 h0 4))) ∧ (((σ10 ((G.2.1 h0 4)) x4.toNatClampNeg) = 0 → vp_in x3 (G.2.2 ((G.2.1 h0 4))) ∧ (((σ10 ((G.2.1 h0 4)) x3.toNatClampNeg) = 0 → vp_in x3 (G.2.2 ((G.2.1 h0 3))) ∧ (((σ10 ((G.2.1 h0 3)) x3.toNatClampNeg) ≤ 4 → wpX6_move G h0 22 x4 σ10 (fun (σ23 : qS) => wpX6_divide G h0 x2 22 σ23 (fun (σ25 : qS) => wpX6_move G h0 21 17 σ25 (fun (σ27 : qS) => vp_in x2 (G.2.2 ((G.2.1 h0 4))) ∧ (((σ27 ((G.2.1 h0 4)) x2.toNatClampNeg) = 0 → bkX6_powMod_129 G h0 x1 x3 post σ27) ∧ (¬ (σ27 ((G.2.1 h0 4)) x2.toNatClampNeg) = 0 → vp_in 17 (G.2.2 ((G.2.1 h0 3))) ∧ (((σ27 ((G.2.1 h0 3)) (17 : Int32).toNatClampNeg) ≤ 0 → bkX6_powMod_129 G h0 x1 x3 post σ27) ∧ (¬ (σ27 ((G.2.1 h0 3)) (17 : Int32).toNatClampNeg) ≤ 0 → wpX6_minus G h0 21 22 17 σ27 (fun (σ63 : qS) => bkX6_powMod_129 G h0 x1 x3 post σ63))))))))) ∧ (¬ (σ10 ((G.2.1 h0 3)) x3.toNatClampNeg) ≤ 4 → post ((-2)) σ10))) ∧ (¬ (σ10 ((G.2.1 h0 4)) x3.toNatClampNeg) = 0 → post ((-2)) σ10))) ∧ (¬ (σ10 ((G.2.1 h0 4)) x4.toNatClampNeg) = 0 → post ((-2)) σ10))))))))))))))))
set_option maxHeartbeats 4000000 in
set_option maxRecDepth 100000 in
theorem sdX6_powMod {l : Launch} {E : qE} {L : List Nat} {G : qG} (hN : L.Nodup) (hG : q_WF G L) {h0 : Nat} {x1 : Int32} {x2 : Int32} {x3 : Int32} {x4 : Int32} (Lh0 : h0 ∈ L) (Kh0 : G.1 h0 = 6) {σ : qS} {post : Int32 → qS → Prop} (h : wpX6_powMod G h0 x1 x2 x3 x4 σ post) : MtI l E L G yX6_powMod wsX6_powMod (q_rm 5) [.ref h0, .int x1, .int x2, .int x3, .int x4] σ post := by
  refine q_met (Qc := fun sz => va_Qi post (q_B E L G) (q_free L sz)) (cc := cX6_powMod) (maxL := 7) (ret := (some .int)) (own := RX6) (by decide) rfl rfl (Nat.le_of_ble_eq_true rfl) hN hG ?_
  intro p e s m below meth c C
  unfold wpX6_powMod at h
  refine q_aload_n (pc := 0) C dX6_powMod_0 rfl 0 rfl ?_
  refine q_iload_n (pc := 1) C dX6_powMod_1 rfl 1 rfl ?_
  refine q_cVi (pc := 2) (As := [.int x1]) (ci := 6) (Cn := RX6) (T := TX6) (N := 9) C (sdX6_is C.2.2.2.2.2.1 C.2.2.2.2.2.2 Lh0 Kh0 h) (cwV 1 C.1.2.2.2.2 gX6_powMod_X6_is rfl rfl rfl (by decide +kernel) (q_room (by decide) (by decide))) Lh0 (qc6 Kh0 _) rfl rfl rfl (Nat.le_of_ble_eq_true rfl) dX6_powMod_2 (fun u2 σ1 h => ?_)
  refine q_if_eq (tgt := 33) (pc := 5) C dX6_powMod_5 (by decide) (fun c3 => ?_) (fun c3 => ?_)
  · replace h := h.1 c3
    refine q_iconst (pc := 33) (v := (-1)) C dX6_powMod_33 (by decide) ?_
    exact q_iret (pc := 34) C dX6_powMod_34 h
  · replace h := h.2 c3
    refine q_aload_n (pc := 8) C dX6_powMod_8 rfl 0 rfl ?_
    refine q_iload_n (pc := 9) C dX6_powMod_9 rfl 2 rfl ?_
    refine q_cVi (pc := 10) (As := [.int x2]) (ci := 6) (Cn := RX6) (T := TX6) (N := 9) C (sdX6_is C.2.2.2.2.2.1 C.2.2.2.2.2.2 Lh0 Kh0 h) (cwV 1 C.1.2.2.2.2 gX6_powMod_X6_is rfl rfl rfl (by decide +kernel) (q_room (by decide) (by decide))) Lh0 (qc6 Kh0 _) rfl rfl rfl (Nat.le_of_ble_eq_true rfl) dX6_powMod_10 (fun u5 σ4 h => ?_)
    refine q_if_eq (tgt := 33) (pc := 13) C dX6_powMod_13 (by decide) (fun c6 => ?_) (fun c6 => ?_)
    · replace h := h.1 c6
      refine q_iconst (pc := 33) (v := (-1)) C dX6_powMod_33 (by decide) ?_
      exact q_iret (pc := 34) C dX6_powMod_34 h
    · replace h := h.2 c6
      refine q_aload_n (pc := 16) C dX6_powMod_16 rfl 0 rfl ?_
      refine q_iload_n (pc := 17) C dX6_powMod_17 rfl 3 rfl ?_
      refine q_cVi (pc := 18) (As := [.int x3]) (ci := 6) (Cn := RX6) (T := TX6) (N := 9) C (sdX6_is C.2.2.2.2.2.1 C.2.2.2.2.2.2 Lh0 Kh0 h) (cwV 1 C.1.2.2.2.2 gX6_powMod_X6_is rfl rfl rfl (by decide +kernel) (q_room (by decide) (by decide))) Lh0 (qc6 Kh0 _) rfl rfl rfl (Nat.le_of_ble_eq_true rfl) dX6_powMod_18 (fun u8 σ7 h => ?_)
      refine q_if_eq (tgt := 33) (pc := 21) C dX6_powMod_21 (by decide) (fun c9 => ?_) (fun c9 => ?_)
      · replace h := h.1 c9
        refine q_iconst (pc := 33) (v := (-1)) C dX6_powMod_33 (by decide) ?_
        exact q_iret (pc := 34) C dX6_powMod_34 h
      · replace h := h.2 c9
        refine q_aload_n (pc := 24) C dX6_powMod_24 rfl 0 rfl ?_
        refine q_iload (pc := 25) C dX6_powMod_25 4 rfl ?_
        refine q_cVi (pc := 27) (As := [.int x4]) (ci := 6) (Cn := RX6) (T := TX6) (N := 9) C (sdX6_is C.2.2.2.2.2.1 C.2.2.2.2.2.2 Lh0 Kh0 h) (cwV 1 C.1.2.2.2.2 gX6_powMod_X6_is rfl rfl rfl (by decide +kernel) (q_room (by decide) (by decide))) Lh0 (qc6 Kh0 _) rfl rfl rfl (Nat.le_of_ble_eq_true rfl) dX6_powMod_27 (fun u11 σ10 h => ?_)
        refine q_if_ne (tgt := 35) (pc := 30) C dX6_powMod_30 (by decide) (fun c12 => ?_) (fun c12 => ?_)
        · replace h := h.2 c12
          refine q_aload_n (pc := 35) C dX6_powMod_35 rfl 0 rfl ?_
          obtain ⟨Lr13, Kr13⟩ := qw_6_3 C.2.2.2.2.2.2 Lh0 Kh0
          refine q_g6_3 (pc := 36) C Lh0 Kh0 mwX6_powMod_0 mwX6_powMod_1 dX6_powMod_36 ?_
          refine q_iload (pc := 39) C dX6_powMod_39 4 rfl ?_
          obtain ⟨b14, h⟩ := h
          refine q_iald (pc := 41) C Lr13 Kr13 b14 dX6_powMod_41 ?_
          refine q_if_eq (tgt := 74) (pc := 42) C dX6_powMod_42 (by decide) (fun c15 => ?_) (fun c15 => ?_)
          · replace h := h.1 c15
            refine q_bipush (pc := 74) (v := (-2)) C dX6_powMod_74 (by decide) ?_
            exact q_iret (pc := 76) C dX6_powMod_76 h
          · replace h := h.2 c15
            refine q_aload_n (pc := 45) C dX6_powMod_45 rfl 0 rfl ?_
            obtain ⟨Lr16, Kr16⟩ := qw_6_4 C.2.2.2.2.2.2 Lh0 Kh0
            refine q_g6_4 (pc := 46) C Lh0 Kh0 mwX6_powMod_0 mwX6_powMod_2 dX6_powMod_46 ?_
            refine q_iload (pc := 49) C dX6_powMod_49 4 rfl ?_
            obtain ⟨b17, h⟩ := h
            refine q_zald (pc := 51) C Lr16 Kr16 b17 dX6_powMod_51 ?_
            refine q_if_ne (tgt := 74) (pc := 52) C dX6_powMod_52 (by decide) (fun c18 => ?_) (fun c18 => ?_)
            · replace h := h.2 c18
              refine q_bipush (pc := 74) (v := (-2)) C dX6_powMod_74 (by decide) ?_
              exact q_iret (pc := 76) C dX6_powMod_76 h
            · replace h := h.1 c18
              refine q_aload_n (pc := 55) C dX6_powMod_55 rfl 0 rfl ?_
              refine q_g6_4 (pc := 56) C Lh0 Kh0 mwX6_powMod_0 mwX6_powMod_2 dX6_powMod_56 ?_
              refine q_iload_n (pc := 59) C dX6_powMod_59 rfl 3 rfl ?_
              obtain ⟨b19, h⟩ := h
              refine q_zald (pc := 60) C Lr16 Kr16 b19 dX6_powMod_60 ?_
              refine q_if_ne (tgt := 74) (pc := 61) C dX6_powMod_61 (by decide) (fun c20 => ?_) (fun c20 => ?_)
              · replace h := h.2 c20
                refine q_bipush (pc := 74) (v := (-2)) C dX6_powMod_74 (by decide) ?_
                exact q_iret (pc := 76) C dX6_powMod_76 h
              · replace h := h.1 c20
                refine q_aload_n (pc := 64) C dX6_powMod_64 rfl 0 rfl ?_
                refine q_g6_3 (pc := 65) C Lh0 Kh0 mwX6_powMod_0 mwX6_powMod_1 dX6_powMod_65 ?_
                refine q_iload_n (pc := 68) C dX6_powMod_68 rfl 3 rfl ?_
                obtain ⟨b21, h⟩ := h
                refine q_iald (pc := 69) C Lr13 Kr13 b21 dX6_powMod_69 ?_
                refine q_iconst (pc := 70) (v := 4) C dX6_powMod_70 (by decide) ?_
                refine q_icmp_le (tgt := 77) (pc := 71) C dX6_powMod_71 (by decide) (fun c22 => ?_) (fun c22 => ?_)
                · replace h := h.1 c22
                  refine q_aload_n (pc := 77) C dX6_powMod_77 rfl 0 rfl ?_
                  refine q_bipush (pc := 78) (v := 22) C dX6_powMod_78 (by decide) ?_
                  refine q_iload (pc := 80) C dX6_powMod_80 4 rfl ?_
                  refine q_cVv (pc := 82) (As := [.int 22, .int x4]) (ci := 6) (Cn := RX6) (T := TX6) (N := 9) C (sdX6_move C.2.2.2.2.2.1 C.2.2.2.2.2.2 Lh0 Kh0 h) (cwV 2 C.1.2.2.2.2 gX6_powMod_X6_move rfl rfl rfl (by decide +kernel) (q_room (by decide) (by decide))) Lh0 (qc6 Kh0 _) rfl rfl rfl (Nat.le_of_ble_eq_true rfl) dX6_powMod_82 (fun σ23 h => ?_)
                  refine q_aload_n (pc := 85) C dX6_powMod_85 rfl 0 rfl ?_
                  refine q_iload_n (pc := 86) C dX6_powMod_86 rfl 2 rfl ?_
                  refine q_bipush (pc := 87) (v := 22) C dX6_powMod_87 (by decide) ?_
                  refine q_cVv (pc := 89) (As := [.int x2, .int 22]) (ci := 6) (Cn := RX6) (T := TX6) (N := 9) C (sdX6_divide C.2.2.2.2.2.1 C.2.2.2.2.2.2 Lh0 Kh0 h) (cwV 2 C.1.2.2.2.2 gX6_powMod_X6_divide rfl rfl rfl (by decide +kernel) (q_room (by decide) (by decide))) Lh0 (qc6 Kh0 _) rfl rfl rfl (Nat.le_of_ble_eq_true rfl) dX6_powMod_89 (fun σ25 h => ?_)
                  refine q_aload_n (pc := 92) C dX6_powMod_92 rfl 0 rfl ?_
                  refine q_bipush (pc := 93) (v := 21) C dX6_powMod_93 (by decide) ?_
                  refine q_bipush (pc := 95) (v := 17) C dX6_powMod_95 (by decide) ?_
                  refine q_cVv (pc := 97) (As := [.int 21, .int 17]) (ci := 6) (Cn := RX6) (T := TX6) (N := 9) C (sdX6_move C.2.2.2.2.2.1 C.2.2.2.2.2.2 Lh0 Kh0 h) (cwV 2 C.1.2.2.2.2 gX6_powMod_X6_move rfl rfl rfl (by decide +kernel) (q_room (by decide) (by decide))) Lh0 (qc6 Kh0 _) rfl rfl rfl (Nat.le_of_ble_eq_true rfl) dX6_powMod_97 (fun σ27 h => ?_)
                  refine q_aload_n (pc := 100) C dX6_powMod_100 rfl 0 rfl ?_
                  refine q_g6_4 (pc := 101) C Lh0 Kh0 mwX6_powMod_0 mwX6_powMod_2 dX6_powMod_101 ?_
                  refine q_iload_n (pc := 104) C dX6_powMod_104 rfl 2 rfl ?_
                  obtain ⟨b29, h⟩ := h
                  refine q_zald (pc := 105) C Lr16 Kr16 b29 dX6_powMod_105 ?_
                  refine q_if_eq (tgt := 129) (pc := 106) C dX6_powMod_106 (by decide) (fun c30 => ?_) (fun c30 => ?_)
                  · replace h := h.1 c30
                    refine q_lv (lv' := [(0, .ref h0), (1, .int x1), (3, .int x3)]) [0, 1, 3] rfl ?_
                    exact sbX6_powMod_129 C Lh0 Kh0 h
                  · replace h := h.2 c30
                    refine q_aload_n (pc := 109) C dX6_powMod_109 rfl 0 rfl ?_
                    refine q_g6_3 (pc := 110) C Lh0 Kh0 mwX6_powMod_0 mwX6_powMod_1 dX6_powMod_110 ?_
                    refine q_bipush (pc := 113) (v := 17) C dX6_powMod_113 (by decide) ?_
                    obtain ⟨b61, h⟩ := h
                    refine q_iald (pc := 115) C Lr13 Kr13 b61 dX6_powMod_115 ?_
                    refine q_if_le (tgt := 129) (pc := 116) C dX6_powMod_116 (by decide) (fun c62 => ?_) (fun c62 => ?_)
                    · replace h := h.1 c62
                      refine q_lv (lv' := [(0, .ref h0), (1, .int x1), (3, .int x3)]) [0, 1, 3] rfl ?_
                      exact sbX6_powMod_129 C Lh0 Kh0 h
                    · replace h := h.2 c62
                      refine q_aload_n (pc := 119) C dX6_powMod_119 rfl 0 rfl ?_
                      refine q_bipush (pc := 120) (v := 21) C dX6_powMod_120 (by decide) ?_
                      refine q_bipush (pc := 122) (v := 22) C dX6_powMod_122 (by decide) ?_
                      refine q_bipush (pc := 124) (v := 17) C dX6_powMod_124 (by decide) ?_
                      refine q_cVv (pc := 126) (As := [.int 21, .int 22, .int 17]) (ci := 6) (Cn := RX6) (T := TX6) (N := 9) C (sdX6_minus C.2.2.2.2.2.1 C.2.2.2.2.2.2 Lh0 Kh0 h) (cwV 3 C.1.2.2.2.2 gX6_powMod_X6_minus rfl rfl rfl (by decide +kernel) (q_room (by decide) (by decide))) Lh0 (qc6 Kh0 _) rfl rfl rfl (Nat.le_of_ble_eq_true rfl) dX6_powMod_126 (fun σ63 h => ?_)
                      refine q_lv (lv' := [(0, .ref h0), (1, .int x1), (3, .int x3)]) [0, 1, 3] rfl ?_
                      exact sbX6_powMod_129 C Lh0 Kh0 h
                · replace h := h.2 c22
                  refine q_bipush (pc := 74) (v := (-2)) C dX6_powMod_74 (by decide) ?_
                  exact q_iret (pc := 76) C dX6_powMod_76 h
        · replace h := h.1 c12
          refine q_iconst (pc := 33) (v := (-1)) C dX6_powMod_33 (by decide) ?_
          exact q_iret (pc := 34) C dX6_powMod_34 h
theorem mwX6_root_0 : ∀ w ∈ wsX60, w ∈ wsX6_root := by decide +kernel
theorem mwX6_root_1 : Cond.fieldLink RX6 16 "IntFileModel" "below" "[Z" ∈ wsX6_root := by decide +kernel
theorem mwX6_root_2 : Cond.fieldLink RX6 13 "IntFileModel" "lens" "[I" ∈ wsX6_root := by decide +kernel
theorem mwX6_root_3 : Cond.constantLong RX6 100 (2) ∈ wsX6_root := by decide +kernel
def lpX6_root_74 (G : qG) (h0 : Nat) (x1 : Int32) (x2 : Int32) (post : Int32 → qS → Prop) (kx216 : qS → Prop) : Nat → Int32 → qS → Prop
  | 0, _, _ => False
  | n + 1, x3, σ => ((x3 < 0 → kx216 σ) ∧ (¬ x3 < 0 → wpX6_digit G h0 x2 (x3 >>> ((3 : Int32) &&& 31)) σ (fun (u24 : Int32) (σ23 : qS) => ∀ v25 : Int32, v25 = (u24 >>> (((2 : Int32) * (x3 &&& 7)) &&& 31)) &&& 3 → wpX6_shiftUp G h0 12 20 2 σ23 (fun (σ26 : qS) => wpX6_small G h0 13 v25.toInt64 σ26 (fun (σ28 : qS) => wpX6_plus G h0 20 12 13 σ28 (fun (σ30 : qS) => wpX6_shiftUp G h0 12 21 1 σ30 (fun (σ32 : qS) => wpX6_small G h0 13 1 σ32 (fun (σ34 : qS) => wpX6_plus G h0 14 12 13 σ34 (fun (σ36 : qS) => wpX6_order G h0 14 20 σ36 (fun (u39 : Int32) (σ38 : qS) => ((0 < u39 → wpX6_move G h0 21 12 σ38 (fun (σ41 : qS) => ∀ v43 : Int32, v43 = x3 + (-1) → lpX6_root_74 G h0 x1 x2 post kx216 n v43 σ41)) ∧ (¬ 0 < u39 → wpX6_minus G h0 15 20 14 σ38 (fun (σ44 : qS) => wpX6_move G h0 20 15 σ44 (fun (σ46 : qS) => wpX6_small G h0 13 2 σ46 (fun (σ48 : qS) => wpX6_plus G h0 21 12 13 σ48 (fun (σ50 : qS) => ∀ v52 : Int32, v52 = x3 + (-1) → lpX6_root_74 G h0 x1 x2 post kx216 n v52 σ50))))))))))))))))
set_option maxHeartbeats 4000000 in
set_option maxRecDepth 100000 in
theorem slX6_root_74 {p : Program} {l : Launch} {e : Env} {s : State} {m : MethodId} {args : Array Value} {below : List Frame} {meth : Method} {c : Code} {E : qE} {L : List Nat} {G : qG} {A : Nat → Prop} (C : q_C p s m args meth c cX6_root 5 wsX6_root RX6 (some .int) E L G A) {h0 : Nat} {x1 : Int32} {x2 : Int32} (Lh0 : h0 ∈ L) (Kh0 : G.1 h0 = 6) {post : Int32 → qS → Prop} {kx216 : qS → Prop} (Hkx216 : ∀  (τ : qS), kx216  τ → Wd p l e (q_rm 3) s m args below meth c E L G A (MQ below (va_Qi post (q_B E L G) A) args s 0 0 A) 5 τ 216 [(0, .ref h0), (1, .int x1)] []) : ∀ (n : Nat) (x3 : Int32) (σ : qS), lpX6_root_74 G h0 x1 x2 post kx216 n x3 σ → Wd p l e (q_rm 3) s m args below meth c E L G A (MQ below (va_Qi post (q_B E L G) A) args s 0 0 A) 5 σ 74 [(0, .ref h0), (1, .int x1), (2, .int x2), (3, .int x3)] [] := by
  intro n
  induction n with
  | zero => intro x3 σ h; exact h.elim
  | succ n ih =>
    intro x3 σ h
    unfold lpX6_root_74 at h
    refine q_iload_n (pc := 74) C dX6_root_74 rfl 3 rfl ?_
    refine q_if_lt (tgt := 216) (pc := 75) C dX6_root_75 (by decide) (fun c22 => ?_) (fun c22 => ?_)
    · replace h := h.1 c22
      refine q_lv (lv' := [(0, .ref h0), (1, .int x1)]) [0, 1] rfl ?_
      exact Hkx216  σ h
    · replace h := h.2 c22
      refine q_aload_n (pc := 78) C dX6_root_78 rfl 0 rfl ?_
      refine q_iload_n (pc := 79) C dX6_root_79 rfl 2 rfl ?_
      refine q_iload_n (pc := 80) C dX6_root_80 rfl 3 rfl ?_
      refine q_iconst (pc := 81) (v := 3) C dX6_root_81 (by decide) ?_
      refine q_ishr (pc := 82) C dX6_root_82 ?_
      refine q_cVi (pc := 83) (As := [.int x2, .int (x3 >>> ((3 : Int32) &&& 31))]) (ci := 6) (Cn := RX6) (T := TX6) (N := 9) C (sdX6_digit C.2.2.2.2.2.1 C.2.2.2.2.2.2 Lh0 Kh0 h) (cwV 2 C.1.2.2.2.2 gX6_root_X6_digit rfl rfl rfl (by decide +kernel) (q_room (by decide) (by decide))) Lh0 (qc6 Kh0 _) rfl rfl rfl (Nat.le_of_ble_eq_true rfl) dX6_root_83 (fun u24 σ23 h => ?_)
      refine q_iconst (pc := 86) (v := 2) C dX6_root_86 (by decide) ?_
      refine q_iload_n (pc := 87) C dX6_root_87 rfl 3 rfl ?_
      refine q_bipush (pc := 88) (v := 7) C dX6_root_88 (by decide) ?_
      refine q_iand (pc := 90) C dX6_root_90 ?_
      refine q_imul (pc := 91) C dX6_root_91 ?_
      refine q_ishr (pc := 92) C dX6_root_92 ?_
      refine q_iconst (pc := 93) (v := 3) C dX6_root_93 (by decide) ?_
      refine q_iand (pc := 94) C dX6_root_94 ?_
      refine q_topi (fun v25 ev25 => ?_)
      replace h := h v25 ev25
      refine q_istore (pc := 95) (lv' := [(4, .int v25), (0, .ref h0), (1, .int x1), (2, .int x2), (3, .int x3)]) C dX6_root_95 (by decide) rfl ?_
      refine q_aload_n (pc := 97) C dX6_root_97 rfl 1 rfl ?_
      refine q_bipush (pc := 98) (v := 12) C dX6_root_98 (by decide) ?_
      refine q_bipush (pc := 100) (v := 20) C dX6_root_100 (by decide) ?_
      refine q_iconst (pc := 102) (v := 2) C dX6_root_102 (by decide) ?_
      refine q_cVv (pc := 103) (As := [.int 12, .int 20, .int 2]) (ci := 6) (Cn := RX6) (T := TX6) (N := 9) C (sdX6_shiftUp C.2.2.2.2.2.1 C.2.2.2.2.2.2 Lh0 Kh0 h) (cwV 3 C.1.2.2.2.2 gX6_root_X6_shiftUp rfl rfl rfl (by decide +kernel) (q_room (by decide) (by decide))) Lh0 (qc6 Kh0 _) rfl rfl rfl (Nat.le_of_ble_eq_true rfl) dX6_root_103 (fun σ26 h => ?_)
      refine q_aload_n (pc := 106) C dX6_root_106 rfl 1 rfl ?_
      refine q_bipush (pc := 107) (v := 13) C dX6_root_107 (by decide) ?_
      refine q_iload (pc := 109) C dX6_root_109 0 rfl ?_
      refine q_i2l (pc := 111) C dX6_root_111 ?_
      refine q_cVv (pc := 112) (As := [.int 13, .long v25.toInt64]) (ci := 6) (Cn := RX6) (T := TX6) (N := 9) C (sdX6_small C.2.2.2.2.2.1 C.2.2.2.2.2.2 Lh0 Kh0 h) (cwV 2 C.1.2.2.2.2 gX6_root_X6_small rfl rfl rfl (by decide +kernel) (q_room (by decide) (by decide))) Lh0 (qc6 Kh0 _) rfl rfl rfl (Nat.le_of_ble_eq_true rfl) dX6_root_112 (fun σ28 h => ?_)
      refine q_aload_n (pc := 115) C dX6_root_115 rfl 1 rfl ?_
      refine q_bipush (pc := 116) (v := 20) C dX6_root_116 (by decide) ?_
      refine q_bipush (pc := 118) (v := 12) C dX6_root_118 (by decide) ?_
      refine q_bipush (pc := 120) (v := 13) C dX6_root_120 (by decide) ?_
      refine q_cVv (pc := 122) (As := [.int 20, .int 12, .int 13]) (ci := 6) (Cn := RX6) (T := TX6) (N := 9) C (sdX6_plus C.2.2.2.2.2.1 C.2.2.2.2.2.2 Lh0 Kh0 h) (cwV 3 C.1.2.2.2.2 gX6_root_X6_plus rfl rfl rfl (by decide +kernel) (q_room (by decide) (by decide))) Lh0 (qc6 Kh0 _) rfl rfl rfl (Nat.le_of_ble_eq_true rfl) dX6_root_122 (fun σ30 h => ?_)
      refine q_aload_n (pc := 125) C dX6_root_125 rfl 1 rfl ?_
      refine q_bipush (pc := 126) (v := 12) C dX6_root_126 (by decide) ?_
      refine q_bipush (pc := 128) (v := 21) C dX6_root_128 (by decide) ?_
      refine q_iconst (pc := 130) (v := 1) C dX6_root_130 (by decide) ?_
      refine q_cVv (pc := 131) (As := [.int 12, .int 21, .int 1]) (ci := 6) (Cn := RX6) (T := TX6) (N := 9) C (sdX6_shiftUp C.2.2.2.2.2.1 C.2.2.2.2.2.2 Lh0 Kh0 h) (cwV 3 C.1.2.2.2.2 gX6_root_X6_shiftUp rfl rfl rfl (by decide +kernel) (q_room (by decide) (by decide))) Lh0 (qc6 Kh0 _) rfl rfl rfl (Nat.le_of_ble_eq_true rfl) dX6_root_131 (fun σ32 h => ?_)
      refine q_aload_n (pc := 134) C dX6_root_134 rfl 1 rfl ?_
      refine q_bipush (pc := 135) (v := 13) C dX6_root_135 (by decide) ?_
      refine q_lconst (pc := 137) (v := 1) C dX6_root_137 (by decide) ?_
      refine q_cVv (pc := 138) (As := [.int 13, .long 1]) (ci := 6) (Cn := RX6) (T := TX6) (N := 9) C (sdX6_small C.2.2.2.2.2.1 C.2.2.2.2.2.2 Lh0 Kh0 h) (cwV 2 C.1.2.2.2.2 gX6_root_X6_small rfl rfl rfl (by decide +kernel) (q_room (by decide) (by decide))) Lh0 (qc6 Kh0 _) rfl rfl rfl (Nat.le_of_ble_eq_true rfl) dX6_root_138 (fun σ34 h => ?_)
      refine q_aload_n (pc := 141) C dX6_root_141 rfl 1 rfl ?_
      refine q_bipush (pc := 142) (v := 14) C dX6_root_142 (by decide) ?_
      refine q_bipush (pc := 144) (v := 12) C dX6_root_144 (by decide) ?_
      refine q_bipush (pc := 146) (v := 13) C dX6_root_146 (by decide) ?_
      refine q_cVv (pc := 148) (As := [.int 14, .int 12, .int 13]) (ci := 6) (Cn := RX6) (T := TX6) (N := 9) C (sdX6_plus C.2.2.2.2.2.1 C.2.2.2.2.2.2 Lh0 Kh0 h) (cwV 3 C.1.2.2.2.2 gX6_root_X6_plus rfl rfl rfl (by decide +kernel) (q_room (by decide) (by decide))) Lh0 (qc6 Kh0 _) rfl rfl rfl (Nat.le_of_ble_eq_true rfl) dX6_root_148 (fun σ36 h => ?_)
      refine q_aload_n (pc := 151) C dX6_root_151 rfl 1 rfl ?_
      refine q_bipush (pc := 152) (v := 14) C dX6_root_152 (by decide) ?_
      refine q_bipush (pc := 154) (v := 20) C dX6_root_154 (by decide) ?_
      refine q_cVi (pc := 156) (As := [.int 14, .int 20]) (ci := 6) (Cn := RX6) (T := TX6) (N := 9) C (sdX6_order C.2.2.2.2.2.1 C.2.2.2.2.2.2 Lh0 Kh0 h) (cwV 2 C.1.2.2.2.2 gX6_root_X6_order rfl rfl rfl (by decide +kernel) (q_room (by decide) (by decide))) Lh0 (qc6 Kh0 _) rfl rfl rfl (Nat.le_of_ble_eq_true rfl) dX6_root_156 (fun u39 σ38 h => ?_)
      refine q_if_gt (tgt := 202) (pc := 159) C dX6_root_159 (by decide) (fun c40 => ?_) (fun c40 => ?_)
      · replace h := h.1 c40
        refine q_aload_n (pc := 202) C dX6_root_202 rfl 1 rfl ?_
        refine q_bipush (pc := 203) (v := 21) C dX6_root_203 (by decide) ?_
        refine q_bipush (pc := 205) (v := 12) C dX6_root_205 (by decide) ?_
        refine q_cVv (pc := 207) (As := [.int 21, .int 12]) (ci := 6) (Cn := RX6) (T := TX6) (N := 9) C (sdX6_move C.2.2.2.2.2.1 C.2.2.2.2.2.2 Lh0 Kh0 h) (cwV 2 C.1.2.2.2.2 gX6_root_X6_move rfl rfl rfl (by decide +kernel) (q_room (by decide) (by decide))) Lh0 (qc6 Kh0 _) rfl rfl rfl (Nat.le_of_ble_eq_true rfl) dX6_root_207 (fun σ41 h => ?_)
        obtain ⟨v43, ev43⟩ : ∃ z : Int32, z = x3 + (-1) := ⟨_, rfl⟩
        replace h := h v43 ev43
        refine q_iinc (pc := 210) (v := v43) (j := 4) (lv' := [(3, .int v43), (4, .int v25), (0, .ref h0), (1, .int x1), (2, .int x2)]) C dX6_root_210 rfl (by rw [ev43]; rfl) (by decide) rfl ?_
        refine q_goto (tgt := 74) (pc := 213) C dX6_root_213 (by decide) ?_
        refine q_lv (lv' := [(0, .ref h0), (1, .int x1), (2, .int x2), (3, .int v43)]) [2, 3, 4, 0] rfl ?_
        exact ih v43 σ41 h
      · replace h := h.2 c40
        refine q_aload_n (pc := 162) C dX6_root_162 rfl 1 rfl ?_
        refine q_bipush (pc := 163) (v := 15) C dX6_root_163 (by decide) ?_
        refine q_bipush (pc := 165) (v := 20) C dX6_root_165 (by decide) ?_
        refine q_bipush (pc := 167) (v := 14) C dX6_root_167 (by decide) ?_
        refine q_cVv (pc := 169) (As := [.int 15, .int 20, .int 14]) (ci := 6) (Cn := RX6) (T := TX6) (N := 9) C (sdX6_minus C.2.2.2.2.2.1 C.2.2.2.2.2.2 Lh0 Kh0 h) (cwV 3 C.1.2.2.2.2 gX6_root_X6_minus rfl rfl rfl (by decide +kernel) (q_room (by decide) (by decide))) Lh0 (qc6 Kh0 _) rfl rfl rfl (Nat.le_of_ble_eq_true rfl) dX6_root_169 (fun σ44 h => ?_)
        refine q_aload_n (pc := 172) C dX6_root_172 rfl 1 rfl ?_
        refine q_bipush (pc := 173) (v := 20) C dX6_root_173 (by decide) ?_
        refine q_bipush (pc := 175) (v := 15) C dX6_root_175 (by decide) ?_
        refine q_cVv (pc := 177) (As := [.int 20, .int 15]) (ci := 6) (Cn := RX6) (T := TX6) (N := 9) C (sdX6_move C.2.2.2.2.2.1 C.2.2.2.2.2.2 Lh0 Kh0 h) (cwV 2 C.1.2.2.2.2 gX6_root_X6_move rfl rfl rfl (by decide +kernel) (q_room (by decide) (by decide))) Lh0 (qc6 Kh0 _) rfl rfl rfl (Nat.le_of_ble_eq_true rfl) dX6_root_177 (fun σ46 h => ?_)
        refine q_aload_n (pc := 180) C dX6_root_180 rfl 1 rfl ?_
        refine q_bipush (pc := 181) (v := 13) C dX6_root_181 (by decide) ?_
        refine q_ldc2 (pc := 183) (v := 2) C dX6_root_183 mwX6_root_3 ?_
        refine q_cVv (pc := 186) (As := [.int 13, .long 2]) (ci := 6) (Cn := RX6) (T := TX6) (N := 9) C (sdX6_small C.2.2.2.2.2.1 C.2.2.2.2.2.2 Lh0 Kh0 h) (cwV 2 C.1.2.2.2.2 gX6_root_X6_small rfl rfl rfl (by decide +kernel) (q_room (by decide) (by decide))) Lh0 (qc6 Kh0 _) rfl rfl rfl (Nat.le_of_ble_eq_true rfl) dX6_root_186 (fun σ48 h => ?_)
        refine q_aload_n (pc := 189) C dX6_root_189 rfl 1 rfl ?_
        refine q_bipush (pc := 190) (v := 21) C dX6_root_190 (by decide) ?_
        refine q_bipush (pc := 192) (v := 12) C dX6_root_192 (by decide) ?_
        refine q_bipush (pc := 194) (v := 13) C dX6_root_194 (by decide) ?_
        refine q_cVv (pc := 196) (As := [.int 21, .int 12, .int 13]) (ci := 6) (Cn := RX6) (T := TX6) (N := 9) C (sdX6_plus C.2.2.2.2.2.1 C.2.2.2.2.2.2 Lh0 Kh0 h) (cwV 3 C.1.2.2.2.2 gX6_root_X6_plus rfl rfl rfl (by decide +kernel) (q_room (by decide) (by decide))) Lh0 (qc6 Kh0 _) rfl rfl rfl (Nat.le_of_ble_eq_true rfl) dX6_root_196 (fun σ50 h => ?_)
        refine q_goto (tgt := 210) (pc := 199) C dX6_root_199 (by decide) ?_
        obtain ⟨v52, ev52⟩ : ∃ z : Int32, z = x3 + (-1) := ⟨_, rfl⟩
        replace h := h v52 ev52
        refine q_iinc (pc := 210) (v := v52) (j := 4) (lv' := [(3, .int v52), (4, .int v25), (0, .ref h0), (1, .int x1), (2, .int x2)]) C dX6_root_210 rfl (by rw [ev52]; rfl) (by decide) rfl ?_
        refine q_goto (tgt := 74) (pc := 213) C dX6_root_213 (by decide) ?_
        refine q_lv (lv' := [(0, .ref h0), (1, .int x1), (2, .int x2), (3, .int v52)]) [2, 3, 4, 0] rfl ?_
        exact ih v52 σ50 h
def wpX6_root (G : qG) (h0 : Nat) (x1 : Int32) (x2 : Int32) (σ : qS) (post : Int32 → qS → Prop) : Prop := wpX6_is G h0 x1 σ (fun (u2 : Int32) (σ1 : qS) => ((u2 = 0 → post ((-1)) σ1) ∧ (¬ u2 = 0 → wpX6_is G h0 x2 σ1 (fun (u5 : Int32) (σ4 : qS) => ((u5 = 0 → post ((-1)) σ4) ∧ (¬ u5 = 0 → vp_in x2 (G.2.2 ((G.2.1 h0 4))) ∧ (((σ4 ((G.2.1 h0 4)) x2.toNatClampNeg) = 0 → vp_in 20 (G.2.2 ((G.2.1 h0 3))) ∧ ∀ σ12 : qS, σ12 = q_st σ4 ((G.2.1 h0 3)) (20 : Int32).toNatClampNeg 0 → vp_in 21 (G.2.2 ((G.2.1 h0 3))) ∧ ∀ σ14 : qS, σ14 = q_st σ12 ((G.2.1 h0 3)) (21 : Int32).toNatClampNeg 0 → vp_in 20 (G.2.2 ((G.2.1 h0 4))) ∧ ∀ σ16 : qS, σ16 = q_st σ14 ((G.2.1 h0 4)) (20 : Int32).toNatClampNeg 0 → vp_in 21 (G.2.2 ((G.2.1 h0 4))) ∧ ∀ σ18 : qS, σ18 = q_st σ16 ((G.2.1 h0 4)) (21 : Int32).toNatClampNeg 0 → wpX6_bitsOf G h0 x2 σ18 (fun (u20 : Int32) (σ19 : qS) => ∀ v21 : Int32, v21 = ((u20 + 1) / 2) - 1 → ∃ n60 : Nat, lpX6_root_74 G h0 x1 x2 post (fun  (σ53 : qS) => wpX6_shiftDown G h0 14 21 1 σ53 (fun (σ54 : qS) => vp_in 14 (G.2.2 ((G.2.1 h0 4))) ∧ ∀ σ57 : qS, σ57 = q_st σ54 ((G.2.1 h0 4)) (14 : Int32).toNatClampNeg 0 → wpX6_keep G h0 x1 14 σ57 (fun (u59 : Int32) (σ58 : qS) => post u59 σ58))) n60 v21 σ19)) ∧ (¬ (σ4 ((G.2.1 h0 4)) x2.toNatClampNeg) = 0 → post ((-2)) σ4))))))))
set_option maxHeartbeats 4000000 in
set_option maxRecDepth 100000 in
theorem sdX6_root {l : Launch} {E : qE} {L : List Nat} {G : qG} (hN : L.Nodup) (hG : q_WF G L) {h0 : Nat} {x1 : Int32} {x2 : Int32} (Lh0 : h0 ∈ L) (Kh0 : G.1 h0 = 6) {σ : qS} {post : Int32 → qS → Prop} (h : wpX6_root G h0 x1 x2 σ post) : MtI l E L G yX6_root wsX6_root (q_rm 3) [.ref h0, .int x1, .int x2] σ post := by
  refine q_met (Qc := fun sz => va_Qi post (q_B E L G) (q_free L sz)) (cc := cX6_root) (maxL := 5) (ret := (some .int)) (own := RX6) (by decide) rfl rfl (Nat.le_of_ble_eq_true rfl) hN hG ?_
  intro p e s m below meth c C
  unfold wpX6_root at h
  refine q_aload_n (pc := 0) C dX6_root_0 rfl 0 rfl ?_
  refine q_iload_n (pc := 1) C dX6_root_1 rfl 1 rfl ?_
  refine q_cVi (pc := 2) (As := [.int x1]) (ci := 6) (Cn := RX6) (T := TX6) (N := 9) C (sdX6_is C.2.2.2.2.2.1 C.2.2.2.2.2.2 Lh0 Kh0 h) (cwV 1 C.1.2.2.2.2 gX6_root_X6_is rfl rfl rfl (by decide +kernel) (q_room (by decide) (by decide))) Lh0 (qc6 Kh0 _) rfl rfl rfl (Nat.le_of_ble_eq_true rfl) dX6_root_2 (fun u2 σ1 h => ?_)
  refine q_if_eq (tgt := 16) (pc := 5) C dX6_root_5 (by decide) (fun c3 => ?_) (fun c3 => ?_)
  · replace h := h.1 c3
    refine q_iconst (pc := 16) (v := (-1)) C dX6_root_16 (by decide) ?_
    exact q_iret (pc := 17) C dX6_root_17 h
  · replace h := h.2 c3
    refine q_aload_n (pc := 8) C dX6_root_8 rfl 0 rfl ?_
    refine q_iload_n (pc := 9) C dX6_root_9 rfl 2 rfl ?_
    refine q_cVi (pc := 10) (As := [.int x2]) (ci := 6) (Cn := RX6) (T := TX6) (N := 9) C (sdX6_is C.2.2.2.2.2.1 C.2.2.2.2.2.2 Lh0 Kh0 h) (cwV 1 C.1.2.2.2.2 gX6_root_X6_is rfl rfl rfl (by decide +kernel) (q_room (by decide) (by decide))) Lh0 (qc6 Kh0 _) rfl rfl rfl (Nat.le_of_ble_eq_true rfl) dX6_root_10 (fun u5 σ4 h => ?_)
    refine q_if_ne (tgt := 18) (pc := 13) C dX6_root_13 (by decide) (fun c6 => ?_) (fun c6 => ?_)
    · replace h := h.2 c6
      refine q_aload_n (pc := 18) C dX6_root_18 rfl 0 rfl ?_
      obtain ⟨Lr7, Kr7⟩ := qw_6_4 C.2.2.2.2.2.2 Lh0 Kh0
      refine q_g6_4 (pc := 19) C Lh0 Kh0 mwX6_root_0 mwX6_root_1 dX6_root_19 ?_
      refine q_iload_n (pc := 22) C dX6_root_22 rfl 2 rfl ?_
      obtain ⟨b8, h⟩ := h
      refine q_zald (pc := 23) C Lr7 Kr7 b8 dX6_root_23 ?_
      refine q_if_eq (tgt := 30) (pc := 24) C dX6_root_24 (by decide) (fun c9 => ?_) (fun c9 => ?_)
      · replace h := h.1 c9
        refine q_aload_n (pc := 30) C dX6_root_30 rfl 0 rfl ?_
        obtain ⟨Lr10, Kr10⟩ := qw_6_3 C.2.2.2.2.2.2 Lh0 Kh0
        refine q_g6_3 (pc := 31) C Lh0 Kh0 mwX6_root_0 mwX6_root_2 dX6_root_31 ?_
        refine q_bipush (pc := 34) (v := 20) C dX6_root_34 (by decide) ?_
        refine q_iconst (pc := 36) (v := 0) C dX6_root_36 (by decide) ?_
        obtain ⟨b11, h⟩ := h
        refine q_iast (pc := 37) C Lr10 Kr10 b11 dX6_root_37 (fun σ12 eσ12 => ?_)
        replace h := h σ12 eσ12
        refine q_aload_n (pc := 38) C dX6_root_38 rfl 0 rfl ?_
        refine q_g6_3 (pc := 39) C Lh0 Kh0 mwX6_root_0 mwX6_root_2 dX6_root_39 ?_
        refine q_bipush (pc := 42) (v := 21) C dX6_root_42 (by decide) ?_
        refine q_iconst (pc := 44) (v := 0) C dX6_root_44 (by decide) ?_
        obtain ⟨b13, h⟩ := h
        refine q_iast (pc := 45) C Lr10 Kr10 b13 dX6_root_45 (fun σ14 eσ14 => ?_)
        replace h := h σ14 eσ14
        refine q_aload_n (pc := 46) C dX6_root_46 rfl 0 rfl ?_
        refine q_g6_4 (pc := 47) C Lh0 Kh0 mwX6_root_0 mwX6_root_1 dX6_root_47 ?_
        refine q_bipush (pc := 50) (v := 20) C dX6_root_50 (by decide) ?_
        refine q_iconst (pc := 52) (v := 0) C dX6_root_52 (by decide) ?_
        obtain ⟨b15, h⟩ := h
        refine q_zast (pc := 53) C Lr7 Kr7 b15 (Or.inl rfl) dX6_root_53 (fun σ16 eσ16 => ?_)
        replace h := h σ16 eσ16
        refine q_aload_n (pc := 54) C dX6_root_54 rfl 0 rfl ?_
        refine q_g6_4 (pc := 55) C Lh0 Kh0 mwX6_root_0 mwX6_root_1 dX6_root_55 ?_
        refine q_bipush (pc := 58) (v := 21) C dX6_root_58 (by decide) ?_
        refine q_iconst (pc := 60) (v := 0) C dX6_root_60 (by decide) ?_
        obtain ⟨b17, h⟩ := h
        refine q_zast (pc := 61) C Lr7 Kr7 b17 (Or.inl rfl) dX6_root_61 (fun σ18 eσ18 => ?_)
        replace h := h σ18 eσ18
        refine q_aload_n (pc := 62) C dX6_root_62 rfl 0 rfl ?_
        refine q_iload_n (pc := 63) C dX6_root_63 rfl 2 rfl ?_
        refine q_cVi (pc := 64) (As := [.int x2]) (ci := 6) (Cn := RX6) (T := TX6) (N := 9) C (sdX6_bitsOf C.2.2.2.2.2.1 C.2.2.2.2.2.2 Lh0 Kh0 h) (cwV 1 C.1.2.2.2.2 gX6_root_X6_bitsOf rfl rfl rfl (by decide +kernel) (q_room (by decide) (by decide))) Lh0 (qc6 Kh0 _) rfl rfl rfl (Nat.le_of_ble_eq_true rfl) dX6_root_64 (fun u20 σ19 h => ?_)
        refine q_iconst (pc := 67) (v := 1) C dX6_root_67 (by decide) ?_
        refine q_iadd (pc := 68) C dX6_root_68 ?_
        refine q_iconst (pc := 69) (v := 2) C dX6_root_69 (by decide) ?_
        refine q_idiv (pc := 70) C dX6_root_70 (by decide) ?_
        refine q_iconst (pc := 71) (v := 1) C dX6_root_71 (by decide) ?_
        refine q_isub (pc := 72) C dX6_root_72 ?_
        refine q_topi (fun v21 ev21 => ?_)
        replace h := h v21 ev21
        refine q_istore_n (pc := 73) (lv' := [(3, .int v21), (0, .ref h0), (1, .int x1), (2, .int x2)]) C dX6_root_73 rfl (by decide) rfl ?_
        refine q_lv (lv' := [(0, .ref h0), (1, .int x1), (2, .int x2), (3, .int v21)]) [1, 2, 3, 0] rfl ?_
        obtain ⟨n60, h⟩ := h
        refine slX6_root_74 C Lh0 Kh0 ?_ n60 v21 σ19 h
        · intro σ53 h
          refine q_aload_n (pc := 216) C dX6_root_216 rfl 0 rfl ?_
          refine q_bipush (pc := 217) (v := 14) C dX6_root_217 (by decide) ?_
          refine q_bipush (pc := 219) (v := 21) C dX6_root_219 (by decide) ?_
          refine q_iconst (pc := 221) (v := 1) C dX6_root_221 (by decide) ?_
          refine q_cVv (pc := 222) (As := [.int 14, .int 21, .int 1]) (ci := 6) (Cn := RX6) (T := TX6) (N := 9) C (sdX6_shiftDown C.2.2.2.2.2.1 C.2.2.2.2.2.2 Lh0 Kh0 h) (cwV 3 C.1.2.2.2.2 gX6_root_X6_shiftDown rfl rfl rfl (by decide +kernel) (q_room (by decide) (by decide))) Lh0 (qc6 Kh0 _) rfl rfl rfl (Nat.le_of_ble_eq_true rfl) dX6_root_222 (fun σ54 h => ?_)
          refine q_aload_n (pc := 225) C dX6_root_225 rfl 0 rfl ?_
          refine q_g6_4 (pc := 226) C Lh0 Kh0 mwX6_root_0 mwX6_root_1 dX6_root_226 ?_
          refine q_bipush (pc := 229) (v := 14) C dX6_root_229 (by decide) ?_
          refine q_iconst (pc := 231) (v := 0) C dX6_root_231 (by decide) ?_
          obtain ⟨b56, h⟩ := h
          refine q_zast (pc := 232) C Lr7 Kr7 b56 (Or.inl rfl) dX6_root_232 (fun σ57 eσ57 => ?_)
          replace h := h σ57 eσ57
          refine q_aload_n (pc := 233) C dX6_root_233 rfl 0 rfl ?_
          refine q_iload_n (pc := 234) C dX6_root_234 rfl 1 rfl ?_
          refine q_bipush (pc := 235) (v := 14) C dX6_root_235 (by decide) ?_
          refine q_cVi (pc := 237) (As := [.int x1, .int 14]) (ci := 6) (Cn := RX6) (T := TX6) (N := 9) C (sdX6_keep C.2.2.2.2.2.1 C.2.2.2.2.2.2 Lh0 Kh0 h) (cwV 2 C.1.2.2.2.2 gX6_root_X6_keep rfl rfl rfl (by decide +kernel) (q_room (by decide) (by decide))) Lh0 (qc6 Kh0 _) rfl rfl rfl (Nat.le_of_ble_eq_true rfl) dX6_root_237 (fun u59 σ58 h => ?_)
          exact q_iret (pc := 240) C dX6_root_240 h
      · replace h := h.2 c9
        refine q_bipush (pc := 27) (v := (-2)) C dX6_root_27 (by decide) ?_
        exact q_iret (pc := 29) C dX6_root_29 h
    · replace h := h.1 c6
      refine q_iconst (pc := 16) (v := (-1)) C dX6_root_16 (by decide) ?_
      exact q_iret (pc := 17) C dX6_root_17 h
theorem mwX6_cmp_0 : ∀ w ∈ wsX60, w ∈ wsX6_cmp := by decide +kernel
theorem mwX6_cmp_1 : Cond.fieldLink RX6 16 "IntFileModel" "below" "[Z" ∈ wsX6_cmp := by decide +kernel
def wpX6_cmp (G : qG) (h0 : Nat) (x1 : Int32) (x2 : Int32) (σ : qS) (post : Int32 → qS → Prop) : Prop := wpX6_is G h0 x1 σ (fun (u2 : Int32) (σ1 : qS) => ((u2 = 0 → post 2 σ1) ∧ (¬ u2 = 0 → wpX6_is G h0 x2 σ1 (fun (u5 : Int32) (σ4 : qS) => ((u5 = 0 → post 2 σ4) ∧ (¬ u5 = 0 → vp_in x1 (G.2.2 ((G.2.1 h0 4))) ∧ vp_in x2 (G.2.2 ((G.2.1 h0 4))) ∧ (((σ4 ((G.2.1 h0 4)) x1.toNatClampNeg) = (σ4 ((G.2.1 h0 4)) x2.toNatClampNeg) → vp_in x1 (G.2.2 ((G.2.1 h0 4))) ∧ (((σ4 ((G.2.1 h0 4)) x1.toNatClampNeg) = 0 → wpX6_order G h0 x1 x2 σ4 (fun (u14 : Int32) (σ13 : qS) => post u14 σ13)) ∧ (¬ (σ4 ((G.2.1 h0 4)) x1.toNatClampNeg) = 0 → wpX6_order G h0 x2 x1 σ4 (fun (u16 : Int32) (σ15 : qS) => post u16 σ15)))) ∧ (¬ (σ4 ((G.2.1 h0 4)) x1.toNatClampNeg) = (σ4 ((G.2.1 h0 4)) x2.toNatClampNeg) → vp_in x1 (G.2.2 ((G.2.1 h0 4))) ∧ (((σ4 ((G.2.1 h0 4)) x1.toNatClampNeg) = 0 → post 1 σ4) ∧ (¬ (σ4 ((G.2.1 h0 4)) x1.toNatClampNeg) = 0 → post ((-1)) σ4))))))))))
set_option maxHeartbeats 4000000 in
set_option maxRecDepth 100000 in
theorem sdX6_cmp {l : Launch} {E : qE} {L : List Nat} {G : qG} (hN : L.Nodup) (hG : q_WF G L) {h0 : Nat} {x1 : Int32} {x2 : Int32} (Lh0 : h0 ∈ L) (Kh0 : G.1 h0 = 6) {σ : qS} {post : Int32 → qS → Prop} (h : wpX6_cmp G h0 x1 x2 σ post) : MtI l E L G yX6_cmp wsX6_cmp (q_rm 3) [.ref h0, .int x1, .int x2] σ post := by
  refine q_met (Qc := fun sz => va_Qi post (q_B E L G) (q_free L sz)) (cc := cX6_cmp) (maxL := 3) (ret := (some .int)) (own := RX6) (by decide) rfl rfl (Nat.le_of_ble_eq_true rfl) hN hG ?_
  intro p e s m below meth c C
  unfold wpX6_cmp at h
  refine q_aload_n (pc := 0) C dX6_cmp_0 rfl 0 rfl ?_
  refine q_iload_n (pc := 1) C dX6_cmp_1 rfl 1 rfl ?_
  refine q_cVi (pc := 2) (As := [.int x1]) (ci := 6) (Cn := RX6) (T := TX6) (N := 9) C (sdX6_is C.2.2.2.2.2.1 C.2.2.2.2.2.2 Lh0 Kh0 h) (cwV 1 C.1.2.2.2.2 gX6_cmp_X6_is rfl rfl rfl (by decide +kernel) (q_room (by decide) (by decide))) Lh0 (qc6 Kh0 _) rfl rfl rfl (Nat.le_of_ble_eq_true rfl) dX6_cmp_2 (fun u2 σ1 h => ?_)
  refine q_if_eq (tgt := 16) (pc := 5) C dX6_cmp_5 (by decide) (fun c3 => ?_) (fun c3 => ?_)
  · replace h := h.1 c3
    refine q_iconst (pc := 16) (v := 2) C dX6_cmp_16 (by decide) ?_
    exact q_iret (pc := 17) C dX6_cmp_17 h
  · replace h := h.2 c3
    refine q_aload_n (pc := 8) C dX6_cmp_8 rfl 0 rfl ?_
    refine q_iload_n (pc := 9) C dX6_cmp_9 rfl 2 rfl ?_
    refine q_cVi (pc := 10) (As := [.int x2]) (ci := 6) (Cn := RX6) (T := TX6) (N := 9) C (sdX6_is C.2.2.2.2.2.1 C.2.2.2.2.2.2 Lh0 Kh0 h) (cwV 1 C.1.2.2.2.2 gX6_cmp_X6_is rfl rfl rfl (by decide +kernel) (q_room (by decide) (by decide))) Lh0 (qc6 Kh0 _) rfl rfl rfl (Nat.le_of_ble_eq_true rfl) dX6_cmp_10 (fun u5 σ4 h => ?_)
    refine q_if_ne (tgt := 18) (pc := 13) C dX6_cmp_13 (by decide) (fun c6 => ?_) (fun c6 => ?_)
    · replace h := h.2 c6
      refine q_aload_n (pc := 18) C dX6_cmp_18 rfl 0 rfl ?_
      obtain ⟨Lr7, Kr7⟩ := qw_6_4 C.2.2.2.2.2.2 Lh0 Kh0
      refine q_g6_4 (pc := 19) C Lh0 Kh0 mwX6_cmp_0 mwX6_cmp_1 dX6_cmp_19 ?_
      refine q_iload_n (pc := 22) C dX6_cmp_22 rfl 1 rfl ?_
      obtain ⟨b8, h⟩ := h
      refine q_zald (pc := 23) C Lr7 Kr7 b8 dX6_cmp_23 ?_
      refine q_aload_n (pc := 24) C dX6_cmp_24 rfl 0 rfl ?_
      refine q_g6_4 (pc := 25) C Lh0 Kh0 mwX6_cmp_0 mwX6_cmp_1 dX6_cmp_25 ?_
      refine q_iload_n (pc := 28) C dX6_cmp_28 rfl 2 rfl ?_
      obtain ⟨b9, h⟩ := h
      refine q_zald (pc := 29) C Lr7 Kr7 b9 dX6_cmp_29 ?_
      refine q_icmp_eq (tgt := 48) (pc := 30) C dX6_cmp_30 (by decide) (fun c10 => ?_) (fun c10 => ?_)
      · replace h := h.1 c10
        refine q_aload_n (pc := 48) C dX6_cmp_48 rfl 0 rfl ?_
        refine q_g6_4 (pc := 49) C Lh0 Kh0 mwX6_cmp_0 mwX6_cmp_1 dX6_cmp_49 ?_
        refine q_iload_n (pc := 52) C dX6_cmp_52 rfl 1 rfl ?_
        obtain ⟨b11, h⟩ := h
        refine q_zald (pc := 53) C Lr7 Kr7 b11 dX6_cmp_53 ?_
        refine q_if_eq (tgt := 66) (pc := 54) C dX6_cmp_54 (by decide) (fun c12 => ?_) (fun c12 => ?_)
        · replace h := h.1 c12
          refine q_aload_n (pc := 66) C dX6_cmp_66 rfl 0 rfl ?_
          refine q_iload_n (pc := 67) C dX6_cmp_67 rfl 1 rfl ?_
          refine q_iload_n (pc := 68) C dX6_cmp_68 rfl 2 rfl ?_
          refine q_cVi (pc := 69) (As := [.int x1, .int x2]) (ci := 6) (Cn := RX6) (T := TX6) (N := 9) C (sdX6_order C.2.2.2.2.2.1 C.2.2.2.2.2.2 Lh0 Kh0 h) (cwV 2 C.1.2.2.2.2 gX6_cmp_X6_order rfl rfl rfl (by decide +kernel) (q_room (by decide) (by decide))) Lh0 (qc6 Kh0 _) rfl rfl rfl (Nat.le_of_ble_eq_true rfl) dX6_cmp_69 (fun u14 σ13 h => ?_)
          exact q_iret (pc := 72) C dX6_cmp_72 h
        · replace h := h.2 c12
          refine q_aload_n (pc := 57) C dX6_cmp_57 rfl 0 rfl ?_
          refine q_iload_n (pc := 58) C dX6_cmp_58 rfl 2 rfl ?_
          refine q_iload_n (pc := 59) C dX6_cmp_59 rfl 1 rfl ?_
          refine q_cVi (pc := 60) (As := [.int x2, .int x1]) (ci := 6) (Cn := RX6) (T := TX6) (N := 9) C (sdX6_order C.2.2.2.2.2.1 C.2.2.2.2.2.2 Lh0 Kh0 h) (cwV 2 C.1.2.2.2.2 gX6_cmp_X6_order rfl rfl rfl (by decide +kernel) (q_room (by decide) (by decide))) Lh0 (qc6 Kh0 _) rfl rfl rfl (Nat.le_of_ble_eq_true rfl) dX6_cmp_60 (fun u16 σ15 h => ?_)
          refine q_goto (tgt := 72) (pc := 63) C dX6_cmp_63 (by decide) ?_
          exact q_iret (pc := 72) C dX6_cmp_72 h
      · replace h := h.2 c10
        refine q_aload_n (pc := 33) C dX6_cmp_33 rfl 0 rfl ?_
        refine q_g6_4 (pc := 34) C Lh0 Kh0 mwX6_cmp_0 mwX6_cmp_1 dX6_cmp_34 ?_
        refine q_iload_n (pc := 37) C dX6_cmp_37 rfl 1 rfl ?_
        obtain ⟨b17, h⟩ := h
        refine q_zald (pc := 38) C Lr7 Kr7 b17 dX6_cmp_38 ?_
        refine q_if_eq (tgt := 46) (pc := 39) C dX6_cmp_39 (by decide) (fun c18 => ?_) (fun c18 => ?_)
        · replace h := h.1 c18
          refine q_iconst (pc := 46) (v := 1) C dX6_cmp_46 (by decide) ?_
          exact q_iret (pc := 47) C dX6_cmp_47 h
        · replace h := h.2 c18
          refine q_iconst (pc := 42) (v := (-1)) C dX6_cmp_42 (by decide) ?_
          refine q_goto (tgt := 47) (pc := 43) C dX6_cmp_43 (by decide) ?_
          exact q_iret (pc := 47) C dX6_cmp_47 h
    · replace h := h.1 c6
      refine q_iconst (pc := 16) (v := 2) C dX6_cmp_16 (by decide) ?_
      exact q_iret (pc := 17) C dX6_cmp_17 h
theorem mwX6_sign_0 : ∀ w ∈ wsX60, w ∈ wsX6_sign := by decide +kernel
theorem mwX6_sign_1 : Cond.fieldLink RX6 16 "IntFileModel" "below" "[Z" ∈ wsX6_sign := by decide +kernel
theorem mwX6_sign_2 : Cond.fieldLink RX6 13 "IntFileModel" "lens" "[I" ∈ wsX6_sign := by decide +kernel
def wpX6_sign (G : qG) (h0 : Nat) (x1 : Int32) (σ : qS) (post : Int32 → qS → Prop) : Prop := wpX6_is G h0 x1 σ (fun (u2 : Int32) (σ1 : qS) => ((u2 = 0 → post 2 σ1) ∧ (¬ u2 = 0 → vp_in x1 (G.2.2 ((G.2.1 h0 4))) ∧ (((σ1 ((G.2.1 h0 4)) x1.toNatClampNeg) = 0 → vp_in x1 (G.2.2 ((G.2.1 h0 3))) ∧ (((σ1 ((G.2.1 h0 3)) x1.toNatClampNeg) = 0 → post 0 σ1) ∧ (¬ (σ1 ((G.2.1 h0 3)) x1.toNatClampNeg) = 0 → post 1 σ1))) ∧ (¬ (σ1 ((G.2.1 h0 4)) x1.toNatClampNeg) = 0 → post ((-1)) σ1)))))
set_option maxHeartbeats 4000000 in
set_option maxRecDepth 100000 in
theorem sdX6_sign {l : Launch} {E : qE} {L : List Nat} {G : qG} (hN : L.Nodup) (hG : q_WF G L) {h0 : Nat} {x1 : Int32} (Lh0 : h0 ∈ L) (Kh0 : G.1 h0 = 6) {σ : qS} {post : Int32 → qS → Prop} (h : wpX6_sign G h0 x1 σ post) : MtI l E L G yX6_sign wsX6_sign (q_rm 2) [.ref h0, .int x1] σ post := by
  refine q_met (Qc := fun sz => va_Qi post (q_B E L G) (q_free L sz)) (cc := cX6_sign) (maxL := 2) (ret := (some .int)) (own := RX6) (by decide) rfl rfl (Nat.le_of_ble_eq_true rfl) hN hG ?_
  intro p e s m below meth c C
  unfold wpX6_sign at h
  refine q_aload_n (pc := 0) C dX6_sign_0 rfl 0 rfl ?_
  refine q_iload_n (pc := 1) C dX6_sign_1 rfl 1 rfl ?_
  refine q_cVi (pc := 2) (As := [.int x1]) (ci := 6) (Cn := RX6) (T := TX6) (N := 9) C (sdX6_is C.2.2.2.2.2.1 C.2.2.2.2.2.2 Lh0 Kh0 h) (cwV 1 C.1.2.2.2.2 gX6_sign_X6_is rfl rfl rfl (by decide +kernel) (q_room (by decide) (by decide))) Lh0 (qc6 Kh0 _) rfl rfl rfl (Nat.le_of_ble_eq_true rfl) dX6_sign_2 (fun u2 σ1 h => ?_)
  refine q_if_ne (tgt := 12) (pc := 5) C dX6_sign_5 (by decide) (fun c3 => ?_) (fun c3 => ?_)
  · replace h := h.2 c3
    refine q_aload_n (pc := 12) C dX6_sign_12 rfl 0 rfl ?_
    obtain ⟨Lr4, Kr4⟩ := qw_6_4 C.2.2.2.2.2.2 Lh0 Kh0
    refine q_g6_4 (pc := 13) C Lh0 Kh0 mwX6_sign_0 mwX6_sign_1 dX6_sign_13 ?_
    refine q_iload_n (pc := 16) C dX6_sign_16 rfl 1 rfl ?_
    obtain ⟨b5, h⟩ := h
    refine q_zald (pc := 17) C Lr4 Kr4 b5 dX6_sign_17 ?_
    refine q_if_eq (tgt := 25) (pc := 18) C dX6_sign_18 (by decide) (fun c6 => ?_) (fun c6 => ?_)
    · replace h := h.1 c6
      refine q_aload_n (pc := 25) C dX6_sign_25 rfl 0 rfl ?_
      obtain ⟨Lr7, Kr7⟩ := qw_6_3 C.2.2.2.2.2.2 Lh0 Kh0
      refine q_g6_3 (pc := 26) C Lh0 Kh0 mwX6_sign_0 mwX6_sign_2 dX6_sign_26 ?_
      refine q_iload_n (pc := 29) C dX6_sign_29 rfl 1 rfl ?_
      obtain ⟨b8, h⟩ := h
      refine q_iald (pc := 30) C Lr7 Kr7 b8 dX6_sign_30 ?_
      refine q_if_ne (tgt := 38) (pc := 31) C dX6_sign_31 (by decide) (fun c9 => ?_) (fun c9 => ?_)
      · replace h := h.2 c9
        refine q_iconst (pc := 38) (v := 1) C dX6_sign_38 (by decide) ?_
        exact q_iret (pc := 39) C dX6_sign_39 h
      · replace h := h.1 c9
        refine q_iconst (pc := 34) (v := 0) C dX6_sign_34 (by decide) ?_
        refine q_goto (tgt := 39) (pc := 35) C dX6_sign_35 (by decide) ?_
        exact q_iret (pc := 39) C dX6_sign_39 h
    · replace h := h.2 c6
      refine q_iconst (pc := 21) (v := (-1)) C dX6_sign_21 (by decide) ?_
      refine q_goto (tgt := 39) (pc := 22) C dX6_sign_22 (by decide) ?_
      exact q_iret (pc := 39) C dX6_sign_39 h
  · replace h := h.1 c3
    refine q_iconst (pc := 8) (v := 2) C dX6_sign_8 (by decide) ?_
    refine q_goto (tgt := 39) (pc := 9) C dX6_sign_9 (by decide) ?_
    exact q_iret (pc := 39) C dX6_sign_39 h
theorem mwX6_length_0 : ∀ w ∈ wsX60, w ∈ wsX6_length := by decide +kernel
theorem mwX6_length_1 : Cond.fieldLink RX6 13 "IntFileModel" "lens" "[I" ∈ wsX6_length := by decide +kernel
def wpX6_length (G : qG) (h0 : Nat) (x1 : Int32) (x2 : Int32) (σ : qS) (post : Int32 → qS → Prop) : Prop := wpX6_is G h0 x1 σ (fun (u2 : Int32) (σ1 : qS) => ((u2 = 0 → post ((-1)) σ1) ∧ (¬ u2 = 0 → ((x2 < 0 → post ((-1)) σ1) ∧ (¬ x2 < 0 → ((x2 ≤ 1 → ((x2 = 0 → vp_in x1 (G.2.2 ((G.2.1 h0 3))) ∧ post (((σ1 ((G.2.1 h0 3)) x1.toNatClampNeg) + 1) / 2) σ1) ∧ (¬ x2 = 0 → wpX6_bitsOf G h0 x1 σ1 (fun (u8 : Int32) (σ7 : qS) => post u8 σ7)))) ∧ (¬ x2 ≤ 1 → post ((-1)) σ1)))))))
set_option maxHeartbeats 4000000 in
set_option maxRecDepth 100000 in
theorem sdX6_length {l : Launch} {E : qE} {L : List Nat} {G : qG} (hN : L.Nodup) (hG : q_WF G L) {h0 : Nat} {x1 : Int32} {x2 : Int32} (Lh0 : h0 ∈ L) (Kh0 : G.1 h0 = 6) {σ : qS} {post : Int32 → qS → Prop} (h : wpX6_length G h0 x1 x2 σ post) : MtI l E L G yX6_length wsX6_length (q_rm 3) [.ref h0, .int x1, .int x2] σ post := by
  refine q_met (Qc := fun sz => va_Qi post (q_B E L G) (q_free L sz)) (cc := cX6_length) (maxL := 3) (ret := (some .int)) (own := RX6) (by decide) rfl rfl (Nat.le_of_ble_eq_true rfl) hN hG ?_
  intro p e s m below meth c C
  unfold wpX6_length at h
  refine q_aload_n (pc := 0) C dX6_length_0 rfl 0 rfl ?_
  refine q_iload_n (pc := 1) C dX6_length_1 rfl 1 rfl ?_
  refine q_cVi (pc := 2) (As := [.int x1]) (ci := 6) (Cn := RX6) (T := TX6) (N := 9) C (sdX6_is C.2.2.2.2.2.1 C.2.2.2.2.2.2 Lh0 Kh0 h) (cwV 1 C.1.2.2.2.2 gX6_length_X6_is rfl rfl rfl (by decide +kernel) (q_room (by decide) (by decide))) Lh0 (qc6 Kh0 _) rfl rfl rfl (Nat.le_of_ble_eq_true rfl) dX6_length_2 (fun u2 σ1 h => ?_)
  refine q_if_eq (tgt := 17) (pc := 5) C dX6_length_5 (by decide) (fun c3 => ?_) (fun c3 => ?_)
  · replace h := h.1 c3
    refine q_iconst (pc := 17) (v := (-1)) C dX6_length_17 (by decide) ?_
    exact q_iret (pc := 18) C dX6_length_18 h
  · replace h := h.2 c3
    refine q_iload_n (pc := 8) C dX6_length_8 rfl 2 rfl ?_
    refine q_if_lt (tgt := 17) (pc := 9) C dX6_length_9 (by decide) (fun c4 => ?_) (fun c4 => ?_)
    · replace h := h.1 c4
      refine q_iconst (pc := 17) (v := (-1)) C dX6_length_17 (by decide) ?_
      exact q_iret (pc := 18) C dX6_length_18 h
    · replace h := h.2 c4
      refine q_iload_n (pc := 12) C dX6_length_12 rfl 2 rfl ?_
      refine q_iconst (pc := 13) (v := 1) C dX6_length_13 (by decide) ?_
      refine q_icmp_le (tgt := 19) (pc := 14) C dX6_length_14 (by decide) (fun c5 => ?_) (fun c5 => ?_)
      · replace h := h.1 c5
        refine q_iload_n (pc := 19) C dX6_length_19 rfl 2 rfl ?_
        refine q_if_ne (tgt := 36) (pc := 20) C dX6_length_20 (by decide) (fun c6 => ?_) (fun c6 => ?_)
        · replace h := h.2 c6
          refine q_aload_n (pc := 36) C dX6_length_36 rfl 0 rfl ?_
          refine q_iload_n (pc := 37) C dX6_length_37 rfl 1 rfl ?_
          refine q_cVi (pc := 38) (As := [.int x1]) (ci := 6) (Cn := RX6) (T := TX6) (N := 9) C (sdX6_bitsOf C.2.2.2.2.2.1 C.2.2.2.2.2.2 Lh0 Kh0 h) (cwV 1 C.1.2.2.2.2 gX6_length_X6_bitsOf rfl rfl rfl (by decide +kernel) (q_room (by decide) (by decide))) Lh0 (qc6 Kh0 _) rfl rfl rfl (Nat.le_of_ble_eq_true rfl) dX6_length_38 (fun u8 σ7 h => ?_)
          exact q_iret (pc := 41) C dX6_length_41 h
        · replace h := h.1 c6
          refine q_aload_n (pc := 23) C dX6_length_23 rfl 0 rfl ?_
          obtain ⟨Lr9, Kr9⟩ := qw_6_3 C.2.2.2.2.2.2 Lh0 Kh0
          refine q_g6_3 (pc := 24) C Lh0 Kh0 mwX6_length_0 mwX6_length_1 dX6_length_24 ?_
          refine q_iload_n (pc := 27) C dX6_length_27 rfl 1 rfl ?_
          obtain ⟨b10, h⟩ := h
          refine q_iald (pc := 28) C Lr9 Kr9 b10 dX6_length_28 ?_
          refine q_iconst (pc := 29) (v := 1) C dX6_length_29 (by decide) ?_
          refine q_iadd (pc := 30) C dX6_length_30 ?_
          refine q_iconst (pc := 31) (v := 2) C dX6_length_31 (by decide) ?_
          refine q_idiv (pc := 32) C dX6_length_32 (by decide) ?_
          refine q_goto (tgt := 41) (pc := 33) C dX6_length_33 (by decide) ?_
          exact q_iret (pc := 41) C dX6_length_41 h
      · replace h := h.2 c5
        refine q_iconst (pc := 17) (v := (-1)) C dX6_length_17 (by decide) ?_
        exact q_iret (pc := 18) C dX6_length_18 h
def wpX6_limb (G : qG) (h0 : Nat) (x1 : Int32) (x2 : Int32) (σ : qS) (post : Int32 → qS → Prop) : Prop := wpX6_is G h0 x1 σ (fun (u2 : Int32) (σ1 : qS) => ((u2 = 0 → post 0 σ1) ∧ (¬ u2 = 0 → ((x2 < 0 → post 0 σ1) ∧ (¬ x2 < 0 → ((x2 ≤ 1000 → wpX6_digit G h0 x1 (((2 : Int32) * x2) + 1) σ1 (fun (u7 : Int32) (σ6 : qS) => wpX6_digit G h0 x1 ((2 : Int32) * x2) σ6 (fun (u9 : Int32) (σ8 : qS) => post ((u7 <<< ((16 : Int32) &&& 31)) ||| u9) σ8))) ∧ (¬ x2 ≤ 1000 → post 0 σ1)))))))
set_option maxHeartbeats 4000000 in
set_option maxRecDepth 100000 in
theorem sdX6_limb {l : Launch} {E : qE} {L : List Nat} {G : qG} (hN : L.Nodup) (hG : q_WF G L) {h0 : Nat} {x1 : Int32} {x2 : Int32} (Lh0 : h0 ∈ L) (Kh0 : G.1 h0 = 6) {σ : qS} {post : Int32 → qS → Prop} (h : wpX6_limb G h0 x1 x2 σ post) : MtI l E L G yX6_limb wsX6_limb (q_rm 2) [.ref h0, .int x1, .int x2] σ post := by
  refine q_met (Qc := fun sz => va_Qi post (q_B E L G) (q_free L sz)) (cc := cX6_limb) (maxL := 3) (ret := (some .int)) (own := RX6) (by decide) rfl rfl (Nat.le_of_ble_eq_true rfl) hN hG ?_
  intro p e s m below meth c C
  unfold wpX6_limb at h
  refine q_aload_n (pc := 0) C dX6_limb_0 rfl 0 rfl ?_
  refine q_iload_n (pc := 1) C dX6_limb_1 rfl 1 rfl ?_
  refine q_cVi (pc := 2) (As := [.int x1]) (ci := 6) (Cn := RX6) (T := TX6) (N := 9) C (sdX6_is C.2.2.2.2.2.1 C.2.2.2.2.2.2 Lh0 Kh0 h) (cwV 1 C.1.2.2.2.2 gX6_limb_X6_is rfl rfl rfl (by decide +kernel) (q_room (by decide) (by decide))) Lh0 (qc6 Kh0 _) rfl rfl rfl (Nat.le_of_ble_eq_true rfl) dX6_limb_2 (fun u2 σ1 h => ?_)
  refine q_if_eq (tgt := 19) (pc := 5) C dX6_limb_5 (by decide) (fun c3 => ?_) (fun c3 => ?_)
  · replace h := h.1 c3
    refine q_iconst (pc := 19) (v := 0) C dX6_limb_19 (by decide) ?_
    exact q_iret (pc := 20) C dX6_limb_20 h
  · replace h := h.2 c3
    refine q_iload_n (pc := 8) C dX6_limb_8 rfl 2 rfl ?_
    refine q_if_lt (tgt := 19) (pc := 9) C dX6_limb_9 (by decide) (fun c4 => ?_) (fun c4 => ?_)
    · replace h := h.1 c4
      refine q_iconst (pc := 19) (v := 0) C dX6_limb_19 (by decide) ?_
      exact q_iret (pc := 20) C dX6_limb_20 h
    · replace h := h.2 c4
      refine q_iload_n (pc := 12) C dX6_limb_12 rfl 2 rfl ?_
      refine q_sipush (pc := 13) (v := 1000) C dX6_limb_13 (by decide) ?_
      refine q_icmp_le (tgt := 21) (pc := 16) C dX6_limb_16 (by decide) (fun c5 => ?_) (fun c5 => ?_)
      · replace h := h.1 c5
        refine q_aload_n (pc := 21) C dX6_limb_21 rfl 0 rfl ?_
        refine q_iload_n (pc := 22) C dX6_limb_22 rfl 1 rfl ?_
        refine q_iconst (pc := 23) (v := 2) C dX6_limb_23 (by decide) ?_
        refine q_iload_n (pc := 24) C dX6_limb_24 rfl 2 rfl ?_
        refine q_imul (pc := 25) C dX6_limb_25 ?_
        refine q_iconst (pc := 26) (v := 1) C dX6_limb_26 (by decide) ?_
        refine q_iadd (pc := 27) C dX6_limb_27 ?_
        refine q_cVi (pc := 28) (As := [.int x1, .int (((2 : Int32) * x2) + 1)]) (ci := 6) (Cn := RX6) (T := TX6) (N := 9) C (sdX6_digit C.2.2.2.2.2.1 C.2.2.2.2.2.2 Lh0 Kh0 h) (cwV 2 C.1.2.2.2.2 gX6_limb_X6_digit rfl rfl rfl (by decide +kernel) (q_room (by decide) (by decide))) Lh0 (qc6 Kh0 _) rfl rfl rfl (Nat.le_of_ble_eq_true rfl) dX6_limb_28 (fun u7 σ6 h => ?_)
        refine q_bipush (pc := 31) (v := 16) C dX6_limb_31 (by decide) ?_
        refine q_ishl (pc := 33) C dX6_limb_33 ?_
        refine q_aload_n (pc := 34) C dX6_limb_34 rfl 0 rfl ?_
        refine q_iload_n (pc := 35) C dX6_limb_35 rfl 1 rfl ?_
        refine q_iconst (pc := 36) (v := 2) C dX6_limb_36 (by decide) ?_
        refine q_iload_n (pc := 37) C dX6_limb_37 rfl 2 rfl ?_
        refine q_imul (pc := 38) C dX6_limb_38 ?_
        refine q_cVi (pc := 39) (As := [.int x1, .int ((2 : Int32) * x2)]) (ci := 6) (Cn := RX6) (T := TX6) (N := 9) C (sdX6_digit C.2.2.2.2.2.1 C.2.2.2.2.2.2 Lh0 Kh0 h) (cwV 2 C.1.2.2.2.2 gX6_limb_X6_digit rfl rfl rfl (by decide +kernel) (q_room (by decide) (by decide))) Lh0 (qc6 Kh0 _) rfl rfl rfl (Nat.le_of_ble_eq_true rfl) dX6_limb_39 (fun u9 σ8 h => ?_)
        refine q_ior (pc := 42) C dX6_limb_42 ?_
        exact q_iret (pc := 43) C dX6_limb_43 h
      · replace h := h.2 c5
        refine q_iconst (pc := 19) (v := 0) C dX6_limb_19 (by decide) ?_
        exact q_iret (pc := 20) C dX6_limb_20 h
theorem mwX6_write_0 : ∀ w ∈ wsX60, w ∈ wsX6_write := by decide +kernel
theorem mwX6_write_1 : Cond.fieldLink RX6 13 "IntFileModel" "lens" "[I" ∈ wsX6_write := by decide +kernel
theorem mwX6_write_2 : Cond.fieldLink RX6 20 "IntFileModel" "text" "[I" ∈ wsX6_write := by decide +kernel
theorem mwX6_write_3 : Cond.fieldLink RX6 16 "IntFileModel" "below" "[Z" ∈ wsX6_write := by decide +kernel
theorem mwX6_write_4 : Cond.fieldLink RX6 102 "IntFileModel" "written" "I" ∈ wsX6_write := by decide +kernel
def lpX6_write_42 (G : qG) (h0 : Nat) (x1 : Int32) (x2 : Int32) (post : Int32 → qS → Prop) (kx87 : Int32 → qS → Prop) : Nat → Int32 → Int32 → qS → Prop
  | 0, _, _, _ => False
  | n + 1, x3, x4, σ => ((x4 < 0 → kx87 x3 σ) ∧ (¬ x4 < 0 → wpX6_digit G h0 20 x4 σ (fun (u15 : Int32) (σ14 : qS) => ∀ v16 : Int32, v16 = (x3 <<< ((16 : Int32) &&& 31)) ||| u15 → wpX6_put G h0 20 x4 (v16 / 10) σ14 (fun (σ17 : qS) => ∀ v19 : Int32, v19 = v16 - v16 / 10 * 10 → ∀ v20 : Int32, v20 = x4 + (-1) → lpX6_write_42 G h0 x1 x2 post kx87 n v19 v20 σ17))))
set_option maxHeartbeats 4000000 in
set_option maxRecDepth 100000 in
theorem slX6_write_42 {p : Program} {l : Launch} {e : Env} {s : State} {m : MethodId} {args : Array Value} {below : List Frame} {meth : Method} {c : Code} {E : qE} {L : List Nat} {G : qG} {A : Nat → Prop} (C : q_C p s m args meth c cX6_write 6 wsX6_write RX6 (some .int) E L G A) {h0 : Nat} {x1 : Int32} {x2 : Int32} (Lh0 : h0 ∈ L) (Kh0 : G.1 h0 = 6) {post : Int32 → qS → Prop} {kx87 : Int32 → qS → Prop} (Hkx87 : ∀ (y3 : Int32) (τ : qS), kx87 y3 τ → Wd p l e (q_rm 2) s m args below meth c E L G A (MQ below (va_Qi post (q_B E L G) A) args s 0 0 A) 6 τ 87 [(0, .ref h0), (1, .int x1), (2, .int x2), (3, .int y3)] []) : ∀ (n : Nat) (x3 : Int32) (x4 : Int32) (σ : qS), lpX6_write_42 G h0 x1 x2 post kx87 n x3 x4 σ → Wd p l e (q_rm 2) s m args below meth c E L G A (MQ below (va_Qi post (q_B E L G) A) args s 0 0 A) 6 σ 42 [(0, .ref h0), (1, .int x1), (2, .int x2), (3, .int x3), (4, .int x4)] [] := by
  intro n
  induction n with
  | zero => intro x3 x4 σ h; exact h.elim
  | succ n ih =>
    intro x3 x4 σ h
    unfold lpX6_write_42 at h
    refine q_iload (pc := 42) C dX6_write_42 4 rfl ?_
    refine q_if_lt (tgt := 87) (pc := 44) C dX6_write_44 (by decide) (fun c13 => ?_) (fun c13 => ?_)
    · replace h := h.1 c13
      refine q_lv (lv' := [(0, .ref h0), (1, .int x1), (2, .int x2), (3, .int x3)]) [0, 1, 2, 3] rfl ?_
      exact Hkx87 x3 σ h
    · replace h := h.2 c13
      refine q_iload_n (pc := 47) C dX6_write_47 rfl 3 rfl ?_
      refine q_bipush (pc := 48) (v := 16) C dX6_write_48 (by decide) ?_
      refine q_ishl (pc := 50) C dX6_write_50 ?_
      refine q_aload_n (pc := 51) C dX6_write_51 rfl 0 rfl ?_
      refine q_bipush (pc := 52) (v := 20) C dX6_write_52 (by decide) ?_
      refine q_iload (pc := 54) C dX6_write_54 4 rfl ?_
      refine q_cVi (pc := 56) (As := [.int 20, .int x4]) (ci := 6) (Cn := RX6) (T := TX6) (N := 9) C (sdX6_digit C.2.2.2.2.2.1 C.2.2.2.2.2.2 Lh0 Kh0 h) (cwV 2 C.1.2.2.2.2 gX6_write_X6_digit rfl rfl rfl (by decide +kernel) (q_room (by decide) (by decide))) Lh0 (qc6 Kh0 _) rfl rfl rfl (Nat.le_of_ble_eq_true rfl) dX6_write_56 (fun u15 σ14 h => ?_)
      refine q_ior (pc := 59) C dX6_write_59 ?_
      refine q_topi (fun v16 ev16 => ?_)
      replace h := h v16 ev16
      refine q_istore (pc := 60) (lv' := [(5, .int v16), (0, .ref h0), (1, .int x1), (2, .int x2), (3, .int x3), (4, .int x4)]) C dX6_write_60 (by decide) rfl ?_
      refine q_aload_n (pc := 62) C dX6_write_62 rfl 1 rfl ?_
      refine q_bipush (pc := 63) (v := 20) C dX6_write_63 (by decide) ?_
      refine q_iload (pc := 65) C dX6_write_65 5 rfl ?_
      refine q_iload (pc := 67) C dX6_write_67 0 rfl ?_
      refine q_bipush (pc := 69) (v := 10) C dX6_write_69 (by decide) ?_
      refine q_idiv (pc := 71) C dX6_write_71 (by decide) ?_
      refine q_cVv (pc := 72) (As := [.int 20, .int x4, .int (v16 / 10)]) (ci := 6) (Cn := RX6) (T := TX6) (N := 9) C (sdX6_put C.2.2.2.2.2.1 C.2.2.2.2.2.2 Lh0 Kh0 h) (cwV 3 C.1.2.2.2.2 gX6_write_X6_put rfl rfl rfl (by decide +kernel) (q_room (by decide) (by decide))) Lh0 (qc6 Kh0 _) rfl rfl rfl (Nat.le_of_ble_eq_true rfl) dX6_write_72 (fun σ17 h => ?_)
      refine q_iload (pc := 75) C dX6_write_75 0 rfl ?_
      refine q_bipush (pc := 77) (v := 10) C dX6_write_77 (by decide) ?_
      refine q_irem (pc := 79) C dX6_write_79 (by decide) ?_
      refine q_topi (fun v19 ev19 => ?_)
      replace h := h v19 ev19
      refine q_istore_n (pc := 80) (lv' := [(3, .int v19), (5, .int v16), (0, .ref h0), (1, .int x1), (2, .int x2), (4, .int x4)]) C dX6_write_80 rfl (by decide) rfl ?_
      obtain ⟨v20, ev20⟩ : ∃ z : Int32, z = x4 + (-1) := ⟨_, rfl⟩
      replace h := h v20 ev20
      refine q_iinc (pc := 81) (v := v20) (j := 5) (lv' := [(4, .int v20), (3, .int v19), (5, .int v16), (0, .ref h0), (1, .int x1), (2, .int x2)]) C dX6_write_81 rfl (by rw [ev20]; rfl) (by decide) rfl ?_
      refine q_goto (tgt := 42) (pc := 84) C dX6_write_84 (by decide) ?_
      refine q_lv (lv' := [(0, .ref h0), (1, .int x1), (2, .int x2), (3, .int v19), (4, .int v20)]) [3, 4, 5, 1, 0] rfl ?_
      exact ih v19 v20 σ17 h
def lpX6_write_19 (G : qG) (h0 : Nat) (x1 : Int32) (post : Int32 → qS → Prop) (kx116 : Int32 → qS → Prop) : Nat → Int32 → qS → Prop
  | 0, _, _ => False
  | n + 1, x2, σ => vp_in 20 (G.2.2 ((G.2.1 h0 3))) ∧ (((σ ((G.2.1 h0 3)) (20 : Int32).toNatClampNeg) ≤ 0 → kx116 x2 σ) ∧ (¬ (σ ((G.2.1 h0 3)) (20 : Int32).toNatClampNeg) ≤ 0 → ∀ v10 : Int32, v10 = 0 → vp_in 20 (G.2.2 ((G.2.1 h0 3))) ∧ ∀ v12 : Int32, v12 = (σ ((G.2.1 h0 3)) (20 : Int32).toNatClampNeg) - 1 → ∃ n30 : Nat, lpX6_write_42 G h0 x1 x2 post (fun (w21 : Int32) (σ22 : qS) => vp_in 20 (G.2.2 ((G.2.1 h0 3))) ∧ wpX6_trim G h0 20 (σ22 ((G.2.1 h0 3)) (20 : Int32).toNatClampNeg) σ22 (fun (σ24 : qS) => vp_in x2 (G.2.2 ((G.2.1 h0 5))) ∧ ∀ σ28 : qS, σ28 = q_st σ24 ((G.2.1 h0 5)) x2.toNatClampNeg (((48 : Int32) + w21)) → ∀ v29 : Int32, v29 = x2 + 1 → lpX6_write_19 G h0 x1 post kx116 n v29 σ28)) n30 v10 v12 σ))
set_option maxHeartbeats 4000000 in
set_option maxRecDepth 100000 in
theorem slX6_write_19 {p : Program} {l : Launch} {e : Env} {s : State} {m : MethodId} {args : Array Value} {below : List Frame} {meth : Method} {c : Code} {E : qE} {L : List Nat} {G : qG} {A : Nat → Prop} (C : q_C p s m args meth c cX6_write 6 wsX6_write RX6 (some .int) E L G A) {h0 : Nat} {x1 : Int32} (Lh0 : h0 ∈ L) (Kh0 : G.1 h0 = 6) {post : Int32 → qS → Prop} {kx116 : Int32 → qS → Prop} (Hkx116 : ∀ (y2 : Int32) (τ : qS), kx116 y2 τ → Wd p l e (q_rm 2) s m args below meth c E L G A (MQ below (va_Qi post (q_B E L G) A) args s 0 0 A) 6 τ 116 [(0, .ref h0), (1, .int x1), (2, .int y2)] []) : ∀ (n : Nat) (x2 : Int32) (σ : qS), lpX6_write_19 G h0 x1 post kx116 n x2 σ → Wd p l e (q_rm 2) s m args below meth c E L G A (MQ below (va_Qi post (q_B E L G) A) args s 0 0 A) 6 σ 19 [(0, .ref h0), (1, .int x1), (2, .int x2)] [] := by
  intro n
  induction n with
  | zero => intro x2 σ h; exact h.elim
  | succ n ih =>
    intro x2 σ h
    unfold lpX6_write_19 at h
    refine q_aload_n (pc := 19) C dX6_write_19 rfl 0 rfl ?_
    obtain ⟨Lr7, Kr7⟩ := qw_6_3 C.2.2.2.2.2.2 Lh0 Kh0
    refine q_g6_3 (pc := 20) C Lh0 Kh0 mwX6_write_0 mwX6_write_1 dX6_write_20 ?_
    refine q_bipush (pc := 23) (v := 20) C dX6_write_23 (by decide) ?_
    obtain ⟨b8, h⟩ := h
    refine q_iald (pc := 25) C Lr7 Kr7 b8 dX6_write_25 ?_
    refine q_if_le (tgt := 116) (pc := 26) C dX6_write_26 (by decide) (fun c9 => ?_) (fun c9 => ?_)
    · replace h := h.1 c9
      exact Hkx116 x2 σ h
    · replace h := h.2 c9
      refine q_iconst (pc := 29) (v := 0) C dX6_write_29 (by decide) ?_
      refine q_topi (fun v10 ev10 => ?_)
      replace h := h v10 ev10
      refine q_istore_n (pc := 30) (lv' := [(3, .int v10), (0, .ref h0), (1, .int x1), (2, .int x2)]) C dX6_write_30 rfl (by decide) rfl ?_
      refine q_aload_n (pc := 31) C dX6_write_31 rfl 1 rfl ?_
      refine q_g6_3 (pc := 32) C Lh0 Kh0 mwX6_write_0 mwX6_write_1 dX6_write_32 ?_
      refine q_bipush (pc := 35) (v := 20) C dX6_write_35 (by decide) ?_
      obtain ⟨b11, h⟩ := h
      refine q_iald (pc := 37) C Lr7 Kr7 b11 dX6_write_37 ?_
      refine q_iconst (pc := 38) (v := 1) C dX6_write_38 (by decide) ?_
      refine q_isub (pc := 39) C dX6_write_39 ?_
      refine q_topi (fun v12 ev12 => ?_)
      replace h := h v12 ev12
      refine q_istore (pc := 40) (lv' := [(4, .int v12), (3, .int v10), (0, .ref h0), (1, .int x1), (2, .int x2)]) C dX6_write_40 (by decide) rfl ?_
      refine q_lv (lv' := [(0, .ref h0), (1, .int x1), (2, .int x2), (3, .int v10), (4, .int v12)]) [2, 3, 4, 1, 0] rfl ?_
      obtain ⟨n30, h⟩ := h
      refine slX6_write_42 C Lh0 Kh0 ?_ n30 v10 v12 σ h
      · intro w21 σ22 h
        refine q_aload_n (pc := 87) C dX6_write_87 rfl 0 rfl ?_
        refine q_bipush (pc := 88) (v := 20) C dX6_write_88 (by decide) ?_
        refine q_aload_n (pc := 90) C dX6_write_90 rfl 0 rfl ?_
        refine q_g6_3 (pc := 91) C Lh0 Kh0 mwX6_write_0 mwX6_write_1 dX6_write_91 ?_
        refine q_bipush (pc := 94) (v := 20) C dX6_write_94 (by decide) ?_
        obtain ⟨b23, h⟩ := h
        refine q_iald (pc := 96) C Lr7 Kr7 b23 dX6_write_96 ?_
        refine q_cVv (pc := 97) (As := [.int 20, .int (σ22 ((G.2.1 h0 3)) (20 : Int32).toNatClampNeg)]) (ci := 6) (Cn := RX6) (T := TX6) (N := 9) C (sdX6_trim C.2.2.2.2.2.1 C.2.2.2.2.2.2 Lh0 Kh0 h) (cwV 2 C.1.2.2.2.2 gX6_write_X6_trim rfl rfl rfl (by decide +kernel) (q_room (by decide) (by decide))) Lh0 (qc6 Kh0 _) rfl rfl rfl (Nat.le_of_ble_eq_true rfl) dX6_write_97 (fun σ24 h => ?_)
        refine q_aload_n (pc := 100) C dX6_write_100 rfl 0 rfl ?_
        obtain ⟨Lr26, Kr26⟩ := qw_6_5 C.2.2.2.2.2.2 Lh0 Kh0
        refine q_g6_5 (pc := 101) C Lh0 Kh0 mwX6_write_0 mwX6_write_2 dX6_write_101 ?_
        refine q_iload_n (pc := 104) C dX6_write_104 rfl 2 rfl ?_
        refine q_bipush (pc := 105) (v := 48) C dX6_write_105 (by decide) ?_
        refine q_iload_n (pc := 107) C dX6_write_107 rfl 3 rfl ?_
        refine q_iadd (pc := 108) C dX6_write_108 ?_
        obtain ⟨b27, h⟩ := h
        refine q_iast (pc := 109) C Lr26 Kr26 b27 dX6_write_109 (fun σ28 eσ28 => ?_)
        replace h := h σ28 eσ28
        obtain ⟨v29, ev29⟩ : ∃ z : Int32, z = x2 + 1 := ⟨_, rfl⟩
        replace h := h v29 ev29
        refine q_iinc (pc := 110) (v := v29) (j := 2) (lv' := [(2, .int v29), (0, .ref h0), (1, .int x1), (3, .int w21)]) C dX6_write_110 rfl (by rw [ev29]; rfl) (by decide) rfl ?_
        refine q_goto (tgt := 19) (pc := 113) C dX6_write_113 (by decide) ?_
        refine q_lv (lv' := [(0, .ref h0), (1, .int x1), (2, .int v29)]) [1, 2, 0] rfl ?_
        exact ih v29 σ28 h
def lpX6_write_158 (G : qG) (h0 : Nat) (x2 : Int32) (post : Int32 → qS → Prop) (kx203 : qS → Prop) : Nat → Int32 → Int32 → qS → Prop
  | 0, _, _, _ => False
  | n + 1, x3, x4, σ => ((x4 ≤ x3 → kx203 σ) ∧ (¬ x4 ≤ x3 → vp_in x3 (G.2.2 ((G.2.1 h0 5))) ∧ ∀ v42 : Int32, v42 = σ ((G.2.1 h0 5)) x3.toNatClampNeg → vp_in x4 (G.2.2 ((G.2.1 h0 5))) ∧ vp_in x3 (G.2.2 ((G.2.1 h0 5))) ∧ ∀ σ45 : qS, σ45 = q_st σ ((G.2.1 h0 5)) x3.toNatClampNeg ((σ ((G.2.1 h0 5)) x4.toNatClampNeg)) → vp_in x4 (G.2.2 ((G.2.1 h0 5))) ∧ ∀ σ47 : qS, σ47 = q_st σ45 ((G.2.1 h0 5)) x4.toNatClampNeg v42 → ∀ v48 : Int32, v48 = x3 + 1 → ∀ v49 : Int32, v49 = x4 + (-1) → lpX6_write_158 G h0 x2 post kx203 n v48 v49 σ47))
set_option maxHeartbeats 4000000 in
set_option maxRecDepth 100000 in
theorem slX6_write_158 {p : Program} {l : Launch} {e : Env} {s : State} {m : MethodId} {args : Array Value} {below : List Frame} {meth : Method} {c : Code} {E : qE} {L : List Nat} {G : qG} {A : Nat → Prop} (C : q_C p s m args meth c cX6_write 6 wsX6_write RX6 (some .int) E L G A) {h0 : Nat} {x2 : Int32} (Lh0 : h0 ∈ L) (Kh0 : G.1 h0 = 6) {post : Int32 → qS → Prop} {kx203 : qS → Prop} (Hkx203 : ∀  (τ : qS), kx203  τ → Wd p l e (q_rm 2) s m args below meth c E L G A (MQ below (va_Qi post (q_B E L G) A) args s 0 0 A) 6 τ 203 [(0, .ref h0), (2, .int x2)] []) : ∀ (n : Nat) (x3 : Int32) (x4 : Int32) (σ : qS), lpX6_write_158 G h0 x2 post kx203 n x3 x4 σ → Wd p l e (q_rm 2) s m args below meth c E L G A (MQ below (va_Qi post (q_B E L G) A) args s 0 0 A) 6 σ 158 [(0, .ref h0), (2, .int x2), (3, .int x3), (4, .int x4)] [] := by
  intro n
  induction n with
  | zero => intro x3 x4 σ h; exact h.elim
  | succ n ih =>
    intro x3 x4 σ h
    unfold lpX6_write_158 at h
    refine q_iload_n (pc := 158) C dX6_write_158 rfl 2 rfl ?_
    refine q_iload (pc := 159) C dX6_write_159 3 rfl ?_
    refine q_icmp_ge (tgt := 203) (pc := 161) C dX6_write_161 (by decide) (fun c39 => ?_) (fun c39 => ?_)
    · replace h := h.1 c39
      refine q_lv (lv' := [(0, .ref h0), (2, .int x2)]) [0, 1] rfl ?_
      exact Hkx203  σ h
    · replace h := h.2 c39
      refine q_aload_n (pc := 164) C dX6_write_164 rfl 0 rfl ?_
      obtain ⟨Lr40, Kr40⟩ := qw_6_5 C.2.2.2.2.2.2 Lh0 Kh0
      refine q_g6_5 (pc := 165) C Lh0 Kh0 mwX6_write_0 mwX6_write_2 dX6_write_165 ?_
      refine q_iload_n (pc := 168) C dX6_write_168 rfl 2 rfl ?_
      obtain ⟨b41, h⟩ := h
      refine q_iald (pc := 169) C Lr40 Kr40 b41 dX6_write_169 ?_
      refine q_topi (fun v42 ev42 => ?_)
      replace h := h v42 ev42
      refine q_istore (pc := 170) (lv' := [(5, .int v42), (0, .ref h0), (2, .int x2), (3, .int x3), (4, .int x4)]) C dX6_write_170 (by decide) rfl ?_
      refine q_aload_n (pc := 172) C dX6_write_172 rfl 1 rfl ?_
      refine q_g6_5 (pc := 173) C Lh0 Kh0 mwX6_write_0 mwX6_write_2 dX6_write_173 ?_
      refine q_iload_n (pc := 176) C dX6_write_176 rfl 3 rfl ?_
      refine q_aload_n (pc := 177) C dX6_write_177 rfl 1 rfl ?_
      refine q_g6_5 (pc := 178) C Lh0 Kh0 mwX6_write_0 mwX6_write_2 dX6_write_178 ?_
      refine q_iload (pc := 181) C dX6_write_181 4 rfl ?_
      obtain ⟨b43, h⟩ := h
      refine q_iald (pc := 183) C Lr40 Kr40 b43 dX6_write_183 ?_
      obtain ⟨b44, h⟩ := h
      refine q_iast (pc := 184) C Lr40 Kr40 b44 dX6_write_184 (fun σ45 eσ45 => ?_)
      replace h := h σ45 eσ45
      refine q_aload_n (pc := 185) C dX6_write_185 rfl 1 rfl ?_
      refine q_g6_5 (pc := 186) C Lh0 Kh0 mwX6_write_0 mwX6_write_2 dX6_write_186 ?_
      refine q_iload (pc := 189) C dX6_write_189 4 rfl ?_
      refine q_iload (pc := 191) C dX6_write_191 0 rfl ?_
      obtain ⟨b46, h⟩ := h
      refine q_iast (pc := 193) C Lr40 Kr40 b46 dX6_write_193 (fun σ47 eσ47 => ?_)
      replace h := h σ47 eσ47
      obtain ⟨v48, ev48⟩ : ∃ z : Int32, z = x3 + 1 := ⟨_, rfl⟩
      replace h := h v48 ev48
      refine q_iinc (pc := 194) (v := v48) (j := 3) (lv' := [(3, .int v48), (5, .int v42), (0, .ref h0), (2, .int x2), (4, .int x4)]) C dX6_write_194 rfl (by rw [ev48]; rfl) (by decide) rfl ?_
      obtain ⟨v49, ev49⟩ : ∃ z : Int32, z = x4 + (-1) := ⟨_, rfl⟩
      replace h := h v49 ev49
      refine q_iinc (pc := 197) (v := v49) (j := 4) (lv' := [(4, .int v49), (3, .int v48), (5, .int v42), (0, .ref h0), (2, .int x2)]) C dX6_write_197 rfl (by rw [ev49]; rfl) (by decide) rfl ?_
      refine q_goto (tgt := 158) (pc := 200) C dX6_write_200 (by decide) ?_
      refine q_lv (lv' := [(0, .ref h0), (2, .int x2), (3, .int v48), (4, .int v49)]) [3, 4, 1, 0] rfl ?_
      exact ih v48 v49 σ47 h
def bkX6_write_151 (G : qG) (h0 : Nat) (x2 : Int32) (post : Int32 → qS → Prop) (σ : qS) : Prop := ∀ v37 : Int32, v37 = 0 → ∀ v38 : Int32, v38 = x2 - 1 → ∃ n52 : Nat, lpX6_write_158 G h0 x2 post (fun  (σ50 : qS) => ∀ σ51 : qS, σ51 = q_st σ50 h0 6 x2 → post x2 σ51) n52 v37 v38 σ
set_option maxHeartbeats 4000000 in
set_option maxRecDepth 100000 in
theorem sbX6_write_151 {p : Program} {l : Launch} {e : Env} {s : State} {m : MethodId} {args : Array Value} {below : List Frame} {meth : Method} {c : Code} {E : qE} {L : List Nat} {G : qG} {A : Nat → Prop} (C : q_C p s m args meth c cX6_write 6 wsX6_write RX6 (some .int) E L G A) {h0 : Nat} {x2 : Int32} (Lh0 : h0 ∈ L) (Kh0 : G.1 h0 = 6) {post : Int32 → qS → Prop} {σ : qS} (h : bkX6_write_151 G h0 x2 post σ) : Wd p l e (q_rm 2) s m args below meth c E L G A (MQ below (va_Qi post (q_B E L G) A) args s 0 0 A) 6 σ 151 [(0, .ref h0), (2, .int x2)] [] := by
  unfold bkX6_write_151 at h
  refine q_iconst (pc := 151) (v := 0) C dX6_write_151 (by decide) ?_
  refine q_topi (fun v37 ev37 => ?_)
  replace h := h v37 ev37
  refine q_istore_n (pc := 152) (lv' := [(3, .int v37), (0, .ref h0), (2, .int x2)]) C dX6_write_152 rfl (by decide) rfl ?_
  refine q_iload_n (pc := 153) C dX6_write_153 rfl 2 rfl ?_
  refine q_iconst (pc := 154) (v := 1) C dX6_write_154 (by decide) ?_
  refine q_isub (pc := 155) C dX6_write_155 ?_
  refine q_topi (fun v38 ev38 => ?_)
  replace h := h v38 ev38
  refine q_istore (pc := 156) (lv' := [(4, .int v38), (3, .int v37), (0, .ref h0), (2, .int x2)]) C dX6_write_156 (by decide) rfl ?_
  refine q_lv (lv' := [(0, .ref h0), (2, .int x2), (3, .int v37), (4, .int v38)]) [2, 3, 1, 0] rfl ?_
  obtain ⟨n52, h⟩ := h
  refine slX6_write_158 C Lh0 Kh0 ?_ n52 v37 v38 σ h
  · intro σ50 h
    refine q_aload_n (pc := 203) C dX6_write_203 rfl 0 rfl ?_
    refine q_iload_n (pc := 204) C dX6_write_204 rfl 1 rfl ?_
    refine q_p6_6 (pc := 205) C Lh0 Kh0 mwX6_write_0 mwX6_write_4 dX6_write_205 (fun σ51 eσ51 => ?_)
    replace h := h σ51 eσ51
    refine q_iload_n (pc := 208) C dX6_write_208 rfl 1 rfl ?_
    exact q_iret (pc := 209) C dX6_write_209 h
def bkX6_write_131 (G : qG) (h0 : Nat) (x1 : Int32) (x2 : Int32) (post : Int32 → qS → Prop) (σ : qS) : Prop := vp_in x1 (G.2.2 ((G.2.1 h0 4))) ∧ (((σ ((G.2.1 h0 4)) x1.toNatClampNeg) = 0 → bkX6_write_151 G h0 x2 post σ) ∧ (¬ (σ ((G.2.1 h0 4)) x1.toNatClampNeg) = 0 → vp_in x2 (G.2.2 ((G.2.1 h0 5))) ∧ ∀ σ55 : qS, σ55 = q_st σ ((G.2.1 h0 5)) x2.toNatClampNeg 45 → ∀ v56 : Int32, v56 = x2 + 1 → bkX6_write_151 G h0 v56 post σ55))
set_option maxHeartbeats 4000000 in
set_option maxRecDepth 100000 in
theorem sbX6_write_131 {p : Program} {l : Launch} {e : Env} {s : State} {m : MethodId} {args : Array Value} {below : List Frame} {meth : Method} {c : Code} {E : qE} {L : List Nat} {G : qG} {A : Nat → Prop} (C : q_C p s m args meth c cX6_write 6 wsX6_write RX6 (some .int) E L G A) {h0 : Nat} {x1 : Int32} {x2 : Int32} (Lh0 : h0 ∈ L) (Kh0 : G.1 h0 = 6) {post : Int32 → qS → Prop} {σ : qS} (h : bkX6_write_131 G h0 x1 x2 post σ) : Wd p l e (q_rm 2) s m args below meth c E L G A (MQ below (va_Qi post (q_B E L G) A) args s 0 0 A) 6 σ 131 [(0, .ref h0), (1, .int x1), (2, .int x2)] [] := by
  unfold bkX6_write_131 at h
  refine q_aload_n (pc := 131) C dX6_write_131 rfl 0 rfl ?_
  obtain ⟨Lr34, Kr34⟩ := qw_6_4 C.2.2.2.2.2.2 Lh0 Kh0
  refine q_g6_4 (pc := 132) C Lh0 Kh0 mwX6_write_0 mwX6_write_3 dX6_write_132 ?_
  refine q_iload_n (pc := 135) C dX6_write_135 rfl 1 rfl ?_
  obtain ⟨b35, h⟩ := h
  refine q_zald (pc := 136) C Lr34 Kr34 b35 dX6_write_136 ?_
  refine q_if_eq (tgt := 151) (pc := 137) C dX6_write_137 (by decide) (fun c36 => ?_) (fun c36 => ?_)
  · replace h := h.1 c36
    refine q_lv (lv' := [(0, .ref h0), (2, .int x2)]) [0, 2] rfl ?_
    exact sbX6_write_151 C Lh0 Kh0 h
  · replace h := h.2 c36
    refine q_aload_n (pc := 140) C dX6_write_140 rfl 0 rfl ?_
    obtain ⟨Lr53, Kr53⟩ := qw_6_5 C.2.2.2.2.2.2 Lh0 Kh0
    refine q_g6_5 (pc := 141) C Lh0 Kh0 mwX6_write_0 mwX6_write_2 dX6_write_141 ?_
    refine q_iload_n (pc := 144) C dX6_write_144 rfl 2 rfl ?_
    refine q_bipush (pc := 145) (v := 45) C dX6_write_145 (by decide) ?_
    obtain ⟨b54, h⟩ := h
    refine q_iast (pc := 147) C Lr53 Kr53 b54 dX6_write_147 (fun σ55 eσ55 => ?_)
    replace h := h σ55 eσ55
    obtain ⟨v56, ev56⟩ : ∃ z : Int32, z = x2 + 1 := ⟨_, rfl⟩
    replace h := h v56 ev56
    refine q_iinc (pc := 148) (v := v56) (j := 2) (lv' := [(2, .int v56), (0, .ref h0), (1, .int x1)]) C dX6_write_148 rfl (by rw [ev56]; rfl) (by decide) rfl ?_
    refine q_lv (lv' := [(0, .ref h0), (2, .int v56)]) [1, 0] rfl ?_
    exact sbX6_write_151 C Lh0 Kh0 h
def wpX6_write (G : qG) (h0 : Nat) (x1 : Int32) (σ : qS) (post : Int32 → qS → Prop) : Prop := wpX6_is G h0 x1 σ (fun (u2 : Int32) (σ1 : qS) => ((u2 = 0 → post ((-1)) σ1) ∧ (¬ u2 = 0 → wpX6_move G h0 20 x1 σ1 (fun (σ4 : qS) => ∀ v6 : Int32, v6 = 0 → ∃ n61 : Nat, lpX6_write_19 G h0 x1 post (fun (w31 : Int32) (σ32 : qS) => ((w31 = 0 → vp_in w31 (G.2.2 ((G.2.1 h0 5))) ∧ ∀ σ59 : qS, σ59 = q_st σ32 ((G.2.1 h0 5)) w31.toNatClampNeg 48 → ∀ v60 : Int32, v60 = w31 + 1 → bkX6_write_131 G h0 x1 v60 post σ59) ∧ (¬ w31 = 0 → bkX6_write_131 G h0 x1 w31 post σ32))) n61 v6 σ4))))
set_option maxHeartbeats 4000000 in
set_option maxRecDepth 100000 in
theorem sdX6_write {l : Launch} {E : qE} {L : List Nat} {G : qG} (hN : L.Nodup) (hG : q_WF G L) {h0 : Nat} {x1 : Int32} (Lh0 : h0 ∈ L) (Kh0 : G.1 h0 = 6) {σ : qS} {post : Int32 → qS → Prop} (h : wpX6_write G h0 x1 σ post) : MtI l E L G yX6_write wsX6_write (q_rm 2) [.ref h0, .int x1] σ post := by
  refine q_met (Qc := fun sz => va_Qi post (q_B E L G) (q_free L sz)) (cc := cX6_write) (maxL := 6) (ret := (some .int)) (own := RX6) (by decide) rfl rfl (Nat.le_of_ble_eq_true rfl) hN hG ?_
  intro p e s m below meth c C
  unfold wpX6_write at h
  refine q_aload_n (pc := 0) C dX6_write_0 rfl 0 rfl ?_
  refine q_iload_n (pc := 1) C dX6_write_1 rfl 1 rfl ?_
  refine q_cVi (pc := 2) (As := [.int x1]) (ci := 6) (Cn := RX6) (T := TX6) (N := 9) C (sdX6_is C.2.2.2.2.2.1 C.2.2.2.2.2.2 Lh0 Kh0 h) (cwV 1 C.1.2.2.2.2 gX6_write_X6_is rfl rfl rfl (by decide +kernel) (q_room (by decide) (by decide))) Lh0 (qc6 Kh0 _) rfl rfl rfl (Nat.le_of_ble_eq_true rfl) dX6_write_2 (fun u2 σ1 h => ?_)
  refine q_if_ne (tgt := 10) (pc := 5) C dX6_write_5 (by decide) (fun c3 => ?_) (fun c3 => ?_)
  · replace h := h.2 c3
    refine q_aload_n (pc := 10) C dX6_write_10 rfl 0 rfl ?_
    refine q_bipush (pc := 11) (v := 20) C dX6_write_11 (by decide) ?_
    refine q_iload_n (pc := 13) C dX6_write_13 rfl 1 rfl ?_
    refine q_cVv (pc := 14) (As := [.int 20, .int x1]) (ci := 6) (Cn := RX6) (T := TX6) (N := 9) C (sdX6_move C.2.2.2.2.2.1 C.2.2.2.2.2.2 Lh0 Kh0 h) (cwV 2 C.1.2.2.2.2 gX6_write_X6_move rfl rfl rfl (by decide +kernel) (q_room (by decide) (by decide))) Lh0 (qc6 Kh0 _) rfl rfl rfl (Nat.le_of_ble_eq_true rfl) dX6_write_14 (fun σ4 h => ?_)
    refine q_iconst (pc := 17) (v := 0) C dX6_write_17 (by decide) ?_
    refine q_topi (fun v6 ev6 => ?_)
    replace h := h v6 ev6
    refine q_istore_n (pc := 18) (lv' := [(2, .int v6), (0, .ref h0), (1, .int x1)]) C dX6_write_18 rfl (by decide) rfl ?_
    refine q_lv (lv' := [(0, .ref h0), (1, .int x1), (2, .int v6)]) [1, 2, 0] rfl ?_
    obtain ⟨n61, h⟩ := h
    refine slX6_write_19 C Lh0 Kh0 ?_ n61 v6 σ4 h
    · intro w31 σ32 h
      refine q_iload_n (pc := 116) C dX6_write_116 rfl 2 rfl ?_
      refine q_if_ne (tgt := 131) (pc := 117) C dX6_write_117 (by decide) (fun c33 => ?_) (fun c33 => ?_)
      · replace h := h.2 c33
        exact sbX6_write_131 C Lh0 Kh0 h
      · replace h := h.1 c33
        refine q_aload_n (pc := 120) C dX6_write_120 rfl 0 rfl ?_
        obtain ⟨Lr57, Kr57⟩ := qw_6_5 C.2.2.2.2.2.2 Lh0 Kh0
        refine q_g6_5 (pc := 121) C Lh0 Kh0 mwX6_write_0 mwX6_write_2 dX6_write_121 ?_
        refine q_iload_n (pc := 124) C dX6_write_124 rfl 2 rfl ?_
        refine q_bipush (pc := 125) (v := 48) C dX6_write_125 (by decide) ?_
        obtain ⟨b58, h⟩ := h
        refine q_iast (pc := 127) C Lr57 Kr57 b58 dX6_write_127 (fun σ59 eσ59 => ?_)
        replace h := h σ59 eσ59
        obtain ⟨v60, ev60⟩ : ∃ z : Int32, z = w31 + 1 := ⟨_, rfl⟩
        replace h := h v60 ev60
        refine q_iinc (pc := 128) (v := v60) (j := 2) (lv' := [(2, .int v60), (0, .ref h0), (1, .int x1)]) C dX6_write_128 rfl (by rw [ev60]; rfl) (by decide) rfl ?_
        refine q_lv (lv' := [(0, .ref h0), (1, .int x1), (2, .int v60)]) [1, 2, 0] rfl ?_
        exact sbX6_write_131 C Lh0 Kh0 h
  · replace h := h.1 c3
    refine q_iconst (pc := 8) (v := (-1)) C dX6_write_8 (by decide) ?_
    exact q_iret (pc := 9) C dX6_write_9 h
theorem mwX6_written_0 : ∀ w ∈ wsX60, w ∈ wsX6_written := by decide +kernel
theorem mwX6_written_1 : Cond.fieldLink RX6 102 "IntFileModel" "written" "I" ∈ wsX6_written := by decide +kernel
theorem mwX6_written_2 : Cond.fieldLink RX6 20 "IntFileModel" "text" "[I" ∈ wsX6_written := by decide +kernel
def bkX6_written_12 (G : qG) (post : Int32 → qS → Prop) (σ : qS) : Prop := post ((-1)) σ
set_option maxHeartbeats 4000000 in
set_option maxRecDepth 100000 in
theorem sbX6_written_12 {p : Program} {l : Launch} {e : Env} {s : State} {m : MethodId} {args : Array Value} {below : List Frame} {meth : Method} {c : Code} {E : qE} {L : List Nat} {G : qG} {A : Nat → Prop} (C : q_C p s m args meth c cX6_written 2 wsX6_written RX6 (some .int) E L G A) {post : Int32 → qS → Prop} {σ : qS} (h : bkX6_written_12 G post σ) : Wd p l e (q_rm 1) s m args below meth c E L G A (MQ below (va_Qi post (q_B E L G) A) args s 0 0 A) 2 σ 12 [] [] := by
  unfold bkX6_written_12 at h
  refine q_iconst (pc := 12) (v := (-1)) C dX6_written_12 (by decide) ?_
  refine q_goto (tgt := 22) (pc := 13) C dX6_written_13 (by decide) ?_
  exact q_iret (pc := 22) C dX6_written_22 h
def wpX6_written (G : qG) (h0 : Nat) (x1 : Int32) (σ : qS) (post : Int32 → qS → Prop) : Prop := ((x1 < 0 → bkX6_written_12 G post σ) ∧ (¬ x1 < 0 → ((x1 < (σ h0 6) → vp_in x1 (G.2.2 ((G.2.1 h0 5))) ∧ post (σ ((G.2.1 h0 5)) x1.toNatClampNeg) σ) ∧ (¬ x1 < (σ h0 6) → bkX6_written_12 G post σ))))
set_option maxHeartbeats 4000000 in
set_option maxRecDepth 100000 in
theorem sdX6_written {l : Launch} {E : qE} {L : List Nat} {G : qG} (hN : L.Nodup) (hG : q_WF G L) {h0 : Nat} {x1 : Int32} (Lh0 : h0 ∈ L) (Kh0 : G.1 h0 = 6) {σ : qS} {post : Int32 → qS → Prop} (h : wpX6_written G h0 x1 σ post) : MtI l E L G yX6_written wsX6_written (q_rm 1) [.ref h0, .int x1] σ post := by
  refine q_met (Qc := fun sz => va_Qi post (q_B E L G) (q_free L sz)) (cc := cX6_written) (maxL := 2) (ret := (some .int)) (own := RX6) (by decide) rfl rfl (Nat.le_of_ble_eq_true rfl) hN hG ?_
  intro p e s m below meth c C
  unfold wpX6_written at h
  refine q_iload_n (pc := 0) C dX6_written_0 rfl 1 rfl ?_
  refine q_if_lt (tgt := 12) (pc := 1) C dX6_written_1 (by decide) (fun c1 => ?_) (fun c1 => ?_)
  · replace h := h.1 c1
    refine q_lv (lv' := []) [] rfl ?_
    exact sbX6_written_12 C h
  · replace h := h.2 c1
    refine q_iload_n (pc := 4) C dX6_written_4 rfl 1 rfl ?_
    refine q_aload_n (pc := 5) C dX6_written_5 rfl 0 rfl ?_
    refine q_g6_6 (pc := 6) C Lh0 Kh0 mwX6_written_0 mwX6_written_1 dX6_written_6 ?_
    refine q_icmp_lt (tgt := 16) (pc := 9) C dX6_written_9 (by decide) (fun c2 => ?_) (fun c2 => ?_)
    · replace h := h.1 c2
      refine q_aload_n (pc := 16) C dX6_written_16 rfl 0 rfl ?_
      obtain ⟨Lr3, Kr3⟩ := qw_6_5 C.2.2.2.2.2.2 Lh0 Kh0
      refine q_g6_5 (pc := 17) C Lh0 Kh0 mwX6_written_0 mwX6_written_2 dX6_written_17 ?_
      refine q_iload_n (pc := 20) C dX6_written_20 rfl 1 rfl ?_
      obtain ⟨b4, h⟩ := h
      refine q_iald (pc := 21) C Lr3 Kr3 b4 dX6_written_21 ?_
      exact q_iret (pc := 22) C dX6_written_22 h
    · replace h := h.2 c2
      refine q_lv (lv' := []) [] rfl ?_
      exact sbX6_written_12 C h
theorem mwX6_type_0 : ∀ w ∈ wsX60, w ∈ wsX6_type := by decide +kernel
theorem mwX6_type_1 : Cond.fieldLink RX6 105 "IntFileModel" "typed" "I" ∈ wsX6_type := by decide +kernel
theorem mwX6_type_2 : Cond.fieldLink RX6 23 "IntFileModel" "tape" "[I" ∈ wsX6_type := by decide +kernel
def lpX6_type_33 (G : qG) (h0 : Nat) (x1 : Int64) (post : Int32 → qS → Prop) (kx75 : qS → Prop) : Nat → Int32 → qS → Prop
  | 0, _, _ => False
  | n + 1, x4, σ => ((x4 < 0 → kx75 σ) ∧ (¬ x4 < 0 → vp_in (σ h0 8) (G.2.2 ((G.2.1 h0 7))) ∧ ∀ σ8 : qS, σ8 = q_st σ ((G.2.1 h0 7)) (σ h0 8).toNatClampNeg (((((x1.toUInt64 >>> (((8 : Int32) * x4).toInt64.toUInt64 &&& Int64.toUInt64 63)).toInt64).toInt32) &&& 255)) → ∀ σ9 : qS, σ9 = q_st σ8 h0 8 ((σ8 h0 8) + 1) → ∀ v10 : Int32, v10 = x4 + (-1) → lpX6_type_33 G h0 x1 post kx75 n v10 σ9))
set_option maxHeartbeats 4000000 in
set_option maxRecDepth 100000 in
theorem slX6_type_33 {p : Program} {l : Launch} {e : Env} {s : State} {m : MethodId} {args : Array Value} {below : List Frame} {meth : Method} {c : Code} {E : qE} {L : List Nat} {G : qG} {A : Nat → Prop} (C : q_C p s m args meth c cX6_type 5 wsX6_type RX6 (some .int) E L G A) {h0 : Nat} {x1 : Int64} (Lh0 : h0 ∈ L) (Kh0 : G.1 h0 = 6) {post : Int32 → qS → Prop} {kx75 : qS → Prop} (Hkx75 : ∀  (τ : qS), kx75  τ → Wd p l e (q_rm 1) s m args below meth c E L G A (MQ below (va_Qi post (q_B E L G) A) args s 0 0 A) 5 τ 75 [(0, .ref h0)] []) : ∀ (n : Nat) (x4 : Int32) (σ : qS), lpX6_type_33 G h0 x1 post kx75 n x4 σ → Wd p l e (q_rm 1) s m args below meth c E L G A (MQ below (va_Qi post (q_B E L G) A) args s 0 0 A) 5 σ 33 [(0, .ref h0), (1, .long x1), (4, .int x4)] [] := by
  intro n
  induction n with
  | zero => intro x4 σ h; exact h.elim
  | succ n ih =>
    intro x4 σ h
    unfold lpX6_type_33 at h
    refine q_iload (pc := 33) C dX6_type_33 2 rfl ?_
    refine q_if_lt (tgt := 75) (pc := 35) C dX6_type_35 (by decide) (fun c5 => ?_) (fun c5 => ?_)
    · replace h := h.1 c5
      refine q_lv (lv' := [(0, .ref h0)]) [0] rfl ?_
      exact Hkx75  σ h
    · replace h := h.2 c5
      refine q_aload_n (pc := 38) C dX6_type_38 rfl 0 rfl ?_
      obtain ⟨Lr6, Kr6⟩ := qw_6_7 C.2.2.2.2.2.2 Lh0 Kh0
      refine q_g6_7 (pc := 39) C Lh0 Kh0 mwX6_type_0 mwX6_type_2 dX6_type_39 ?_
      refine q_aload_n (pc := 42) C dX6_type_42 rfl 0 rfl ?_
      refine q_g6_8 (pc := 43) C Lh0 Kh0 mwX6_type_0 mwX6_type_1 dX6_type_43 ?_
      refine q_lload_n (pc := 46) C dX6_type_46 rfl 1 rfl ?_
      refine q_bipush (pc := 47) (v := 8) C dX6_type_47 (by decide) ?_
      refine q_iload (pc := 49) C dX6_type_49 2 rfl ?_
      refine q_imul (pc := 51) C dX6_type_51 ?_
      refine q_lushr (pc := 52) C dX6_type_52 ?_
      refine q_l2i (pc := 53) C dX6_type_53 ?_
      refine q_sipush (pc := 54) (v := 255) C dX6_type_54 (by decide) ?_
      refine q_iand (pc := 57) C dX6_type_57 ?_
      obtain ⟨b7, h⟩ := h
      refine q_iast (pc := 58) C Lr6 Kr6 b7 dX6_type_58 (fun σ8 eσ8 => ?_)
      replace h := h σ8 eσ8
      refine q_aload_n (pc := 59) C dX6_type_59 rfl 0 rfl ?_
      refine q_dup (pc := 60) C dX6_type_60 rfl ?_
      refine q_g6_8 (pc := 61) C Lh0 Kh0 mwX6_type_0 mwX6_type_1 dX6_type_61 ?_
      refine q_iconst (pc := 64) (v := 1) C dX6_type_64 (by decide) ?_
      refine q_iadd (pc := 65) C dX6_type_65 ?_
      refine q_p6_8 (pc := 66) C Lh0 Kh0 mwX6_type_0 mwX6_type_1 dX6_type_66 (fun σ9 eσ9 => ?_)
      replace h := h σ9 eσ9
      obtain ⟨v10, ev10⟩ : ∃ z : Int32, z = x4 + (-1) := ⟨_, rfl⟩
      replace h := h v10 ev10
      refine q_iinc (pc := 69) (v := v10) (j := 2) (lv' := [(4, .int v10), (0, .ref h0), (1, .long x1)]) C dX6_type_69 rfl (by rw [ev10]; rfl) (by decide) rfl ?_
      refine q_goto (tgt := 33) (pc := 72) C dX6_type_72 (by decide) ?_
      refine q_lv (lv' := [(0, .ref h0), (1, .long x1), (4, .int v10)]) [1, 2, 0] rfl ?_
      exact ih v10 σ9 h
def wpX6_type (G : qG) (h0 : Nat) (x1 : Int64) (x3 : Int32) (σ : qS) (post : Int32 → qS → Prop) : Prop := ((x3 < 1 → post ((-1)) σ) ∧ (¬ x3 < 1 → ((x3 ≤ 8 → ((((σ h0 8) + x3) ≤ 1300 → ∀ v4 : Int32, v4 = x3 - 1 → ∃ n12 : Nat, lpX6_type_33 G h0 x1 post (fun  (σ11 : qS) => post (σ11 h0 8) σ11) n12 v4 σ) ∧ (¬ ((σ h0 8) + x3) ≤ 1300 → post ((-3)) σ))) ∧ (¬ x3 ≤ 8 → post ((-1)) σ))))
set_option maxHeartbeats 4000000 in
set_option maxRecDepth 100000 in
theorem sdX6_type {l : Launch} {E : qE} {L : List Nat} {G : qG} (hN : L.Nodup) (hG : q_WF G L) {h0 : Nat} {x1 : Int64} {x3 : Int32} (Lh0 : h0 ∈ L) (Kh0 : G.1 h0 = 6) {σ : qS} {post : Int32 → qS → Prop} (h : wpX6_type G h0 x1 x3 σ post) : MtI l E L G yX6_type wsX6_type (q_rm 1) [.ref h0, .long x1, .int x3] σ post := by
  refine q_met (Qc := fun sz => va_Qi post (q_B E L G) (q_free L sz)) (cc := cX6_type) (maxL := 5) (ret := (some .int)) (own := RX6) (by decide) rfl rfl (Nat.le_of_ble_eq_true rfl) hN hG ?_
  intro p e s m below meth c C
  unfold wpX6_type at h
  refine q_iload_n (pc := 0) C dX6_type_0 rfl 2 rfl ?_
  refine q_iconst (pc := 1) (v := 1) C dX6_type_1 (by decide) ?_
  refine q_icmp_lt (tgt := 11) (pc := 2) C dX6_type_2 (by decide) (fun c1 => ?_) (fun c1 => ?_)
  · replace h := h.1 c1
    refine q_iconst (pc := 11) (v := (-1)) C dX6_type_11 (by decide) ?_
    exact q_iret (pc := 12) C dX6_type_12 h
  · replace h := h.2 c1
    refine q_iload_n (pc := 5) C dX6_type_5 rfl 2 rfl ?_
    refine q_bipush (pc := 6) (v := 8) C dX6_type_6 (by decide) ?_
    refine q_icmp_le (tgt := 13) (pc := 8) C dX6_type_8 (by decide) (fun c2 => ?_) (fun c2 => ?_)
    · replace h := h.1 c2
      refine q_aload_n (pc := 13) C dX6_type_13 rfl 0 rfl ?_
      refine q_g6_8 (pc := 14) C Lh0 Kh0 mwX6_type_0 mwX6_type_1 dX6_type_14 ?_
      refine q_iload_n (pc := 17) C dX6_type_17 rfl 2 rfl ?_
      refine q_iadd (pc := 18) C dX6_type_18 ?_
      refine q_sipush (pc := 19) (v := 1300) C dX6_type_19 (by decide) ?_
      refine q_icmp_le (tgt := 28) (pc := 22) C dX6_type_22 (by decide) (fun c3 => ?_) (fun c3 => ?_)
      · replace h := h.1 c3
        refine q_iload_n (pc := 28) C dX6_type_28 rfl 2 rfl ?_
        refine q_iconst (pc := 29) (v := 1) C dX6_type_29 (by decide) ?_
        refine q_isub (pc := 30) C dX6_type_30 ?_
        refine q_topi (fun v4 ev4 => ?_)
        replace h := h v4 ev4
        refine q_istore (pc := 31) (lv' := [(4, .int v4), (0, .ref h0), (1, .long x1), (3, .int x3)]) C dX6_type_31 (by decide) rfl ?_
        refine q_lv (lv' := [(0, .ref h0), (1, .long x1), (4, .int v4)]) [1, 2, 0] rfl ?_
        obtain ⟨n12, h⟩ := h
        refine slX6_type_33 C Lh0 Kh0 ?_ n12 v4 σ h
        · intro σ11 h
          refine q_aload_n (pc := 75) C dX6_type_75 rfl 0 rfl ?_
          refine q_g6_8 (pc := 76) C Lh0 Kh0 mwX6_type_0 mwX6_type_1 dX6_type_76 ?_
          exact q_iret (pc := 79) C dX6_type_79 h
      · replace h := h.2 c3
        refine q_bipush (pc := 25) (v := (-3)) C dX6_type_25 (by decide) ?_
        exact q_iret (pc := 27) C dX6_type_27 h
    · replace h := h.2 c2
      refine q_iconst (pc := 11) (v := (-1)) C dX6_type_11 (by decide) ?_
      exact q_iret (pc := 12) C dX6_type_12 h
theorem mwX6_read_0 : ∀ w ∈ wsX60, w ∈ wsX6_read := by decide +kernel
theorem mwX6_read_1 : Cond.fieldLink RX6 105 "IntFileModel" "typed" "I" ∈ wsX6_read := by decide +kernel
theorem mwX6_read_2 : Cond.fieldLink RX6 23 "IntFileModel" "tape" "[I" ∈ wsX6_read := by decide +kernel
theorem mwX6_read_3 : Cond.fieldLink RX6 13 "IntFileModel" "lens" "[I" ∈ wsX6_read := by decide +kernel
theorem mwX6_read_4 : Cond.fieldLink RX6 16 "IntFileModel" "below" "[Z" ∈ wsX6_read := by decide +kernel
theorem mwX6_read_5 : Cond.constantLong RX6 108 (10) ∈ wsX6_read := by decide +kernel
def lpX6_read_55 (G : qG) (h0 : Nat) (x1 : Int32) (x2 : Int32) (x3 : Int32) (post : Int32 → qS → Prop) (kx85 : Int32 → qS → Prop) (kx97 : qS → Prop) : Nat → Int32 → qS → Prop
  | 0, _, _ => False
  | n + 1, x4, σ => ((x2 ≤ x4 → kx97 σ) ∧ (¬ x2 ≤ x4 → vp_in x4 (G.2.2 ((G.2.1 h0 7))) ∧ (((σ ((G.2.1 h0 7)) x4.toNatClampNeg) < 48 → kx85 x4 σ) ∧ (¬ (σ ((G.2.1 h0 7)) x4.toNatClampNeg) < 48 → vp_in x4 (G.2.2 ((G.2.1 h0 7))) ∧ (((σ ((G.2.1 h0 7)) x4.toNatClampNeg) ≤ 57 → ∀ v13 : Int32, v13 = x4 + 1 → lpX6_read_55 G h0 x1 x2 x3 post kx85 kx97 n v13 σ) ∧ (¬ (σ ((G.2.1 h0 7)) x4.toNatClampNeg) ≤ 57 → kx85 x4 σ))))))
set_option maxHeartbeats 4000000 in
set_option maxRecDepth 100000 in
theorem slX6_read_55 {p : Program} {l : Launch} {e : Env} {s : State} {m : MethodId} {args : Array Value} {below : List Frame} {meth : Method} {c : Code} {E : qE} {L : List Nat} {G : qG} {A : Nat → Prop} (C : q_C p s m args meth c cX6_read 5 wsX6_read RX6 (some .int) E L G A) {h0 : Nat} {x1 : Int32} {x2 : Int32} {x3 : Int32} (Lh0 : h0 ∈ L) (Kh0 : G.1 h0 = 6) {post : Int32 → qS → Prop} {kx85 : Int32 → qS → Prop} {kx97 : qS → Prop} (Hkx85 : ∀ (y4 : Int32) (τ : qS), kx85 y4 τ → Wd p l e (q_rm 3) s m args below meth c E L G A (MQ below (va_Qi post (q_B E L G) A) args s 0 0 A) 5 τ 85 [(4, .int y4)] []) (Hkx97 : ∀  (τ : qS), kx97  τ → Wd p l e (q_rm 3) s m args below meth c E L G A (MQ below (va_Qi post (q_B E L G) A) args s 0 0 A) 5 τ 97 [(0, .ref h0), (1, .int x1), (2, .int x2), (3, .int x3)] []) : ∀ (n : Nat) (x4 : Int32) (σ : qS), lpX6_read_55 G h0 x1 x2 x3 post kx85 kx97 n x4 σ → Wd p l e (q_rm 3) s m args below meth c E L G A (MQ below (va_Qi post (q_B E L G) A) args s 0 0 A) 5 σ 55 [(0, .ref h0), (1, .int x1), (2, .int x2), (3, .int x3), (4, .int x4)] [] := by
  intro n
  induction n with
  | zero => intro x4 σ h; exact h.elim
  | succ n ih =>
    intro x4 σ h
    unfold lpX6_read_55 at h
    refine q_iload (pc := 55) C dX6_read_55 4 rfl ?_
    refine q_iload_n (pc := 57) C dX6_read_57 rfl 2 rfl ?_
    refine q_icmp_ge (tgt := 97) (pc := 58) C dX6_read_58 (by decide) (fun c7 => ?_) (fun c7 => ?_)
    · replace h := h.1 c7
      refine q_lv (lv' := [(0, .ref h0), (1, .int x1), (2, .int x2), (3, .int x3)]) [0, 1, 2, 3] rfl ?_
      exact Hkx97  σ h
    · replace h := h.2 c7
      refine q_aload_n (pc := 61) C dX6_read_61 rfl 0 rfl ?_
      obtain ⟨Lr8, Kr8⟩ := qw_6_7 C.2.2.2.2.2.2 Lh0 Kh0
      refine q_g6_7 (pc := 62) C Lh0 Kh0 mwX6_read_0 mwX6_read_2 dX6_read_62 ?_
      refine q_iload (pc := 65) C dX6_read_65 4 rfl ?_
      obtain ⟨b9, h⟩ := h
      refine q_iald (pc := 67) C Lr8 Kr8 b9 dX6_read_67 ?_
      refine q_bipush (pc := 68) (v := 48) C dX6_read_68 (by decide) ?_
      refine q_icmp_lt (tgt := 85) (pc := 70) C dX6_read_70 (by decide) (fun c10 => ?_) (fun c10 => ?_)
      · replace h := h.1 c10
        refine q_lv (lv' := [(4, .int x4)]) [4] rfl ?_
        exact Hkx85 x4 σ h
      · replace h := h.2 c10
        refine q_aload_n (pc := 73) C dX6_read_73 rfl 0 rfl ?_
        refine q_g6_7 (pc := 74) C Lh0 Kh0 mwX6_read_0 mwX6_read_2 dX6_read_74 ?_
        refine q_iload (pc := 77) C dX6_read_77 4 rfl ?_
        obtain ⟨b11, h⟩ := h
        refine q_iald (pc := 79) C Lr8 Kr8 b11 dX6_read_79 ?_
        refine q_bipush (pc := 80) (v := 57) C dX6_read_80 (by decide) ?_
        refine q_icmp_le (tgt := 91) (pc := 82) C dX6_read_82 (by decide) (fun c12 => ?_) (fun c12 => ?_)
        · replace h := h.1 c12
          obtain ⟨v13, ev13⟩ : ∃ z : Int32, z = x4 + 1 := ⟨_, rfl⟩
          replace h := h v13 ev13
          refine q_iinc (pc := 91) (v := v13) (j := 4) (lv' := [(4, .int v13), (0, .ref h0), (1, .int x1), (2, .int x2), (3, .int x3)]) C dX6_read_91 rfl (by rw [ev13]; rfl) (by decide) rfl ?_
          refine q_goto (tgt := 55) (pc := 94) C dX6_read_94 (by decide) ?_
          refine q_lv (lv' := [(0, .ref h0), (1, .int x1), (2, .int x2), (3, .int x3), (4, .int v13)]) [1, 2, 3, 4, 0] rfl ?_
          exact ih v13 σ h
        · replace h := h.2 c12
          refine q_lv (lv' := [(4, .int x4)]) [4] rfl ?_
          exact Hkx85 x4 σ h
def bkX6_read_85 (G : qG) (x4 : Int32) (post : Int32 → qS → Prop) (σ : qS) : Prop := post (((-10)) - x4) σ
set_option maxHeartbeats 4000000 in
set_option maxRecDepth 100000 in
theorem sbX6_read_85 {p : Program} {l : Launch} {e : Env} {s : State} {m : MethodId} {args : Array Value} {below : List Frame} {meth : Method} {c : Code} {E : qE} {L : List Nat} {G : qG} {A : Nat → Prop} (C : q_C p s m args meth c cX6_read 5 wsX6_read RX6 (some .int) E L G A) {x4 : Int32} {post : Int32 → qS → Prop} {σ : qS} (h : bkX6_read_85 G x4 post σ) : Wd p l e (q_rm 3) s m args below meth c E L G A (MQ below (va_Qi post (q_B E L G) A) args s 0 0 A) 5 σ 85 [(4, .int x4)] [] := by
  unfold bkX6_read_85 at h
  refine q_bipush (pc := 85) (v := (-10)) C dX6_read_85 (by decide) ?_
  refine q_iload (pc := 87) C dX6_read_87 0 rfl ?_
  refine q_isub (pc := 89) C dX6_read_89 ?_
  exact q_iret (pc := 90) C dX6_read_90 h
def lpX6_read_135 (G : qG) (h0 : Nat) (x1 : Int32) (x2 : Int32) (x3 : Int32) (post : Int32 → qS → Prop) (kx184 : qS → Prop) : Nat → Int32 → qS → Prop
  | 0, _, _ => False
  | n + 1, x4, σ => ((x2 ≤ x4 → kx184 σ) ∧ (¬ x2 ≤ x4 → wpX6_times G h0 12 20 23 σ (fun (σ27 : qS) => vp_in x4 (G.2.2 ((G.2.1 h0 7))) ∧ wpX6_small G h0 13 (((σ27 ((G.2.1 h0 7)) x4.toNatClampNeg) - 48).toInt64) σ27 (fun (σ31 : qS) => wpX6_plus G h0 20 12 13 σ31 (fun (σ33 : qS) => ∀ v35 : Int32, v35 = x4 + 1 → lpX6_read_135 G h0 x1 x2 x3 post kx184 n v35 σ33)))))
set_option maxHeartbeats 4000000 in
set_option maxRecDepth 100000 in
theorem slX6_read_135 {p : Program} {l : Launch} {e : Env} {s : State} {m : MethodId} {args : Array Value} {below : List Frame} {meth : Method} {c : Code} {E : qE} {L : List Nat} {G : qG} {A : Nat → Prop} (C : q_C p s m args meth c cX6_read 5 wsX6_read RX6 (some .int) E L G A) {h0 : Nat} {x1 : Int32} {x2 : Int32} {x3 : Int32} (Lh0 : h0 ∈ L) (Kh0 : G.1 h0 = 6) {post : Int32 → qS → Prop} {kx184 : qS → Prop} (Hkx184 : ∀  (τ : qS), kx184  τ → Wd p l e (q_rm 3) s m args below meth c E L G A (MQ below (va_Qi post (q_B E L G) A) args s 0 0 A) 5 τ 184 [(0, .ref h0), (1, .int x1), (3, .int x3)] []) : ∀ (n : Nat) (x4 : Int32) (σ : qS), lpX6_read_135 G h0 x1 x2 x3 post kx184 n x4 σ → Wd p l e (q_rm 3) s m args below meth c E L G A (MQ below (va_Qi post (q_B E L G) A) args s 0 0 A) 5 σ 135 [(0, .ref h0), (1, .int x1), (2, .int x2), (3, .int x3), (4, .int x4)] [] := by
  intro n
  induction n with
  | zero => intro x4 σ h; exact h.elim
  | succ n ih =>
    intro x4 σ h
    unfold lpX6_read_135 at h
    refine q_iload (pc := 135) C dX6_read_135 4 rfl ?_
    refine q_iload_n (pc := 137) C dX6_read_137 rfl 2 rfl ?_
    refine q_icmp_ge (tgt := 184) (pc := 138) C dX6_read_138 (by decide) (fun c26 => ?_) (fun c26 => ?_)
    · replace h := h.1 c26
      refine q_lv (lv' := [(0, .ref h0), (1, .int x1), (3, .int x3)]) [0, 1, 3] rfl ?_
      exact Hkx184  σ h
    · replace h := h.2 c26
      refine q_aload_n (pc := 141) C dX6_read_141 rfl 0 rfl ?_
      refine q_bipush (pc := 142) (v := 12) C dX6_read_142 (by decide) ?_
      refine q_bipush (pc := 144) (v := 20) C dX6_read_144 (by decide) ?_
      refine q_bipush (pc := 146) (v := 23) C dX6_read_146 (by decide) ?_
      refine q_cVv (pc := 148) (As := [.int 12, .int 20, .int 23]) (ci := 6) (Cn := RX6) (T := TX6) (N := 9) C (sdX6_times C.2.2.2.2.2.1 C.2.2.2.2.2.2 Lh0 Kh0 h) (cwV 3 C.1.2.2.2.2 gX6_read_X6_times rfl rfl rfl (by decide +kernel) (q_room (by decide) (by decide))) Lh0 (qc6 Kh0 _) rfl rfl rfl (Nat.le_of_ble_eq_true rfl) dX6_read_148 (fun σ27 h => ?_)
      refine q_aload_n (pc := 151) C dX6_read_151 rfl 0 rfl ?_
      refine q_bipush (pc := 152) (v := 13) C dX6_read_152 (by decide) ?_
      refine q_aload_n (pc := 154) C dX6_read_154 rfl 0 rfl ?_
      obtain ⟨Lr29, Kr29⟩ := qw_6_7 C.2.2.2.2.2.2 Lh0 Kh0
      refine q_g6_7 (pc := 155) C Lh0 Kh0 mwX6_read_0 mwX6_read_2 dX6_read_155 ?_
      refine q_iload (pc := 158) C dX6_read_158 4 rfl ?_
      obtain ⟨b30, h⟩ := h
      refine q_iald (pc := 160) C Lr29 Kr29 b30 dX6_read_160 ?_
      refine q_bipush (pc := 161) (v := 48) C dX6_read_161 (by decide) ?_
      refine q_isub (pc := 163) C dX6_read_163 ?_
      refine q_i2l (pc := 164) C dX6_read_164 ?_
      refine q_cVv (pc := 165) (As := [.int 13, .long (((σ27 ((G.2.1 h0 7)) x4.toNatClampNeg) - 48).toInt64)]) (ci := 6) (Cn := RX6) (T := TX6) (N := 9) C (sdX6_small C.2.2.2.2.2.1 C.2.2.2.2.2.2 Lh0 Kh0 h) (cwV 2 C.1.2.2.2.2 gX6_read_X6_small rfl rfl rfl (by decide +kernel) (q_room (by decide) (by decide))) Lh0 (qc6 Kh0 _) rfl rfl rfl (Nat.le_of_ble_eq_true rfl) dX6_read_165 (fun σ31 h => ?_)
      refine q_aload_n (pc := 168) C dX6_read_168 rfl 0 rfl ?_
      refine q_bipush (pc := 169) (v := 20) C dX6_read_169 (by decide) ?_
      refine q_bipush (pc := 171) (v := 12) C dX6_read_171 (by decide) ?_
      refine q_bipush (pc := 173) (v := 13) C dX6_read_173 (by decide) ?_
      refine q_cVv (pc := 175) (As := [.int 20, .int 12, .int 13]) (ci := 6) (Cn := RX6) (T := TX6) (N := 9) C (sdX6_plus C.2.2.2.2.2.1 C.2.2.2.2.2.2 Lh0 Kh0 h) (cwV 3 C.1.2.2.2.2 gX6_read_X6_plus rfl rfl rfl (by decide +kernel) (q_room (by decide) (by decide))) Lh0 (qc6 Kh0 _) rfl rfl rfl (Nat.le_of_ble_eq_true rfl) dX6_read_175 (fun σ33 h => ?_)
      obtain ⟨v35, ev35⟩ : ∃ z : Int32, z = x4 + 1 := ⟨_, rfl⟩
      replace h := h v35 ev35
      refine q_iinc (pc := 178) (v := v35) (j := 4) (lv' := [(4, .int v35), (0, .ref h0), (1, .int x1), (2, .int x2), (3, .int x3)]) C dX6_read_178 rfl (by rw [ev35]; rfl) (by decide) rfl ?_
      refine q_goto (tgt := 135) (pc := 181) C dX6_read_181 (by decide) ?_
      refine q_lv (lv' := [(0, .ref h0), (1, .int x1), (2, .int x2), (3, .int x3), (4, .int v35)]) [1, 2, 3, 4, 0] rfl ?_
      exact ih v35 σ33 h
def bkX6_read_221 (G : qG) (h0 : Nat) (x1 : Int32) (s0 : Nat) (s1 : Int32) (s2 : Int32) (post : Int32 → qS → Prop) (σ : qS) : Prop := vp_in s1 (G.2.2 s0) ∧ (s2 = 0 ∨ s2 = 1) ∧ ∀ σ40 : qS, σ40 = q_st σ s0 s1.toNatClampNeg s2 → wpX6_keep G h0 x1 20 σ40 (fun (u42 : Int32) (σ41 : qS) => post u42 σ41)
set_option maxHeartbeats 4000000 in
set_option maxRecDepth 100000 in
theorem sbX6_read_221 {p : Program} {l : Launch} {e : Env} {s : State} {m : MethodId} {args : Array Value} {below : List Frame} {meth : Method} {c : Code} {E : qE} {L : List Nat} {G : qG} {A : Nat → Prop} (C : q_C p s m args meth c cX6_read 5 wsX6_read RX6 (some .int) E L G A) {h0 : Nat} {x1 : Int32} {s0 : Nat} {s1 : Int32} {s2 : Int32} (Lh0 : h0 ∈ L) (Kh0 : G.1 h0 = 6) (Ls0 : s0 ∈ L) (Ks0 : G.1 s0 = 9) {post : Int32 → qS → Prop} {σ : qS} (h : bkX6_read_221 G h0 x1 s0 s1 s2 post σ) : Wd p l e (q_rm 3) s m args below meth c E L G A (MQ below (va_Qi post (q_B E L G) A) args s 0 0 A) 5 σ 221 [(0, .ref h0), (1, .int x1)] [.int s2, .int s1, .ref s0] := by
  unfold bkX6_read_221 at h
  obtain ⟨b38, h⟩ := h
  obtain ⟨z39, h⟩ := h
  refine q_zast (pc := 221) C Ls0 Ks0 b38 z39 dX6_read_221 (fun σ40 eσ40 => ?_)
  replace h := h σ40 eσ40
  refine q_aload_n (pc := 222) C dX6_read_222 rfl 0 rfl ?_
  refine q_iload_n (pc := 223) C dX6_read_223 rfl 1 rfl ?_
  refine q_bipush (pc := 224) (v := 20) C dX6_read_224 (by decide) ?_
  refine q_cVi (pc := 226) (As := [.int x1, .int 20]) (ci := 6) (Cn := RX6) (T := TX6) (N := 9) C (sdX6_keep C.2.2.2.2.2.1 C.2.2.2.2.2.2 Lh0 Kh0 h) (cwV 2 C.1.2.2.2.2 gX6_read_X6_keep rfl rfl rfl (by decide +kernel) (q_room (by decide) (by decide))) Lh0 (qc6 Kh0 _) rfl rfl rfl (Nat.le_of_ble_eq_true rfl) dX6_read_226 (fun u42 σ41 h => ?_)
  exact q_iret (pc := 229) C dX6_read_229 h
def bkX6_read_220 (G : qG) (h0 : Nat) (x1 : Int32) (s0 : Nat) (s1 : Int32) (post : Int32 → qS → Prop) (σ : qS) : Prop := bkX6_read_221 G h0 x1 s0 s1 0 post σ
set_option maxHeartbeats 4000000 in
set_option maxRecDepth 100000 in
theorem sbX6_read_220 {p : Program} {l : Launch} {e : Env} {s : State} {m : MethodId} {args : Array Value} {below : List Frame} {meth : Method} {c : Code} {E : qE} {L : List Nat} {G : qG} {A : Nat → Prop} (C : q_C p s m args meth c cX6_read 5 wsX6_read RX6 (some .int) E L G A) {h0 : Nat} {x1 : Int32} {s0 : Nat} {s1 : Int32} (Lh0 : h0 ∈ L) (Kh0 : G.1 h0 = 6) (Ls0 : s0 ∈ L) (Ks0 : G.1 s0 = 9) {post : Int32 → qS → Prop} {σ : qS} (h : bkX6_read_220 G h0 x1 s0 s1 post σ) : Wd p l e (q_rm 3) s m args below meth c E L G A (MQ below (va_Qi post (q_B E L G) A) args s 0 0 A) 5 σ 220 [(0, .ref h0), (1, .int x1)] [.int s1, .ref s0] := by
  unfold bkX6_read_220 at h
  refine q_iconst (pc := 220) (v := 0) C dX6_read_220 (by decide) ?_
  exact sbX6_read_221 C Lh0 Kh0 Ls0 Ks0 h
def bkX6_read_51 (G : qG) (h0 : Nat) (x1 : Int32) (x2 : Int32) (s0 : Int32) (post : Int32 → qS → Prop) (σ : qS) : Prop := ∃ n49 : Nat, lpX6_read_55 G h0 x1 x2 s0 post (fun (w14 : Int32) (σ15 : qS) => bkX6_read_85 G w14 post σ15) (fun  (σ16 : qS) => ((x2 = s0 → post (((-10)) - x2) σ16) ∧ (¬ x2 = s0 → vp_in 20 (G.2.2 ((G.2.1 h0 3))) ∧ ∀ σ20 : qS, σ20 = q_st σ16 ((G.2.1 h0 3)) (20 : Int32).toNatClampNeg 0 → vp_in 20 (G.2.2 ((G.2.1 h0 4))) ∧ ∀ σ23 : qS, σ23 = q_st σ20 ((G.2.1 h0 4)) (20 : Int32).toNatClampNeg 0 → wpX6_small G h0 23 10 σ23 (fun (σ24 : qS) => ∃ n48 : Nat, lpX6_read_135 G h0 x1 x2 s0 post (fun  (σ36 : qS) => ((s0 = 1 → vp_in 0 (G.2.2 ((G.2.1 h0 7))) ∧ (((σ36 ((G.2.1 h0 7)) (0 : Int32).toNatClampNeg) = 45 → vp_in 20 (G.2.2 ((G.2.1 h0 3))) ∧ (((σ36 ((G.2.1 h0 3)) (20 : Int32).toNatClampNeg) ≤ 0 → bkX6_read_220 G h0 x1 ((G.2.1 h0 4)) 20 post σ36) ∧ (¬ (σ36 ((G.2.1 h0 3)) (20 : Int32).toNatClampNeg) ≤ 0 → bkX6_read_221 G h0 x1 ((G.2.1 h0 4)) 20 1 post σ36))) ∧ (¬ (σ36 ((G.2.1 h0 7)) (0 : Int32).toNatClampNeg) = 45 → bkX6_read_220 G h0 x1 ((G.2.1 h0 4)) 20 post σ36))) ∧ (¬ s0 = 1 → bkX6_read_220 G h0 x1 ((G.2.1 h0 4)) 20 post σ36))) n48 s0 σ24)))) n49 s0 σ
set_option maxHeartbeats 4000000 in
set_option maxRecDepth 100000 in
theorem sbX6_read_51 {p : Program} {l : Launch} {e : Env} {s : State} {m : MethodId} {args : Array Value} {below : List Frame} {meth : Method} {c : Code} {E : qE} {L : List Nat} {G : qG} {A : Nat → Prop} (C : q_C p s m args meth c cX6_read 5 wsX6_read RX6 (some .int) E L G A) {h0 : Nat} {x1 : Int32} {x2 : Int32} {s0 : Int32} (Lh0 : h0 ∈ L) (Kh0 : G.1 h0 = 6) {post : Int32 → qS → Prop} {σ : qS} (h : bkX6_read_51 G h0 x1 x2 s0 post σ) : Wd p l e (q_rm 3) s m args below meth c E L G A (MQ below (va_Qi post (q_B E L G) A) args s 0 0 A) 5 σ 51 [(0, .ref h0), (1, .int x1), (2, .int x2)] [.int s0] := by
  unfold bkX6_read_51 at h
  refine q_istore_n (pc := 51) (lv' := [(3, .int s0), (0, .ref h0), (1, .int x1), (2, .int x2)]) C dX6_read_51 rfl (by decide) rfl ?_
  refine q_iload_n (pc := 52) C dX6_read_52 rfl 0 rfl ?_
  refine q_istore (pc := 53) (lv' := [(4, .int s0), (3, .int s0), (0, .ref h0), (1, .int x1), (2, .int x2)]) C dX6_read_53 (by decide) rfl ?_
  refine q_lv (lv' := [(0, .ref h0), (1, .int x1), (2, .int x2), (3, .int s0), (4, .int s0)]) [2, 3, 4, 1, 0] rfl ?_
  obtain ⟨n49, h⟩ := h
  refine slX6_read_55 C Lh0 Kh0 ?_ ?_ n49 s0 σ h
  · intro w14 σ15 h
    exact sbX6_read_85 C h
  · intro σ16 h
    refine q_iload_n (pc := 97) C dX6_read_97 rfl 2 rfl ?_
    refine q_iload_n (pc := 98) C dX6_read_98 rfl 3 rfl ?_
    refine q_icmp_ne (tgt := 107) (pc := 99) C dX6_read_99 (by decide) (fun c17 => ?_) (fun c17 => ?_)
    · replace h := h.2 c17
      refine q_aload_n (pc := 107) C dX6_read_107 rfl 0 rfl ?_
      obtain ⟨Lr18, Kr18⟩ := qw_6_3 C.2.2.2.2.2.2 Lh0 Kh0
      refine q_g6_3 (pc := 108) C Lh0 Kh0 mwX6_read_0 mwX6_read_3 dX6_read_108 ?_
      refine q_bipush (pc := 111) (v := 20) C dX6_read_111 (by decide) ?_
      refine q_iconst (pc := 113) (v := 0) C dX6_read_113 (by decide) ?_
      obtain ⟨b19, h⟩ := h
      refine q_iast (pc := 114) C Lr18 Kr18 b19 dX6_read_114 (fun σ20 eσ20 => ?_)
      replace h := h σ20 eσ20
      refine q_aload_n (pc := 115) C dX6_read_115 rfl 0 rfl ?_
      obtain ⟨Lr21, Kr21⟩ := qw_6_4 C.2.2.2.2.2.2 Lh0 Kh0
      refine q_g6_4 (pc := 116) C Lh0 Kh0 mwX6_read_0 mwX6_read_4 dX6_read_116 ?_
      refine q_bipush (pc := 119) (v := 20) C dX6_read_119 (by decide) ?_
      refine q_iconst (pc := 121) (v := 0) C dX6_read_121 (by decide) ?_
      obtain ⟨b22, h⟩ := h
      refine q_zast (pc := 122) C Lr21 Kr21 b22 (Or.inl rfl) dX6_read_122 (fun σ23 eσ23 => ?_)
      replace h := h σ23 eσ23
      refine q_aload_n (pc := 123) C dX6_read_123 rfl 0 rfl ?_
      refine q_bipush (pc := 124) (v := 23) C dX6_read_124 (by decide) ?_
      refine q_ldc2 (pc := 126) (v := 10) C dX6_read_126 mwX6_read_5 ?_
      refine q_cVv (pc := 129) (As := [.int 23, .long 10]) (ci := 6) (Cn := RX6) (T := TX6) (N := 9) C (sdX6_small C.2.2.2.2.2.1 C.2.2.2.2.2.2 Lh0 Kh0 h) (cwV 2 C.1.2.2.2.2 gX6_read_X6_small rfl rfl rfl (by decide +kernel) (q_room (by decide) (by decide))) Lh0 (qc6 Kh0 _) rfl rfl rfl (Nat.le_of_ble_eq_true rfl) dX6_read_129 (fun σ24 h => ?_)
      refine q_iload_n (pc := 132) C dX6_read_132 rfl 3 rfl ?_
      refine q_istore (pc := 133) (lv' := [(4, .int s0), (0, .ref h0), (1, .int x1), (2, .int x2), (3, .int s0)]) C dX6_read_133 (by decide) rfl ?_
      refine q_lv (lv' := [(0, .ref h0), (1, .int x1), (2, .int x2), (3, .int s0), (4, .int s0)]) [1, 2, 3, 4, 0] rfl ?_
      obtain ⟨n48, h⟩ := h
      refine slX6_read_135 C Lh0 Kh0 ?_ n48 s0 σ24 h
      · intro σ36 h
        refine q_aload_n (pc := 184) C dX6_read_184 rfl 0 rfl ?_
        refine q_g6_4 (pc := 185) C Lh0 Kh0 mwX6_read_0 mwX6_read_4 dX6_read_185 ?_
        refine q_bipush (pc := 188) (v := 20) C dX6_read_188 (by decide) ?_
        refine q_iload_n (pc := 190) C dX6_read_190 rfl 2 rfl ?_
        refine q_iconst (pc := 191) (v := 1) C dX6_read_191 (by decide) ?_
        refine q_icmp_ne (tgt := 220) (pc := 192) C dX6_read_192 (by decide) (fun c37 => ?_) (fun c37 => ?_)
        · replace h := h.2 c37
          refine q_lv (lv' := [(0, .ref h0), (1, .int x1)]) [0, 1] rfl ?_
          exact sbX6_read_220 C Lh0 Kh0 Lr21 Kr21 h
        · replace h := h.1 c37
          refine q_aload_n (pc := 195) C dX6_read_195 rfl 0 rfl ?_
          obtain ⟨Lr43, Kr43⟩ := qw_6_7 C.2.2.2.2.2.2 Lh0 Kh0
          refine q_g6_7 (pc := 196) C Lh0 Kh0 mwX6_read_0 mwX6_read_2 dX6_read_196 ?_
          refine q_iconst (pc := 199) (v := 0) C dX6_read_199 (by decide) ?_
          obtain ⟨b44, h⟩ := h
          refine q_iald (pc := 200) C Lr43 Kr43 b44 dX6_read_200 ?_
          refine q_bipush (pc := 201) (v := 45) C dX6_read_201 (by decide) ?_
          refine q_icmp_ne (tgt := 220) (pc := 203) C dX6_read_203 (by decide) (fun c45 => ?_) (fun c45 => ?_)
          · replace h := h.2 c45
            refine q_lv (lv' := [(0, .ref h0), (1, .int x1)]) [0, 1] rfl ?_
            exact sbX6_read_220 C Lh0 Kh0 Lr21 Kr21 h
          · replace h := h.1 c45
            refine q_aload_n (pc := 206) C dX6_read_206 rfl 0 rfl ?_
            refine q_g6_3 (pc := 207) C Lh0 Kh0 mwX6_read_0 mwX6_read_3 dX6_read_207 ?_
            refine q_bipush (pc := 210) (v := 20) C dX6_read_210 (by decide) ?_
            obtain ⟨b46, h⟩ := h
            refine q_iald (pc := 212) C Lr18 Kr18 b46 dX6_read_212 ?_
            refine q_if_le (tgt := 220) (pc := 213) C dX6_read_213 (by decide) (fun c47 => ?_) (fun c47 => ?_)
            · replace h := h.1 c47
              refine q_lv (lv' := [(0, .ref h0), (1, .int x1)]) [0, 1] rfl ?_
              exact sbX6_read_220 C Lh0 Kh0 Lr21 Kr21 h
            · replace h := h.2 c47
              refine q_iconst (pc := 216) (v := 1) C dX6_read_216 (by decide) ?_
              refine q_goto (tgt := 221) (pc := 217) C dX6_read_217 (by decide) ?_
              refine q_lv (lv' := [(0, .ref h0), (1, .int x1)]) [0, 1] rfl ?_
              exact sbX6_read_221 C Lh0 Kh0 Lr21 Kr21 h
    · replace h := h.1 c17
      refine q_bipush (pc := 102) (v := (-10)) C dX6_read_102 (by decide) ?_
      refine q_iload_n (pc := 104) C dX6_read_104 rfl 2 rfl ?_
      refine q_isub (pc := 105) C dX6_read_105 ?_
      exact q_iret (pc := 106) C dX6_read_106 h
def bkX6_read_50 (G : qG) (h0 : Nat) (x1 : Int32) (x2 : Int32) (post : Int32 → qS → Prop) (σ : qS) : Prop := bkX6_read_51 G h0 x1 x2 0 post σ
set_option maxHeartbeats 4000000 in
set_option maxRecDepth 100000 in
theorem sbX6_read_50 {p : Program} {l : Launch} {e : Env} {s : State} {m : MethodId} {args : Array Value} {below : List Frame} {meth : Method} {c : Code} {E : qE} {L : List Nat} {G : qG} {A : Nat → Prop} (C : q_C p s m args meth c cX6_read 5 wsX6_read RX6 (some .int) E L G A) {h0 : Nat} {x1 : Int32} {x2 : Int32} (Lh0 : h0 ∈ L) (Kh0 : G.1 h0 = 6) {post : Int32 → qS → Prop} {σ : qS} (h : bkX6_read_50 G h0 x1 x2 post σ) : Wd p l e (q_rm 3) s m args below meth c E L G A (MQ below (va_Qi post (q_B E L G) A) args s 0 0 A) 5 σ 50 [(0, .ref h0), (1, .int x1), (2, .int x2)] [] := by
  unfold bkX6_read_50 at h
  refine q_iconst (pc := 50) (v := 0) C dX6_read_50 (by decide) ?_
  exact sbX6_read_51 C Lh0 Kh0 h
def bkX6_read_46 (G : qG) (h0 : Nat) (x1 : Int32) (x2 : Int32) (post : Int32 → qS → Prop) (σ : qS) : Prop := bkX6_read_51 G h0 x1 x2 1 post σ
set_option maxHeartbeats 4000000 in
set_option maxRecDepth 100000 in
theorem sbX6_read_46 {p : Program} {l : Launch} {e : Env} {s : State} {m : MethodId} {args : Array Value} {below : List Frame} {meth : Method} {c : Code} {E : qE} {L : List Nat} {G : qG} {A : Nat → Prop} (C : q_C p s m args meth c cX6_read 5 wsX6_read RX6 (some .int) E L G A) {h0 : Nat} {x1 : Int32} {x2 : Int32} (Lh0 : h0 ∈ L) (Kh0 : G.1 h0 = 6) {post : Int32 → qS → Prop} {σ : qS} (h : bkX6_read_46 G h0 x1 x2 post σ) : Wd p l e (q_rm 3) s m args below meth c E L G A (MQ below (va_Qi post (q_B E L G) A) args s 0 0 A) 5 σ 46 [(0, .ref h0), (1, .int x1), (2, .int x2)] [] := by
  unfold bkX6_read_46 at h
  refine q_iconst (pc := 46) (v := 1) C dX6_read_46 (by decide) ?_
  refine q_goto (tgt := 51) (pc := 47) C dX6_read_47 (by decide) ?_
  exact sbX6_read_51 C Lh0 Kh0 h
def wpX6_read (G : qG) (h0 : Nat) (x1 : Int32) (σ : qS) (post : Int32 → qS → Prop) : Prop := wpX6_is G h0 x1 σ (fun (u2 : Int32) (σ1 : qS) => ((u2 = 0 → post ((-1)) σ1) ∧ (¬ u2 = 0 → ∀ v4 : Int32, v4 = σ1 h0 8 → ∀ σ5 : qS, σ5 = q_st σ1 h0 8 0 → ((v4 ≤ 0 → bkX6_read_50 G h0 x1 v4 post σ5) ∧ (¬ v4 ≤ 0 → vp_in 0 (G.2.2 ((G.2.1 h0 7))) ∧ (((σ5 ((G.2.1 h0 7)) (0 : Int32).toNatClampNeg) = 43 → bkX6_read_46 G h0 x1 v4 post σ5) ∧ (¬ (σ5 ((G.2.1 h0 7)) (0 : Int32).toNatClampNeg) = 43 → vp_in 0 (G.2.2 ((G.2.1 h0 7))) ∧ (((σ5 ((G.2.1 h0 7)) (0 : Int32).toNatClampNeg) = 45 → bkX6_read_46 G h0 x1 v4 post σ5) ∧ (¬ (σ5 ((G.2.1 h0 7)) (0 : Int32).toNatClampNeg) = 45 → bkX6_read_50 G h0 x1 v4 post σ5)))))))))
set_option maxHeartbeats 4000000 in
set_option maxRecDepth 100000 in
theorem sdX6_read {l : Launch} {E : qE} {L : List Nat} {G : qG} (hN : L.Nodup) (hG : q_WF G L) {h0 : Nat} {x1 : Int32} (Lh0 : h0 ∈ L) (Kh0 : G.1 h0 = 6) {σ : qS} {post : Int32 → qS → Prop} (h : wpX6_read G h0 x1 σ post) : MtI l E L G yX6_read wsX6_read (q_rm 3) [.ref h0, .int x1] σ post := by
  refine q_met (Qc := fun sz => va_Qi post (q_B E L G) (q_free L sz)) (cc := cX6_read) (maxL := 5) (ret := (some .int)) (own := RX6) (by decide) rfl rfl (Nat.le_of_ble_eq_true rfl) hN hG ?_
  intro p e s m below meth c C
  unfold wpX6_read at h
  refine q_aload_n (pc := 0) C dX6_read_0 rfl 0 rfl ?_
  refine q_iload_n (pc := 1) C dX6_read_1 rfl 1 rfl ?_
  refine q_cVi (pc := 2) (As := [.int x1]) (ci := 6) (Cn := RX6) (T := TX6) (N := 9) C (sdX6_is C.2.2.2.2.2.1 C.2.2.2.2.2.2 Lh0 Kh0 h) (cwV 1 C.1.2.2.2.2 gX6_read_X6_is rfl rfl rfl (by decide +kernel) (q_room (by decide) (by decide))) Lh0 (qc6 Kh0 _) rfl rfl rfl (Nat.le_of_ble_eq_true rfl) dX6_read_2 (fun u2 σ1 h => ?_)
  refine q_if_ne (tgt := 10) (pc := 5) C dX6_read_5 (by decide) (fun c3 => ?_) (fun c3 => ?_)
  · replace h := h.2 c3
    refine q_aload_n (pc := 10) C dX6_read_10 rfl 0 rfl ?_
    refine q_g6_8 (pc := 11) C Lh0 Kh0 mwX6_read_0 mwX6_read_1 dX6_read_11 ?_
    refine q_topi (fun v4 ev4 => ?_)
    replace h := h v4 ev4
    refine q_istore_n (pc := 14) (lv' := [(2, .int v4), (0, .ref h0), (1, .int x1)]) C dX6_read_14 rfl (by decide) rfl ?_
    refine q_aload_n (pc := 15) C dX6_read_15 rfl 1 rfl ?_
    refine q_iconst (pc := 16) (v := 0) C dX6_read_16 (by decide) ?_
    refine q_p6_8 (pc := 17) C Lh0 Kh0 mwX6_read_0 mwX6_read_1 dX6_read_17 (fun σ5 eσ5 => ?_)
    replace h := h σ5 eσ5
    refine q_iload_n (pc := 20) C dX6_read_20 rfl 0 rfl ?_
    refine q_if_le (tgt := 50) (pc := 21) C dX6_read_21 (by decide) (fun c6 => ?_) (fun c6 => ?_)
    · replace h := h.1 c6
      refine q_lv (lv' := [(0, .ref h0), (1, .int x1), (2, .int v4)]) [1, 2, 0] rfl ?_
      exact sbX6_read_50 C Lh0 Kh0 h
    · replace h := h.2 c6
      refine q_aload_n (pc := 24) C dX6_read_24 rfl 1 rfl ?_
      obtain ⟨Lr50, Kr50⟩ := qw_6_7 C.2.2.2.2.2.2 Lh0 Kh0
      refine q_g6_7 (pc := 25) C Lh0 Kh0 mwX6_read_0 mwX6_read_2 dX6_read_25 ?_
      refine q_iconst (pc := 28) (v := 0) C dX6_read_28 (by decide) ?_
      obtain ⟨b51, h⟩ := h
      refine q_iald (pc := 29) C Lr50 Kr50 b51 dX6_read_29 ?_
      refine q_bipush (pc := 30) (v := 43) C dX6_read_30 (by decide) ?_
      refine q_icmp_eq (tgt := 46) (pc := 32) C dX6_read_32 (by decide) (fun c52 => ?_) (fun c52 => ?_)
      · replace h := h.1 c52
        refine q_lv (lv' := [(0, .ref h0), (1, .int x1), (2, .int v4)]) [1, 2, 0] rfl ?_
        exact sbX6_read_46 C Lh0 Kh0 h
      · replace h := h.2 c52
        refine q_aload_n (pc := 35) C dX6_read_35 rfl 1 rfl ?_
        refine q_g6_7 (pc := 36) C Lh0 Kh0 mwX6_read_0 mwX6_read_2 dX6_read_36 ?_
        refine q_iconst (pc := 39) (v := 0) C dX6_read_39 (by decide) ?_
        obtain ⟨b53, h⟩ := h
        refine q_iald (pc := 40) C Lr50 Kr50 b53 dX6_read_40 ?_
        refine q_bipush (pc := 41) (v := 45) C dX6_read_41 (by decide) ?_
        refine q_icmp_ne (tgt := 50) (pc := 43) C dX6_read_43 (by decide) (fun c54 => ?_) (fun c54 => ?_)
        · replace h := h.2 c54
          refine q_lv (lv' := [(0, .ref h0), (1, .int x1), (2, .int v4)]) [1, 2, 0] rfl ?_
          exact sbX6_read_50 C Lh0 Kh0 h
        · replace h := h.1 c54
          refine q_lv (lv' := [(0, .ref h0), (1, .int x1), (2, .int v4)]) [1, 2, 0] rfl ?_
          exact sbX6_read_46 C Lh0 Kh0 h
  · replace h := h.1 c3
    refine q_iconst (pc := 8) (v := (-1)) C dX6_read_8 (by decide) ?_
    exact q_iret (pc := 9) C dX6_read_9 h

theorem mwX5_isNone_0 : ∀ w ∈ wsX50, w ∈ wsX5_isNone := by decide +kernel
theorem mwX5_isNone_1 : Cond.fieldLink RX5 19 "IntFile" "file" "[LIntFile$Whole;" ∈ wsX5_isNone := by decide +kernel
def bkX5_isNone_13 (G : qG) (post : Int32 → qS → Prop) (σ : qS) : Prop := post 1 σ
set_option maxHeartbeats 4000000 in
set_option maxRecDepth 100000 in
theorem sbX5_isNone_13 {p : Program} {l : Launch} {e : Env} {s : State} {m : MethodId} {args : Array Value} {below : List Frame} {meth : Method} {c : Code} {E : qE} {L : List Nat} {G : qG} {A : Nat → Prop} (C : q_C p s m args meth c cX5_isNone 2 wsX5_isNone RX5 (some .boolean) E L G A) {post : Int32 → qS → Prop} {σ : qS} (h : bkX5_isNone_13 G post σ) : Wd p l e (q_rm 1) s m args below meth c E L G A (MQ below (va_Qi post (q_B E L G) A) args s 0 0 A) 2 σ 13 [] [] := by
  unfold bkX5_isNone_13 at h
  refine q_iconst (pc := 13) (v := 1) C dX5_isNone_13 (by decide) ?_
  refine q_goto (tgt := 18) (pc := 14) C dX5_isNone_14 (by decide) ?_
  exact q_zret (pc := 18) C dX5_isNone_18 (Or.inr rfl) h
def wpX5_isNone (G : qG) (h0 : Nat) (x1 : Int32) (σ : qS) (post : Int32 → qS → Prop) : Prop := ((x1 < 0 → bkX5_isNone_13 G post σ) ∧ (¬ x1 < 0 → ((x1 < (nI (G.2.2 ((G.2.1 h0 1)))) → post 0 σ) ∧ (¬ x1 < (nI (G.2.2 ((G.2.1 h0 1)))) → bkX5_isNone_13 G post σ))))
set_option maxHeartbeats 4000000 in
set_option maxRecDepth 100000 in
theorem sdX5_isNone {l : Launch} {E : qE} {L : List Nat} {G : qG} (hN : L.Nodup) (hG : q_WF G L) {h0 : Nat} {x1 : Int32} (Lh0 : h0 ∈ L) (Kh0 : G.1 h0 = 5) {σ : qS} {post : Int32 → qS → Prop} (h : wpX5_isNone G h0 x1 σ post) : MtI l E L G yX5_isNone wsX5_isNone (q_rm 1) [.ref h0, .int x1] σ post := by
  refine q_met (Qc := fun sz => va_Qi post (q_B E L G) (q_free L sz)) (cc := cX5_isNone) (maxL := 2) (ret := (some .boolean)) (own := RX5) (by decide) rfl rfl (Nat.le_of_ble_eq_true rfl) hN hG ?_
  intro p e s m below meth c C
  unfold wpX5_isNone at h
  refine q_iload_n (pc := 0) C dX5_isNone_0 rfl 1 rfl ?_
  refine q_if_lt (tgt := 13) (pc := 1) C dX5_isNone_1 (by decide) (fun c1 => ?_) (fun c1 => ?_)
  · replace h := h.1 c1
    refine q_lv (lv' := []) [] rfl ?_
    exact sbX5_isNone_13 C h
  · replace h := h.2 c1
    refine q_iload_n (pc := 4) C dX5_isNone_4 rfl 1 rfl ?_
    refine q_aload_n (pc := 5) C dX5_isNone_5 rfl 0 rfl ?_
    obtain ⟨Lr2, Kr2⟩ := qw_5_1 C.2.2.2.2.2.2 Lh0 Kh0
    refine q_g5_1 (pc := 6) C Lh0 Kh0 mwX5_isNone_0 mwX5_isNone_1 dX5_isNone_6 ?_
    refine q_alen10 (pc := 9) C Lr2 Kr2 dX5_isNone_9 ?_
    refine q_icmp_lt (tgt := 17) (pc := 10) C dX5_isNone_10 (by decide) (fun c3 => ?_) (fun c3 => ?_)
    · replace h := h.1 c3
      refine q_iconst (pc := 17) (v := 0) C dX5_isNone_17 (by decide) ?_
      exact q_zret (pc := 18) C dX5_isNone_18 (Or.inl rfl) h
    · replace h := h.2 c3
      refine q_lv (lv' := []) [] rfl ?_
      exact sbX5_isNone_13 C h
theorem mwX5_set_0 : ∀ w ∈ wsX50, w ∈ wsX5_set := by decide +kernel
theorem mwX5_set_1 : Cond.fieldLink RX5 19 "IntFile" "file" "[LIntFile$Whole;" ∈ wsX5_set := by decide +kernel
def wpX5_set (G : qG) (h0 : Nat) (x1 : Int32) (x2 : Int32) (σ : qS) (post : Int32 → qS → Prop) : Prop := wpX5_isNone G h0 x1 σ (fun (u2 : Int32) (σ1 : qS) => ((u2 = 0 → vp_in x1 (G.2.2 ((G.2.1 h0 1))) ∧ wpX4_becomeInt G ((G.2.1 ((G.2.1 h0 1)) x1.toNatClampNeg)) x2 σ1 (fun (σ7 : qS) => post 0 σ7)) ∧ (¬ u2 = 0 → post ((-1)) σ1)))
set_option maxHeartbeats 4000000 in
set_option maxRecDepth 100000 in
theorem sdX5_set {l : Launch} {E : qE} {L : List Nat} {G : qG} (hN : L.Nodup) (hG : q_WF G L) {h0 : Nat} {x1 : Int32} {x2 : Int32} (Lh0 : h0 ∈ L) (Kh0 : G.1 h0 = 5) {σ : qS} {post : Int32 → qS → Prop} (h : wpX5_set G h0 x1 x2 σ post) : MtI l E L G yX5_set wsX5_set (q_rm 3) [.ref h0, .int x1, .int x2] σ post := by
  refine q_met (Qc := fun sz => va_Qi post (q_B E L G) (q_free L sz)) (cc := cX5_set) (maxL := 3) (ret := (some .int)) (own := RX5) (by decide) rfl rfl (Nat.le_of_ble_eq_true rfl) hN hG ?_
  intro p e s m below meth c C
  unfold wpX5_set at h
  refine q_aload_n (pc := 0) C dX5_set_0 rfl 0 rfl ?_
  refine q_iload_n (pc := 1) C dX5_set_1 rfl 1 rfl ?_
  refine q_cVi (pc := 2) (As := [.int x1]) (ci := 5) (Cn := RX5) (T := TX5) (N := 9) C (sdX5_isNone C.2.2.2.2.2.1 C.2.2.2.2.2.2 Lh0 Kh0 h) (cwV 1 C.1.2.2.2.2 gX5_set_X5_isNone rfl rfl rfl (by decide +kernel) (q_room (by decide) (by decide))) Lh0 (qc5 Kh0 _) rfl rfl rfl (Nat.le_of_ble_eq_true rfl) dX5_set_2 (fun u2 σ1 h => ?_)
  refine q_if_eq (tgt := 10) (pc := 5) C dX5_set_5 (by decide) (fun c3 => ?_) (fun c3 => ?_)
  · replace h := h.1 c3
    refine q_aload_n (pc := 10) C dX5_set_10 rfl 0 rfl ?_
    obtain ⟨Lr4, Kr4⟩ := qw_5_1 C.2.2.2.2.2.2 Lh0 Kh0
    refine q_g5_1 (pc := 11) C Lh0 Kh0 mwX5_set_0 mwX5_set_1 dX5_set_11 ?_
    refine q_iload_n (pc := 14) C dX5_set_14 rfl 1 rfl ?_
    obtain ⟨b5, h⟩ := h
    refine q_aald (pc := 15) C Lr4 Kr4 b5 dX5_set_15 ?_
    obtain ⟨Lr6, Kr6⟩ := qw_10 C.2.2.2.2.2.2 Lr4 Kr4 b5
    refine q_iload_n (pc := 16) C dX5_set_16 rfl 2 rfl ?_
    refine q_cVv (pc := 17) (As := [.int x2]) (ci := 4) (Cn := RX4) (T := TX4) (N := 3) C (sdX4_becomeInt C.2.2.2.2.2.1 C.2.2.2.2.2.2 Lr6 Kr6 h) (cwV 1 C.1.2.2.2.2 gX5_set_X4_becomeInt rfl rfl rfl (by decide +kernel) (q_room (by decide) (by decide))) Lr6 (qc4 Kr6 _) rfl rfl rfl (Nat.le_of_ble_eq_true rfl) dX5_set_17 (fun σ7 h => ?_)
    refine q_iconst (pc := 20) (v := 0) C dX5_set_20 (by decide) ?_
    exact q_iret (pc := 21) C dX5_set_21 h
  · replace h := h.2 c3
    refine q_iconst (pc := 8) (v := (-1)) C dX5_set_8 (by decide) ?_
    exact q_iret (pc := 9) C dX5_set_9 h
theorem mwX5_put_0 : ∀ w ∈ wsX50, w ∈ wsX5_put := by decide +kernel
theorem mwX5_put_1 : Cond.fieldLink RX5 26 "IntFile" "result" "LIntFile$Whole;" ∈ wsX5_put := by decide +kernel
theorem mwX5_put_2 : ∀ w ∈ wsX40, w ∈ wsX5_put := by decide +kernel
theorem mwX5_put_3 : Cond.fieldLink RX5 100 "IntFile$Whole" "count" "I" ∈ wsX5_put := by decide +kernel
theorem mwX5_put_4 : Cond.fieldLink RX5 13 "IntFile" "width" "I" ∈ wsX5_put := by decide +kernel
theorem mwX5_put_5 : Cond.fieldLink RX5 19 "IntFile" "file" "[LIntFile$Whole;" ∈ wsX5_put := by decide +kernel
def wpX5_put (G : qG) (h0 : Nat) (x1 : Int32) (σ : qS) (post : Int32 → qS → Prop) : Prop := (((σ ((G.2.1 h0 2)) 1) ≤ (σ h0 0) → vp_in x1 (G.2.2 ((G.2.1 h0 1))) ∧ wpX4_become G ((G.2.1 ((G.2.1 h0 1)) x1.toNatClampNeg)) ((G.2.1 h0 2)) σ (fun (σ6 : qS) => post 0 σ6)) ∧ (¬ (σ ((G.2.1 h0 2)) 1) ≤ (σ h0 0) → post ((-3)) σ))
set_option maxHeartbeats 4000000 in
set_option maxRecDepth 100000 in
theorem sdX5_put {l : Launch} {E : qE} {L : List Nat} {G : qG} (hN : L.Nodup) (hG : q_WF G L) {h0 : Nat} {x1 : Int32} (Lh0 : h0 ∈ L) (Kh0 : G.1 h0 = 5) {σ : qS} {post : Int32 → qS → Prop} (h : wpX5_put G h0 x1 σ post) : MtI l E L G yX5_put wsX5_put (q_rm 2) [.ref h0, .int x1] σ post := by
  refine q_met (Qc := fun sz => va_Qi post (q_B E L G) (q_free L sz)) (cc := cX5_put) (maxL := 2) (ret := (some .int)) (own := RX5) (by decide) rfl rfl (Nat.le_of_ble_eq_true rfl) hN hG ?_
  intro p e s m below meth c C
  unfold wpX5_put at h
  refine q_aload_n (pc := 0) C dX5_put_0 rfl 0 rfl ?_
  obtain ⟨Lr1, Kr1⟩ := qw_5_2 C.2.2.2.2.2.2 Lh0 Kh0
  refine q_g5_2 (pc := 1) C Lh0 Kh0 mwX5_put_0 mwX5_put_1 dX5_put_1 ?_
  refine q_g4_1 (pc := 4) C Lr1 Kr1 mwX5_put_2 mwX5_put_3 dX5_put_4 ?_
  refine q_aload_n (pc := 7) C dX5_put_7 rfl 0 rfl ?_
  refine q_g5_0 (pc := 8) C Lh0 Kh0 mwX5_put_0 mwX5_put_4 dX5_put_8 ?_
  refine q_icmp_le (tgt := 17) (pc := 11) C dX5_put_11 (by decide) (fun c2 => ?_) (fun c2 => ?_)
  · replace h := h.1 c2
    refine q_aload_n (pc := 17) C dX5_put_17 rfl 0 rfl ?_
    obtain ⟨Lr3, Kr3⟩ := qw_5_1 C.2.2.2.2.2.2 Lh0 Kh0
    refine q_g5_1 (pc := 18) C Lh0 Kh0 mwX5_put_0 mwX5_put_5 dX5_put_18 ?_
    refine q_iload_n (pc := 21) C dX5_put_21 rfl 1 rfl ?_
    obtain ⟨b4, h⟩ := h
    refine q_aald (pc := 22) C Lr3 Kr3 b4 dX5_put_22 ?_
    obtain ⟨Lr5, Kr5⟩ := qw_10 C.2.2.2.2.2.2 Lr3 Kr3 b4
    refine q_aload_n (pc := 23) C dX5_put_23 rfl 0 rfl ?_
    refine q_g5_2 (pc := 24) C Lh0 Kh0 mwX5_put_0 mwX5_put_1 dX5_put_24 ?_
    refine q_cVv (pc := 27) (As := [.ref ((G.2.1 h0 2))]) (ci := 4) (Cn := RX4) (T := TX4) (N := 3) C (sdX4_become C.2.2.2.2.2.1 C.2.2.2.2.2.2 Lr5 Kr5 Lr1 Kr1 h) (cwV 1 C.1.2.2.2.2 gX5_put_X4_become rfl rfl rfl (by decide +kernel) (q_room (by decide) (by decide))) Lr5 (qc4 Kr5 _) rfl rfl rfl (Nat.le_of_ble_eq_true rfl) dX5_put_27 (fun σ6 h => ?_)
    refine q_iconst (pc := 30) (v := 0) C dX5_put_30 (by decide) ?_
    exact q_iret (pc := 31) C dX5_put_31 h
  · replace h := h.2 c2
    refine q_bipush (pc := 14) (v := (-3)) C dX5_put_14 (by decide) ?_
    exact q_iret (pc := 16) C dX5_put_16 h
theorem mwX5_push_0 : ∀ w ∈ wsX50, w ∈ wsX5_push := by decide +kernel
theorem mwX5_push_1 : Cond.fieldLink RX5 26 "IntFile" "result" "LIntFile$Whole;" ∈ wsX5_push := by decide +kernel
theorem mwX5_push_2 : Cond.fieldLink RX5 19 "IntFile" "file" "[LIntFile$Whole;" ∈ wsX5_push := by decide +kernel
def wpX5_push (G : qG) (h0 : Nat) (x1 : Int32) (x2 : Int32) (σ : qS) (post : Int32 → qS → Prop) : Prop := wpX5_isNone G h0 x1 σ (fun (u2 : Int32) (σ1 : qS) => ((u2 = 0 → vp_in x1 (G.2.2 ((G.2.1 h0 1))) ∧ wpX4_becomePushed G ((G.2.1 h0 2)) ((G.2.1 ((G.2.1 h0 1)) x1.toNatClampNeg)) x2 σ1 (fun (σ8 : qS) => wpX5_put G h0 x1 σ8 (fun (u11 : Int32) (σ10 : qS) => post u11 σ10))) ∧ (¬ u2 = 0 → post ((-1)) σ1)))
set_option maxHeartbeats 4000000 in
set_option maxRecDepth 100000 in
theorem sdX5_push {l : Launch} {E : qE} {L : List Nat} {G : qG} (hN : L.Nodup) (hG : q_WF G L) {h0 : Nat} {x1 : Int32} {x2 : Int32} (Lh0 : h0 ∈ L) (Kh0 : G.1 h0 = 5) {σ : qS} {post : Int32 → qS → Prop} (h : wpX5_push G h0 x1 x2 σ post) : MtI l E L G yX5_push wsX5_push (q_rm 3) [.ref h0, .int x1, .int x2] σ post := by
  refine q_met (Qc := fun sz => va_Qi post (q_B E L G) (q_free L sz)) (cc := cX5_push) (maxL := 3) (ret := (some .int)) (own := RX5) (by decide) rfl rfl (Nat.le_of_ble_eq_true rfl) hN hG ?_
  intro p e s m below meth c C
  unfold wpX5_push at h
  refine q_aload_n (pc := 0) C dX5_push_0 rfl 0 rfl ?_
  refine q_iload_n (pc := 1) C dX5_push_1 rfl 1 rfl ?_
  refine q_cVi (pc := 2) (As := [.int x1]) (ci := 5) (Cn := RX5) (T := TX5) (N := 9) C (sdX5_isNone C.2.2.2.2.2.1 C.2.2.2.2.2.2 Lh0 Kh0 h) (cwV 1 C.1.2.2.2.2 gX5_push_X5_isNone rfl rfl rfl (by decide +kernel) (q_room (by decide) (by decide))) Lh0 (qc5 Kh0 _) rfl rfl rfl (Nat.le_of_ble_eq_true rfl) dX5_push_2 (fun u2 σ1 h => ?_)
  refine q_if_eq (tgt := 10) (pc := 5) C dX5_push_5 (by decide) (fun c3 => ?_) (fun c3 => ?_)
  · replace h := h.1 c3
    refine q_aload_n (pc := 10) C dX5_push_10 rfl 0 rfl ?_
    obtain ⟨Lr4, Kr4⟩ := qw_5_2 C.2.2.2.2.2.2 Lh0 Kh0
    refine q_g5_2 (pc := 11) C Lh0 Kh0 mwX5_push_0 mwX5_push_1 dX5_push_11 ?_
    refine q_aload_n (pc := 14) C dX5_push_14 rfl 0 rfl ?_
    obtain ⟨Lr5, Kr5⟩ := qw_5_1 C.2.2.2.2.2.2 Lh0 Kh0
    refine q_g5_1 (pc := 15) C Lh0 Kh0 mwX5_push_0 mwX5_push_2 dX5_push_15 ?_
    refine q_iload_n (pc := 18) C dX5_push_18 rfl 1 rfl ?_
    obtain ⟨b6, h⟩ := h
    refine q_aald (pc := 19) C Lr5 Kr5 b6 dX5_push_19 ?_
    obtain ⟨Lr7, Kr7⟩ := qw_10 C.2.2.2.2.2.2 Lr5 Kr5 b6
    refine q_iload_n (pc := 20) C dX5_push_20 rfl 2 rfl ?_
    refine q_cVv (pc := 21) (As := [.ref ((G.2.1 ((G.2.1 h0 1)) x1.toNatClampNeg)), .int x2]) (ci := 4) (Cn := RX4) (T := TX4) (N := 3) C (sdX4_becomePushed C.2.2.2.2.2.1 C.2.2.2.2.2.2 Lr4 Kr4 Lr7 Kr7 h) (cwV 2 C.1.2.2.2.2 gX5_push_X4_becomePushed rfl rfl rfl (by decide +kernel) (q_room (by decide) (by decide))) Lr4 (qc4 Kr4 _) rfl rfl rfl (Nat.le_of_ble_eq_true rfl) dX5_push_21 (fun σ8 h => ?_)
    refine q_aload_n (pc := 24) C dX5_push_24 rfl 0 rfl ?_
    refine q_iload_n (pc := 25) C dX5_push_25 rfl 1 rfl ?_
    refine q_cVi (pc := 26) (As := [.int x1]) (ci := 5) (Cn := RX5) (T := TX5) (N := 9) C (sdX5_put C.2.2.2.2.2.1 C.2.2.2.2.2.2 Lh0 Kh0 h) (cwV 1 C.1.2.2.2.2 gX5_push_X5_put rfl rfl rfl (by decide +kernel) (q_room (by decide) (by decide))) Lh0 (qc5 Kh0 _) rfl rfl rfl (Nat.le_of_ble_eq_true rfl) dX5_push_26 (fun u11 σ10 h => ?_)
    exact q_iret (pc := 29) C dX5_push_29 h
  · replace h := h.2 c3
    refine q_iconst (pc := 8) (v := (-1)) C dX5_push_8 (by decide) ?_
    exact q_iret (pc := 9) C dX5_push_9 h
theorem mwX5_copy_0 : ∀ w ∈ wsX50, w ∈ wsX5_copy := by decide +kernel
theorem mwX5_copy_1 : Cond.fieldLink RX5 19 "IntFile" "file" "[LIntFile$Whole;" ∈ wsX5_copy := by decide +kernel
def wpX5_copy (G : qG) (h0 : Nat) (x1 : Int32) (x2 : Int32) (σ : qS) (post : Int32 → qS → Prop) : Prop := wpX5_isNone G h0 x1 σ (fun (u2 : Int32) (σ1 : qS) => ((u2 = 0 → wpX5_isNone G h0 x2 σ1 (fun (u5 : Int32) (σ4 : qS) => ((u5 = 0 → vp_in x1 (G.2.2 ((G.2.1 h0 1))) ∧ vp_in x2 (G.2.2 ((G.2.1 h0 1))) ∧ wpX4_become G ((G.2.1 ((G.2.1 h0 1)) x1.toNatClampNeg)) ((G.2.1 ((G.2.1 h0 1)) x2.toNatClampNeg)) σ4 (fun (σ12 : qS) => post 0 σ12)) ∧ (¬ u5 = 0 → post ((-1)) σ4)))) ∧ (¬ u2 = 0 → post ((-1)) σ1)))
set_option maxHeartbeats 4000000 in
set_option maxRecDepth 100000 in
theorem sdX5_copy {l : Launch} {E : qE} {L : List Nat} {G : qG} (hN : L.Nodup) (hG : q_WF G L) {h0 : Nat} {x1 : Int32} {x2 : Int32} (Lh0 : h0 ∈ L) (Kh0 : G.1 h0 = 5) {σ : qS} {post : Int32 → qS → Prop} (h : wpX5_copy G h0 x1 x2 σ post) : MtI l E L G yX5_copy wsX5_copy (q_rm 2) [.ref h0, .int x1, .int x2] σ post := by
  refine q_met (Qc := fun sz => va_Qi post (q_B E L G) (q_free L sz)) (cc := cX5_copy) (maxL := 3) (ret := (some .int)) (own := RX5) (by decide) rfl rfl (Nat.le_of_ble_eq_true rfl) hN hG ?_
  intro p e s m below meth c C
  unfold wpX5_copy at h
  refine q_aload_n (pc := 0) C dX5_copy_0 rfl 0 rfl ?_
  refine q_iload_n (pc := 1) C dX5_copy_1 rfl 1 rfl ?_
  refine q_cVi (pc := 2) (As := [.int x1]) (ci := 5) (Cn := RX5) (T := TX5) (N := 9) C (sdX5_isNone C.2.2.2.2.2.1 C.2.2.2.2.2.2 Lh0 Kh0 h) (cwV 1 C.1.2.2.2.2 gX5_copy_X5_isNone rfl rfl rfl (by decide +kernel) (q_room (by decide) (by decide))) Lh0 (qc5 Kh0 _) rfl rfl rfl (Nat.le_of_ble_eq_true rfl) dX5_copy_2 (fun u2 σ1 h => ?_)
  refine q_if_ne (tgt := 16) (pc := 5) C dX5_copy_5 (by decide) (fun c3 => ?_) (fun c3 => ?_)
  · replace h := h.2 c3
    refine q_iconst (pc := 16) (v := (-1)) C dX5_copy_16 (by decide) ?_
    exact q_iret (pc := 17) C dX5_copy_17 h
  · replace h := h.1 c3
    refine q_aload_n (pc := 8) C dX5_copy_8 rfl 0 rfl ?_
    refine q_iload_n (pc := 9) C dX5_copy_9 rfl 2 rfl ?_
    refine q_cVi (pc := 10) (As := [.int x2]) (ci := 5) (Cn := RX5) (T := TX5) (N := 9) C (sdX5_isNone C.2.2.2.2.2.1 C.2.2.2.2.2.2 Lh0 Kh0 h) (cwV 1 C.1.2.2.2.2 gX5_copy_X5_isNone rfl rfl rfl (by decide +kernel) (q_room (by decide) (by decide))) Lh0 (qc5 Kh0 _) rfl rfl rfl (Nat.le_of_ble_eq_true rfl) dX5_copy_10 (fun u5 σ4 h => ?_)
    refine q_if_eq (tgt := 18) (pc := 13) C dX5_copy_13 (by decide) (fun c6 => ?_) (fun c6 => ?_)
    · replace h := h.1 c6
      refine q_aload_n (pc := 18) C dX5_copy_18 rfl 0 rfl ?_
      obtain ⟨Lr7, Kr7⟩ := qw_5_1 C.2.2.2.2.2.2 Lh0 Kh0
      refine q_g5_1 (pc := 19) C Lh0 Kh0 mwX5_copy_0 mwX5_copy_1 dX5_copy_19 ?_
      refine q_iload_n (pc := 22) C dX5_copy_22 rfl 1 rfl ?_
      obtain ⟨b8, h⟩ := h
      refine q_aald (pc := 23) C Lr7 Kr7 b8 dX5_copy_23 ?_
      obtain ⟨Lr9, Kr9⟩ := qw_10 C.2.2.2.2.2.2 Lr7 Kr7 b8
      refine q_aload_n (pc := 24) C dX5_copy_24 rfl 0 rfl ?_
      refine q_g5_1 (pc := 25) C Lh0 Kh0 mwX5_copy_0 mwX5_copy_1 dX5_copy_25 ?_
      refine q_iload_n (pc := 28) C dX5_copy_28 rfl 2 rfl ?_
      obtain ⟨b10, h⟩ := h
      refine q_aald (pc := 29) C Lr7 Kr7 b10 dX5_copy_29 ?_
      obtain ⟨Lr11, Kr11⟩ := qw_10 C.2.2.2.2.2.2 Lr7 Kr7 b10
      refine q_cVv (pc := 30) (As := [.ref ((G.2.1 ((G.2.1 h0 1)) x2.toNatClampNeg))]) (ci := 4) (Cn := RX4) (T := TX4) (N := 3) C (sdX4_become C.2.2.2.2.2.1 C.2.2.2.2.2.2 Lr9 Kr9 Lr11 Kr11 h) (cwV 1 C.1.2.2.2.2 gX5_copy_X4_become rfl rfl rfl (by decide +kernel) (q_room (by decide) (by decide))) Lr9 (qc4 Kr9 _) rfl rfl rfl (Nat.le_of_ble_eq_true rfl) dX5_copy_30 (fun σ12 h => ?_)
      refine q_iconst (pc := 33) (v := 0) C dX5_copy_33 (by decide) ?_
      exact q_iret (pc := 34) C dX5_copy_34 h
    · replace h := h.2 c6
      refine q_iconst (pc := 16) (v := (-1)) C dX5_copy_16 (by decide) ?_
      exact q_iret (pc := 17) C dX5_copy_17 h
theorem mwX5_neg_0 : ∀ w ∈ wsX50, w ∈ wsX5_neg := by decide +kernel
theorem mwX5_neg_1 : Cond.fieldLink RX5 19 "IntFile" "file" "[LIntFile$Whole;" ∈ wsX5_neg := by decide +kernel
def wpX5_neg (G : qG) (h0 : Nat) (x1 : Int32) (σ : qS) (post : Int32 → qS → Prop) : Prop := wpX5_isNone G h0 x1 σ (fun (u2 : Int32) (σ1 : qS) => ((u2 = 0 → vp_in x1 (G.2.2 ((G.2.1 h0 1))) ∧ wpX4_turnSign G ((G.2.1 ((G.2.1 h0 1)) x1.toNatClampNeg)) σ1 (fun (σ7 : qS) => post 0 σ7)) ∧ (¬ u2 = 0 → post ((-1)) σ1)))
set_option maxHeartbeats 4000000 in
set_option maxRecDepth 100000 in
theorem sdX5_neg {l : Launch} {E : qE} {L : List Nat} {G : qG} (hN : L.Nodup) (hG : q_WF G L) {h0 : Nat} {x1 : Int32} (Lh0 : h0 ∈ L) (Kh0 : G.1 h0 = 5) {σ : qS} {post : Int32 → qS → Prop} (h : wpX5_neg G h0 x1 σ post) : MtI l E L G yX5_neg wsX5_neg (q_rm 2) [.ref h0, .int x1] σ post := by
  refine q_met (Qc := fun sz => va_Qi post (q_B E L G) (q_free L sz)) (cc := cX5_neg) (maxL := 2) (ret := (some .int)) (own := RX5) (by decide) rfl rfl (Nat.le_of_ble_eq_true rfl) hN hG ?_
  intro p e s m below meth c C
  unfold wpX5_neg at h
  refine q_aload_n (pc := 0) C dX5_neg_0 rfl 0 rfl ?_
  refine q_iload_n (pc := 1) C dX5_neg_1 rfl 1 rfl ?_
  refine q_cVi (pc := 2) (As := [.int x1]) (ci := 5) (Cn := RX5) (T := TX5) (N := 9) C (sdX5_isNone C.2.2.2.2.2.1 C.2.2.2.2.2.2 Lh0 Kh0 h) (cwV 1 C.1.2.2.2.2 gX5_neg_X5_isNone rfl rfl rfl (by decide +kernel) (q_room (by decide) (by decide))) Lh0 (qc5 Kh0 _) rfl rfl rfl (Nat.le_of_ble_eq_true rfl) dX5_neg_2 (fun u2 σ1 h => ?_)
  refine q_if_eq (tgt := 10) (pc := 5) C dX5_neg_5 (by decide) (fun c3 => ?_) (fun c3 => ?_)
  · replace h := h.1 c3
    refine q_aload_n (pc := 10) C dX5_neg_10 rfl 0 rfl ?_
    obtain ⟨Lr4, Kr4⟩ := qw_5_1 C.2.2.2.2.2.2 Lh0 Kh0
    refine q_g5_1 (pc := 11) C Lh0 Kh0 mwX5_neg_0 mwX5_neg_1 dX5_neg_11 ?_
    refine q_iload_n (pc := 14) C dX5_neg_14 rfl 1 rfl ?_
    obtain ⟨b5, h⟩ := h
    refine q_aald (pc := 15) C Lr4 Kr4 b5 dX5_neg_15 ?_
    obtain ⟨Lr6, Kr6⟩ := qw_10 C.2.2.2.2.2.2 Lr4 Kr4 b5
    refine q_cVv (pc := 16) (As := []) (ci := 4) (Cn := RX4) (T := TX4) (N := 3) C (sdX4_turnSign C.2.2.2.2.2.1 C.2.2.2.2.2.2 Lr6 Kr6 h) (cwV 0 C.1.2.2.2.2 gX5_neg_X4_turnSign rfl rfl rfl (by decide +kernel) (q_room (by decide) (by decide))) Lr6 (qc4 Kr6 _) rfl rfl rfl (Nat.le_of_ble_eq_true rfl) dX5_neg_16 (fun σ7 h => ?_)
    refine q_iconst (pc := 19) (v := 0) C dX5_neg_19 (by decide) ?_
    exact q_iret (pc := 20) C dX5_neg_20 h
  · replace h := h.2 c3
    refine q_iconst (pc := 8) (v := (-1)) C dX5_neg_8 (by decide) ?_
    exact q_iret (pc := 9) C dX5_neg_9 h
theorem mwX5_add_0 : ∀ w ∈ wsX50, w ∈ wsX5_add := by decide +kernel
theorem mwX5_add_1 : Cond.fieldLink RX5 26 "IntFile" "result" "LIntFile$Whole;" ∈ wsX5_add := by decide +kernel
theorem mwX5_add_2 : Cond.fieldLink RX5 19 "IntFile" "file" "[LIntFile$Whole;" ∈ wsX5_add := by decide +kernel
theorem mwX5_add_3 : ∀ w ∈ wsX40, w ∈ wsX5_add := by decide +kernel
theorem mwX5_add_4 : Cond.fieldLink RX5 88 "IntFile$Whole" "below" "Z" ∈ wsX5_add := by decide +kernel
def wpX5_add (G : qG) (h0 : Nat) (x1 : Int32) (x2 : Int32) (x3 : Int32) (σ : qS) (post : Int32 → qS → Prop) : Prop := wpX5_isNone G h0 x1 σ (fun (u2 : Int32) (σ1 : qS) => ((u2 = 0 → wpX5_isNone G h0 x2 σ1 (fun (u5 : Int32) (σ4 : qS) => ((u5 = 0 → wpX5_isNone G h0 x3 σ4 (fun (u8 : Int32) (σ7 : qS) => ((u8 = 0 → vp_in x2 (G.2.2 ((G.2.1 h0 1))) ∧ vp_in x3 (G.2.2 ((G.2.1 h0 1))) ∧ vp_in x3 (G.2.2 ((G.2.1 h0 1))) ∧ wpX4_becomeSum G ((G.2.1 h0 2)) ((G.2.1 ((G.2.1 h0 1)) x2.toNatClampNeg)) ((G.2.1 ((G.2.1 h0 1)) x3.toNatClampNeg)) (σ7 ((G.2.1 ((G.2.1 h0 1)) x3.toNatClampNeg)) 2) σ7 (fun (σ18 : qS) => wpX5_put G h0 x1 σ18 (fun (u21 : Int32) (σ20 : qS) => post u21 σ20))) ∧ (¬ u8 = 0 → post ((-1)) σ7)))) ∧ (¬ u5 = 0 → post ((-1)) σ4)))) ∧ (¬ u2 = 0 → post ((-1)) σ1)))
set_option maxHeartbeats 4000000 in
set_option maxRecDepth 100000 in
theorem sdX5_add {l : Launch} {E : qE} {L : List Nat} {G : qG} (hN : L.Nodup) (hG : q_WF G L) {h0 : Nat} {x1 : Int32} {x2 : Int32} {x3 : Int32} (Lh0 : h0 ∈ L) (Kh0 : G.1 h0 = 5) {σ : qS} {post : Int32 → qS → Prop} (h : wpX5_add G h0 x1 x2 x3 σ post) : MtI l E L G yX5_add wsX5_add (q_rm 4) [.ref h0, .int x1, .int x2, .int x3] σ post := by
  refine q_met (Qc := fun sz => va_Qi post (q_B E L G) (q_free L sz)) (cc := cX5_add) (maxL := 4) (ret := (some .int)) (own := RX5) (by decide) rfl rfl (Nat.le_of_ble_eq_true rfl) hN hG ?_
  intro p e s m below meth c C
  unfold wpX5_add at h
  refine q_aload_n (pc := 0) C dX5_add_0 rfl 0 rfl ?_
  refine q_iload_n (pc := 1) C dX5_add_1 rfl 1 rfl ?_
  refine q_cVi (pc := 2) (As := [.int x1]) (ci := 5) (Cn := RX5) (T := TX5) (N := 9) C (sdX5_isNone C.2.2.2.2.2.1 C.2.2.2.2.2.2 Lh0 Kh0 h) (cwV 1 C.1.2.2.2.2 gX5_add_X5_isNone rfl rfl rfl (by decide +kernel) (q_room (by decide) (by decide))) Lh0 (qc5 Kh0 _) rfl rfl rfl (Nat.le_of_ble_eq_true rfl) dX5_add_2 (fun u2 σ1 h => ?_)
  refine q_if_ne (tgt := 24) (pc := 5) C dX5_add_5 (by decide) (fun c3 => ?_) (fun c3 => ?_)
  · replace h := h.2 c3
    refine q_iconst (pc := 24) (v := (-1)) C dX5_add_24 (by decide) ?_
    exact q_iret (pc := 25) C dX5_add_25 h
  · replace h := h.1 c3
    refine q_aload_n (pc := 8) C dX5_add_8 rfl 0 rfl ?_
    refine q_iload_n (pc := 9) C dX5_add_9 rfl 2 rfl ?_
    refine q_cVi (pc := 10) (As := [.int x2]) (ci := 5) (Cn := RX5) (T := TX5) (N := 9) C (sdX5_isNone C.2.2.2.2.2.1 C.2.2.2.2.2.2 Lh0 Kh0 h) (cwV 1 C.1.2.2.2.2 gX5_add_X5_isNone rfl rfl rfl (by decide +kernel) (q_room (by decide) (by decide))) Lh0 (qc5 Kh0 _) rfl rfl rfl (Nat.le_of_ble_eq_true rfl) dX5_add_10 (fun u5 σ4 h => ?_)
    refine q_if_ne (tgt := 24) (pc := 13) C dX5_add_13 (by decide) (fun c6 => ?_) (fun c6 => ?_)
    · replace h := h.2 c6
      refine q_iconst (pc := 24) (v := (-1)) C dX5_add_24 (by decide) ?_
      exact q_iret (pc := 25) C dX5_add_25 h
    · replace h := h.1 c6
      refine q_aload_n (pc := 16) C dX5_add_16 rfl 0 rfl ?_
      refine q_iload_n (pc := 17) C dX5_add_17 rfl 3 rfl ?_
      refine q_cVi (pc := 18) (As := [.int x3]) (ci := 5) (Cn := RX5) (T := TX5) (N := 9) C (sdX5_isNone C.2.2.2.2.2.1 C.2.2.2.2.2.2 Lh0 Kh0 h) (cwV 1 C.1.2.2.2.2 gX5_add_X5_isNone rfl rfl rfl (by decide +kernel) (q_room (by decide) (by decide))) Lh0 (qc5 Kh0 _) rfl rfl rfl (Nat.le_of_ble_eq_true rfl) dX5_add_18 (fun u8 σ7 h => ?_)
      refine q_if_eq (tgt := 26) (pc := 21) C dX5_add_21 (by decide) (fun c9 => ?_) (fun c9 => ?_)
      · replace h := h.1 c9
        refine q_aload_n (pc := 26) C dX5_add_26 rfl 0 rfl ?_
        obtain ⟨Lr10, Kr10⟩ := qw_5_2 C.2.2.2.2.2.2 Lh0 Kh0
        refine q_g5_2 (pc := 27) C Lh0 Kh0 mwX5_add_0 mwX5_add_1 dX5_add_27 ?_
        refine q_aload_n (pc := 30) C dX5_add_30 rfl 0 rfl ?_
        obtain ⟨Lr11, Kr11⟩ := qw_5_1 C.2.2.2.2.2.2 Lh0 Kh0
        refine q_g5_1 (pc := 31) C Lh0 Kh0 mwX5_add_0 mwX5_add_2 dX5_add_31 ?_
        refine q_iload_n (pc := 34) C dX5_add_34 rfl 2 rfl ?_
        obtain ⟨b12, h⟩ := h
        refine q_aald (pc := 35) C Lr11 Kr11 b12 dX5_add_35 ?_
        obtain ⟨Lr13, Kr13⟩ := qw_10 C.2.2.2.2.2.2 Lr11 Kr11 b12
        refine q_aload_n (pc := 36) C dX5_add_36 rfl 0 rfl ?_
        refine q_g5_1 (pc := 37) C Lh0 Kh0 mwX5_add_0 mwX5_add_2 dX5_add_37 ?_
        refine q_iload_n (pc := 40) C dX5_add_40 rfl 3 rfl ?_
        obtain ⟨b14, h⟩ := h
        refine q_aald (pc := 41) C Lr11 Kr11 b14 dX5_add_41 ?_
        obtain ⟨Lr15, Kr15⟩ := qw_10 C.2.2.2.2.2.2 Lr11 Kr11 b14
        refine q_aload_n (pc := 42) C dX5_add_42 rfl 0 rfl ?_
        refine q_g5_1 (pc := 43) C Lh0 Kh0 mwX5_add_0 mwX5_add_2 dX5_add_43 ?_
        refine q_iload_n (pc := 46) C dX5_add_46 rfl 3 rfl ?_
        obtain ⟨b16, h⟩ := h
        refine q_aald (pc := 47) C Lr11 Kr11 b16 dX5_add_47 ?_
        obtain ⟨Lr17, Kr17⟩ := qw_10 C.2.2.2.2.2.2 Lr11 Kr11 b16
        refine q_g4_2 (pc := 48) C Lr17 Kr17 mwX5_add_3 mwX5_add_4 dX5_add_48 ?_
        refine q_cVv (pc := 51) (As := [.ref ((G.2.1 ((G.2.1 h0 1)) x2.toNatClampNeg)), .ref ((G.2.1 ((G.2.1 h0 1)) x3.toNatClampNeg)), .int (σ7 ((G.2.1 ((G.2.1 h0 1)) x3.toNatClampNeg)) 2)]) (ci := 4) (Cn := RX4) (T := TX4) (N := 3) C (sdX4_becomeSum C.2.2.2.2.2.1 C.2.2.2.2.2.2 Lr10 Kr10 Lr13 Kr13 Lr17 Kr17 h) (cwV 3 C.1.2.2.2.2 gX5_add_X4_becomeSum rfl rfl rfl (by decide +kernel) (q_room (by decide) (by decide))) Lr10 (qc4 Kr10 _) rfl rfl rfl (Nat.le_of_ble_eq_true rfl) dX5_add_51 (fun σ18 h => ?_)
        refine q_aload_n (pc := 54) C dX5_add_54 rfl 0 rfl ?_
        refine q_iload_n (pc := 55) C dX5_add_55 rfl 1 rfl ?_
        refine q_cVi (pc := 56) (As := [.int x1]) (ci := 5) (Cn := RX5) (T := TX5) (N := 9) C (sdX5_put C.2.2.2.2.2.1 C.2.2.2.2.2.2 Lh0 Kh0 h) (cwV 1 C.1.2.2.2.2 gX5_add_X5_put rfl rfl rfl (by decide +kernel) (q_room (by decide) (by decide))) Lh0 (qc5 Kh0 _) rfl rfl rfl (Nat.le_of_ble_eq_true rfl) dX5_add_56 (fun u21 σ20 h => ?_)
        exact q_iret (pc := 59) C dX5_add_59 h
      · replace h := h.2 c9
        refine q_iconst (pc := 24) (v := (-1)) C dX5_add_24 (by decide) ?_
        exact q_iret (pc := 25) C dX5_add_25 h
theorem mwX5_sub_0 : ∀ w ∈ wsX50, w ∈ wsX5_sub := by decide +kernel
theorem mwX5_sub_1 : Cond.fieldLink RX5 26 "IntFile" "result" "LIntFile$Whole;" ∈ wsX5_sub := by decide +kernel
theorem mwX5_sub_2 : Cond.fieldLink RX5 19 "IntFile" "file" "[LIntFile$Whole;" ∈ wsX5_sub := by decide +kernel
theorem mwX5_sub_3 : ∀ w ∈ wsX40, w ∈ wsX5_sub := by decide +kernel
theorem mwX5_sub_4 : Cond.fieldLink RX5 88 "IntFile$Whole" "below" "Z" ∈ wsX5_sub := by decide +kernel
def bkX5_sub_59 (G : qG) (h0 : Nat) (x1 : Int32) (s0 : Nat) (s1 : Nat) (s2 : Nat) (s3 : Int32) (post : Int32 → qS → Prop) (σ : qS) : Prop := wpX4_becomeSum G s0 s1 s2 s3 σ (fun (σ19 : qS) => wpX5_put G h0 x1 σ19 (fun (u22 : Int32) (σ21 : qS) => post u22 σ21))
set_option maxHeartbeats 4000000 in
set_option maxRecDepth 100000 in
theorem sbX5_sub_59 {p : Program} {l : Launch} {e : Env} {s : State} {m : MethodId} {args : Array Value} {below : List Frame} {meth : Method} {c : Code} {E : qE} {L : List Nat} {G : qG} {A : Nat → Prop} (C : q_C p s m args meth c cX5_sub 4 wsX5_sub RX5 (some .int) E L G A) {h0 : Nat} {x1 : Int32} {s0 : Nat} {s1 : Nat} {s2 : Nat} {s3 : Int32} (Lh0 : h0 ∈ L) (Kh0 : G.1 h0 = 5) (Ls0 : s0 ∈ L) (Ks0 : G.1 s0 = 4) (Ls1 : s1 ∈ L) (Ks1 : G.1 s1 = 4) (Ls2 : s2 ∈ L) (Ks2 : G.1 s2 = 4) {post : Int32 → qS → Prop} {σ : qS} (h : bkX5_sub_59 G h0 x1 s0 s1 s2 s3 post σ) : Wd p l e (q_rm 4) s m args below meth c E L G A (MQ below (va_Qi post (q_B E L G) A) args s 0 0 A) 4 σ 59 [(0, .ref h0), (1, .int x1)] [.int s3, .ref s2, .ref s1, .ref s0] := by
  unfold bkX5_sub_59 at h
  refine q_cVv (pc := 59) (As := [.ref s1, .ref s2, .int s3]) (ci := 4) (Cn := RX4) (T := TX4) (N := 3) C (sdX4_becomeSum C.2.2.2.2.2.1 C.2.2.2.2.2.2 Ls0 Ks0 Ls1 Ks1 Ls2 Ks2 h) (cwV 3 C.1.2.2.2.2 gX5_sub_X4_becomeSum rfl rfl rfl (by decide +kernel) (q_room (by decide) (by decide))) Ls0 (qc4 Ks0 _) rfl rfl rfl (Nat.le_of_ble_eq_true rfl) dX5_sub_59 (fun σ19 h => ?_)
  refine q_aload_n (pc := 62) C dX5_sub_62 rfl 0 rfl ?_
  refine q_iload_n (pc := 63) C dX5_sub_63 rfl 1 rfl ?_
  refine q_cVi (pc := 64) (As := [.int x1]) (ci := 5) (Cn := RX5) (T := TX5) (N := 9) C (sdX5_put C.2.2.2.2.2.1 C.2.2.2.2.2.2 Lh0 Kh0 h) (cwV 1 C.1.2.2.2.2 gX5_sub_X5_put rfl rfl rfl (by decide +kernel) (q_room (by decide) (by decide))) Lh0 (qc5 Kh0 _) rfl rfl rfl (Nat.le_of_ble_eq_true rfl) dX5_sub_64 (fun u22 σ21 h => ?_)
  exact q_iret (pc := 67) C dX5_sub_67 h
def wpX5_sub (G : qG) (h0 : Nat) (x1 : Int32) (x2 : Int32) (x3 : Int32) (σ : qS) (post : Int32 → qS → Prop) : Prop := wpX5_isNone G h0 x1 σ (fun (u2 : Int32) (σ1 : qS) => ((u2 = 0 → wpX5_isNone G h0 x2 σ1 (fun (u5 : Int32) (σ4 : qS) => ((u5 = 0 → wpX5_isNone G h0 x3 σ4 (fun (u8 : Int32) (σ7 : qS) => ((u8 = 0 → vp_in x2 (G.2.2 ((G.2.1 h0 1))) ∧ vp_in x3 (G.2.2 ((G.2.1 h0 1))) ∧ vp_in x3 (G.2.2 ((G.2.1 h0 1))) ∧ (((σ7 ((G.2.1 ((G.2.1 h0 1)) x3.toNatClampNeg)) 2) = 0 → bkX5_sub_59 G h0 x1 ((G.2.1 h0 2)) ((G.2.1 ((G.2.1 h0 1)) x2.toNatClampNeg)) ((G.2.1 ((G.2.1 h0 1)) x3.toNatClampNeg)) 1 post σ7) ∧ (¬ (σ7 ((G.2.1 ((G.2.1 h0 1)) x3.toNatClampNeg)) 2) = 0 → bkX5_sub_59 G h0 x1 ((G.2.1 h0 2)) ((G.2.1 ((G.2.1 h0 1)) x2.toNatClampNeg)) ((G.2.1 ((G.2.1 h0 1)) x3.toNatClampNeg)) 0 post σ7))) ∧ (¬ u8 = 0 → post ((-1)) σ7)))) ∧ (¬ u5 = 0 → post ((-1)) σ4)))) ∧ (¬ u2 = 0 → post ((-1)) σ1)))
set_option maxHeartbeats 4000000 in
set_option maxRecDepth 100000 in
theorem sdX5_sub {l : Launch} {E : qE} {L : List Nat} {G : qG} (hN : L.Nodup) (hG : q_WF G L) {h0 : Nat} {x1 : Int32} {x2 : Int32} {x3 : Int32} (Lh0 : h0 ∈ L) (Kh0 : G.1 h0 = 5) {σ : qS} {post : Int32 → qS → Prop} (h : wpX5_sub G h0 x1 x2 x3 σ post) : MtI l E L G yX5_sub wsX5_sub (q_rm 4) [.ref h0, .int x1, .int x2, .int x3] σ post := by
  refine q_met (Qc := fun sz => va_Qi post (q_B E L G) (q_free L sz)) (cc := cX5_sub) (maxL := 4) (ret := (some .int)) (own := RX5) (by decide) rfl rfl (Nat.le_of_ble_eq_true rfl) hN hG ?_
  intro p e s m below meth c C
  unfold wpX5_sub at h
  refine q_aload_n (pc := 0) C dX5_sub_0 rfl 0 rfl ?_
  refine q_iload_n (pc := 1) C dX5_sub_1 rfl 1 rfl ?_
  refine q_cVi (pc := 2) (As := [.int x1]) (ci := 5) (Cn := RX5) (T := TX5) (N := 9) C (sdX5_isNone C.2.2.2.2.2.1 C.2.2.2.2.2.2 Lh0 Kh0 h) (cwV 1 C.1.2.2.2.2 gX5_sub_X5_isNone rfl rfl rfl (by decide +kernel) (q_room (by decide) (by decide))) Lh0 (qc5 Kh0 _) rfl rfl rfl (Nat.le_of_ble_eq_true rfl) dX5_sub_2 (fun u2 σ1 h => ?_)
  refine q_if_ne (tgt := 24) (pc := 5) C dX5_sub_5 (by decide) (fun c3 => ?_) (fun c3 => ?_)
  · replace h := h.2 c3
    refine q_iconst (pc := 24) (v := (-1)) C dX5_sub_24 (by decide) ?_
    exact q_iret (pc := 25) C dX5_sub_25 h
  · replace h := h.1 c3
    refine q_aload_n (pc := 8) C dX5_sub_8 rfl 0 rfl ?_
    refine q_iload_n (pc := 9) C dX5_sub_9 rfl 2 rfl ?_
    refine q_cVi (pc := 10) (As := [.int x2]) (ci := 5) (Cn := RX5) (T := TX5) (N := 9) C (sdX5_isNone C.2.2.2.2.2.1 C.2.2.2.2.2.2 Lh0 Kh0 h) (cwV 1 C.1.2.2.2.2 gX5_sub_X5_isNone rfl rfl rfl (by decide +kernel) (q_room (by decide) (by decide))) Lh0 (qc5 Kh0 _) rfl rfl rfl (Nat.le_of_ble_eq_true rfl) dX5_sub_10 (fun u5 σ4 h => ?_)
    refine q_if_ne (tgt := 24) (pc := 13) C dX5_sub_13 (by decide) (fun c6 => ?_) (fun c6 => ?_)
    · replace h := h.2 c6
      refine q_iconst (pc := 24) (v := (-1)) C dX5_sub_24 (by decide) ?_
      exact q_iret (pc := 25) C dX5_sub_25 h
    · replace h := h.1 c6
      refine q_aload_n (pc := 16) C dX5_sub_16 rfl 0 rfl ?_
      refine q_iload_n (pc := 17) C dX5_sub_17 rfl 3 rfl ?_
      refine q_cVi (pc := 18) (As := [.int x3]) (ci := 5) (Cn := RX5) (T := TX5) (N := 9) C (sdX5_isNone C.2.2.2.2.2.1 C.2.2.2.2.2.2 Lh0 Kh0 h) (cwV 1 C.1.2.2.2.2 gX5_sub_X5_isNone rfl rfl rfl (by decide +kernel) (q_room (by decide) (by decide))) Lh0 (qc5 Kh0 _) rfl rfl rfl (Nat.le_of_ble_eq_true rfl) dX5_sub_18 (fun u8 σ7 h => ?_)
      refine q_if_eq (tgt := 26) (pc := 21) C dX5_sub_21 (by decide) (fun c9 => ?_) (fun c9 => ?_)
      · replace h := h.1 c9
        refine q_aload_n (pc := 26) C dX5_sub_26 rfl 0 rfl ?_
        obtain ⟨Lr10, Kr10⟩ := qw_5_2 C.2.2.2.2.2.2 Lh0 Kh0
        refine q_g5_2 (pc := 27) C Lh0 Kh0 mwX5_sub_0 mwX5_sub_1 dX5_sub_27 ?_
        refine q_aload_n (pc := 30) C dX5_sub_30 rfl 0 rfl ?_
        obtain ⟨Lr11, Kr11⟩ := qw_5_1 C.2.2.2.2.2.2 Lh0 Kh0
        refine q_g5_1 (pc := 31) C Lh0 Kh0 mwX5_sub_0 mwX5_sub_2 dX5_sub_31 ?_
        refine q_iload_n (pc := 34) C dX5_sub_34 rfl 2 rfl ?_
        obtain ⟨b12, h⟩ := h
        refine q_aald (pc := 35) C Lr11 Kr11 b12 dX5_sub_35 ?_
        obtain ⟨Lr13, Kr13⟩ := qw_10 C.2.2.2.2.2.2 Lr11 Kr11 b12
        refine q_aload_n (pc := 36) C dX5_sub_36 rfl 0 rfl ?_
        refine q_g5_1 (pc := 37) C Lh0 Kh0 mwX5_sub_0 mwX5_sub_2 dX5_sub_37 ?_
        refine q_iload_n (pc := 40) C dX5_sub_40 rfl 3 rfl ?_
        obtain ⟨b14, h⟩ := h
        refine q_aald (pc := 41) C Lr11 Kr11 b14 dX5_sub_41 ?_
        obtain ⟨Lr15, Kr15⟩ := qw_10 C.2.2.2.2.2.2 Lr11 Kr11 b14
        refine q_aload_n (pc := 42) C dX5_sub_42 rfl 0 rfl ?_
        refine q_g5_1 (pc := 43) C Lh0 Kh0 mwX5_sub_0 mwX5_sub_2 dX5_sub_43 ?_
        refine q_iload_n (pc := 46) C dX5_sub_46 rfl 3 rfl ?_
        obtain ⟨b16, h⟩ := h
        refine q_aald (pc := 47) C Lr11 Kr11 b16 dX5_sub_47 ?_
        obtain ⟨Lr17, Kr17⟩ := qw_10 C.2.2.2.2.2.2 Lr11 Kr11 b16
        refine q_g4_2 (pc := 48) C Lr17 Kr17 mwX5_sub_3 mwX5_sub_4 dX5_sub_48 ?_
        refine q_if_ne (tgt := 58) (pc := 51) C dX5_sub_51 (by decide) (fun c18 => ?_) (fun c18 => ?_)
        · replace h := h.2 c18
          refine q_iconst (pc := 58) (v := 0) C dX5_sub_58 (by decide) ?_
          refine q_lv (lv' := [(0, .ref h0), (1, .int x1)]) [0, 1] rfl ?_
          exact sbX5_sub_59 C Lh0 Kh0 Lr10 Kr10 Lr13 Kr13 Lr17 Kr17 h
        · replace h := h.1 c18
          refine q_iconst (pc := 54) (v := 1) C dX5_sub_54 (by decide) ?_
          refine q_goto (tgt := 59) (pc := 55) C dX5_sub_55 (by decide) ?_
          refine q_lv (lv' := [(0, .ref h0), (1, .int x1)]) [0, 1] rfl ?_
          exact sbX5_sub_59 C Lh0 Kh0 Lr10 Kr10 Lr13 Kr13 Lr17 Kr17 h
      · replace h := h.2 c9
        refine q_iconst (pc := 24) (v := (-1)) C dX5_sub_24 (by decide) ?_
        exact q_iret (pc := 25) C dX5_sub_25 h
theorem mwX5_mul_0 : ∀ w ∈ wsX50, w ∈ wsX5_mul := by decide +kernel
theorem mwX5_mul_1 : Cond.fieldLink RX5 19 "IntFile" "file" "[LIntFile$Whole;" ∈ wsX5_mul := by decide +kernel
theorem mwX5_mul_2 : Cond.fieldLink RX5 41 "IntFile" "products" "LIntFile$Products;" ∈ wsX5_mul := by decide +kernel
theorem mwX5_mul_3 : Cond.fieldLink RX5 26 "IntFile" "result" "LIntFile$Whole;" ∈ wsX5_mul := by decide +kernel
theorem mwX5_mul_4 : ∀ w ∈ wsX40, w ∈ wsX5_mul := by decide +kernel
theorem mwX5_mul_5 : Cond.fieldLink RX5 100 "IntFile$Whole" "count" "I" ∈ wsX5_mul := by decide +kernel
theorem mwX5_mul_6 : Cond.fieldLink RX5 13 "IntFile" "width" "I" ∈ wsX5_mul := by decide +kernel
def bkX5_mul_81 (G : qG) (h0 : Nat) (x1 : Int32) (x2 : Int32) (x3 : Int32) (post : Int32 → qS → Prop) (σ : qS) : Prop := vp_in x2 (G.2.2 ((G.2.1 h0 1))) ∧ vp_in x3 (G.2.2 ((G.2.1 h0 1))) ∧ wpX1_product G ((G.2.1 h0 5)) ((G.2.1 h0 2)) ((G.2.1 ((G.2.1 h0 1)) x2.toNatClampNeg)) ((G.2.1 ((G.2.1 h0 1)) x3.toNatClampNeg)) σ (fun (σ23 : qS) => wpX5_put G h0 x1 σ23 (fun (u26 : Int32) (σ25 : qS) => post u26 σ25))
set_option maxHeartbeats 4000000 in
set_option maxRecDepth 100000 in
theorem sbX5_mul_81 {p : Program} {l : Launch} {e : Env} {s : State} {m : MethodId} {args : Array Value} {below : List Frame} {meth : Method} {c : Code} {E : qE} {L : List Nat} {G : qG} {A : Nat → Prop} (C : q_C p s m args meth c cX5_mul 4 wsX5_mul RX5 (some .int) E L G A) {h0 : Nat} {x1 : Int32} {x2 : Int32} {x3 : Int32} (Lh0 : h0 ∈ L) (Kh0 : G.1 h0 = 5) {post : Int32 → qS → Prop} {σ : qS} (h : bkX5_mul_81 G h0 x1 x2 x3 post σ) : Wd p l e (q_rm 26) s m args below meth c E L G A (MQ below (va_Qi post (q_B E L G) A) args s 0 0 A) 4 σ 81 [(0, .ref h0), (1, .int x1), (2, .int x2), (3, .int x3)] [] := by
  unfold bkX5_mul_81 at h
  refine q_aload_n (pc := 81) C dX5_mul_81 rfl 0 rfl ?_
  obtain ⟨Lr16, Kr16⟩ := qw_5_5 C.2.2.2.2.2.2 Lh0 Kh0
  refine q_g5_5 (pc := 82) C Lh0 Kh0 mwX5_mul_0 mwX5_mul_2 dX5_mul_82 ?_
  refine q_aload_n (pc := 85) C dX5_mul_85 rfl 0 rfl ?_
  obtain ⟨Lr17, Kr17⟩ := qw_5_2 C.2.2.2.2.2.2 Lh0 Kh0
  refine q_g5_2 (pc := 86) C Lh0 Kh0 mwX5_mul_0 mwX5_mul_3 dX5_mul_86 ?_
  refine q_aload_n (pc := 89) C dX5_mul_89 rfl 0 rfl ?_
  obtain ⟨Lr18, Kr18⟩ := qw_5_1 C.2.2.2.2.2.2 Lh0 Kh0
  refine q_g5_1 (pc := 90) C Lh0 Kh0 mwX5_mul_0 mwX5_mul_1 dX5_mul_90 ?_
  refine q_iload_n (pc := 93) C dX5_mul_93 rfl 2 rfl ?_
  obtain ⟨b19, h⟩ := h
  refine q_aald (pc := 94) C Lr18 Kr18 b19 dX5_mul_94 ?_
  obtain ⟨Lr20, Kr20⟩ := qw_10 C.2.2.2.2.2.2 Lr18 Kr18 b19
  refine q_aload_n (pc := 95) C dX5_mul_95 rfl 0 rfl ?_
  refine q_g5_1 (pc := 96) C Lh0 Kh0 mwX5_mul_0 mwX5_mul_1 dX5_mul_96 ?_
  refine q_iload_n (pc := 99) C dX5_mul_99 rfl 3 rfl ?_
  obtain ⟨b21, h⟩ := h
  refine q_aald (pc := 100) C Lr18 Kr18 b21 dX5_mul_100 ?_
  obtain ⟨Lr22, Kr22⟩ := qw_10 C.2.2.2.2.2.2 Lr18 Kr18 b21
  refine q_cVv (pc := 101) (As := [.ref ((G.2.1 h0 2)), .ref ((G.2.1 ((G.2.1 h0 1)) x2.toNatClampNeg)), .ref ((G.2.1 ((G.2.1 h0 1)) x3.toNatClampNeg))]) (ci := 1) (Cn := RX1) (T := TX1) (N := 6) C (sdX1_product C.2.2.2.2.2.1 C.2.2.2.2.2.2 Lr16 Kr16 Lr17 Kr17 Lr20 Kr20 Lr22 Kr22 h) (cwV 3 C.1.2.2.2.2 gX5_mul_X1_product rfl rfl rfl (by decide +kernel) (q_room (by decide) (by decide))) Lr16 (qc1 Kr16 _) rfl rfl rfl (Nat.le_of_ble_eq_true rfl) dX5_mul_101 (fun σ23 h => ?_)
  refine q_aload_n (pc := 104) C dX5_mul_104 rfl 0 rfl ?_
  refine q_iload_n (pc := 105) C dX5_mul_105 rfl 1 rfl ?_
  refine q_cVi (pc := 106) (As := [.int x1]) (ci := 5) (Cn := RX5) (T := TX5) (N := 9) C (sdX5_put C.2.2.2.2.2.1 C.2.2.2.2.2.2 Lh0 Kh0 h) (cwV 1 C.1.2.2.2.2 gX5_mul_X5_put rfl rfl rfl (by decide +kernel) (q_room (by decide) (by decide))) Lh0 (qc5 Kh0 _) rfl rfl rfl (Nat.le_of_ble_eq_true rfl) dX5_mul_106 (fun u26 σ25 h => ?_)
  exact q_iret (pc := 109) C dX5_mul_109 h
def wpX5_mul (G : qG) (h0 : Nat) (x1 : Int32) (x2 : Int32) (x3 : Int32) (σ : qS) (post : Int32 → qS → Prop) : Prop := wpX5_isNone G h0 x1 σ (fun (u2 : Int32) (σ1 : qS) => ((u2 = 0 → wpX5_isNone G h0 x2 σ1 (fun (u5 : Int32) (σ4 : qS) => ((u5 = 0 → wpX5_isNone G h0 x3 σ4 (fun (u8 : Int32) (σ7 : qS) => ((u8 = 0 → vp_in x2 (G.2.2 ((G.2.1 h0 1))) ∧ wpX4_isZero G ((G.2.1 ((G.2.1 h0 1)) x2.toNatClampNeg)) σ7 (fun (u14 : Int32) (σ13 : qS) => ((u14 = 0 → vp_in x3 (G.2.2 ((G.2.1 h0 1))) ∧ wpX4_isZero G ((G.2.1 ((G.2.1 h0 1)) x3.toNatClampNeg)) σ13 (fun (u30 : Int32) (σ29 : qS) => ((u30 = 0 → vp_in x2 (G.2.2 ((G.2.1 h0 1))) ∧ vp_in x3 (G.2.2 ((G.2.1 h0 1))) ∧ (((((σ29 ((G.2.1 ((G.2.1 h0 1)) x2.toNatClampNeg)) 1) + (σ29 ((G.2.1 ((G.2.1 h0 1)) x3.toNatClampNeg)) 1)) - 1) ≤ (σ29 h0 0) → bkX5_mul_81 G h0 x1 x2 x3 post σ29) ∧ (¬ (((σ29 ((G.2.1 ((G.2.1 h0 1)) x2.toNatClampNeg)) 1) + (σ29 ((G.2.1 ((G.2.1 h0 1)) x3.toNatClampNeg)) 1)) - 1) ≤ (σ29 h0 0) → post ((-3)) σ29))) ∧ (¬ u30 = 0 → bkX5_mul_81 G h0 x1 x2 x3 post σ29)))) ∧ (¬ u14 = 0 → bkX5_mul_81 G h0 x1 x2 x3 post σ13)))) ∧ (¬ u8 = 0 → post ((-1)) σ7)))) ∧ (¬ u5 = 0 → post ((-1)) σ4)))) ∧ (¬ u2 = 0 → post ((-1)) σ1)))
set_option maxHeartbeats 4000000 in
set_option maxRecDepth 100000 in
theorem sdX5_mul {l : Launch} {E : qE} {L : List Nat} {G : qG} (hN : L.Nodup) (hG : q_WF G L) {h0 : Nat} {x1 : Int32} {x2 : Int32} {x3 : Int32} (Lh0 : h0 ∈ L) (Kh0 : G.1 h0 = 5) {σ : qS} {post : Int32 → qS → Prop} (h : wpX5_mul G h0 x1 x2 x3 σ post) : MtI l E L G yX5_mul wsX5_mul (q_rm 26) [.ref h0, .int x1, .int x2, .int x3] σ post := by
  refine q_met (Qc := fun sz => va_Qi post (q_B E L G) (q_free L sz)) (cc := cX5_mul) (maxL := 4) (ret := (some .int)) (own := RX5) (by decide) rfl rfl (Nat.le_of_ble_eq_true rfl) hN hG ?_
  intro p e s m below meth c C
  unfold wpX5_mul at h
  refine q_aload_n (pc := 0) C dX5_mul_0 rfl 0 rfl ?_
  refine q_iload_n (pc := 1) C dX5_mul_1 rfl 1 rfl ?_
  refine q_cVi (pc := 2) (As := [.int x1]) (ci := 5) (Cn := RX5) (T := TX5) (N := 9) C (sdX5_isNone C.2.2.2.2.2.1 C.2.2.2.2.2.2 Lh0 Kh0 h) (cwV 1 C.1.2.2.2.2 gX5_mul_X5_isNone rfl rfl rfl (by decide +kernel) (q_room (by decide) (by decide))) Lh0 (qc5 Kh0 _) rfl rfl rfl (Nat.le_of_ble_eq_true rfl) dX5_mul_2 (fun u2 σ1 h => ?_)
  refine q_if_ne (tgt := 24) (pc := 5) C dX5_mul_5 (by decide) (fun c3 => ?_) (fun c3 => ?_)
  · replace h := h.2 c3
    refine q_iconst (pc := 24) (v := (-1)) C dX5_mul_24 (by decide) ?_
    exact q_iret (pc := 25) C dX5_mul_25 h
  · replace h := h.1 c3
    refine q_aload_n (pc := 8) C dX5_mul_8 rfl 0 rfl ?_
    refine q_iload_n (pc := 9) C dX5_mul_9 rfl 2 rfl ?_
    refine q_cVi (pc := 10) (As := [.int x2]) (ci := 5) (Cn := RX5) (T := TX5) (N := 9) C (sdX5_isNone C.2.2.2.2.2.1 C.2.2.2.2.2.2 Lh0 Kh0 h) (cwV 1 C.1.2.2.2.2 gX5_mul_X5_isNone rfl rfl rfl (by decide +kernel) (q_room (by decide) (by decide))) Lh0 (qc5 Kh0 _) rfl rfl rfl (Nat.le_of_ble_eq_true rfl) dX5_mul_10 (fun u5 σ4 h => ?_)
    refine q_if_ne (tgt := 24) (pc := 13) C dX5_mul_13 (by decide) (fun c6 => ?_) (fun c6 => ?_)
    · replace h := h.2 c6
      refine q_iconst (pc := 24) (v := (-1)) C dX5_mul_24 (by decide) ?_
      exact q_iret (pc := 25) C dX5_mul_25 h
    · replace h := h.1 c6
      refine q_aload_n (pc := 16) C dX5_mul_16 rfl 0 rfl ?_
      refine q_iload_n (pc := 17) C dX5_mul_17 rfl 3 rfl ?_
      refine q_cVi (pc := 18) (As := [.int x3]) (ci := 5) (Cn := RX5) (T := TX5) (N := 9) C (sdX5_isNone C.2.2.2.2.2.1 C.2.2.2.2.2.2 Lh0 Kh0 h) (cwV 1 C.1.2.2.2.2 gX5_mul_X5_isNone rfl rfl rfl (by decide +kernel) (q_room (by decide) (by decide))) Lh0 (qc5 Kh0 _) rfl rfl rfl (Nat.le_of_ble_eq_true rfl) dX5_mul_18 (fun u8 σ7 h => ?_)
      refine q_if_eq (tgt := 26) (pc := 21) C dX5_mul_21 (by decide) (fun c9 => ?_) (fun c9 => ?_)
      · replace h := h.1 c9
        refine q_aload_n (pc := 26) C dX5_mul_26 rfl 0 rfl ?_
        obtain ⟨Lr10, Kr10⟩ := qw_5_1 C.2.2.2.2.2.2 Lh0 Kh0
        refine q_g5_1 (pc := 27) C Lh0 Kh0 mwX5_mul_0 mwX5_mul_1 dX5_mul_27 ?_
        refine q_iload_n (pc := 30) C dX5_mul_30 rfl 2 rfl ?_
        obtain ⟨b11, h⟩ := h
        refine q_aald (pc := 31) C Lr10 Kr10 b11 dX5_mul_31 ?_
        obtain ⟨Lr12, Kr12⟩ := qw_10 C.2.2.2.2.2.2 Lr10 Kr10 b11
        refine q_cVi (pc := 32) (As := []) (ci := 4) (Cn := RX4) (T := TX4) (N := 3) C (sdX4_isZero C.2.2.2.2.2.1 C.2.2.2.2.2.2 Lr12 Kr12 h) (cwV 0 C.1.2.2.2.2 gX5_mul_X4_isZero rfl rfl rfl (by decide +kernel) (q_room (by decide) (by decide))) Lr12 (qc4 Kr12 _) rfl rfl rfl (Nat.le_of_ble_eq_true rfl) dX5_mul_32 (fun u14 σ13 h => ?_)
        refine q_if_ne (tgt := 81) (pc := 35) C dX5_mul_35 (by decide) (fun c15 => ?_) (fun c15 => ?_)
        · replace h := h.2 c15
          exact sbX5_mul_81 C Lh0 Kh0 h
        · replace h := h.1 c15
          refine q_aload_n (pc := 38) C dX5_mul_38 rfl 0 rfl ?_
          refine q_g5_1 (pc := 39) C Lh0 Kh0 mwX5_mul_0 mwX5_mul_1 dX5_mul_39 ?_
          refine q_iload_n (pc := 42) C dX5_mul_42 rfl 3 rfl ?_
          obtain ⟨b27, h⟩ := h
          refine q_aald (pc := 43) C Lr10 Kr10 b27 dX5_mul_43 ?_
          obtain ⟨Lr28, Kr28⟩ := qw_10 C.2.2.2.2.2.2 Lr10 Kr10 b27
          refine q_cVi (pc := 44) (As := []) (ci := 4) (Cn := RX4) (T := TX4) (N := 3) C (sdX4_isZero C.2.2.2.2.2.1 C.2.2.2.2.2.2 Lr28 Kr28 h) (cwV 0 C.1.2.2.2.2 gX5_mul_X4_isZero rfl rfl rfl (by decide +kernel) (q_room (by decide) (by decide))) Lr28 (qc4 Kr28 _) rfl rfl rfl (Nat.le_of_ble_eq_true rfl) dX5_mul_44 (fun u30 σ29 h => ?_)
          refine q_if_ne (tgt := 81) (pc := 47) C dX5_mul_47 (by decide) (fun c31 => ?_) (fun c31 => ?_)
          · replace h := h.2 c31
            exact sbX5_mul_81 C Lh0 Kh0 h
          · replace h := h.1 c31
            refine q_aload_n (pc := 50) C dX5_mul_50 rfl 0 rfl ?_
            refine q_g5_1 (pc := 51) C Lh0 Kh0 mwX5_mul_0 mwX5_mul_1 dX5_mul_51 ?_
            refine q_iload_n (pc := 54) C dX5_mul_54 rfl 2 rfl ?_
            obtain ⟨b32, h⟩ := h
            refine q_aald (pc := 55) C Lr10 Kr10 b32 dX5_mul_55 ?_
            obtain ⟨Lr33, Kr33⟩ := qw_10 C.2.2.2.2.2.2 Lr10 Kr10 b32
            refine q_g4_1 (pc := 56) C Lr33 Kr33 mwX5_mul_4 mwX5_mul_5 dX5_mul_56 ?_
            refine q_aload_n (pc := 59) C dX5_mul_59 rfl 0 rfl ?_
            refine q_g5_1 (pc := 60) C Lh0 Kh0 mwX5_mul_0 mwX5_mul_1 dX5_mul_60 ?_
            refine q_iload_n (pc := 63) C dX5_mul_63 rfl 3 rfl ?_
            obtain ⟨b34, h⟩ := h
            refine q_aald (pc := 64) C Lr10 Kr10 b34 dX5_mul_64 ?_
            obtain ⟨Lr35, Kr35⟩ := qw_10 C.2.2.2.2.2.2 Lr10 Kr10 b34
            refine q_g4_1 (pc := 65) C Lr35 Kr35 mwX5_mul_4 mwX5_mul_5 dX5_mul_65 ?_
            refine q_iadd (pc := 68) C dX5_mul_68 ?_
            refine q_iconst (pc := 69) (v := 1) C dX5_mul_69 (by decide) ?_
            refine q_isub (pc := 70) C dX5_mul_70 ?_
            refine q_aload_n (pc := 71) C dX5_mul_71 rfl 0 rfl ?_
            refine q_g5_0 (pc := 72) C Lh0 Kh0 mwX5_mul_0 mwX5_mul_6 dX5_mul_72 ?_
            refine q_icmp_le (tgt := 81) (pc := 75) C dX5_mul_75 (by decide) (fun c36 => ?_) (fun c36 => ?_)
            · replace h := h.1 c36
              exact sbX5_mul_81 C Lh0 Kh0 h
            · replace h := h.2 c36
              refine q_bipush (pc := 78) (v := (-3)) C dX5_mul_78 (by decide) ?_
              exact q_iret (pc := 80) C dX5_mul_80 h
      · replace h := h.2 c9
        refine q_iconst (pc := 24) (v := (-1)) C dX5_mul_24 (by decide) ?_
        exact q_iret (pc := 25) C dX5_mul_25 h
theorem mwX5_divMod_0 : ∀ w ∈ wsX50, w ∈ wsX5_divMod := by decide +kernel
theorem mwX5_divMod_1 : Cond.fieldLink RX5 19 "IntFile" "file" "[LIntFile$Whole;" ∈ wsX5_divMod := by decide +kernel
theorem mwX5_divMod_2 : Cond.fieldLink RX5 48 "IntFile" "division" "LIntFile$Division;" ∈ wsX5_divMod := by decide +kernel
theorem mwX5_divMod_3 : ∀ w ∈ wsX00, w ∈ wsX5_divMod := by decide +kernel
theorem mwX5_divMod_4 : Cond.fieldLink RX5 111 "IntFile$Division" "quotient" "LIntFile$Whole;" ∈ wsX5_divMod := by decide +kernel
theorem mwX5_divMod_5 : Cond.fieldLink RX5 114 "IntFile$Division" "rest" "LIntFile$Whole;" ∈ wsX5_divMod := by decide +kernel
def wpX5_divMod (G : qG) (h0 : Nat) (x1 : Int32) (x2 : Int32) (x3 : Int32) (x4 : Int32) (σ : qS) (post : Int32 → qS → Prop) : Prop := wpX5_isNone G h0 x1 σ (fun (u2 : Int32) (σ1 : qS) => ((u2 = 0 → wpX5_isNone G h0 x2 σ1 (fun (u5 : Int32) (σ4 : qS) => ((u5 = 0 → wpX5_isNone G h0 x3 σ4 (fun (u8 : Int32) (σ7 : qS) => ((u8 = 0 → wpX5_isNone G h0 x4 σ7 (fun (u11 : Int32) (σ10 : qS) => ((u11 = 0 → vp_in x4 (G.2.2 ((G.2.1 h0 1))) ∧ wpX4_isZero G ((G.2.1 ((G.2.1 h0 1)) x4.toNatClampNeg)) σ10 (fun (u17 : Int32) (σ16 : qS) => ((u17 = 0 → ((x1 = x2 → post ((-2)) σ16) ∧ (¬ x1 = x2 → vp_in x3 (G.2.2 ((G.2.1 h0 1))) ∧ vp_in x4 (G.2.2 ((G.2.1 h0 1))) ∧ wpX0_divide G ((G.2.1 h0 6)) ((G.2.1 ((G.2.1 h0 1)) x3.toNatClampNeg)) ((G.2.1 ((G.2.1 h0 1)) x4.toNatClampNeg)) σ16 (fun (σ25 : qS) => vp_in x1 (G.2.2 ((G.2.1 h0 1))) ∧ wpX4_become G ((G.2.1 ((G.2.1 h0 1)) x1.toNatClampNeg)) ((G.2.1 ((G.2.1 h0 6)) 0)) σ25 (fun (σ30 : qS) => vp_in x2 (G.2.2 ((G.2.1 h0 1))) ∧ wpX4_become G ((G.2.1 ((G.2.1 h0 1)) x2.toNatClampNeg)) ((G.2.1 ((G.2.1 h0 6)) 1)) σ30 (fun (σ35 : qS) => post 0 σ35)))))) ∧ (¬ u17 = 0 → post ((-2)) σ16)))) ∧ (¬ u11 = 0 → post ((-1)) σ10)))) ∧ (¬ u8 = 0 → post ((-1)) σ7)))) ∧ (¬ u5 = 0 → post ((-1)) σ4)))) ∧ (¬ u2 = 0 → post ((-1)) σ1)))
set_option maxHeartbeats 4000000 in
set_option maxRecDepth 100000 in
theorem sdX5_divMod {l : Launch} {E : qE} {L : List Nat} {G : qG} (hN : L.Nodup) (hG : q_WF G L) {h0 : Nat} {x1 : Int32} {x2 : Int32} {x3 : Int32} {x4 : Int32} (Lh0 : h0 ∈ L) (Kh0 : G.1 h0 = 5) {σ : qS} {post : Int32 → qS → Prop} (h : wpX5_divMod G h0 x1 x2 x3 x4 σ post) : MtI l E L G yX5_divMod wsX5_divMod (q_rm 5) [.ref h0, .int x1, .int x2, .int x3, .int x4] σ post := by
  refine q_met (Qc := fun sz => va_Qi post (q_B E L G) (q_free L sz)) (cc := cX5_divMod) (maxL := 5) (ret := (some .int)) (own := RX5) (by decide) rfl rfl (Nat.le_of_ble_eq_true rfl) hN hG ?_
  intro p e s m below meth c C
  unfold wpX5_divMod at h
  refine q_aload_n (pc := 0) C dX5_divMod_0 rfl 0 rfl ?_
  refine q_iload_n (pc := 1) C dX5_divMod_1 rfl 1 rfl ?_
  refine q_cVi (pc := 2) (As := [.int x1]) (ci := 5) (Cn := RX5) (T := TX5) (N := 9) C (sdX5_isNone C.2.2.2.2.2.1 C.2.2.2.2.2.2 Lh0 Kh0 h) (cwV 1 C.1.2.2.2.2 gX5_divMod_X5_isNone rfl rfl rfl (by decide +kernel) (q_room (by decide) (by decide))) Lh0 (qc5 Kh0 _) rfl rfl rfl (Nat.le_of_ble_eq_true rfl) dX5_divMod_2 (fun u2 σ1 h => ?_)
  refine q_if_ne (tgt := 33) (pc := 5) C dX5_divMod_5 (by decide) (fun c3 => ?_) (fun c3 => ?_)
  · replace h := h.2 c3
    refine q_iconst (pc := 33) (v := (-1)) C dX5_divMod_33 (by decide) ?_
    exact q_iret (pc := 34) C dX5_divMod_34 h
  · replace h := h.1 c3
    refine q_aload_n (pc := 8) C dX5_divMod_8 rfl 0 rfl ?_
    refine q_iload_n (pc := 9) C dX5_divMod_9 rfl 2 rfl ?_
    refine q_cVi (pc := 10) (As := [.int x2]) (ci := 5) (Cn := RX5) (T := TX5) (N := 9) C (sdX5_isNone C.2.2.2.2.2.1 C.2.2.2.2.2.2 Lh0 Kh0 h) (cwV 1 C.1.2.2.2.2 gX5_divMod_X5_isNone rfl rfl rfl (by decide +kernel) (q_room (by decide) (by decide))) Lh0 (qc5 Kh0 _) rfl rfl rfl (Nat.le_of_ble_eq_true rfl) dX5_divMod_10 (fun u5 σ4 h => ?_)
    refine q_if_ne (tgt := 33) (pc := 13) C dX5_divMod_13 (by decide) (fun c6 => ?_) (fun c6 => ?_)
    · replace h := h.2 c6
      refine q_iconst (pc := 33) (v := (-1)) C dX5_divMod_33 (by decide) ?_
      exact q_iret (pc := 34) C dX5_divMod_34 h
    · replace h := h.1 c6
      refine q_aload_n (pc := 16) C dX5_divMod_16 rfl 0 rfl ?_
      refine q_iload_n (pc := 17) C dX5_divMod_17 rfl 3 rfl ?_
      refine q_cVi (pc := 18) (As := [.int x3]) (ci := 5) (Cn := RX5) (T := TX5) (N := 9) C (sdX5_isNone C.2.2.2.2.2.1 C.2.2.2.2.2.2 Lh0 Kh0 h) (cwV 1 C.1.2.2.2.2 gX5_divMod_X5_isNone rfl rfl rfl (by decide +kernel) (q_room (by decide) (by decide))) Lh0 (qc5 Kh0 _) rfl rfl rfl (Nat.le_of_ble_eq_true rfl) dX5_divMod_18 (fun u8 σ7 h => ?_)
      refine q_if_ne (tgt := 33) (pc := 21) C dX5_divMod_21 (by decide) (fun c9 => ?_) (fun c9 => ?_)
      · replace h := h.2 c9
        refine q_iconst (pc := 33) (v := (-1)) C dX5_divMod_33 (by decide) ?_
        exact q_iret (pc := 34) C dX5_divMod_34 h
      · replace h := h.1 c9
        refine q_aload_n (pc := 24) C dX5_divMod_24 rfl 0 rfl ?_
        refine q_iload (pc := 25) C dX5_divMod_25 4 rfl ?_
        refine q_cVi (pc := 27) (As := [.int x4]) (ci := 5) (Cn := RX5) (T := TX5) (N := 9) C (sdX5_isNone C.2.2.2.2.2.1 C.2.2.2.2.2.2 Lh0 Kh0 h) (cwV 1 C.1.2.2.2.2 gX5_divMod_X5_isNone rfl rfl rfl (by decide +kernel) (q_room (by decide) (by decide))) Lh0 (qc5 Kh0 _) rfl rfl rfl (Nat.le_of_ble_eq_true rfl) dX5_divMod_27 (fun u11 σ10 h => ?_)
        refine q_if_eq (tgt := 35) (pc := 30) C dX5_divMod_30 (by decide) (fun c12 => ?_) (fun c12 => ?_)
        · replace h := h.1 c12
          refine q_aload_n (pc := 35) C dX5_divMod_35 rfl 0 rfl ?_
          obtain ⟨Lr13, Kr13⟩ := qw_5_1 C.2.2.2.2.2.2 Lh0 Kh0
          refine q_g5_1 (pc := 36) C Lh0 Kh0 mwX5_divMod_0 mwX5_divMod_1 dX5_divMod_36 ?_
          refine q_iload (pc := 39) C dX5_divMod_39 4 rfl ?_
          obtain ⟨b14, h⟩ := h
          refine q_aald (pc := 41) C Lr13 Kr13 b14 dX5_divMod_41 ?_
          obtain ⟨Lr15, Kr15⟩ := qw_10 C.2.2.2.2.2.2 Lr13 Kr13 b14
          refine q_cVi (pc := 42) (As := []) (ci := 4) (Cn := RX4) (T := TX4) (N := 3) C (sdX4_isZero C.2.2.2.2.2.1 C.2.2.2.2.2.2 Lr15 Kr15 h) (cwV 0 C.1.2.2.2.2 gX5_divMod_X4_isZero rfl rfl rfl (by decide +kernel) (q_room (by decide) (by decide))) Lr15 (qc4 Kr15 _) rfl rfl rfl (Nat.le_of_ble_eq_true rfl) dX5_divMod_42 (fun u17 σ16 h => ?_)
          refine q_if_ne (tgt := 53) (pc := 45) C dX5_divMod_45 (by decide) (fun c18 => ?_) (fun c18 => ?_)
          · replace h := h.2 c18
            refine q_bipush (pc := 53) (v := (-2)) C dX5_divMod_53 (by decide) ?_
            exact q_iret (pc := 55) C dX5_divMod_55 h
          · replace h := h.1 c18
            refine q_iload_n (pc := 48) C dX5_divMod_48 rfl 1 rfl ?_
            refine q_iload_n (pc := 49) C dX5_divMod_49 rfl 2 rfl ?_
            refine q_icmp_ne (tgt := 56) (pc := 50) C dX5_divMod_50 (by decide) (fun c19 => ?_) (fun c19 => ?_)
            · replace h := h.2 c19
              refine q_aload_n (pc := 56) C dX5_divMod_56 rfl 0 rfl ?_
              obtain ⟨Lr20, Kr20⟩ := qw_5_6 C.2.2.2.2.2.2 Lh0 Kh0
              refine q_g5_6 (pc := 57) C Lh0 Kh0 mwX5_divMod_0 mwX5_divMod_2 dX5_divMod_57 ?_
              refine q_aload_n (pc := 60) C dX5_divMod_60 rfl 0 rfl ?_
              refine q_g5_1 (pc := 61) C Lh0 Kh0 mwX5_divMod_0 mwX5_divMod_1 dX5_divMod_61 ?_
              refine q_iload_n (pc := 64) C dX5_divMod_64 rfl 3 rfl ?_
              obtain ⟨b21, h⟩ := h
              refine q_aald (pc := 65) C Lr13 Kr13 b21 dX5_divMod_65 ?_
              obtain ⟨Lr22, Kr22⟩ := qw_10 C.2.2.2.2.2.2 Lr13 Kr13 b21
              refine q_aload_n (pc := 66) C dX5_divMod_66 rfl 0 rfl ?_
              refine q_g5_1 (pc := 67) C Lh0 Kh0 mwX5_divMod_0 mwX5_divMod_1 dX5_divMod_67 ?_
              refine q_iload (pc := 70) C dX5_divMod_70 4 rfl ?_
              obtain ⟨b23, h⟩ := h
              refine q_aald (pc := 72) C Lr13 Kr13 b23 dX5_divMod_72 ?_
              obtain ⟨Lr24, Kr24⟩ := qw_10 C.2.2.2.2.2.2 Lr13 Kr13 b23
              refine q_cVv (pc := 73) (As := [.ref ((G.2.1 ((G.2.1 h0 1)) x3.toNatClampNeg)), .ref ((G.2.1 ((G.2.1 h0 1)) x4.toNatClampNeg))]) (ci := 0) (Cn := RX0) (T := TX0) (N := 4) C (sdX0_divide C.2.2.2.2.2.1 C.2.2.2.2.2.2 Lr20 Kr20 Lr22 Kr22 Lr24 Kr24 h) (cwV 2 C.1.2.2.2.2 gX5_divMod_X0_divide rfl rfl rfl (by decide +kernel) (q_room (by decide) (by decide))) Lr20 (qc0 Kr20 _) rfl rfl rfl (Nat.le_of_ble_eq_true rfl) dX5_divMod_73 (fun σ25 h => ?_)
              refine q_aload_n (pc := 76) C dX5_divMod_76 rfl 0 rfl ?_
              refine q_g5_1 (pc := 77) C Lh0 Kh0 mwX5_divMod_0 mwX5_divMod_1 dX5_divMod_77 ?_
              refine q_iload_n (pc := 80) C dX5_divMod_80 rfl 1 rfl ?_
              obtain ⟨b27, h⟩ := h
              refine q_aald (pc := 81) C Lr13 Kr13 b27 dX5_divMod_81 ?_
              obtain ⟨Lr28, Kr28⟩ := qw_10 C.2.2.2.2.2.2 Lr13 Kr13 b27
              refine q_aload_n (pc := 82) C dX5_divMod_82 rfl 0 rfl ?_
              refine q_g5_6 (pc := 83) C Lh0 Kh0 mwX5_divMod_0 mwX5_divMod_2 dX5_divMod_83 ?_
              obtain ⟨Lr29, Kr29⟩ := qw_0_0 C.2.2.2.2.2.2 Lr20 Kr20
              refine q_g0_0 (pc := 86) C Lr20 Kr20 mwX5_divMod_3 mwX5_divMod_4 dX5_divMod_86 ?_
              refine q_cVv (pc := 89) (As := [.ref ((G.2.1 ((G.2.1 h0 6)) 0))]) (ci := 4) (Cn := RX4) (T := TX4) (N := 3) C (sdX4_become C.2.2.2.2.2.1 C.2.2.2.2.2.2 Lr28 Kr28 Lr29 Kr29 h) (cwV 1 C.1.2.2.2.2 gX5_divMod_X4_become rfl rfl rfl (by decide +kernel) (q_room (by decide) (by decide))) Lr28 (qc4 Kr28 _) rfl rfl rfl (Nat.le_of_ble_eq_true rfl) dX5_divMod_89 (fun σ30 h => ?_)
              refine q_aload_n (pc := 92) C dX5_divMod_92 rfl 0 rfl ?_
              refine q_g5_1 (pc := 93) C Lh0 Kh0 mwX5_divMod_0 mwX5_divMod_1 dX5_divMod_93 ?_
              refine q_iload_n (pc := 96) C dX5_divMod_96 rfl 2 rfl ?_
              obtain ⟨b32, h⟩ := h
              refine q_aald (pc := 97) C Lr13 Kr13 b32 dX5_divMod_97 ?_
              obtain ⟨Lr33, Kr33⟩ := qw_10 C.2.2.2.2.2.2 Lr13 Kr13 b32
              refine q_aload_n (pc := 98) C dX5_divMod_98 rfl 0 rfl ?_
              refine q_g5_6 (pc := 99) C Lh0 Kh0 mwX5_divMod_0 mwX5_divMod_2 dX5_divMod_99 ?_
              obtain ⟨Lr34, Kr34⟩ := qw_0_1 C.2.2.2.2.2.2 Lr20 Kr20
              refine q_g0_1 (pc := 102) C Lr20 Kr20 mwX5_divMod_3 mwX5_divMod_5 dX5_divMod_102 ?_
              refine q_cVv (pc := 105) (As := [.ref ((G.2.1 ((G.2.1 h0 6)) 1))]) (ci := 4) (Cn := RX4) (T := TX4) (N := 3) C (sdX4_become C.2.2.2.2.2.1 C.2.2.2.2.2.2 Lr33 Kr33 Lr34 Kr34 h) (cwV 1 C.1.2.2.2.2 gX5_divMod_X4_become rfl rfl rfl (by decide +kernel) (q_room (by decide) (by decide))) Lr33 (qc4 Kr33 _) rfl rfl rfl (Nat.le_of_ble_eq_true rfl) dX5_divMod_105 (fun σ35 h => ?_)
              refine q_iconst (pc := 108) (v := 0) C dX5_divMod_108 (by decide) ?_
              exact q_iret (pc := 109) C dX5_divMod_109 h
            · replace h := h.1 c19
              refine q_bipush (pc := 53) (v := (-2)) C dX5_divMod_53 (by decide) ?_
              exact q_iret (pc := 55) C dX5_divMod_55 h
        · replace h := h.2 c12
          refine q_iconst (pc := 33) (v := (-1)) C dX5_divMod_33 (by decide) ?_
          exact q_iret (pc := 34) C dX5_divMod_34 h
theorem mwX5_shl_0 : ∀ w ∈ wsX50, w ∈ wsX5_shl := by decide +kernel
theorem mwX5_shl_1 : Cond.fieldLink RX5 19 "IntFile" "file" "[LIntFile$Whole;" ∈ wsX5_shl := by decide +kernel
theorem mwX5_shl_2 : Cond.fieldLink RX5 13 "IntFile" "width" "I" ∈ wsX5_shl := by decide +kernel
theorem mwX5_shl_3 : Cond.constantLong RX5 121 (32) ∈ wsX5_shl := by decide +kernel
theorem mwX5_shl_4 : Cond.fieldLink RX5 26 "IntFile" "result" "LIntFile$Whole;" ∈ wsX5_shl := by decide +kernel
def wpX5_shl (G : qG) (h0 : Nat) (x1 : Int32) (x2 : Int32) (x3 : Int32) (σ : qS) (post : Int32 → qS → Prop) : Prop := wpX5_isNone G h0 x1 σ (fun (u2 : Int32) (σ1 : qS) => ((u2 = 0 → wpX5_isNone G h0 x2 σ1 (fun (u5 : Int32) (σ4 : qS) => ((u5 = 0 → ((0 ≤ x3 → vp_in x2 (G.2.2 ((G.2.1 h0 1))) ∧ wpX4_isZero G ((G.2.1 ((G.2.1 h0 1)) x2.toNatClampNeg)) σ4 (fun (u12 : Int32) (σ11 : qS) => ((u12 = 0 → vp_in x2 (G.2.2 ((G.2.1 h0 1))) ∧ wpX4_bits G ((G.2.1 ((G.2.1 h0 1)) x2.toNatClampNeg)) σ11 (fun (u17 : Int32) (σ16 : qS) => (((lg_cmp (u17.toInt64 + x3.toInt64) (((σ16 h0 0).toInt64) * 32)) ≤ 0 → vp_in x2 (G.2.2 ((G.2.1 h0 1))) ∧ wpX4_becomeShiftedUp G ((G.2.1 h0 2)) ((G.2.1 ((G.2.1 h0 1)) x2.toNatClampNeg)) x3 σ16 (fun (σ22 : qS) => wpX5_put G h0 x1 σ22 (fun (u25 : Int32) (σ24 : qS) => post u25 σ24))) ∧ (¬ (lg_cmp (u17.toInt64 + x3.toInt64) (((σ16 h0 0).toInt64) * 32)) ≤ 0 → post ((-3)) σ16)))) ∧ (¬ u12 = 0 → vp_in x1 (G.2.2 ((G.2.1 h0 1))) ∧ wpX4_becomeInt G ((G.2.1 ((G.2.1 h0 1)) x1.toNatClampNeg)) 0 σ11 (fun (σ28 : qS) => post 0 σ28))))) ∧ (¬ 0 ≤ x3 → post ((-2)) σ4))) ∧ (¬ u5 = 0 → post ((-1)) σ4)))) ∧ (¬ u2 = 0 → post ((-1)) σ1)))
set_option maxHeartbeats 4000000 in
set_option maxRecDepth 100000 in
theorem sdX5_shl {l : Launch} {E : qE} {L : List Nat} {G : qG} (hN : L.Nodup) (hG : q_WF G L) {h0 : Nat} {x1 : Int32} {x2 : Int32} {x3 : Int32} (Lh0 : h0 ∈ L) (Kh0 : G.1 h0 = 5) {σ : qS} {post : Int32 → qS → Prop} (h : wpX5_shl G h0 x1 x2 x3 σ post) : MtI l E L G yX5_shl wsX5_shl (q_rm 4) [.ref h0, .int x1, .int x2, .int x3] σ post := by
  refine q_met (Qc := fun sz => va_Qi post (q_B E L G) (q_free L sz)) (cc := cX5_shl) (maxL := 4) (ret := (some .int)) (own := RX5) (by decide) rfl rfl (Nat.le_of_ble_eq_true rfl) hN hG ?_
  intro p e s m below meth c C
  unfold wpX5_shl at h
  refine q_aload_n (pc := 0) C dX5_shl_0 rfl 0 rfl ?_
  refine q_iload_n (pc := 1) C dX5_shl_1 rfl 1 rfl ?_
  refine q_cVi (pc := 2) (As := [.int x1]) (ci := 5) (Cn := RX5) (T := TX5) (N := 9) C (sdX5_isNone C.2.2.2.2.2.1 C.2.2.2.2.2.2 Lh0 Kh0 h) (cwV 1 C.1.2.2.2.2 gX5_shl_X5_isNone rfl rfl rfl (by decide +kernel) (q_room (by decide) (by decide))) Lh0 (qc5 Kh0 _) rfl rfl rfl (Nat.le_of_ble_eq_true rfl) dX5_shl_2 (fun u2 σ1 h => ?_)
  refine q_if_ne (tgt := 16) (pc := 5) C dX5_shl_5 (by decide) (fun c3 => ?_) (fun c3 => ?_)
  · replace h := h.2 c3
    refine q_iconst (pc := 16) (v := (-1)) C dX5_shl_16 (by decide) ?_
    exact q_iret (pc := 17) C dX5_shl_17 h
  · replace h := h.1 c3
    refine q_aload_n (pc := 8) C dX5_shl_8 rfl 0 rfl ?_
    refine q_iload_n (pc := 9) C dX5_shl_9 rfl 2 rfl ?_
    refine q_cVi (pc := 10) (As := [.int x2]) (ci := 5) (Cn := RX5) (T := TX5) (N := 9) C (sdX5_isNone C.2.2.2.2.2.1 C.2.2.2.2.2.2 Lh0 Kh0 h) (cwV 1 C.1.2.2.2.2 gX5_shl_X5_isNone rfl rfl rfl (by decide +kernel) (q_room (by decide) (by decide))) Lh0 (qc5 Kh0 _) rfl rfl rfl (Nat.le_of_ble_eq_true rfl) dX5_shl_10 (fun u5 σ4 h => ?_)
    refine q_if_eq (tgt := 18) (pc := 13) C dX5_shl_13 (by decide) (fun c6 => ?_) (fun c6 => ?_)
    · replace h := h.1 c6
      refine q_iload_n (pc := 18) C dX5_shl_18 rfl 3 rfl ?_
      refine q_if_ge (tgt := 25) (pc := 19) C dX5_shl_19 (by decide) (fun c7 => ?_) (fun c7 => ?_)
      · replace h := h.1 c7
        refine q_aload_n (pc := 25) C dX5_shl_25 rfl 0 rfl ?_
        obtain ⟨Lr8, Kr8⟩ := qw_5_1 C.2.2.2.2.2.2 Lh0 Kh0
        refine q_g5_1 (pc := 26) C Lh0 Kh0 mwX5_shl_0 mwX5_shl_1 dX5_shl_26 ?_
        refine q_iload_n (pc := 29) C dX5_shl_29 rfl 2 rfl ?_
        obtain ⟨b9, h⟩ := h
        refine q_aald (pc := 30) C Lr8 Kr8 b9 dX5_shl_30 ?_
        obtain ⟨Lr10, Kr10⟩ := qw_10 C.2.2.2.2.2.2 Lr8 Kr8 b9
        refine q_cVi (pc := 31) (As := []) (ci := 4) (Cn := RX4) (T := TX4) (N := 3) C (sdX4_isZero C.2.2.2.2.2.1 C.2.2.2.2.2.2 Lr10 Kr10 h) (cwV 0 C.1.2.2.2.2 gX5_shl_X4_isZero rfl rfl rfl (by decide +kernel) (q_room (by decide) (by decide))) Lr10 (qc4 Kr10 _) rfl rfl rfl (Nat.le_of_ble_eq_true rfl) dX5_shl_31 (fun u12 σ11 h => ?_)
        refine q_if_eq (tgt := 49) (pc := 34) C dX5_shl_34 (by decide) (fun c13 => ?_) (fun c13 => ?_)
        · replace h := h.1 c13
          refine q_aload_n (pc := 49) C dX5_shl_49 rfl 0 rfl ?_
          refine q_g5_1 (pc := 50) C Lh0 Kh0 mwX5_shl_0 mwX5_shl_1 dX5_shl_50 ?_
          refine q_iload_n (pc := 53) C dX5_shl_53 rfl 2 rfl ?_
          obtain ⟨b14, h⟩ := h
          refine q_aald (pc := 54) C Lr8 Kr8 b14 dX5_shl_54 ?_
          obtain ⟨Lr15, Kr15⟩ := qw_10 C.2.2.2.2.2.2 Lr8 Kr8 b14
          refine q_cVi (pc := 55) (As := []) (ci := 4) (Cn := RX4) (T := TX4) (N := 3) C (sdX4_bits C.2.2.2.2.2.1 C.2.2.2.2.2.2 Lr15 Kr15 h) (cwV 0 C.1.2.2.2.2 gX5_shl_X4_bits rfl rfl rfl (by decide +kernel) (q_room (by decide) (by decide))) Lr15 (qc4 Kr15 _) rfl rfl rfl (Nat.le_of_ble_eq_true rfl) dX5_shl_55 (fun u17 σ16 h => ?_)
          refine q_i2l (pc := 58) C dX5_shl_58 ?_
          refine q_iload_n (pc := 59) C dX5_shl_59 rfl 3 rfl ?_
          refine q_i2l (pc := 60) C dX5_shl_60 ?_
          refine q_ladd (pc := 61) C dX5_shl_61 ?_
          refine q_aload_n (pc := 62) C dX5_shl_62 rfl 0 rfl ?_
          refine q_g5_0 (pc := 63) C Lh0 Kh0 mwX5_shl_0 mwX5_shl_2 dX5_shl_63 ?_
          refine q_i2l (pc := 66) C dX5_shl_66 ?_
          refine q_ldc2 (pc := 67) (v := 32) C dX5_shl_67 mwX5_shl_3 ?_
          refine q_lmul (pc := 70) C dX5_shl_70 ?_
          refine q_lcmp (pc := 71) C dX5_shl_71 ?_
          refine q_if_le (tgt := 78) (pc := 72) C dX5_shl_72 (by decide) (fun c18 => ?_) (fun c18 => ?_)
          · replace h := h.1 c18
            refine q_aload_n (pc := 78) C dX5_shl_78 rfl 0 rfl ?_
            obtain ⟨Lr19, Kr19⟩ := qw_5_2 C.2.2.2.2.2.2 Lh0 Kh0
            refine q_g5_2 (pc := 79) C Lh0 Kh0 mwX5_shl_0 mwX5_shl_4 dX5_shl_79 ?_
            refine q_aload_n (pc := 82) C dX5_shl_82 rfl 0 rfl ?_
            refine q_g5_1 (pc := 83) C Lh0 Kh0 mwX5_shl_0 mwX5_shl_1 dX5_shl_83 ?_
            refine q_iload_n (pc := 86) C dX5_shl_86 rfl 2 rfl ?_
            obtain ⟨b20, h⟩ := h
            refine q_aald (pc := 87) C Lr8 Kr8 b20 dX5_shl_87 ?_
            obtain ⟨Lr21, Kr21⟩ := qw_10 C.2.2.2.2.2.2 Lr8 Kr8 b20
            refine q_iload_n (pc := 88) C dX5_shl_88 rfl 3 rfl ?_
            refine q_cVv (pc := 89) (As := [.ref ((G.2.1 ((G.2.1 h0 1)) x2.toNatClampNeg)), .int x3]) (ci := 4) (Cn := RX4) (T := TX4) (N := 3) C (sdX4_becomeShiftedUp C.2.2.2.2.2.1 C.2.2.2.2.2.2 Lr19 Kr19 Lr21 Kr21 h) (cwV 2 C.1.2.2.2.2 gX5_shl_X4_becomeShiftedUp rfl rfl rfl (by decide +kernel) (q_room (by decide) (by decide))) Lr19 (qc4 Kr19 _) rfl rfl rfl (Nat.le_of_ble_eq_true rfl) dX5_shl_89 (fun σ22 h => ?_)
            refine q_aload_n (pc := 92) C dX5_shl_92 rfl 0 rfl ?_
            refine q_iload_n (pc := 93) C dX5_shl_93 rfl 1 rfl ?_
            refine q_cVi (pc := 94) (As := [.int x1]) (ci := 5) (Cn := RX5) (T := TX5) (N := 9) C (sdX5_put C.2.2.2.2.2.1 C.2.2.2.2.2.2 Lh0 Kh0 h) (cwV 1 C.1.2.2.2.2 gX5_shl_X5_put rfl rfl rfl (by decide +kernel) (q_room (by decide) (by decide))) Lh0 (qc5 Kh0 _) rfl rfl rfl (Nat.le_of_ble_eq_true rfl) dX5_shl_94 (fun u25 σ24 h => ?_)
            exact q_iret (pc := 97) C dX5_shl_97 h
          · replace h := h.2 c18
            refine q_bipush (pc := 75) (v := (-3)) C dX5_shl_75 (by decide) ?_
            exact q_iret (pc := 77) C dX5_shl_77 h
        · replace h := h.2 c13
          refine q_aload_n (pc := 37) C dX5_shl_37 rfl 0 rfl ?_
          refine q_g5_1 (pc := 38) C Lh0 Kh0 mwX5_shl_0 mwX5_shl_1 dX5_shl_38 ?_
          refine q_iload_n (pc := 41) C dX5_shl_41 rfl 1 rfl ?_
          obtain ⟨b26, h⟩ := h
          refine q_aald (pc := 42) C Lr8 Kr8 b26 dX5_shl_42 ?_
          obtain ⟨Lr27, Kr27⟩ := qw_10 C.2.2.2.2.2.2 Lr8 Kr8 b26
          refine q_iconst (pc := 43) (v := 0) C dX5_shl_43 (by decide) ?_
          refine q_cVv (pc := 44) (As := [.int 0]) (ci := 4) (Cn := RX4) (T := TX4) (N := 3) C (sdX4_becomeInt C.2.2.2.2.2.1 C.2.2.2.2.2.2 Lr27 Kr27 h) (cwV 1 C.1.2.2.2.2 gX5_shl_X4_becomeInt rfl rfl rfl (by decide +kernel) (q_room (by decide) (by decide))) Lr27 (qc4 Kr27 _) rfl rfl rfl (Nat.le_of_ble_eq_true rfl) dX5_shl_44 (fun σ28 h => ?_)
          refine q_iconst (pc := 47) (v := 0) C dX5_shl_47 (by decide) ?_
          exact q_iret (pc := 48) C dX5_shl_48 h
      · replace h := h.2 c7
        refine q_bipush (pc := 22) (v := (-2)) C dX5_shl_22 (by decide) ?_
        exact q_iret (pc := 24) C dX5_shl_24 h
    · replace h := h.2 c6
      refine q_iconst (pc := 16) (v := (-1)) C dX5_shl_16 (by decide) ?_
      exact q_iret (pc := 17) C dX5_shl_17 h
theorem mwX5_shr_0 : ∀ w ∈ wsX50, w ∈ wsX5_shr := by decide +kernel
theorem mwX5_shr_1 : Cond.fieldLink RX5 26 "IntFile" "result" "LIntFile$Whole;" ∈ wsX5_shr := by decide +kernel
theorem mwX5_shr_2 : Cond.fieldLink RX5 19 "IntFile" "file" "[LIntFile$Whole;" ∈ wsX5_shr := by decide +kernel
def wpX5_shr (G : qG) (h0 : Nat) (x1 : Int32) (x2 : Int32) (x3 : Int32) (σ : qS) (post : Int32 → qS → Prop) : Prop := wpX5_isNone G h0 x1 σ (fun (u2 : Int32) (σ1 : qS) => ((u2 = 0 → wpX5_isNone G h0 x2 σ1 (fun (u5 : Int32) (σ4 : qS) => ((u5 = 0 → ((0 ≤ x3 → vp_in x2 (G.2.2 ((G.2.1 h0 1))) ∧ wpX4_becomeShiftedDown G ((G.2.1 h0 2)) ((G.2.1 ((G.2.1 h0 1)) x2.toNatClampNeg)) x3 σ4 (fun (σ12 : qS) => wpX5_put G h0 x1 σ12 (fun (u15 : Int32) (σ14 : qS) => post u15 σ14))) ∧ (¬ 0 ≤ x3 → post ((-2)) σ4))) ∧ (¬ u5 = 0 → post ((-1)) σ4)))) ∧ (¬ u2 = 0 → post ((-1)) σ1)))
set_option maxHeartbeats 4000000 in
set_option maxRecDepth 100000 in
theorem sdX5_shr {l : Launch} {E : qE} {L : List Nat} {G : qG} (hN : L.Nodup) (hG : q_WF G L) {h0 : Nat} {x1 : Int32} {x2 : Int32} {x3 : Int32} (Lh0 : h0 ∈ L) (Kh0 : G.1 h0 = 5) {σ : qS} {post : Int32 → qS → Prop} (h : wpX5_shr G h0 x1 x2 x3 σ post) : MtI l E L G yX5_shr wsX5_shr (q_rm 3) [.ref h0, .int x1, .int x2, .int x3] σ post := by
  refine q_met (Qc := fun sz => va_Qi post (q_B E L G) (q_free L sz)) (cc := cX5_shr) (maxL := 4) (ret := (some .int)) (own := RX5) (by decide) rfl rfl (Nat.le_of_ble_eq_true rfl) hN hG ?_
  intro p e s m below meth c C
  unfold wpX5_shr at h
  refine q_aload_n (pc := 0) C dX5_shr_0 rfl 0 rfl ?_
  refine q_iload_n (pc := 1) C dX5_shr_1 rfl 1 rfl ?_
  refine q_cVi (pc := 2) (As := [.int x1]) (ci := 5) (Cn := RX5) (T := TX5) (N := 9) C (sdX5_isNone C.2.2.2.2.2.1 C.2.2.2.2.2.2 Lh0 Kh0 h) (cwV 1 C.1.2.2.2.2 gX5_shr_X5_isNone rfl rfl rfl (by decide +kernel) (q_room (by decide) (by decide))) Lh0 (qc5 Kh0 _) rfl rfl rfl (Nat.le_of_ble_eq_true rfl) dX5_shr_2 (fun u2 σ1 h => ?_)
  refine q_if_ne (tgt := 16) (pc := 5) C dX5_shr_5 (by decide) (fun c3 => ?_) (fun c3 => ?_)
  · replace h := h.2 c3
    refine q_iconst (pc := 16) (v := (-1)) C dX5_shr_16 (by decide) ?_
    exact q_iret (pc := 17) C dX5_shr_17 h
  · replace h := h.1 c3
    refine q_aload_n (pc := 8) C dX5_shr_8 rfl 0 rfl ?_
    refine q_iload_n (pc := 9) C dX5_shr_9 rfl 2 rfl ?_
    refine q_cVi (pc := 10) (As := [.int x2]) (ci := 5) (Cn := RX5) (T := TX5) (N := 9) C (sdX5_isNone C.2.2.2.2.2.1 C.2.2.2.2.2.2 Lh0 Kh0 h) (cwV 1 C.1.2.2.2.2 gX5_shr_X5_isNone rfl rfl rfl (by decide +kernel) (q_room (by decide) (by decide))) Lh0 (qc5 Kh0 _) rfl rfl rfl (Nat.le_of_ble_eq_true rfl) dX5_shr_10 (fun u5 σ4 h => ?_)
    refine q_if_eq (tgt := 18) (pc := 13) C dX5_shr_13 (by decide) (fun c6 => ?_) (fun c6 => ?_)
    · replace h := h.1 c6
      refine q_iload_n (pc := 18) C dX5_shr_18 rfl 3 rfl ?_
      refine q_if_ge (tgt := 25) (pc := 19) C dX5_shr_19 (by decide) (fun c7 => ?_) (fun c7 => ?_)
      · replace h := h.1 c7
        refine q_aload_n (pc := 25) C dX5_shr_25 rfl 0 rfl ?_
        obtain ⟨Lr8, Kr8⟩ := qw_5_2 C.2.2.2.2.2.2 Lh0 Kh0
        refine q_g5_2 (pc := 26) C Lh0 Kh0 mwX5_shr_0 mwX5_shr_1 dX5_shr_26 ?_
        refine q_aload_n (pc := 29) C dX5_shr_29 rfl 0 rfl ?_
        obtain ⟨Lr9, Kr9⟩ := qw_5_1 C.2.2.2.2.2.2 Lh0 Kh0
        refine q_g5_1 (pc := 30) C Lh0 Kh0 mwX5_shr_0 mwX5_shr_2 dX5_shr_30 ?_
        refine q_iload_n (pc := 33) C dX5_shr_33 rfl 2 rfl ?_
        obtain ⟨b10, h⟩ := h
        refine q_aald (pc := 34) C Lr9 Kr9 b10 dX5_shr_34 ?_
        obtain ⟨Lr11, Kr11⟩ := qw_10 C.2.2.2.2.2.2 Lr9 Kr9 b10
        refine q_iload_n (pc := 35) C dX5_shr_35 rfl 3 rfl ?_
        refine q_cVv (pc := 36) (As := [.ref ((G.2.1 ((G.2.1 h0 1)) x2.toNatClampNeg)), .int x3]) (ci := 4) (Cn := RX4) (T := TX4) (N := 3) C (sdX4_becomeShiftedDown C.2.2.2.2.2.1 C.2.2.2.2.2.2 Lr8 Kr8 Lr11 Kr11 h) (cwV 2 C.1.2.2.2.2 gX5_shr_X4_becomeShiftedDown rfl rfl rfl (by decide +kernel) (q_room (by decide) (by decide))) Lr8 (qc4 Kr8 _) rfl rfl rfl (Nat.le_of_ble_eq_true rfl) dX5_shr_36 (fun σ12 h => ?_)
        refine q_aload_n (pc := 39) C dX5_shr_39 rfl 0 rfl ?_
        refine q_iload_n (pc := 40) C dX5_shr_40 rfl 1 rfl ?_
        refine q_cVi (pc := 41) (As := [.int x1]) (ci := 5) (Cn := RX5) (T := TX5) (N := 9) C (sdX5_put C.2.2.2.2.2.1 C.2.2.2.2.2.2 Lh0 Kh0 h) (cwV 1 C.1.2.2.2.2 gX5_shr_X5_put rfl rfl rfl (by decide +kernel) (q_room (by decide) (by decide))) Lh0 (qc5 Kh0 _) rfl rfl rfl (Nat.le_of_ble_eq_true rfl) dX5_shr_41 (fun u15 σ14 h => ?_)
        exact q_iret (pc := 44) C dX5_shr_44 h
      · replace h := h.2 c7
        refine q_bipush (pc := 22) (v := (-2)) C dX5_shr_22 (by decide) ?_
        exact q_iret (pc := 24) C dX5_shr_24 h
    · replace h := h.2 c6
      refine q_iconst (pc := 16) (v := (-1)) C dX5_shr_16 (by decide) ?_
      exact q_iret (pc := 17) C dX5_shr_17 h
theorem mwX5_gcd_0 : ∀ w ∈ wsX50, w ∈ wsX5_gcd := by decide +kernel
theorem mwX5_gcd_1 : Cond.fieldLink RX5 30 "IntFile" "first" "LIntFile$Whole;" ∈ wsX5_gcd := by decide +kernel
theorem mwX5_gcd_2 : Cond.fieldLink RX5 19 "IntFile" "file" "[LIntFile$Whole;" ∈ wsX5_gcd := by decide +kernel
theorem mwX5_gcd_3 : Cond.fieldLink RX5 33 "IntFile" "second" "LIntFile$Whole;" ∈ wsX5_gcd := by decide +kernel
theorem mwX5_gcd_4 : Cond.constant RX5 129 (1000000) ∈ wsX5_gcd := by decide +kernel
theorem mwX5_gcd_5 : Cond.fieldLink RX5 48 "IntFile" "division" "LIntFile$Division;" ∈ wsX5_gcd := by decide +kernel
theorem mwX5_gcd_6 : ∀ w ∈ wsX00, w ∈ wsX5_gcd := by decide +kernel
theorem mwX5_gcd_7 : Cond.fieldLink RX5 114 "IntFile$Division" "rest" "LIntFile$Whole;" ∈ wsX5_gcd := by decide +kernel
theorem mwX5_gcd_8 : ∀ w ∈ wsX40, w ∈ wsX5_gcd := by decide +kernel
theorem mwX5_gcd_9 : Cond.fieldLink RX5 88 "IntFile$Whole" "below" "Z" ∈ wsX5_gcd := by decide +kernel
def lpX5_gcd_55 (G : qG) (h0 : Nat) (x1 : Int32) (post : Int32 → qS → Prop) (kx118 : qS → Prop) : Nat → Int32 → qS → Prop
  | 0, _, _ => False
  | n + 1, x4, σ => ((1000000 ≤ x4 → kx118 σ) ∧ (¬ 1000000 ≤ x4 → wpX4_isZero G ((G.2.1 h0 4)) σ (fun (u25 : Int32) (σ24 : qS) => ((u25 = 0 → wpX0_divide G ((G.2.1 h0 6)) ((G.2.1 h0 3)) ((G.2.1 h0 4)) σ24 (fun (σ29 : qS) => wpX4_become G ((G.2.1 h0 3)) ((G.2.1 h0 4)) σ29 (fun (σ31 : qS) => wpX4_become G ((G.2.1 h0 4)) ((G.2.1 ((G.2.1 h0 6)) 1)) σ31 (fun (σ34 : qS) => ∀ v36 : Int32, v36 = x4 + 1 → lpX5_gcd_55 G h0 x1 post kx118 n v36 σ34)))) ∧ (¬ u25 = 0 → kx118 σ24)))))
set_option maxHeartbeats 4000000 in
set_option maxRecDepth 100000 in
theorem slX5_gcd_55 {p : Program} {l : Launch} {e : Env} {s : State} {m : MethodId} {args : Array Value} {below : List Frame} {meth : Method} {c : Code} {E : qE} {L : List Nat} {G : qG} {A : Nat → Prop} (C : q_C p s m args meth c cX5_gcd 5 wsX5_gcd RX5 (some .int) E L G A) {h0 : Nat} {x1 : Int32} (Lh0 : h0 ∈ L) (Kh0 : G.1 h0 = 5) {post : Int32 → qS → Prop} {kx118 : qS → Prop} (Hkx118 : ∀  (τ : qS), kx118  τ → Wd p l e (q_rm 5) s m args below meth c E L G A (MQ below (va_Qi post (q_B E L G) A) args s 0 0 A) 5 τ 118 [(0, .ref h0), (1, .int x1)] []) : ∀ (n : Nat) (x4 : Int32) (σ : qS), lpX5_gcd_55 G h0 x1 post kx118 n x4 σ → Wd p l e (q_rm 5) s m args below meth c E L G A (MQ below (va_Qi post (q_B E L G) A) args s 0 0 A) 5 σ 55 [(0, .ref h0), (1, .int x1), (4, .int x4)] [] := by
  intro n
  induction n with
  | zero => intro x4 σ h; exact h.elim
  | succ n ih =>
    intro x4 σ h
    unfold lpX5_gcd_55 at h
    refine q_iload (pc := 55) C dX5_gcd_55 2 rfl ?_
    refine q_ldc (pc := 57) (v := 1000000) C dX5_gcd_57 mwX5_gcd_4 ?_
    refine q_icmp_ge (tgt := 118) (pc := 59) C dX5_gcd_59 (by decide) (fun c22 => ?_) (fun c22 => ?_)
    · replace h := h.1 c22
      refine q_lv (lv' := [(0, .ref h0), (1, .int x1)]) [0, 1] rfl ?_
      exact Hkx118  σ h
    · replace h := h.2 c22
      refine q_aload_n (pc := 62) C dX5_gcd_62 rfl 0 rfl ?_
      obtain ⟨Lr23, Kr23⟩ := qw_5_4 C.2.2.2.2.2.2 Lh0 Kh0
      refine q_g5_4 (pc := 63) C Lh0 Kh0 mwX5_gcd_0 mwX5_gcd_3 dX5_gcd_63 ?_
      refine q_cVi (pc := 66) (As := []) (ci := 4) (Cn := RX4) (T := TX4) (N := 3) C (sdX4_isZero C.2.2.2.2.2.1 C.2.2.2.2.2.2 Lr23 Kr23 h) (cwV 0 C.1.2.2.2.2 gX5_gcd_X4_isZero rfl rfl rfl (by decide +kernel) (q_room (by decide) (by decide))) Lr23 (qc4 Kr23 _) rfl rfl rfl (Nat.le_of_ble_eq_true rfl) dX5_gcd_66 (fun u25 σ24 h => ?_)
      refine q_if_ne (tgt := 118) (pc := 69) C dX5_gcd_69 (by decide) (fun c26 => ?_) (fun c26 => ?_)
      · replace h := h.2 c26
        refine q_lv (lv' := [(0, .ref h0), (1, .int x1)]) [0, 1] rfl ?_
        exact Hkx118  σ24 h
      · replace h := h.1 c26
        refine q_aload_n (pc := 72) C dX5_gcd_72 rfl 0 rfl ?_
        obtain ⟨Lr27, Kr27⟩ := qw_5_6 C.2.2.2.2.2.2 Lh0 Kh0
        refine q_g5_6 (pc := 73) C Lh0 Kh0 mwX5_gcd_0 mwX5_gcd_5 dX5_gcd_73 ?_
        refine q_aload_n (pc := 76) C dX5_gcd_76 rfl 0 rfl ?_
        obtain ⟨Lr28, Kr28⟩ := qw_5_3 C.2.2.2.2.2.2 Lh0 Kh0
        refine q_g5_3 (pc := 77) C Lh0 Kh0 mwX5_gcd_0 mwX5_gcd_1 dX5_gcd_77 ?_
        refine q_aload_n (pc := 80) C dX5_gcd_80 rfl 0 rfl ?_
        refine q_g5_4 (pc := 81) C Lh0 Kh0 mwX5_gcd_0 mwX5_gcd_3 dX5_gcd_81 ?_
        refine q_cVv (pc := 84) (As := [.ref ((G.2.1 h0 3)), .ref ((G.2.1 h0 4))]) (ci := 0) (Cn := RX0) (T := TX0) (N := 4) C (sdX0_divide C.2.2.2.2.2.1 C.2.2.2.2.2.2 Lr27 Kr27 Lr28 Kr28 Lr23 Kr23 h) (cwV 2 C.1.2.2.2.2 gX5_gcd_X0_divide rfl rfl rfl (by decide +kernel) (q_room (by decide) (by decide))) Lr27 (qc0 Kr27 _) rfl rfl rfl (Nat.le_of_ble_eq_true rfl) dX5_gcd_84 (fun σ29 h => ?_)
        refine q_aload_n (pc := 87) C dX5_gcd_87 rfl 0 rfl ?_
        refine q_g5_3 (pc := 88) C Lh0 Kh0 mwX5_gcd_0 mwX5_gcd_1 dX5_gcd_88 ?_
        refine q_aload_n (pc := 91) C dX5_gcd_91 rfl 0 rfl ?_
        refine q_g5_4 (pc := 92) C Lh0 Kh0 mwX5_gcd_0 mwX5_gcd_3 dX5_gcd_92 ?_
        refine q_cVv (pc := 95) (As := [.ref ((G.2.1 h0 4))]) (ci := 4) (Cn := RX4) (T := TX4) (N := 3) C (sdX4_become C.2.2.2.2.2.1 C.2.2.2.2.2.2 Lr28 Kr28 Lr23 Kr23 h) (cwV 1 C.1.2.2.2.2 gX5_gcd_X4_become rfl rfl rfl (by decide +kernel) (q_room (by decide) (by decide))) Lr28 (qc4 Kr28 _) rfl rfl rfl (Nat.le_of_ble_eq_true rfl) dX5_gcd_95 (fun σ31 h => ?_)
        refine q_aload_n (pc := 98) C dX5_gcd_98 rfl 0 rfl ?_
        refine q_g5_4 (pc := 99) C Lh0 Kh0 mwX5_gcd_0 mwX5_gcd_3 dX5_gcd_99 ?_
        refine q_aload_n (pc := 102) C dX5_gcd_102 rfl 0 rfl ?_
        refine q_g5_6 (pc := 103) C Lh0 Kh0 mwX5_gcd_0 mwX5_gcd_5 dX5_gcd_103 ?_
        obtain ⟨Lr33, Kr33⟩ := qw_0_1 C.2.2.2.2.2.2 Lr27 Kr27
        refine q_g0_1 (pc := 106) C Lr27 Kr27 mwX5_gcd_6 mwX5_gcd_7 dX5_gcd_106 ?_
        refine q_cVv (pc := 109) (As := [.ref ((G.2.1 ((G.2.1 h0 6)) 1))]) (ci := 4) (Cn := RX4) (T := TX4) (N := 3) C (sdX4_become C.2.2.2.2.2.1 C.2.2.2.2.2.2 Lr23 Kr23 Lr33 Kr33 h) (cwV 1 C.1.2.2.2.2 gX5_gcd_X4_become rfl rfl rfl (by decide +kernel) (q_room (by decide) (by decide))) Lr23 (qc4 Kr23 _) rfl rfl rfl (Nat.le_of_ble_eq_true rfl) dX5_gcd_109 (fun σ34 h => ?_)
        obtain ⟨v36, ev36⟩ : ∃ z : Int32, z = x4 + 1 := ⟨_, rfl⟩
        replace h := h v36 ev36
        refine q_iinc (pc := 112) (v := v36) (j := 2) (lv' := [(4, .int v36), (0, .ref h0), (1, .int x1)]) C dX5_gcd_112 rfl (by rw [ev36]; rfl) (by decide) rfl ?_
        refine q_goto (tgt := 55) (pc := 115) C dX5_gcd_115 (by decide) ?_
        refine q_lv (lv' := [(0, .ref h0), (1, .int x1), (4, .int v36)]) [1, 2, 0] rfl ?_
        exact ih v36 σ34 h
def bkX5_gcd_118 (G : qG) (h0 : Nat) (x1 : Int32) (post : Int32 → qS → Prop) (σ : qS) : Prop := ∀ σ39 : qS, σ39 = q_st σ ((G.2.1 h0 3)) 2 0 → vp_in x1 (G.2.2 ((G.2.1 h0 1))) ∧ wpX4_become G ((G.2.1 ((G.2.1 h0 1)) x1.toNatClampNeg)) ((G.2.1 h0 3)) σ39 (fun (σ43 : qS) => post 0 σ43)
set_option maxHeartbeats 4000000 in
set_option maxRecDepth 100000 in
theorem sbX5_gcd_118 {p : Program} {l : Launch} {e : Env} {s : State} {m : MethodId} {args : Array Value} {below : List Frame} {meth : Method} {c : Code} {E : qE} {L : List Nat} {G : qG} {A : Nat → Prop} (C : q_C p s m args meth c cX5_gcd 5 wsX5_gcd RX5 (some .int) E L G A) {h0 : Nat} {x1 : Int32} (Lh0 : h0 ∈ L) (Kh0 : G.1 h0 = 5) {post : Int32 → qS → Prop} {σ : qS} (h : bkX5_gcd_118 G h0 x1 post σ) : Wd p l e (q_rm 5) s m args below meth c E L G A (MQ below (va_Qi post (q_B E L G) A) args s 0 0 A) 5 σ 118 [(0, .ref h0), (1, .int x1)] [] := by
  unfold bkX5_gcd_118 at h
  refine q_aload_n (pc := 118) C dX5_gcd_118 rfl 0 rfl ?_
  obtain ⟨Lr38, Kr38⟩ := qw_5_3 C.2.2.2.2.2.2 Lh0 Kh0
  refine q_g5_3 (pc := 119) C Lh0 Kh0 mwX5_gcd_0 mwX5_gcd_1 dX5_gcd_119 ?_
  refine q_iconst (pc := 122) (v := 0) C dX5_gcd_122 (by decide) ?_
  refine q_p4_2 (pc := 123) C Lr38 Kr38 mwX5_gcd_8 mwX5_gcd_9 (Or.inl rfl) dX5_gcd_123 (fun σ39 eσ39 => ?_)
  replace h := h σ39 eσ39
  refine q_aload_n (pc := 126) C dX5_gcd_126 rfl 0 rfl ?_
  obtain ⟨Lr40, Kr40⟩ := qw_5_1 C.2.2.2.2.2.2 Lh0 Kh0
  refine q_g5_1 (pc := 127) C Lh0 Kh0 mwX5_gcd_0 mwX5_gcd_2 dX5_gcd_127 ?_
  refine q_iload_n (pc := 130) C dX5_gcd_130 rfl 1 rfl ?_
  obtain ⟨b41, h⟩ := h
  refine q_aald (pc := 131) C Lr40 Kr40 b41 dX5_gcd_131 ?_
  obtain ⟨Lr42, Kr42⟩ := qw_10 C.2.2.2.2.2.2 Lr40 Kr40 b41
  refine q_aload_n (pc := 132) C dX5_gcd_132 rfl 0 rfl ?_
  refine q_g5_3 (pc := 133) C Lh0 Kh0 mwX5_gcd_0 mwX5_gcd_1 dX5_gcd_133 ?_
  refine q_cVv (pc := 136) (As := [.ref ((G.2.1 h0 3))]) (ci := 4) (Cn := RX4) (T := TX4) (N := 3) C (sdX4_become C.2.2.2.2.2.1 C.2.2.2.2.2.2 Lr42 Kr42 Lr38 Kr38 h) (cwV 1 C.1.2.2.2.2 gX5_gcd_X4_become rfl rfl rfl (by decide +kernel) (q_room (by decide) (by decide))) Lr42 (qc4 Kr42 _) rfl rfl rfl (Nat.le_of_ble_eq_true rfl) dX5_gcd_136 (fun σ43 h => ?_)
  refine q_iconst (pc := 139) (v := 0) C dX5_gcd_139 (by decide) ?_
  exact q_iret (pc := 140) C dX5_gcd_140 h
def wpX5_gcd (G : qG) (h0 : Nat) (x1 : Int32) (x2 : Int32) (x3 : Int32) (σ : qS) (post : Int32 → qS → Prop) : Prop := wpX5_isNone G h0 x1 σ (fun (u2 : Int32) (σ1 : qS) => ((u2 = 0 → wpX5_isNone G h0 x2 σ1 (fun (u5 : Int32) (σ4 : qS) => ((u5 = 0 → wpX5_isNone G h0 x3 σ4 (fun (u8 : Int32) (σ7 : qS) => ((u8 = 0 → vp_in x2 (G.2.2 ((G.2.1 h0 1))) ∧ wpX4_become G ((G.2.1 h0 3)) ((G.2.1 ((G.2.1 h0 1)) x2.toNatClampNeg)) σ7 (fun (σ14 : qS) => vp_in x3 (G.2.2 ((G.2.1 h0 1))) ∧ wpX4_become G ((G.2.1 h0 4)) ((G.2.1 ((G.2.1 h0 1)) x3.toNatClampNeg)) σ14 (fun (σ19 : qS) => ∀ v21 : Int32, v21 = 0 → ∃ n45 : Nat, lpX5_gcd_55 G h0 x1 post (fun  (σ37 : qS) => bkX5_gcd_118 G h0 x1 post σ37) n45 v21 σ19))) ∧ (¬ u8 = 0 → post ((-1)) σ7)))) ∧ (¬ u5 = 0 → post ((-1)) σ4)))) ∧ (¬ u2 = 0 → post ((-1)) σ1)))
set_option maxHeartbeats 4000000 in
set_option maxRecDepth 100000 in
theorem sdX5_gcd {l : Launch} {E : qE} {L : List Nat} {G : qG} (hN : L.Nodup) (hG : q_WF G L) {h0 : Nat} {x1 : Int32} {x2 : Int32} {x3 : Int32} (Lh0 : h0 ∈ L) (Kh0 : G.1 h0 = 5) {σ : qS} {post : Int32 → qS → Prop} (h : wpX5_gcd G h0 x1 x2 x3 σ post) : MtI l E L G yX5_gcd wsX5_gcd (q_rm 5) [.ref h0, .int x1, .int x2, .int x3] σ post := by
  refine q_met (Qc := fun sz => va_Qi post (q_B E L G) (q_free L sz)) (cc := cX5_gcd) (maxL := 5) (ret := (some .int)) (own := RX5) (by decide) rfl rfl (Nat.le_of_ble_eq_true rfl) hN hG ?_
  intro p e s m below meth c C
  unfold wpX5_gcd at h
  refine q_aload_n (pc := 0) C dX5_gcd_0 rfl 0 rfl ?_
  refine q_iload_n (pc := 1) C dX5_gcd_1 rfl 1 rfl ?_
  refine q_cVi (pc := 2) (As := [.int x1]) (ci := 5) (Cn := RX5) (T := TX5) (N := 9) C (sdX5_isNone C.2.2.2.2.2.1 C.2.2.2.2.2.2 Lh0 Kh0 h) (cwV 1 C.1.2.2.2.2 gX5_gcd_X5_isNone rfl rfl rfl (by decide +kernel) (q_room (by decide) (by decide))) Lh0 (qc5 Kh0 _) rfl rfl rfl (Nat.le_of_ble_eq_true rfl) dX5_gcd_2 (fun u2 σ1 h => ?_)
  refine q_if_ne (tgt := 24) (pc := 5) C dX5_gcd_5 (by decide) (fun c3 => ?_) (fun c3 => ?_)
  · replace h := h.2 c3
    refine q_iconst (pc := 24) (v := (-1)) C dX5_gcd_24 (by decide) ?_
    exact q_iret (pc := 25) C dX5_gcd_25 h
  · replace h := h.1 c3
    refine q_aload_n (pc := 8) C dX5_gcd_8 rfl 0 rfl ?_
    refine q_iload_n (pc := 9) C dX5_gcd_9 rfl 2 rfl ?_
    refine q_cVi (pc := 10) (As := [.int x2]) (ci := 5) (Cn := RX5) (T := TX5) (N := 9) C (sdX5_isNone C.2.2.2.2.2.1 C.2.2.2.2.2.2 Lh0 Kh0 h) (cwV 1 C.1.2.2.2.2 gX5_gcd_X5_isNone rfl rfl rfl (by decide +kernel) (q_room (by decide) (by decide))) Lh0 (qc5 Kh0 _) rfl rfl rfl (Nat.le_of_ble_eq_true rfl) dX5_gcd_10 (fun u5 σ4 h => ?_)
    refine q_if_ne (tgt := 24) (pc := 13) C dX5_gcd_13 (by decide) (fun c6 => ?_) (fun c6 => ?_)
    · replace h := h.2 c6
      refine q_iconst (pc := 24) (v := (-1)) C dX5_gcd_24 (by decide) ?_
      exact q_iret (pc := 25) C dX5_gcd_25 h
    · replace h := h.1 c6
      refine q_aload_n (pc := 16) C dX5_gcd_16 rfl 0 rfl ?_
      refine q_iload_n (pc := 17) C dX5_gcd_17 rfl 3 rfl ?_
      refine q_cVi (pc := 18) (As := [.int x3]) (ci := 5) (Cn := RX5) (T := TX5) (N := 9) C (sdX5_isNone C.2.2.2.2.2.1 C.2.2.2.2.2.2 Lh0 Kh0 h) (cwV 1 C.1.2.2.2.2 gX5_gcd_X5_isNone rfl rfl rfl (by decide +kernel) (q_room (by decide) (by decide))) Lh0 (qc5 Kh0 _) rfl rfl rfl (Nat.le_of_ble_eq_true rfl) dX5_gcd_18 (fun u8 σ7 h => ?_)
      refine q_if_eq (tgt := 26) (pc := 21) C dX5_gcd_21 (by decide) (fun c9 => ?_) (fun c9 => ?_)
      · replace h := h.1 c9
        refine q_aload_n (pc := 26) C dX5_gcd_26 rfl 0 rfl ?_
        obtain ⟨Lr10, Kr10⟩ := qw_5_3 C.2.2.2.2.2.2 Lh0 Kh0
        refine q_g5_3 (pc := 27) C Lh0 Kh0 mwX5_gcd_0 mwX5_gcd_1 dX5_gcd_27 ?_
        refine q_aload_n (pc := 30) C dX5_gcd_30 rfl 0 rfl ?_
        obtain ⟨Lr11, Kr11⟩ := qw_5_1 C.2.2.2.2.2.2 Lh0 Kh0
        refine q_g5_1 (pc := 31) C Lh0 Kh0 mwX5_gcd_0 mwX5_gcd_2 dX5_gcd_31 ?_
        refine q_iload_n (pc := 34) C dX5_gcd_34 rfl 2 rfl ?_
        obtain ⟨b12, h⟩ := h
        refine q_aald (pc := 35) C Lr11 Kr11 b12 dX5_gcd_35 ?_
        obtain ⟨Lr13, Kr13⟩ := qw_10 C.2.2.2.2.2.2 Lr11 Kr11 b12
        refine q_cVv (pc := 36) (As := [.ref ((G.2.1 ((G.2.1 h0 1)) x2.toNatClampNeg))]) (ci := 4) (Cn := RX4) (T := TX4) (N := 3) C (sdX4_become C.2.2.2.2.2.1 C.2.2.2.2.2.2 Lr10 Kr10 Lr13 Kr13 h) (cwV 1 C.1.2.2.2.2 gX5_gcd_X4_become rfl rfl rfl (by decide +kernel) (q_room (by decide) (by decide))) Lr10 (qc4 Kr10 _) rfl rfl rfl (Nat.le_of_ble_eq_true rfl) dX5_gcd_36 (fun σ14 h => ?_)
        refine q_aload_n (pc := 39) C dX5_gcd_39 rfl 0 rfl ?_
        obtain ⟨Lr16, Kr16⟩ := qw_5_4 C.2.2.2.2.2.2 Lh0 Kh0
        refine q_g5_4 (pc := 40) C Lh0 Kh0 mwX5_gcd_0 mwX5_gcd_3 dX5_gcd_40 ?_
        refine q_aload_n (pc := 43) C dX5_gcd_43 rfl 0 rfl ?_
        refine q_g5_1 (pc := 44) C Lh0 Kh0 mwX5_gcd_0 mwX5_gcd_2 dX5_gcd_44 ?_
        refine q_iload_n (pc := 47) C dX5_gcd_47 rfl 3 rfl ?_
        obtain ⟨b17, h⟩ := h
        refine q_aald (pc := 48) C Lr11 Kr11 b17 dX5_gcd_48 ?_
        obtain ⟨Lr18, Kr18⟩ := qw_10 C.2.2.2.2.2.2 Lr11 Kr11 b17
        refine q_cVv (pc := 49) (As := [.ref ((G.2.1 ((G.2.1 h0 1)) x3.toNatClampNeg))]) (ci := 4) (Cn := RX4) (T := TX4) (N := 3) C (sdX4_become C.2.2.2.2.2.1 C.2.2.2.2.2.2 Lr16 Kr16 Lr18 Kr18 h) (cwV 1 C.1.2.2.2.2 gX5_gcd_X4_become rfl rfl rfl (by decide +kernel) (q_room (by decide) (by decide))) Lr16 (qc4 Kr16 _) rfl rfl rfl (Nat.le_of_ble_eq_true rfl) dX5_gcd_49 (fun σ19 h => ?_)
        refine q_iconst (pc := 52) (v := 0) C dX5_gcd_52 (by decide) ?_
        refine q_topi (fun v21 ev21 => ?_)
        replace h := h v21 ev21
        refine q_istore (pc := 53) (lv' := [(4, .int v21), (0, .ref h0), (1, .int x1), (2, .int x2), (3, .int x3)]) C dX5_gcd_53 (by decide) rfl ?_
        refine q_lv (lv' := [(0, .ref h0), (1, .int x1), (4, .int v21)]) [1, 2, 0] rfl ?_
        obtain ⟨n45, h⟩ := h
        refine slX5_gcd_55 C Lh0 Kh0 ?_ n45 v21 σ19 h
        · intro σ37 h
          exact sbX5_gcd_118 C Lh0 Kh0 h
      · replace h := h.2 c9
        refine q_iconst (pc := 24) (v := (-1)) C dX5_gcd_24 (by decide) ?_
        exact q_iret (pc := 25) C dX5_gcd_25 h
theorem mwX5_multiplySecond_0 : ∀ w ∈ wsX50, w ∈ wsX5_multiplySecond := by decide +kernel
theorem mwX5_multiplySecond_1 : Cond.fieldLink RX5 41 "IntFile" "products" "LIntFile$Products;" ∈ wsX5_multiplySecond := by decide +kernel
theorem mwX5_multiplySecond_2 : Cond.fieldLink RX5 26 "IntFile" "result" "LIntFile$Whole;" ∈ wsX5_multiplySecond := by decide +kernel
theorem mwX5_multiplySecond_3 : Cond.fieldLink RX5 33 "IntFile" "second" "LIntFile$Whole;" ∈ wsX5_multiplySecond := by decide +kernel
theorem mwX5_multiplySecond_4 : Cond.fieldLink RX5 48 "IntFile" "division" "LIntFile$Division;" ∈ wsX5_multiplySecond := by decide +kernel
theorem mwX5_multiplySecond_5 : ∀ w ∈ wsX00, w ∈ wsX5_multiplySecond := by decide +kernel
theorem mwX5_multiplySecond_6 : Cond.fieldLink RX5 114 "IntFile$Division" "rest" "LIntFile$Whole;" ∈ wsX5_multiplySecond := by decide +kernel
def wpX5_multiplySecond (G : qG) (h0 : Nat) (h1 : Nat) (h2 : Nat) (σ : qS) (post : qS → Prop) : Prop := wpX1_product G ((G.2.1 h0 5)) ((G.2.1 h0 2)) ((G.2.1 h0 4)) h1 σ (fun (σ4 : qS) => wpX0_divide G ((G.2.1 h0 6)) ((G.2.1 h0 2)) h2 σ4 (fun (σ7 : qS) => wpX4_become G ((G.2.1 h0 4)) ((G.2.1 ((G.2.1 h0 6)) 1)) σ7 (fun (σ10 : qS) => post σ10)))
set_option maxHeartbeats 4000000 in
set_option maxRecDepth 100000 in
theorem sdX5_multiplySecond {l : Launch} {E : qE} {L : List Nat} {G : qG} (hN : L.Nodup) (hG : q_WF G L) {h0 : Nat} {h1 : Nat} {h2 : Nat} (Lh0 : h0 ∈ L) (Kh0 : G.1 h0 = 5) (Lh1 : h1 ∈ L) (Kh1 : G.1 h1 = 4) (Lh2 : h2 ∈ L) (Kh2 : G.1 h2 = 4) {σ : qS} {post : qS → Prop} (h : wpX5_multiplySecond G h0 h1 h2 σ post) : MtV l E L G yX5_multiplySecond wsX5_multiplySecond (q_rm 26) [.ref h0, .ref h1, .ref h2] σ post := by
  refine q_met (Qc := fun sz => va_Qv post (q_B E L G) (q_free L sz)) (cc := cX5_multiplySecond) (maxL := 3) (ret := none) (own := RX5) (by decide) rfl rfl (Nat.le_of_ble_eq_true rfl) hN hG ?_
  intro p e s m below meth c C
  unfold wpX5_multiplySecond at h
  refine q_aload_n (pc := 0) C dX5_multiplySecond_0 rfl 0 rfl ?_
  obtain ⟨Lr1, Kr1⟩ := qw_5_5 C.2.2.2.2.2.2 Lh0 Kh0
  refine q_g5_5 (pc := 1) C Lh0 Kh0 mwX5_multiplySecond_0 mwX5_multiplySecond_1 dX5_multiplySecond_1 ?_
  refine q_aload_n (pc := 4) C dX5_multiplySecond_4 rfl 0 rfl ?_
  obtain ⟨Lr2, Kr2⟩ := qw_5_2 C.2.2.2.2.2.2 Lh0 Kh0
  refine q_g5_2 (pc := 5) C Lh0 Kh0 mwX5_multiplySecond_0 mwX5_multiplySecond_2 dX5_multiplySecond_5 ?_
  refine q_aload_n (pc := 8) C dX5_multiplySecond_8 rfl 0 rfl ?_
  obtain ⟨Lr3, Kr3⟩ := qw_5_4 C.2.2.2.2.2.2 Lh0 Kh0
  refine q_g5_4 (pc := 9) C Lh0 Kh0 mwX5_multiplySecond_0 mwX5_multiplySecond_3 dX5_multiplySecond_9 ?_
  refine q_aload_n (pc := 12) C dX5_multiplySecond_12 rfl 1 rfl ?_
  refine q_cVv (pc := 13) (As := [.ref ((G.2.1 h0 2)), .ref ((G.2.1 h0 4)), .ref h1]) (ci := 1) (Cn := RX1) (T := TX1) (N := 6) C (sdX1_product C.2.2.2.2.2.1 C.2.2.2.2.2.2 Lr1 Kr1 Lr2 Kr2 Lr3 Kr3 Lh1 Kh1 h) (cwV 3 C.1.2.2.2.2 gX5_multiplySecond_X1_product rfl rfl rfl (by decide +kernel) (q_room (by decide) (by decide))) Lr1 (qc1 Kr1 _) rfl rfl rfl (Nat.le_of_ble_eq_true rfl) dX5_multiplySecond_13 (fun σ4 h => ?_)
  refine q_aload_n (pc := 16) C dX5_multiplySecond_16 rfl 0 rfl ?_
  obtain ⟨Lr6, Kr6⟩ := qw_5_6 C.2.2.2.2.2.2 Lh0 Kh0
  refine q_g5_6 (pc := 17) C Lh0 Kh0 mwX5_multiplySecond_0 mwX5_multiplySecond_4 dX5_multiplySecond_17 ?_
  refine q_aload_n (pc := 20) C dX5_multiplySecond_20 rfl 0 rfl ?_
  refine q_g5_2 (pc := 21) C Lh0 Kh0 mwX5_multiplySecond_0 mwX5_multiplySecond_2 dX5_multiplySecond_21 ?_
  refine q_aload_n (pc := 24) C dX5_multiplySecond_24 rfl 2 rfl ?_
  refine q_cVv (pc := 25) (As := [.ref ((G.2.1 h0 2)), .ref h2]) (ci := 0) (Cn := RX0) (T := TX0) (N := 4) C (sdX0_divide C.2.2.2.2.2.1 C.2.2.2.2.2.2 Lr6 Kr6 Lr2 Kr2 Lh2 Kh2 h) (cwV 2 C.1.2.2.2.2 gX5_multiplySecond_X0_divide rfl rfl rfl (by decide +kernel) (q_room (by decide) (by decide))) Lr6 (qc0 Kr6 _) rfl rfl rfl (Nat.le_of_ble_eq_true rfl) dX5_multiplySecond_25 (fun σ7 h => ?_)
  refine q_aload_n (pc := 28) C dX5_multiplySecond_28 rfl 0 rfl ?_
  refine q_g5_4 (pc := 29) C Lh0 Kh0 mwX5_multiplySecond_0 mwX5_multiplySecond_3 dX5_multiplySecond_29 ?_
  refine q_aload_n (pc := 32) C dX5_multiplySecond_32 rfl 0 rfl ?_
  refine q_g5_6 (pc := 33) C Lh0 Kh0 mwX5_multiplySecond_0 mwX5_multiplySecond_4 dX5_multiplySecond_33 ?_
  obtain ⟨Lr9, Kr9⟩ := qw_0_1 C.2.2.2.2.2.2 Lr6 Kr6
  refine q_g0_1 (pc := 36) C Lr6 Kr6 mwX5_multiplySecond_5 mwX5_multiplySecond_6 dX5_multiplySecond_36 ?_
  refine q_cVv (pc := 39) (As := [.ref ((G.2.1 ((G.2.1 h0 6)) 1))]) (ci := 4) (Cn := RX4) (T := TX4) (N := 3) C (sdX4_become C.2.2.2.2.2.1 C.2.2.2.2.2.2 Lr3 Kr3 Lr9 Kr9 h) (cwV 1 C.1.2.2.2.2 gX5_multiplySecond_X4_become rfl rfl rfl (by decide +kernel) (q_room (by decide) (by decide))) Lr3 (qc4 Kr3 _) rfl rfl rfl (Nat.le_of_ble_eq_true rfl) dX5_multiplySecond_39 (fun σ10 h => ?_)
  exact q_vret (pc := 42) C dX5_multiplySecond_42 h
theorem mwX5_oneToSecond_0 : ∀ w ∈ wsX50, w ∈ wsX5_oneToSecond := by decide +kernel
theorem mwX5_oneToSecond_1 : Cond.fieldLink RX5 33 "IntFile" "second" "LIntFile$Whole;" ∈ wsX5_oneToSecond := by decide +kernel
theorem mwX5_oneToSecond_2 : Cond.fieldLink RX5 48 "IntFile" "division" "LIntFile$Division;" ∈ wsX5_oneToSecond := by decide +kernel
theorem mwX5_oneToSecond_3 : ∀ w ∈ wsX00, w ∈ wsX5_oneToSecond := by decide +kernel
theorem mwX5_oneToSecond_4 : Cond.fieldLink RX5 114 "IntFile$Division" "rest" "LIntFile$Whole;" ∈ wsX5_oneToSecond := by decide +kernel
def wpX5_oneToSecond (G : qG) (h0 : Nat) (h1 : Nat) (σ : qS) (post : qS → Prop) : Prop := wpX4_becomeInt G ((G.2.1 h0 4)) 1 σ (fun (σ2 : qS) => wpX0_divide G ((G.2.1 h0 6)) ((G.2.1 h0 4)) h1 σ2 (fun (σ5 : qS) => wpX4_become G ((G.2.1 h0 4)) ((G.2.1 ((G.2.1 h0 6)) 1)) σ5 (fun (σ8 : qS) => post σ8)))
set_option maxHeartbeats 4000000 in
set_option maxRecDepth 100000 in
theorem sdX5_oneToSecond {l : Launch} {E : qE} {L : List Nat} {G : qG} (hN : L.Nodup) (hG : q_WF G L) {h0 : Nat} {h1 : Nat} (Lh0 : h0 ∈ L) (Kh0 : G.1 h0 = 5) (Lh1 : h1 ∈ L) (Kh1 : G.1 h1 = 4) {σ : qS} {post : qS → Prop} (h : wpX5_oneToSecond G h0 h1 σ post) : MtV l E L G yX5_oneToSecond wsX5_oneToSecond (q_rm 5) [.ref h0, .ref h1] σ post := by
  refine q_met (Qc := fun sz => va_Qv post (q_B E L G) (q_free L sz)) (cc := cX5_oneToSecond) (maxL := 2) (ret := none) (own := RX5) (by decide) rfl rfl (Nat.le_of_ble_eq_true rfl) hN hG ?_
  intro p e s m below meth c C
  unfold wpX5_oneToSecond at h
  refine q_aload_n (pc := 0) C dX5_oneToSecond_0 rfl 0 rfl ?_
  obtain ⟨Lr1, Kr1⟩ := qw_5_4 C.2.2.2.2.2.2 Lh0 Kh0
  refine q_g5_4 (pc := 1) C Lh0 Kh0 mwX5_oneToSecond_0 mwX5_oneToSecond_1 dX5_oneToSecond_1 ?_
  refine q_iconst (pc := 4) (v := 1) C dX5_oneToSecond_4 (by decide) ?_
  refine q_cVv (pc := 5) (As := [.int 1]) (ci := 4) (Cn := RX4) (T := TX4) (N := 3) C (sdX4_becomeInt C.2.2.2.2.2.1 C.2.2.2.2.2.2 Lr1 Kr1 h) (cwV 1 C.1.2.2.2.2 gX5_oneToSecond_X4_becomeInt rfl rfl rfl (by decide +kernel) (q_room (by decide) (by decide))) Lr1 (qc4 Kr1 _) rfl rfl rfl (Nat.le_of_ble_eq_true rfl) dX5_oneToSecond_5 (fun σ2 h => ?_)
  refine q_aload_n (pc := 8) C dX5_oneToSecond_8 rfl 0 rfl ?_
  obtain ⟨Lr4, Kr4⟩ := qw_5_6 C.2.2.2.2.2.2 Lh0 Kh0
  refine q_g5_6 (pc := 9) C Lh0 Kh0 mwX5_oneToSecond_0 mwX5_oneToSecond_2 dX5_oneToSecond_9 ?_
  refine q_aload_n (pc := 12) C dX5_oneToSecond_12 rfl 0 rfl ?_
  refine q_g5_4 (pc := 13) C Lh0 Kh0 mwX5_oneToSecond_0 mwX5_oneToSecond_1 dX5_oneToSecond_13 ?_
  refine q_aload_n (pc := 16) C dX5_oneToSecond_16 rfl 1 rfl ?_
  refine q_cVv (pc := 17) (As := [.ref ((G.2.1 h0 4)), .ref h1]) (ci := 0) (Cn := RX0) (T := TX0) (N := 4) C (sdX0_divide C.2.2.2.2.2.1 C.2.2.2.2.2.2 Lr4 Kr4 Lr1 Kr1 Lh1 Kh1 h) (cwV 2 C.1.2.2.2.2 gX5_oneToSecond_X0_divide rfl rfl rfl (by decide +kernel) (q_room (by decide) (by decide))) Lr4 (qc0 Kr4 _) rfl rfl rfl (Nat.le_of_ble_eq_true rfl) dX5_oneToSecond_17 (fun σ5 h => ?_)
  refine q_aload_n (pc := 20) C dX5_oneToSecond_20 rfl 0 rfl ?_
  refine q_g5_4 (pc := 21) C Lh0 Kh0 mwX5_oneToSecond_0 mwX5_oneToSecond_1 dX5_oneToSecond_21 ?_
  refine q_aload_n (pc := 24) C dX5_oneToSecond_24 rfl 0 rfl ?_
  refine q_g5_6 (pc := 25) C Lh0 Kh0 mwX5_oneToSecond_0 mwX5_oneToSecond_2 dX5_oneToSecond_25 ?_
  obtain ⟨Lr7, Kr7⟩ := qw_0_1 C.2.2.2.2.2.2 Lr4 Kr4
  refine q_g0_1 (pc := 28) C Lr4 Kr4 mwX5_oneToSecond_3 mwX5_oneToSecond_4 dX5_oneToSecond_28 ?_
  refine q_cVv (pc := 31) (As := [.ref ((G.2.1 ((G.2.1 h0 6)) 1))]) (ci := 4) (Cn := RX4) (T := TX4) (N := 3) C (sdX4_become C.2.2.2.2.2.1 C.2.2.2.2.2.2 Lr1 Kr1 Lr7 Kr7 h) (cwV 1 C.1.2.2.2.2 gX5_oneToSecond_X4_become rfl rfl rfl (by decide +kernel) (q_room (by decide) (by decide))) Lr1 (qc4 Kr1 _) rfl rfl rfl (Nat.le_of_ble_eq_true rfl) dX5_oneToSecond_31 (fun σ8 h => ?_)
  exact q_vret (pc := 34) C dX5_oneToSecond_34 h
theorem mwX5_reduceToFirst_0 : ∀ w ∈ wsX50, w ∈ wsX5_reduceToFirst := by decide +kernel
theorem mwX5_reduceToFirst_1 : Cond.fieldLink RX5 48 "IntFile" "division" "LIntFile$Division;" ∈ wsX5_reduceToFirst := by decide +kernel
theorem mwX5_reduceToFirst_2 : ∀ w ∈ wsX00, w ∈ wsX5_reduceToFirst := by decide +kernel
theorem mwX5_reduceToFirst_3 : Cond.fieldLink RX5 114 "IntFile$Division" "rest" "LIntFile$Whole;" ∈ wsX5_reduceToFirst := by decide +kernel
theorem mwX5_reduceToFirst_4 : ∀ w ∈ wsX40, w ∈ wsX5_reduceToFirst := by decide +kernel
theorem mwX5_reduceToFirst_5 : Cond.fieldLink RX5 88 "IntFile$Whole" "below" "Z" ∈ wsX5_reduceToFirst := by decide +kernel
theorem mwX5_reduceToFirst_6 : Cond.fieldLink RX5 30 "IntFile" "first" "LIntFile$Whole;" ∈ wsX5_reduceToFirst := by decide +kernel
def wpX5_reduceToFirst (G : qG) (h0 : Nat) (h1 : Nat) (h2 : Nat) (σ : qS) (post : qS → Prop) : Prop := wpX0_divide G ((G.2.1 h0 6)) h1 h2 σ (fun (σ2 : qS) => (((σ2 ((G.2.1 ((G.2.1 h0 6)) 1)) 2) = 0 → wpX4_become G ((G.2.1 h0 3)) ((G.2.1 ((G.2.1 h0 6)) 1)) σ2 (fun (σ7 : qS) => post σ7)) ∧ (¬ (σ2 ((G.2.1 ((G.2.1 h0 6)) 1)) 2) = 0 → wpX4_becomeSum G ((G.2.1 h0 3)) h2 ((G.2.1 ((G.2.1 h0 6)) 1)) 1 σ2 (fun (σ10 : qS) => post σ10))))
set_option maxHeartbeats 4000000 in
set_option maxRecDepth 100000 in
theorem sdX5_reduceToFirst {l : Launch} {E : qE} {L : List Nat} {G : qG} (hN : L.Nodup) (hG : q_WF G L) {h0 : Nat} {h1 : Nat} {h2 : Nat} (Lh0 : h0 ∈ L) (Kh0 : G.1 h0 = 5) (Lh1 : h1 ∈ L) (Kh1 : G.1 h1 = 4) (Lh2 : h2 ∈ L) (Kh2 : G.1 h2 = 4) {σ : qS} {post : qS → Prop} (h : wpX5_reduceToFirst G h0 h1 h2 σ post) : MtV l E L G yX5_reduceToFirst wsX5_reduceToFirst (q_rm 5) [.ref h0, .ref h1, .ref h2] σ post := by
  refine q_met (Qc := fun sz => va_Qv post (q_B E L G) (q_free L sz)) (cc := cX5_reduceToFirst) (maxL := 3) (ret := none) (own := RX5) (by decide) rfl rfl (Nat.le_of_ble_eq_true rfl) hN hG ?_
  intro p e s m below meth c C
  unfold wpX5_reduceToFirst at h
  refine q_aload_n (pc := 0) C dX5_reduceToFirst_0 rfl 0 rfl ?_
  obtain ⟨Lr1, Kr1⟩ := qw_5_6 C.2.2.2.2.2.2 Lh0 Kh0
  refine q_g5_6 (pc := 1) C Lh0 Kh0 mwX5_reduceToFirst_0 mwX5_reduceToFirst_1 dX5_reduceToFirst_1 ?_
  refine q_aload_n (pc := 4) C dX5_reduceToFirst_4 rfl 1 rfl ?_
  refine q_aload_n (pc := 5) C dX5_reduceToFirst_5 rfl 2 rfl ?_
  refine q_cVv (pc := 6) (As := [.ref h1, .ref h2]) (ci := 0) (Cn := RX0) (T := TX0) (N := 4) C (sdX0_divide C.2.2.2.2.2.1 C.2.2.2.2.2.2 Lr1 Kr1 Lh1 Kh1 Lh2 Kh2 h) (cwV 2 C.1.2.2.2.2 gX5_reduceToFirst_X0_divide rfl rfl rfl (by decide +kernel) (q_room (by decide) (by decide))) Lr1 (qc0 Kr1 _) rfl rfl rfl (Nat.le_of_ble_eq_true rfl) dX5_reduceToFirst_6 (fun σ2 h => ?_)
  refine q_aload_n (pc := 9) C dX5_reduceToFirst_9 rfl 0 rfl ?_
  refine q_g5_6 (pc := 10) C Lh0 Kh0 mwX5_reduceToFirst_0 mwX5_reduceToFirst_1 dX5_reduceToFirst_10 ?_
  obtain ⟨Lr4, Kr4⟩ := qw_0_1 C.2.2.2.2.2.2 Lr1 Kr1
  refine q_g0_1 (pc := 13) C Lr1 Kr1 mwX5_reduceToFirst_2 mwX5_reduceToFirst_3 dX5_reduceToFirst_13 ?_
  refine q_g4_2 (pc := 16) C Lr4 Kr4 mwX5_reduceToFirst_4 mwX5_reduceToFirst_5 dX5_reduceToFirst_16 ?_
  refine q_if_eq (tgt := 41) (pc := 19) C dX5_reduceToFirst_19 (by decide) (fun c5 => ?_) (fun c5 => ?_)
  · replace h := h.1 c5
    refine q_aload_n (pc := 41) C dX5_reduceToFirst_41 rfl 0 rfl ?_
    obtain ⟨Lr6, Kr6⟩ := qw_5_3 C.2.2.2.2.2.2 Lh0 Kh0
    refine q_g5_3 (pc := 42) C Lh0 Kh0 mwX5_reduceToFirst_0 mwX5_reduceToFirst_6 dX5_reduceToFirst_42 ?_
    refine q_aload_n (pc := 45) C dX5_reduceToFirst_45 rfl 0 rfl ?_
    refine q_g5_6 (pc := 46) C Lh0 Kh0 mwX5_reduceToFirst_0 mwX5_reduceToFirst_1 dX5_reduceToFirst_46 ?_
    refine q_g0_1 (pc := 49) C Lr1 Kr1 mwX5_reduceToFirst_2 mwX5_reduceToFirst_3 dX5_reduceToFirst_49 ?_
    refine q_cVv (pc := 52) (As := [.ref ((G.2.1 ((G.2.1 h0 6)) 1))]) (ci := 4) (Cn := RX4) (T := TX4) (N := 3) C (sdX4_become C.2.2.2.2.2.1 C.2.2.2.2.2.2 Lr6 Kr6 Lr4 Kr4 h) (cwV 1 C.1.2.2.2.2 gX5_reduceToFirst_X4_become rfl rfl rfl (by decide +kernel) (q_room (by decide) (by decide))) Lr6 (qc4 Kr6 _) rfl rfl rfl (Nat.le_of_ble_eq_true rfl) dX5_reduceToFirst_52 (fun σ7 h => ?_)
    exact q_vret (pc := 55) C dX5_reduceToFirst_55 h
  · replace h := h.2 c5
    refine q_aload_n (pc := 22) C dX5_reduceToFirst_22 rfl 0 rfl ?_
    obtain ⟨Lr9, Kr9⟩ := qw_5_3 C.2.2.2.2.2.2 Lh0 Kh0
    refine q_g5_3 (pc := 23) C Lh0 Kh0 mwX5_reduceToFirst_0 mwX5_reduceToFirst_6 dX5_reduceToFirst_23 ?_
    refine q_aload_n (pc := 26) C dX5_reduceToFirst_26 rfl 2 rfl ?_
    refine q_aload_n (pc := 27) C dX5_reduceToFirst_27 rfl 0 rfl ?_
    refine q_g5_6 (pc := 28) C Lh0 Kh0 mwX5_reduceToFirst_0 mwX5_reduceToFirst_1 dX5_reduceToFirst_28 ?_
    refine q_g0_1 (pc := 31) C Lr1 Kr1 mwX5_reduceToFirst_2 mwX5_reduceToFirst_3 dX5_reduceToFirst_31 ?_
    refine q_iconst (pc := 34) (v := 1) C dX5_reduceToFirst_34 (by decide) ?_
    refine q_cVv (pc := 35) (As := [.ref h2, .ref ((G.2.1 ((G.2.1 h0 6)) 1)), .int 1]) (ci := 4) (Cn := RX4) (T := TX4) (N := 3) C (sdX4_becomeSum C.2.2.2.2.2.1 C.2.2.2.2.2.2 Lr9 Kr9 Lh2 Kh2 Lr4 Kr4 h) (cwV 3 C.1.2.2.2.2 gX5_reduceToFirst_X4_becomeSum rfl rfl rfl (by decide +kernel) (q_room (by decide) (by decide))) Lr9 (qc4 Kr9 _) rfl rfl rfl (Nat.le_of_ble_eq_true rfl) dX5_reduceToFirst_35 (fun σ10 h => ?_)
    refine q_goto (tgt := 55) (pc := 38) C dX5_reduceToFirst_38 (by decide) ?_
    exact q_vret (pc := 55) C dX5_reduceToFirst_55 h
theorem mwX5_powMod_0 : ∀ w ∈ wsX50, w ∈ wsX5_powMod := by decide +kernel
theorem mwX5_powMod_1 : Cond.fieldLink RX5 19 "IntFile" "file" "[LIntFile$Whole;" ∈ wsX5_powMod := by decide +kernel
theorem mwX5_powMod_2 : ∀ w ∈ wsX40, w ∈ wsX5_powMod := by decide +kernel
theorem mwX5_powMod_3 : Cond.fieldLink RX5 88 "IntFile$Whole" "below" "Z" ∈ wsX5_powMod := by decide +kernel
theorem mwX5_powMod_4 : Cond.fieldLink RX5 100 "IntFile$Whole" "count" "I" ∈ wsX5_powMod := by decide +kernel
theorem mwX5_powMod_5 : Cond.fieldLink RX5 33 "IntFile" "second" "LIntFile$Whole;" ∈ wsX5_powMod := by decide +kernel
theorem mwX5_powMod_6 : Cond.fieldLink RX5 30 "IntFile" "first" "LIntFile$Whole;" ∈ wsX5_powMod := by decide +kernel
def lpX5_powMod_130 (G : qG) (h0 : Nat) (x1 : Int32) (x3 : Int32) (x4 : Int32) (post : Int32 → qS → Prop) (kx185 : qS → Prop) : Nat → Int32 → qS → Prop
  | 0, _, _ => False
  | n + 1, x5, σ => ((x5 < 0 → kx185 σ) ∧ (¬ x5 < 0 → vp_in x4 (G.2.2 ((G.2.1 h0 1))) ∧ wpX5_multiplySecond G h0 ((G.2.1 h0 4)) ((G.2.1 ((G.2.1 h0 1)) x4.toNatClampNeg)) σ (fun (σ48 : qS) => vp_in x3 (G.2.2 ((G.2.1 h0 1))) ∧ wpX4_hasBit G ((G.2.1 ((G.2.1 h0 1)) x3.toNatClampNeg)) x5 σ48 (fun (u53 : Int32) (σ52 : qS) => ((u53 = 0 → ∀ v55 : Int32, v55 = x5 + (-1) → lpX5_powMod_130 G h0 x1 x3 x4 post kx185 n v55 σ52) ∧ (¬ u53 = 0 → vp_in x4 (G.2.2 ((G.2.1 h0 1))) ∧ wpX5_multiplySecond G h0 ((G.2.1 h0 3)) ((G.2.1 ((G.2.1 h0 1)) x4.toNatClampNeg)) σ52 (fun (σ59 : qS) => ∀ v61 : Int32, v61 = x5 + (-1) → lpX5_powMod_130 G h0 x1 x3 x4 post kx185 n v61 σ59)))))))
set_option maxHeartbeats 4000000 in
set_option maxRecDepth 100000 in
theorem slX5_powMod_130 {p : Program} {l : Launch} {e : Env} {s : State} {m : MethodId} {args : Array Value} {below : List Frame} {meth : Method} {c : Code} {E : qE} {L : List Nat} {G : qG} {A : Nat → Prop} (C : q_C p s m args meth c cX5_powMod 6 wsX5_powMod RX5 (some .int) E L G A) {h0 : Nat} {x1 : Int32} {x3 : Int32} {x4 : Int32} (Lh0 : h0 ∈ L) (Kh0 : G.1 h0 = 5) {post : Int32 → qS → Prop} {kx185 : qS → Prop} (Hkx185 : ∀  (τ : qS), kx185  τ → Wd p l e (q_rm 27) s m args below meth c E L G A (MQ below (va_Qi post (q_B E L G) A) args s 0 0 A) 6 τ 185 [(0, .ref h0), (1, .int x1)] []) : ∀ (n : Nat) (x5 : Int32) (σ : qS), lpX5_powMod_130 G h0 x1 x3 x4 post kx185 n x5 σ → Wd p l e (q_rm 27) s m args below meth c E L G A (MQ below (va_Qi post (q_B E L G) A) args s 0 0 A) 6 σ 130 [(0, .ref h0), (1, .int x1), (3, .int x3), (4, .int x4), (5, .int x5)] [] := by
  intro n
  induction n with
  | zero => intro x5 σ h; exact h.elim
  | succ n ih =>
    intro x5 σ h
    unfold lpX5_powMod_130 at h
    refine q_iload (pc := 130) C dX5_powMod_130 4 rfl ?_
    refine q_if_lt (tgt := 185) (pc := 132) C dX5_powMod_132 (by decide) (fun c43 => ?_) (fun c43 => ?_)
    · replace h := h.1 c43
      refine q_lv (lv' := [(0, .ref h0), (1, .int x1)]) [0, 1] rfl ?_
      exact Hkx185  σ h
    · replace h := h.2 c43
      refine q_aload_n (pc := 135) C dX5_powMod_135 rfl 0 rfl ?_
      refine q_aload_n (pc := 136) C dX5_powMod_136 rfl 0 rfl ?_
      obtain ⟨Lr44, Kr44⟩ := qw_5_4 C.2.2.2.2.2.2 Lh0 Kh0
      refine q_g5_4 (pc := 137) C Lh0 Kh0 mwX5_powMod_0 mwX5_powMod_5 dX5_powMod_137 ?_
      refine q_aload_n (pc := 140) C dX5_powMod_140 rfl 0 rfl ?_
      obtain ⟨Lr45, Kr45⟩ := qw_5_1 C.2.2.2.2.2.2 Lh0 Kh0
      refine q_g5_1 (pc := 141) C Lh0 Kh0 mwX5_powMod_0 mwX5_powMod_1 dX5_powMod_141 ?_
      refine q_iload (pc := 144) C dX5_powMod_144 3 rfl ?_
      obtain ⟨b46, h⟩ := h
      refine q_aald (pc := 146) C Lr45 Kr45 b46 dX5_powMod_146 ?_
      obtain ⟨Lr47, Kr47⟩ := qw_10 C.2.2.2.2.2.2 Lr45 Kr45 b46
      refine q_cVv (pc := 147) (As := [.ref ((G.2.1 h0 4)), .ref ((G.2.1 ((G.2.1 h0 1)) x4.toNatClampNeg))]) (ci := 5) (Cn := RX5) (T := TX5) (N := 9) C (sdX5_multiplySecond C.2.2.2.2.2.1 C.2.2.2.2.2.2 Lh0 Kh0 Lr44 Kr44 Lr47 Kr47 h) (cwV 2 C.1.2.2.2.2 gX5_powMod_X5_multiplySecond rfl rfl rfl (by decide +kernel) (q_room (by decide) (by decide))) Lh0 (qc5 Kh0 _) rfl rfl rfl (Nat.le_of_ble_eq_true rfl) dX5_powMod_147 (fun σ48 h => ?_)
      refine q_aload_n (pc := 150) C dX5_powMod_150 rfl 0 rfl ?_
      refine q_g5_1 (pc := 151) C Lh0 Kh0 mwX5_powMod_0 mwX5_powMod_1 dX5_powMod_151 ?_
      refine q_iload_n (pc := 154) C dX5_powMod_154 rfl 2 rfl ?_
      obtain ⟨b50, h⟩ := h
      refine q_aald (pc := 155) C Lr45 Kr45 b50 dX5_powMod_155 ?_
      obtain ⟨Lr51, Kr51⟩ := qw_10 C.2.2.2.2.2.2 Lr45 Kr45 b50
      refine q_iload (pc := 156) C dX5_powMod_156 4 rfl ?_
      refine q_cVi (pc := 158) (As := [.int x5]) (ci := 4) (Cn := RX4) (T := TX4) (N := 3) C (sdX4_hasBit C.2.2.2.2.2.1 C.2.2.2.2.2.2 Lr51 Kr51 h) (cwV 1 C.1.2.2.2.2 gX5_powMod_X4_hasBit rfl rfl rfl (by decide +kernel) (q_room (by decide) (by decide))) Lr51 (qc4 Kr51 _) rfl rfl rfl (Nat.le_of_ble_eq_true rfl) dX5_powMod_158 (fun u53 σ52 h => ?_)
      refine q_if_eq (tgt := 179) (pc := 161) C dX5_powMod_161 (by decide) (fun c54 => ?_) (fun c54 => ?_)
      · replace h := h.1 c54
        obtain ⟨v55, ev55⟩ : ∃ z : Int32, z = x5 + (-1) := ⟨_, rfl⟩
        replace h := h v55 ev55
        refine q_iinc (pc := 179) (v := v55) (j := 4) (lv' := [(5, .int v55), (0, .ref h0), (1, .int x1), (3, .int x3), (4, .int x4)]) C dX5_powMod_179 rfl (by rw [ev55]; rfl) (by decide) rfl ?_
        refine q_goto (tgt := 130) (pc := 182) C dX5_powMod_182 (by decide) ?_
        refine q_lv (lv' := [(0, .ref h0), (1, .int x1), (3, .int x3), (4, .int x4), (5, .int v55)]) [1, 2, 3, 4, 0] rfl ?_
        exact ih v55 σ52 h
      · replace h := h.2 c54
        refine q_aload_n (pc := 164) C dX5_powMod_164 rfl 0 rfl ?_
        refine q_aload_n (pc := 165) C dX5_powMod_165 rfl 0 rfl ?_
        obtain ⟨Lr56, Kr56⟩ := qw_5_3 C.2.2.2.2.2.2 Lh0 Kh0
        refine q_g5_3 (pc := 166) C Lh0 Kh0 mwX5_powMod_0 mwX5_powMod_6 dX5_powMod_166 ?_
        refine q_aload_n (pc := 169) C dX5_powMod_169 rfl 0 rfl ?_
        refine q_g5_1 (pc := 170) C Lh0 Kh0 mwX5_powMod_0 mwX5_powMod_1 dX5_powMod_170 ?_
        refine q_iload (pc := 173) C dX5_powMod_173 3 rfl ?_
        obtain ⟨b57, h⟩ := h
        refine q_aald (pc := 175) C Lr45 Kr45 b57 dX5_powMod_175 ?_
        obtain ⟨Lr58, Kr58⟩ := qw_10 C.2.2.2.2.2.2 Lr45 Kr45 b57
        refine q_cVv (pc := 176) (As := [.ref ((G.2.1 h0 3)), .ref ((G.2.1 ((G.2.1 h0 1)) x4.toNatClampNeg))]) (ci := 5) (Cn := RX5) (T := TX5) (N := 9) C (sdX5_multiplySecond C.2.2.2.2.2.1 C.2.2.2.2.2.2 Lh0 Kh0 Lr56 Kr56 Lr58 Kr58 h) (cwV 2 C.1.2.2.2.2 gX5_powMod_X5_multiplySecond rfl rfl rfl (by decide +kernel) (q_room (by decide) (by decide))) Lh0 (qc5 Kh0 _) rfl rfl rfl (Nat.le_of_ble_eq_true rfl) dX5_powMod_176 (fun σ59 h => ?_)
        obtain ⟨v61, ev61⟩ : ∃ z : Int32, z = x5 + (-1) := ⟨_, rfl⟩
        replace h := h v61 ev61
        refine q_iinc (pc := 179) (v := v61) (j := 4) (lv' := [(5, .int v61), (0, .ref h0), (1, .int x1), (3, .int x3), (4, .int x4)]) C dX5_powMod_179 rfl (by rw [ev61]; rfl) (by decide) rfl ?_
        refine q_goto (tgt := 130) (pc := 182) C dX5_powMod_182 (by decide) ?_
        refine q_lv (lv' := [(0, .ref h0), (1, .int x1), (3, .int x3), (4, .int x4), (5, .int v61)]) [1, 2, 3, 4, 0] rfl ?_
        exact ih v61 σ59 h
def wpX5_powMod (G : qG) (h0 : Nat) (x1 : Int32) (x2 : Int32) (x3 : Int32) (x4 : Int32) (σ : qS) (post : Int32 → qS → Prop) : Prop := wpX5_isNone G h0 x1 σ (fun (u2 : Int32) (σ1 : qS) => ((u2 = 0 → wpX5_isNone G h0 x2 σ1 (fun (u5 : Int32) (σ4 : qS) => ((u5 = 0 → wpX5_isNone G h0 x3 σ4 (fun (u8 : Int32) (σ7 : qS) => ((u8 = 0 → wpX5_isNone G h0 x4 σ7 (fun (u11 : Int32) (σ10 : qS) => ((u11 = 0 → vp_in x4 (G.2.2 ((G.2.1 h0 1))) ∧ (((σ10 ((G.2.1 ((G.2.1 h0 1)) x4.toNatClampNeg)) 2) = 0 → vp_in x4 (G.2.2 ((G.2.1 h0 1))) ∧ wpX4_isZero G ((G.2.1 ((G.2.1 h0 1)) x4.toNatClampNeg)) σ10 (fun (u20 : Int32) (σ19 : qS) => ((u20 = 0 → vp_in x3 (G.2.2 ((G.2.1 h0 1))) ∧ (((σ19 ((G.2.1 ((G.2.1 h0 1)) x3.toNatClampNeg)) 2) = 0 → vp_in x3 (G.2.2 ((G.2.1 h0 1))) ∧ (((σ19 ((G.2.1 ((G.2.1 h0 1)) x3.toNatClampNeg)) 1) ≤ 2 → vp_in x2 (G.2.2 ((G.2.1 h0 1))) ∧ vp_in x4 (G.2.2 ((G.2.1 h0 1))) ∧ wpX5_reduceToFirst G h0 ((G.2.1 ((G.2.1 h0 1)) x2.toNatClampNeg)) ((G.2.1 ((G.2.1 h0 1)) x4.toNatClampNeg)) σ19 (fun (σ32 : qS) => vp_in x4 (G.2.2 ((G.2.1 h0 1))) ∧ wpX5_oneToSecond G h0 ((G.2.1 ((G.2.1 h0 1)) x4.toNatClampNeg)) σ32 (fun (σ36 : qS) => vp_in x3 (G.2.2 ((G.2.1 h0 1))) ∧ wpX4_bits G ((G.2.1 ((G.2.1 h0 1)) x3.toNatClampNeg)) σ36 (fun (u41 : Int32) (σ40 : qS) => ∀ v42 : Int32, v42 = u41 - 1 → ∃ n68 : Nat, lpX5_powMod_130 G h0 x1 x3 x4 post (fun  (σ62 : qS) => vp_in x1 (G.2.2 ((G.2.1 h0 1))) ∧ wpX4_become G ((G.2.1 ((G.2.1 h0 1)) x1.toNatClampNeg)) ((G.2.1 h0 4)) σ62 (fun (σ66 : qS) => post 0 σ66)) n68 v42 σ40)))) ∧ (¬ (σ19 ((G.2.1 ((G.2.1 h0 1)) x3.toNatClampNeg)) 1) ≤ 2 → post ((-2)) σ19))) ∧ (¬ (σ19 ((G.2.1 ((G.2.1 h0 1)) x3.toNatClampNeg)) 2) = 0 → post ((-2)) σ19))) ∧ (¬ u20 = 0 → post ((-2)) σ19)))) ∧ (¬ (σ10 ((G.2.1 ((G.2.1 h0 1)) x4.toNatClampNeg)) 2) = 0 → post ((-2)) σ10))) ∧ (¬ u11 = 0 → post ((-1)) σ10)))) ∧ (¬ u8 = 0 → post ((-1)) σ7)))) ∧ (¬ u5 = 0 → post ((-1)) σ4)))) ∧ (¬ u2 = 0 → post ((-1)) σ1)))
set_option maxHeartbeats 4000000 in
set_option maxRecDepth 100000 in
theorem sdX5_powMod {l : Launch} {E : qE} {L : List Nat} {G : qG} (hN : L.Nodup) (hG : q_WF G L) {h0 : Nat} {x1 : Int32} {x2 : Int32} {x3 : Int32} {x4 : Int32} (Lh0 : h0 ∈ L) (Kh0 : G.1 h0 = 5) {σ : qS} {post : Int32 → qS → Prop} (h : wpX5_powMod G h0 x1 x2 x3 x4 σ post) : MtI l E L G yX5_powMod wsX5_powMod (q_rm 27) [.ref h0, .int x1, .int x2, .int x3, .int x4] σ post := by
  refine q_met (Qc := fun sz => va_Qi post (q_B E L G) (q_free L sz)) (cc := cX5_powMod) (maxL := 6) (ret := (some .int)) (own := RX5) (by decide) rfl rfl (Nat.le_of_ble_eq_true rfl) hN hG ?_
  intro p e s m below meth c C
  unfold wpX5_powMod at h
  refine q_aload_n (pc := 0) C dX5_powMod_0 rfl 0 rfl ?_
  refine q_iload_n (pc := 1) C dX5_powMod_1 rfl 1 rfl ?_
  refine q_cVi (pc := 2) (As := [.int x1]) (ci := 5) (Cn := RX5) (T := TX5) (N := 9) C (sdX5_isNone C.2.2.2.2.2.1 C.2.2.2.2.2.2 Lh0 Kh0 h) (cwV 1 C.1.2.2.2.2 gX5_powMod_X5_isNone rfl rfl rfl (by decide +kernel) (q_room (by decide) (by decide))) Lh0 (qc5 Kh0 _) rfl rfl rfl (Nat.le_of_ble_eq_true rfl) dX5_powMod_2 (fun u2 σ1 h => ?_)
  refine q_if_ne (tgt := 33) (pc := 5) C dX5_powMod_5 (by decide) (fun c3 => ?_) (fun c3 => ?_)
  · replace h := h.2 c3
    refine q_iconst (pc := 33) (v := (-1)) C dX5_powMod_33 (by decide) ?_
    exact q_iret (pc := 34) C dX5_powMod_34 h
  · replace h := h.1 c3
    refine q_aload_n (pc := 8) C dX5_powMod_8 rfl 0 rfl ?_
    refine q_iload_n (pc := 9) C dX5_powMod_9 rfl 2 rfl ?_
    refine q_cVi (pc := 10) (As := [.int x2]) (ci := 5) (Cn := RX5) (T := TX5) (N := 9) C (sdX5_isNone C.2.2.2.2.2.1 C.2.2.2.2.2.2 Lh0 Kh0 h) (cwV 1 C.1.2.2.2.2 gX5_powMod_X5_isNone rfl rfl rfl (by decide +kernel) (q_room (by decide) (by decide))) Lh0 (qc5 Kh0 _) rfl rfl rfl (Nat.le_of_ble_eq_true rfl) dX5_powMod_10 (fun u5 σ4 h => ?_)
    refine q_if_ne (tgt := 33) (pc := 13) C dX5_powMod_13 (by decide) (fun c6 => ?_) (fun c6 => ?_)
    · replace h := h.2 c6
      refine q_iconst (pc := 33) (v := (-1)) C dX5_powMod_33 (by decide) ?_
      exact q_iret (pc := 34) C dX5_powMod_34 h
    · replace h := h.1 c6
      refine q_aload_n (pc := 16) C dX5_powMod_16 rfl 0 rfl ?_
      refine q_iload_n (pc := 17) C dX5_powMod_17 rfl 3 rfl ?_
      refine q_cVi (pc := 18) (As := [.int x3]) (ci := 5) (Cn := RX5) (T := TX5) (N := 9) C (sdX5_isNone C.2.2.2.2.2.1 C.2.2.2.2.2.2 Lh0 Kh0 h) (cwV 1 C.1.2.2.2.2 gX5_powMod_X5_isNone rfl rfl rfl (by decide +kernel) (q_room (by decide) (by decide))) Lh0 (qc5 Kh0 _) rfl rfl rfl (Nat.le_of_ble_eq_true rfl) dX5_powMod_18 (fun u8 σ7 h => ?_)
      refine q_if_ne (tgt := 33) (pc := 21) C dX5_powMod_21 (by decide) (fun c9 => ?_) (fun c9 => ?_)
      · replace h := h.2 c9
        refine q_iconst (pc := 33) (v := (-1)) C dX5_powMod_33 (by decide) ?_
        exact q_iret (pc := 34) C dX5_powMod_34 h
      · replace h := h.1 c9
        refine q_aload_n (pc := 24) C dX5_powMod_24 rfl 0 rfl ?_
        refine q_iload (pc := 25) C dX5_powMod_25 4 rfl ?_
        refine q_cVi (pc := 27) (As := [.int x4]) (ci := 5) (Cn := RX5) (T := TX5) (N := 9) C (sdX5_isNone C.2.2.2.2.2.1 C.2.2.2.2.2.2 Lh0 Kh0 h) (cwV 1 C.1.2.2.2.2 gX5_powMod_X5_isNone rfl rfl rfl (by decide +kernel) (q_room (by decide) (by decide))) Lh0 (qc5 Kh0 _) rfl rfl rfl (Nat.le_of_ble_eq_true rfl) dX5_powMod_27 (fun u11 σ10 h => ?_)
        refine q_if_eq (tgt := 35) (pc := 30) C dX5_powMod_30 (by decide) (fun c12 => ?_) (fun c12 => ?_)
        · replace h := h.1 c12
          refine q_aload_n (pc := 35) C dX5_powMod_35 rfl 0 rfl ?_
          obtain ⟨Lr13, Kr13⟩ := qw_5_1 C.2.2.2.2.2.2 Lh0 Kh0
          refine q_g5_1 (pc := 36) C Lh0 Kh0 mwX5_powMod_0 mwX5_powMod_1 dX5_powMod_36 ?_
          refine q_iload (pc := 39) C dX5_powMod_39 4 rfl ?_
          obtain ⟨b14, h⟩ := h
          refine q_aald (pc := 41) C Lr13 Kr13 b14 dX5_powMod_41 ?_
          obtain ⟨Lr15, Kr15⟩ := qw_10 C.2.2.2.2.2.2 Lr13 Kr13 b14
          refine q_g4_2 (pc := 42) C Lr15 Kr15 mwX5_powMod_2 mwX5_powMod_3 dX5_powMod_42 ?_
          refine q_if_ne (tgt := 86) (pc := 45) C dX5_powMod_45 (by decide) (fun c16 => ?_) (fun c16 => ?_)
          · replace h := h.2 c16
            refine q_bipush (pc := 86) (v := (-2)) C dX5_powMod_86 (by decide) ?_
            exact q_iret (pc := 88) C dX5_powMod_88 h
          · replace h := h.1 c16
            refine q_aload_n (pc := 48) C dX5_powMod_48 rfl 0 rfl ?_
            refine q_g5_1 (pc := 49) C Lh0 Kh0 mwX5_powMod_0 mwX5_powMod_1 dX5_powMod_49 ?_
            refine q_iload (pc := 52) C dX5_powMod_52 4 rfl ?_
            obtain ⟨b17, h⟩ := h
            refine q_aald (pc := 54) C Lr13 Kr13 b17 dX5_powMod_54 ?_
            obtain ⟨Lr18, Kr18⟩ := qw_10 C.2.2.2.2.2.2 Lr13 Kr13 b17
            refine q_cVi (pc := 55) (As := []) (ci := 4) (Cn := RX4) (T := TX4) (N := 3) C (sdX4_isZero C.2.2.2.2.2.1 C.2.2.2.2.2.2 Lr18 Kr18 h) (cwV 0 C.1.2.2.2.2 gX5_powMod_X4_isZero rfl rfl rfl (by decide +kernel) (q_room (by decide) (by decide))) Lr18 (qc4 Kr18 _) rfl rfl rfl (Nat.le_of_ble_eq_true rfl) dX5_powMod_55 (fun u20 σ19 h => ?_)
            refine q_if_ne (tgt := 86) (pc := 58) C dX5_powMod_58 (by decide) (fun c21 => ?_) (fun c21 => ?_)
            · replace h := h.2 c21
              refine q_bipush (pc := 86) (v := (-2)) C dX5_powMod_86 (by decide) ?_
              exact q_iret (pc := 88) C dX5_powMod_88 h
            · replace h := h.1 c21
              refine q_aload_n (pc := 61) C dX5_powMod_61 rfl 0 rfl ?_
              refine q_g5_1 (pc := 62) C Lh0 Kh0 mwX5_powMod_0 mwX5_powMod_1 dX5_powMod_62 ?_
              refine q_iload_n (pc := 65) C dX5_powMod_65 rfl 3 rfl ?_
              obtain ⟨b22, h⟩ := h
              refine q_aald (pc := 66) C Lr13 Kr13 b22 dX5_powMod_66 ?_
              obtain ⟨Lr23, Kr23⟩ := qw_10 C.2.2.2.2.2.2 Lr13 Kr13 b22
              refine q_g4_2 (pc := 67) C Lr23 Kr23 mwX5_powMod_2 mwX5_powMod_3 dX5_powMod_67 ?_
              refine q_if_ne (tgt := 86) (pc := 70) C dX5_powMod_70 (by decide) (fun c24 => ?_) (fun c24 => ?_)
              · replace h := h.2 c24
                refine q_bipush (pc := 86) (v := (-2)) C dX5_powMod_86 (by decide) ?_
                exact q_iret (pc := 88) C dX5_powMod_88 h
              · replace h := h.1 c24
                refine q_aload_n (pc := 73) C dX5_powMod_73 rfl 0 rfl ?_
                refine q_g5_1 (pc := 74) C Lh0 Kh0 mwX5_powMod_0 mwX5_powMod_1 dX5_powMod_74 ?_
                refine q_iload_n (pc := 77) C dX5_powMod_77 rfl 3 rfl ?_
                obtain ⟨b25, h⟩ := h
                refine q_aald (pc := 78) C Lr13 Kr13 b25 dX5_powMod_78 ?_
                obtain ⟨Lr26, Kr26⟩ := qw_10 C.2.2.2.2.2.2 Lr13 Kr13 b25
                refine q_g4_1 (pc := 79) C Lr26 Kr26 mwX5_powMod_2 mwX5_powMod_4 dX5_powMod_79 ?_
                refine q_iconst (pc := 82) (v := 2) C dX5_powMod_82 (by decide) ?_
                refine q_icmp_le (tgt := 89) (pc := 83) C dX5_powMod_83 (by decide) (fun c27 => ?_) (fun c27 => ?_)
                · replace h := h.1 c27
                  refine q_aload_n (pc := 89) C dX5_powMod_89 rfl 0 rfl ?_
                  refine q_aload_n (pc := 90) C dX5_powMod_90 rfl 0 rfl ?_
                  refine q_g5_1 (pc := 91) C Lh0 Kh0 mwX5_powMod_0 mwX5_powMod_1 dX5_powMod_91 ?_
                  refine q_iload_n (pc := 94) C dX5_powMod_94 rfl 2 rfl ?_
                  obtain ⟨b28, h⟩ := h
                  refine q_aald (pc := 95) C Lr13 Kr13 b28 dX5_powMod_95 ?_
                  obtain ⟨Lr29, Kr29⟩ := qw_10 C.2.2.2.2.2.2 Lr13 Kr13 b28
                  refine q_aload_n (pc := 96) C dX5_powMod_96 rfl 0 rfl ?_
                  refine q_g5_1 (pc := 97) C Lh0 Kh0 mwX5_powMod_0 mwX5_powMod_1 dX5_powMod_97 ?_
                  refine q_iload (pc := 100) C dX5_powMod_100 4 rfl ?_
                  obtain ⟨b30, h⟩ := h
                  refine q_aald (pc := 102) C Lr13 Kr13 b30 dX5_powMod_102 ?_
                  obtain ⟨Lr31, Kr31⟩ := qw_10 C.2.2.2.2.2.2 Lr13 Kr13 b30
                  refine q_cVv (pc := 103) (As := [.ref ((G.2.1 ((G.2.1 h0 1)) x2.toNatClampNeg)), .ref ((G.2.1 ((G.2.1 h0 1)) x4.toNatClampNeg))]) (ci := 5) (Cn := RX5) (T := TX5) (N := 9) C (sdX5_reduceToFirst C.2.2.2.2.2.1 C.2.2.2.2.2.2 Lh0 Kh0 Lr29 Kr29 Lr31 Kr31 h) (cwV 2 C.1.2.2.2.2 gX5_powMod_X5_reduceToFirst rfl rfl rfl (by decide +kernel) (q_room (by decide) (by decide))) Lh0 (qc5 Kh0 _) rfl rfl rfl (Nat.le_of_ble_eq_true rfl) dX5_powMod_103 (fun σ32 h => ?_)
                  refine q_aload_n (pc := 106) C dX5_powMod_106 rfl 0 rfl ?_
                  refine q_aload_n (pc := 107) C dX5_powMod_107 rfl 0 rfl ?_
                  refine q_g5_1 (pc := 108) C Lh0 Kh0 mwX5_powMod_0 mwX5_powMod_1 dX5_powMod_108 ?_
                  refine q_iload (pc := 111) C dX5_powMod_111 4 rfl ?_
                  obtain ⟨b34, h⟩ := h
                  refine q_aald (pc := 113) C Lr13 Kr13 b34 dX5_powMod_113 ?_
                  obtain ⟨Lr35, Kr35⟩ := qw_10 C.2.2.2.2.2.2 Lr13 Kr13 b34
                  refine q_cVv (pc := 114) (As := [.ref ((G.2.1 ((G.2.1 h0 1)) x4.toNatClampNeg))]) (ci := 5) (Cn := RX5) (T := TX5) (N := 9) C (sdX5_oneToSecond C.2.2.2.2.2.1 C.2.2.2.2.2.2 Lh0 Kh0 Lr35 Kr35 h) (cwV 1 C.1.2.2.2.2 gX5_powMod_X5_oneToSecond rfl rfl rfl (by decide +kernel) (q_room (by decide) (by decide))) Lh0 (qc5 Kh0 _) rfl rfl rfl (Nat.le_of_ble_eq_true rfl) dX5_powMod_114 (fun σ36 h => ?_)
                  refine q_aload_n (pc := 117) C dX5_powMod_117 rfl 0 rfl ?_
                  refine q_g5_1 (pc := 118) C Lh0 Kh0 mwX5_powMod_0 mwX5_powMod_1 dX5_powMod_118 ?_
                  refine q_iload_n (pc := 121) C dX5_powMod_121 rfl 3 rfl ?_
                  obtain ⟨b38, h⟩ := h
                  refine q_aald (pc := 122) C Lr13 Kr13 b38 dX5_powMod_122 ?_
                  obtain ⟨Lr39, Kr39⟩ := qw_10 C.2.2.2.2.2.2 Lr13 Kr13 b38
                  refine q_cVi (pc := 123) (As := []) (ci := 4) (Cn := RX4) (T := TX4) (N := 3) C (sdX4_bits C.2.2.2.2.2.1 C.2.2.2.2.2.2 Lr39 Kr39 h) (cwV 0 C.1.2.2.2.2 gX5_powMod_X4_bits rfl rfl rfl (by decide +kernel) (q_room (by decide) (by decide))) Lr39 (qc4 Kr39 _) rfl rfl rfl (Nat.le_of_ble_eq_true rfl) dX5_powMod_123 (fun u41 σ40 h => ?_)
                  refine q_iconst (pc := 126) (v := 1) C dX5_powMod_126 (by decide) ?_
                  refine q_isub (pc := 127) C dX5_powMod_127 ?_
                  refine q_topi (fun v42 ev42 => ?_)
                  replace h := h v42 ev42
                  refine q_istore (pc := 128) (lv' := [(5, .int v42), (0, .ref h0), (1, .int x1), (2, .int x2), (3, .int x3), (4, .int x4)]) C dX5_powMod_128 (by decide) rfl ?_
                  refine q_lv (lv' := [(0, .ref h0), (1, .int x1), (3, .int x3), (4, .int x4), (5, .int v42)]) [1, 2, 4, 5, 0] rfl ?_
                  obtain ⟨n68, h⟩ := h
                  refine slX5_powMod_130 C Lh0 Kh0 ?_ n68 v42 σ40 h
                  · intro σ62 h
                    refine q_aload_n (pc := 185) C dX5_powMod_185 rfl 0 rfl ?_
                    refine q_g5_1 (pc := 186) C Lh0 Kh0 mwX5_powMod_0 mwX5_powMod_1 dX5_powMod_186 ?_
                    refine q_iload_n (pc := 189) C dX5_powMod_189 rfl 1 rfl ?_
                    obtain ⟨b63, h⟩ := h
                    refine q_aald (pc := 190) C Lr13 Kr13 b63 dX5_powMod_190 ?_
                    obtain ⟨Lr64, Kr64⟩ := qw_10 C.2.2.2.2.2.2 Lr13 Kr13 b63
                    refine q_aload_n (pc := 191) C dX5_powMod_191 rfl 0 rfl ?_
                    obtain ⟨Lr65, Kr65⟩ := qw_5_4 C.2.2.2.2.2.2 Lh0 Kh0
                    refine q_g5_4 (pc := 192) C Lh0 Kh0 mwX5_powMod_0 mwX5_powMod_5 dX5_powMod_192 ?_
                    refine q_cVv (pc := 195) (As := [.ref ((G.2.1 h0 4))]) (ci := 4) (Cn := RX4) (T := TX4) (N := 3) C (sdX4_become C.2.2.2.2.2.1 C.2.2.2.2.2.2 Lr64 Kr64 Lr65 Kr65 h) (cwV 1 C.1.2.2.2.2 gX5_powMod_X4_become rfl rfl rfl (by decide +kernel) (q_room (by decide) (by decide))) Lr64 (qc4 Kr64 _) rfl rfl rfl (Nat.le_of_ble_eq_true rfl) dX5_powMod_195 (fun σ66 h => ?_)
                    refine q_iconst (pc := 198) (v := 0) C dX5_powMod_198 (by decide) ?_
                    exact q_iret (pc := 199) C dX5_powMod_199 h
                · replace h := h.2 c27
                  refine q_bipush (pc := 86) (v := (-2)) C dX5_powMod_86 (by decide) ?_
                  exact q_iret (pc := 88) C dX5_powMod_88 h
        · replace h := h.2 c12
          refine q_iconst (pc := 33) (v := (-1)) C dX5_powMod_33 (by decide) ?_
          exact q_iret (pc := 34) C dX5_powMod_34 h
theorem mwX5_rootToFirst_0 : ∀ w ∈ wsX50, w ∈ wsX5_rootToFirst := by decide +kernel
theorem mwX5_rootToFirst_1 : Cond.fieldLink RX5 30 "IntFile" "first" "LIntFile$Whole;" ∈ wsX5_rootToFirst := by decide +kernel
theorem mwX5_rootToFirst_2 : Cond.constant RX5 129 (1000000) ∈ wsX5_rootToFirst := by decide +kernel
theorem mwX5_rootToFirst_3 : Cond.fieldLink RX5 48 "IntFile" "division" "LIntFile$Division;" ∈ wsX5_rootToFirst := by decide +kernel
theorem mwX5_rootToFirst_4 : Cond.fieldLink RX5 26 "IntFile" "result" "LIntFile$Whole;" ∈ wsX5_rootToFirst := by decide +kernel
theorem mwX5_rootToFirst_5 : ∀ w ∈ wsX00, w ∈ wsX5_rootToFirst := by decide +kernel
theorem mwX5_rootToFirst_6 : Cond.fieldLink RX5 111 "IntFile$Division" "quotient" "LIntFile$Whole;" ∈ wsX5_rootToFirst := by decide +kernel
theorem mwX5_rootToFirst_7 : Cond.fieldLink RX5 33 "IntFile" "second" "LIntFile$Whole;" ∈ wsX5_rootToFirst := by decide +kernel
def lpX5_rootToFirst_33 (G : qG) (h0 : Nat) (h1 : Nat) (post : qS → Prop) (kx96 : qS → Prop) (kx116 : qS → Prop) : Nat → Int32 → qS → Prop
  | 0, _, _ => False
  | n + 1, x2, σ => ((1000000 ≤ x2 → kx116 σ) ∧ (¬ 1000000 ≤ x2 → wpX0_divide G ((G.2.1 h0 6)) h1 ((G.2.1 h0 3)) σ (fun (σ13 : qS) => wpX4_becomeSum G ((G.2.1 h0 2)) ((G.2.1 h0 3)) ((G.2.1 ((G.2.1 h0 6)) 0)) 0 σ13 (fun (σ17 : qS) => wpX4_becomeShiftedDown G ((G.2.1 h0 4)) ((G.2.1 h0 2)) 1 σ17 (fun (σ20 : qS) => wpX4_compareSize G ((G.2.1 h0 4)) ((G.2.1 h0 3)) σ20 (fun (u23 : Int32) (σ22 : qS) => ((u23 < 0 → wpX4_become G ((G.2.1 h0 3)) ((G.2.1 h0 4)) σ22 (fun (σ25 : qS) => ∀ v27 : Int32, v27 = x2 + 1 → lpX5_rootToFirst_33 G h0 h1 post kx96 kx116 n v27 σ25)) ∧ (¬ u23 < 0 → kx96 σ22))))))))
set_option maxHeartbeats 4000000 in
set_option maxRecDepth 100000 in
theorem slX5_rootToFirst_33 {p : Program} {l : Launch} {e : Env} {s : State} {m : MethodId} {args : Array Value} {below : List Frame} {meth : Method} {c : Code} {E : qE} {L : List Nat} {G : qG} {A : Nat → Prop} (C : q_C p s m args meth c cX5_rootToFirst 3 wsX5_rootToFirst RX5 none E L G A) {h0 : Nat} {h1 : Nat} (Lh0 : h0 ∈ L) (Kh0 : G.1 h0 = 5) (Lh1 : h1 ∈ L) (Kh1 : G.1 h1 = 4) {post : qS → Prop} {kx96 : qS → Prop} {kx116 : qS → Prop} (Hkx96 : ∀  (τ : qS), kx96  τ → Wd p l e (q_rm 5) s m args below meth c E L G A (MQ below (va_Qv post (q_B E L G) A) args s 0 0 A) 3 τ 96 [] []) (Hkx116 : ∀  (τ : qS), kx116  τ → Wd p l e (q_rm 5) s m args below meth c E L G A (MQ below (va_Qv post (q_B E L G) A) args s 0 0 A) 3 τ 116 [] []) : ∀ (n : Nat) (x2 : Int32) (σ : qS), lpX5_rootToFirst_33 G h0 h1 post kx96 kx116 n x2 σ → Wd p l e (q_rm 5) s m args below meth c E L G A (MQ below (va_Qv post (q_B E L G) A) args s 0 0 A) 3 σ 33 [(0, .ref h0), (1, .ref h1), (2, .int x2)] [] := by
  intro n
  induction n with
  | zero => intro x2 σ h; exact h.elim
  | succ n ih =>
    intro x2 σ h
    unfold lpX5_rootToFirst_33 at h
    refine q_iload_n (pc := 33) C dX5_rootToFirst_33 rfl 2 rfl ?_
    refine q_ldc (pc := 34) (v := 1000000) C dX5_rootToFirst_34 mwX5_rootToFirst_2 ?_
    refine q_icmp_ge (tgt := 116) (pc := 36) C dX5_rootToFirst_36 (by decide) (fun c10 => ?_) (fun c10 => ?_)
    · replace h := h.1 c10
      refine q_lv (lv' := []) [] rfl ?_
      exact Hkx116  σ h
    · replace h := h.2 c10
      refine q_aload_n (pc := 39) C dX5_rootToFirst_39 rfl 0 rfl ?_
      obtain ⟨Lr11, Kr11⟩ := qw_5_6 C.2.2.2.2.2.2 Lh0 Kh0
      refine q_g5_6 (pc := 40) C Lh0 Kh0 mwX5_rootToFirst_0 mwX5_rootToFirst_3 dX5_rootToFirst_40 ?_
      refine q_aload_n (pc := 43) C dX5_rootToFirst_43 rfl 1 rfl ?_
      refine q_aload_n (pc := 44) C dX5_rootToFirst_44 rfl 0 rfl ?_
      obtain ⟨Lr12, Kr12⟩ := qw_5_3 C.2.2.2.2.2.2 Lh0 Kh0
      refine q_g5_3 (pc := 45) C Lh0 Kh0 mwX5_rootToFirst_0 mwX5_rootToFirst_1 dX5_rootToFirst_45 ?_
      refine q_cVv (pc := 48) (As := [.ref h1, .ref ((G.2.1 h0 3))]) (ci := 0) (Cn := RX0) (T := TX0) (N := 4) C (sdX0_divide C.2.2.2.2.2.1 C.2.2.2.2.2.2 Lr11 Kr11 Lh1 Kh1 Lr12 Kr12 h) (cwV 2 C.1.2.2.2.2 gX5_rootToFirst_X0_divide rfl rfl rfl (by decide +kernel) (q_room (by decide) (by decide))) Lr11 (qc0 Kr11 _) rfl rfl rfl (Nat.le_of_ble_eq_true rfl) dX5_rootToFirst_48 (fun σ13 h => ?_)
      refine q_aload_n (pc := 51) C dX5_rootToFirst_51 rfl 0 rfl ?_
      obtain ⟨Lr15, Kr15⟩ := qw_5_2 C.2.2.2.2.2.2 Lh0 Kh0
      refine q_g5_2 (pc := 52) C Lh0 Kh0 mwX5_rootToFirst_0 mwX5_rootToFirst_4 dX5_rootToFirst_52 ?_
      refine q_aload_n (pc := 55) C dX5_rootToFirst_55 rfl 0 rfl ?_
      refine q_g5_3 (pc := 56) C Lh0 Kh0 mwX5_rootToFirst_0 mwX5_rootToFirst_1 dX5_rootToFirst_56 ?_
      refine q_aload_n (pc := 59) C dX5_rootToFirst_59 rfl 0 rfl ?_
      refine q_g5_6 (pc := 60) C Lh0 Kh0 mwX5_rootToFirst_0 mwX5_rootToFirst_3 dX5_rootToFirst_60 ?_
      obtain ⟨Lr16, Kr16⟩ := qw_0_0 C.2.2.2.2.2.2 Lr11 Kr11
      refine q_g0_0 (pc := 63) C Lr11 Kr11 mwX5_rootToFirst_5 mwX5_rootToFirst_6 dX5_rootToFirst_63 ?_
      refine q_iconst (pc := 66) (v := 0) C dX5_rootToFirst_66 (by decide) ?_
      refine q_cVv (pc := 67) (As := [.ref ((G.2.1 h0 3)), .ref ((G.2.1 ((G.2.1 h0 6)) 0)), .int 0]) (ci := 4) (Cn := RX4) (T := TX4) (N := 3) C (sdX4_becomeSum C.2.2.2.2.2.1 C.2.2.2.2.2.2 Lr15 Kr15 Lr12 Kr12 Lr16 Kr16 h) (cwV 3 C.1.2.2.2.2 gX5_rootToFirst_X4_becomeSum rfl rfl rfl (by decide +kernel) (q_room (by decide) (by decide))) Lr15 (qc4 Kr15 _) rfl rfl rfl (Nat.le_of_ble_eq_true rfl) dX5_rootToFirst_67 (fun σ17 h => ?_)
      refine q_aload_n (pc := 70) C dX5_rootToFirst_70 rfl 0 rfl ?_
      obtain ⟨Lr19, Kr19⟩ := qw_5_4 C.2.2.2.2.2.2 Lh0 Kh0
      refine q_g5_4 (pc := 71) C Lh0 Kh0 mwX5_rootToFirst_0 mwX5_rootToFirst_7 dX5_rootToFirst_71 ?_
      refine q_aload_n (pc := 74) C dX5_rootToFirst_74 rfl 0 rfl ?_
      refine q_g5_2 (pc := 75) C Lh0 Kh0 mwX5_rootToFirst_0 mwX5_rootToFirst_4 dX5_rootToFirst_75 ?_
      refine q_iconst (pc := 78) (v := 1) C dX5_rootToFirst_78 (by decide) ?_
      refine q_cVv (pc := 79) (As := [.ref ((G.2.1 h0 2)), .int 1]) (ci := 4) (Cn := RX4) (T := TX4) (N := 3) C (sdX4_becomeShiftedDown C.2.2.2.2.2.1 C.2.2.2.2.2.2 Lr19 Kr19 Lr15 Kr15 h) (cwV 2 C.1.2.2.2.2 gX5_rootToFirst_X4_becomeShiftedDown rfl rfl rfl (by decide +kernel) (q_room (by decide) (by decide))) Lr19 (qc4 Kr19 _) rfl rfl rfl (Nat.le_of_ble_eq_true rfl) dX5_rootToFirst_79 (fun σ20 h => ?_)
      refine q_aload_n (pc := 82) C dX5_rootToFirst_82 rfl 0 rfl ?_
      refine q_g5_4 (pc := 83) C Lh0 Kh0 mwX5_rootToFirst_0 mwX5_rootToFirst_7 dX5_rootToFirst_83 ?_
      refine q_aload_n (pc := 86) C dX5_rootToFirst_86 rfl 0 rfl ?_
      refine q_g5_3 (pc := 87) C Lh0 Kh0 mwX5_rootToFirst_0 mwX5_rootToFirst_1 dX5_rootToFirst_87 ?_
      refine q_cVi (pc := 90) (As := [.ref ((G.2.1 h0 3))]) (ci := 4) (Cn := RX4) (T := TX4) (N := 3) C (sdX4_compareSize C.2.2.2.2.2.1 C.2.2.2.2.2.2 Lr19 Kr19 Lr12 Kr12 h) (cwV 1 C.1.2.2.2.2 gX5_rootToFirst_X4_compareSize rfl rfl rfl (by decide +kernel) (q_room (by decide) (by decide))) Lr19 (qc4 Kr19 _) rfl rfl rfl (Nat.le_of_ble_eq_true rfl) dX5_rootToFirst_90 (fun u23 σ22 h => ?_)
      refine q_if_lt (tgt := 99) (pc := 93) C dX5_rootToFirst_93 (by decide) (fun c24 => ?_) (fun c24 => ?_)
      · replace h := h.1 c24
        refine q_aload_n (pc := 99) C dX5_rootToFirst_99 rfl 0 rfl ?_
        refine q_g5_3 (pc := 100) C Lh0 Kh0 mwX5_rootToFirst_0 mwX5_rootToFirst_1 dX5_rootToFirst_100 ?_
        refine q_aload_n (pc := 103) C dX5_rootToFirst_103 rfl 0 rfl ?_
        refine q_g5_4 (pc := 104) C Lh0 Kh0 mwX5_rootToFirst_0 mwX5_rootToFirst_7 dX5_rootToFirst_104 ?_
        refine q_cVv (pc := 107) (As := [.ref ((G.2.1 h0 4))]) (ci := 4) (Cn := RX4) (T := TX4) (N := 3) C (sdX4_become C.2.2.2.2.2.1 C.2.2.2.2.2.2 Lr12 Kr12 Lr19 Kr19 h) (cwV 1 C.1.2.2.2.2 gX5_rootToFirst_X4_become rfl rfl rfl (by decide +kernel) (q_room (by decide) (by decide))) Lr12 (qc4 Kr12 _) rfl rfl rfl (Nat.le_of_ble_eq_true rfl) dX5_rootToFirst_107 (fun σ25 h => ?_)
        obtain ⟨v27, ev27⟩ : ∃ z : Int32, z = x2 + 1 := ⟨_, rfl⟩
        replace h := h v27 ev27
        refine q_iinc (pc := 110) (v := v27) (j := 2) (lv' := [(2, .int v27), (0, .ref h0), (1, .ref h1)]) C dX5_rootToFirst_110 rfl (by rw [ev27]; rfl) (by decide) rfl ?_
        refine q_goto (tgt := 33) (pc := 113) C dX5_rootToFirst_113 (by decide) ?_
        refine q_lv (lv' := [(0, .ref h0), (1, .ref h1), (2, .int v27)]) [1, 2, 0] rfl ?_
        exact ih v27 σ25 h
      · replace h := h.2 c24
        refine q_lv (lv' := []) [] rfl ?_
        exact Hkx96  σ22 h
def wpX5_rootToFirst (G : qG) (h0 : Nat) (h1 : Nat) (σ : qS) (post : qS → Prop) : Prop := wpX4_isZero G h1 σ (fun (u2 : Int32) (σ1 : qS) => ((u2 = 0 → wpX4_bits G h1 σ1 (fun (u6 : Int32) (σ5 : qS) => wpX4_becomePowerOfTwo G ((G.2.1 h0 3)) ((u6 + 1) / 2) σ5 (fun (σ7 : qS) => ∀ v9 : Int32, v9 = 0 → ∃ n30 : Nat, lpX5_rootToFirst_33 G h0 h1 post (fun  (σ28 : qS) => post σ28) (fun  (σ29 : qS) => post σ29) n30 v9 σ7))) ∧ (¬ u2 = 0 → wpX4_becomeInt G ((G.2.1 h0 3)) 0 σ1 (fun (σ32 : qS) => post σ32))))
set_option maxHeartbeats 4000000 in
set_option maxRecDepth 100000 in
theorem sdX5_rootToFirst {l : Launch} {E : qE} {L : List Nat} {G : qG} (hN : L.Nodup) (hG : q_WF G L) {h0 : Nat} {h1 : Nat} (Lh0 : h0 ∈ L) (Kh0 : G.1 h0 = 5) (Lh1 : h1 ∈ L) (Kh1 : G.1 h1 = 4) {σ : qS} {post : qS → Prop} (h : wpX5_rootToFirst G h0 h1 σ post) : MtV l E L G yX5_rootToFirst wsX5_rootToFirst (q_rm 5) [.ref h0, .ref h1] σ post := by
  refine q_met (Qc := fun sz => va_Qv post (q_B E L G) (q_free L sz)) (cc := cX5_rootToFirst) (maxL := 3) (ret := none) (own := RX5) (by decide) rfl rfl (Nat.le_of_ble_eq_true rfl) hN hG ?_
  intro p e s m below meth c C
  unfold wpX5_rootToFirst at h
  refine q_aload_n (pc := 0) C dX5_rootToFirst_0 rfl 1 rfl ?_
  refine q_cVi (pc := 1) (As := []) (ci := 4) (Cn := RX4) (T := TX4) (N := 3) C (sdX4_isZero C.2.2.2.2.2.1 C.2.2.2.2.2.2 Lh1 Kh1 h) (cwV 0 C.1.2.2.2.2 gX5_rootToFirst_X4_isZero rfl rfl rfl (by decide +kernel) (q_room (by decide) (by decide))) Lh1 (qc4 Kh1 _) rfl rfl rfl (Nat.le_of_ble_eq_true rfl) dX5_rootToFirst_1 (fun u2 σ1 h => ?_)
  refine q_if_eq (tgt := 16) (pc := 4) C dX5_rootToFirst_4 (by decide) (fun c3 => ?_) (fun c3 => ?_)
  · replace h := h.1 c3
    refine q_aload_n (pc := 16) C dX5_rootToFirst_16 rfl 0 rfl ?_
    obtain ⟨Lr4, Kr4⟩ := qw_5_3 C.2.2.2.2.2.2 Lh0 Kh0
    refine q_g5_3 (pc := 17) C Lh0 Kh0 mwX5_rootToFirst_0 mwX5_rootToFirst_1 dX5_rootToFirst_17 ?_
    refine q_aload_n (pc := 20) C dX5_rootToFirst_20 rfl 1 rfl ?_
    refine q_cVi (pc := 21) (As := []) (ci := 4) (Cn := RX4) (T := TX4) (N := 3) C (sdX4_bits C.2.2.2.2.2.1 C.2.2.2.2.2.2 Lh1 Kh1 h) (cwV 0 C.1.2.2.2.2 gX5_rootToFirst_X4_bits rfl rfl rfl (by decide +kernel) (q_room (by decide) (by decide))) Lh1 (qc4 Kh1 _) rfl rfl rfl (Nat.le_of_ble_eq_true rfl) dX5_rootToFirst_21 (fun u6 σ5 h => ?_)
    refine q_iconst (pc := 24) (v := 1) C dX5_rootToFirst_24 (by decide) ?_
    refine q_iadd (pc := 25) C dX5_rootToFirst_25 ?_
    refine q_iconst (pc := 26) (v := 2) C dX5_rootToFirst_26 (by decide) ?_
    refine q_idiv (pc := 27) C dX5_rootToFirst_27 (by decide) ?_
    refine q_cVv (pc := 28) (As := [.int ((u6 + 1) / 2)]) (ci := 4) (Cn := RX4) (T := TX4) (N := 3) C (sdX4_becomePowerOfTwo C.2.2.2.2.2.1 C.2.2.2.2.2.2 Lr4 Kr4 h) (cwV 1 C.1.2.2.2.2 gX5_rootToFirst_X4_becomePowerOfTwo rfl rfl rfl (by decide +kernel) (q_room (by decide) (by decide))) Lr4 (qc4 Kr4 _) rfl rfl rfl (Nat.le_of_ble_eq_true rfl) dX5_rootToFirst_28 (fun σ7 h => ?_)
    refine q_iconst (pc := 31) (v := 0) C dX5_rootToFirst_31 (by decide) ?_
    refine q_topi (fun v9 ev9 => ?_)
    replace h := h v9 ev9
    refine q_istore_n (pc := 32) (lv' := [(2, .int v9), (0, .ref h0), (1, .ref h1)]) C dX5_rootToFirst_32 rfl (by decide) rfl ?_
    refine q_lv (lv' := [(0, .ref h0), (1, .ref h1), (2, .int v9)]) [1, 2, 0] rfl ?_
    obtain ⟨n30, h⟩ := h
    refine slX5_rootToFirst_33 C Lh0 Kh0 Lh1 Kh1 ?_ ?_ n30 v9 σ7 h
    · intro σ28 h
      refine q_goto (tgt := 116) (pc := 96) C dX5_rootToFirst_96 (by decide) ?_
      exact q_vret (pc := 116) C dX5_rootToFirst_116 h
    · intro σ29 h
      exact q_vret (pc := 116) C dX5_rootToFirst_116 h
  · replace h := h.2 c3
    refine q_aload_n (pc := 7) C dX5_rootToFirst_7 rfl 0 rfl ?_
    obtain ⟨Lr31, Kr31⟩ := qw_5_3 C.2.2.2.2.2.2 Lh0 Kh0
    refine q_g5_3 (pc := 8) C Lh0 Kh0 mwX5_rootToFirst_0 mwX5_rootToFirst_1 dX5_rootToFirst_8 ?_
    refine q_iconst (pc := 11) (v := 0) C dX5_rootToFirst_11 (by decide) ?_
    refine q_cVv (pc := 12) (As := [.int 0]) (ci := 4) (Cn := RX4) (T := TX4) (N := 3) C (sdX4_becomeInt C.2.2.2.2.2.1 C.2.2.2.2.2.2 Lr31 Kr31 h) (cwV 1 C.1.2.2.2.2 gX5_rootToFirst_X4_becomeInt rfl rfl rfl (by decide +kernel) (q_room (by decide) (by decide))) Lr31 (qc4 Kr31 _) rfl rfl rfl (Nat.le_of_ble_eq_true rfl) dX5_rootToFirst_12 (fun σ32 h => ?_)
    exact q_vret (pc := 15) C dX5_rootToFirst_15 h
theorem mwX5_root_0 : ∀ w ∈ wsX50, w ∈ wsX5_root := by decide +kernel
theorem mwX5_root_1 : Cond.fieldLink RX5 19 "IntFile" "file" "[LIntFile$Whole;" ∈ wsX5_root := by decide +kernel
theorem mwX5_root_2 : ∀ w ∈ wsX40, w ∈ wsX5_root := by decide +kernel
theorem mwX5_root_3 : Cond.fieldLink RX5 88 "IntFile$Whole" "below" "Z" ∈ wsX5_root := by decide +kernel
theorem mwX5_root_4 : Cond.fieldLink RX5 30 "IntFile" "first" "LIntFile$Whole;" ∈ wsX5_root := by decide +kernel
def wpX5_root (G : qG) (h0 : Nat) (x1 : Int32) (x2 : Int32) (σ : qS) (post : Int32 → qS → Prop) : Prop := wpX5_isNone G h0 x1 σ (fun (u2 : Int32) (σ1 : qS) => ((u2 = 0 → wpX5_isNone G h0 x2 σ1 (fun (u5 : Int32) (σ4 : qS) => ((u5 = 0 → vp_in x2 (G.2.2 ((G.2.1 h0 1))) ∧ (((σ4 ((G.2.1 ((G.2.1 h0 1)) x2.toNatClampNeg)) 2) = 0 → vp_in x2 (G.2.2 ((G.2.1 h0 1))) ∧ wpX5_rootToFirst G h0 ((G.2.1 ((G.2.1 h0 1)) x2.toNatClampNeg)) σ4 (fun (σ13 : qS) => vp_in x1 (G.2.2 ((G.2.1 h0 1))) ∧ wpX4_become G ((G.2.1 ((G.2.1 h0 1)) x1.toNatClampNeg)) ((G.2.1 h0 3)) σ13 (fun (σ18 : qS) => post 0 σ18))) ∧ (¬ (σ4 ((G.2.1 ((G.2.1 h0 1)) x2.toNatClampNeg)) 2) = 0 → post ((-2)) σ4))) ∧ (¬ u5 = 0 → post ((-1)) σ4)))) ∧ (¬ u2 = 0 → post ((-1)) σ1)))
set_option maxHeartbeats 4000000 in
set_option maxRecDepth 100000 in
theorem sdX5_root {l : Launch} {E : qE} {L : List Nat} {G : qG} (hN : L.Nodup) (hG : q_WF G L) {h0 : Nat} {x1 : Int32} {x2 : Int32} (Lh0 : h0 ∈ L) (Kh0 : G.1 h0 = 5) {σ : qS} {post : Int32 → qS → Prop} (h : wpX5_root G h0 x1 x2 σ post) : MtI l E L G yX5_root wsX5_root (q_rm 6) [.ref h0, .int x1, .int x2] σ post := by
  refine q_met (Qc := fun sz => va_Qi post (q_B E L G) (q_free L sz)) (cc := cX5_root) (maxL := 3) (ret := (some .int)) (own := RX5) (by decide) rfl rfl (Nat.le_of_ble_eq_true rfl) hN hG ?_
  intro p e s m below meth c C
  unfold wpX5_root at h
  refine q_aload_n (pc := 0) C dX5_root_0 rfl 0 rfl ?_
  refine q_iload_n (pc := 1) C dX5_root_1 rfl 1 rfl ?_
  refine q_cVi (pc := 2) (As := [.int x1]) (ci := 5) (Cn := RX5) (T := TX5) (N := 9) C (sdX5_isNone C.2.2.2.2.2.1 C.2.2.2.2.2.2 Lh0 Kh0 h) (cwV 1 C.1.2.2.2.2 gX5_root_X5_isNone rfl rfl rfl (by decide +kernel) (q_room (by decide) (by decide))) Lh0 (qc5 Kh0 _) rfl rfl rfl (Nat.le_of_ble_eq_true rfl) dX5_root_2 (fun u2 σ1 h => ?_)
  refine q_if_ne (tgt := 16) (pc := 5) C dX5_root_5 (by decide) (fun c3 => ?_) (fun c3 => ?_)
  · replace h := h.2 c3
    refine q_iconst (pc := 16) (v := (-1)) C dX5_root_16 (by decide) ?_
    exact q_iret (pc := 17) C dX5_root_17 h
  · replace h := h.1 c3
    refine q_aload_n (pc := 8) C dX5_root_8 rfl 0 rfl ?_
    refine q_iload_n (pc := 9) C dX5_root_9 rfl 2 rfl ?_
    refine q_cVi (pc := 10) (As := [.int x2]) (ci := 5) (Cn := RX5) (T := TX5) (N := 9) C (sdX5_isNone C.2.2.2.2.2.1 C.2.2.2.2.2.2 Lh0 Kh0 h) (cwV 1 C.1.2.2.2.2 gX5_root_X5_isNone rfl rfl rfl (by decide +kernel) (q_room (by decide) (by decide))) Lh0 (qc5 Kh0 _) rfl rfl rfl (Nat.le_of_ble_eq_true rfl) dX5_root_10 (fun u5 σ4 h => ?_)
    refine q_if_eq (tgt := 18) (pc := 13) C dX5_root_13 (by decide) (fun c6 => ?_) (fun c6 => ?_)
    · replace h := h.1 c6
      refine q_aload_n (pc := 18) C dX5_root_18 rfl 0 rfl ?_
      obtain ⟨Lr7, Kr7⟩ := qw_5_1 C.2.2.2.2.2.2 Lh0 Kh0
      refine q_g5_1 (pc := 19) C Lh0 Kh0 mwX5_root_0 mwX5_root_1 dX5_root_19 ?_
      refine q_iload_n (pc := 22) C dX5_root_22 rfl 2 rfl ?_
      obtain ⟨b8, h⟩ := h
      refine q_aald (pc := 23) C Lr7 Kr7 b8 dX5_root_23 ?_
      obtain ⟨Lr9, Kr9⟩ := qw_10 C.2.2.2.2.2.2 Lr7 Kr7 b8
      refine q_g4_2 (pc := 24) C Lr9 Kr9 mwX5_root_2 mwX5_root_3 dX5_root_24 ?_
      refine q_if_eq (tgt := 33) (pc := 27) C dX5_root_27 (by decide) (fun c10 => ?_) (fun c10 => ?_)
      · replace h := h.1 c10
        refine q_aload_n (pc := 33) C dX5_root_33 rfl 0 rfl ?_
        refine q_aload_n (pc := 34) C dX5_root_34 rfl 0 rfl ?_
        refine q_g5_1 (pc := 35) C Lh0 Kh0 mwX5_root_0 mwX5_root_1 dX5_root_35 ?_
        refine q_iload_n (pc := 38) C dX5_root_38 rfl 2 rfl ?_
        obtain ⟨b11, h⟩ := h
        refine q_aald (pc := 39) C Lr7 Kr7 b11 dX5_root_39 ?_
        obtain ⟨Lr12, Kr12⟩ := qw_10 C.2.2.2.2.2.2 Lr7 Kr7 b11
        refine q_cVv (pc := 40) (As := [.ref ((G.2.1 ((G.2.1 h0 1)) x2.toNatClampNeg))]) (ci := 5) (Cn := RX5) (T := TX5) (N := 9) C (sdX5_rootToFirst C.2.2.2.2.2.1 C.2.2.2.2.2.2 Lh0 Kh0 Lr12 Kr12 h) (cwV 1 C.1.2.2.2.2 gX5_root_X5_rootToFirst rfl rfl rfl (by decide +kernel) (q_room (by decide) (by decide))) Lh0 (qc5 Kh0 _) rfl rfl rfl (Nat.le_of_ble_eq_true rfl) dX5_root_40 (fun σ13 h => ?_)
        refine q_aload_n (pc := 43) C dX5_root_43 rfl 0 rfl ?_
        refine q_g5_1 (pc := 44) C Lh0 Kh0 mwX5_root_0 mwX5_root_1 dX5_root_44 ?_
        refine q_iload_n (pc := 47) C dX5_root_47 rfl 1 rfl ?_
        obtain ⟨b15, h⟩ := h
        refine q_aald (pc := 48) C Lr7 Kr7 b15 dX5_root_48 ?_
        obtain ⟨Lr16, Kr16⟩ := qw_10 C.2.2.2.2.2.2 Lr7 Kr7 b15
        refine q_aload_n (pc := 49) C dX5_root_49 rfl 0 rfl ?_
        obtain ⟨Lr17, Kr17⟩ := qw_5_3 C.2.2.2.2.2.2 Lh0 Kh0
        refine q_g5_3 (pc := 50) C Lh0 Kh0 mwX5_root_0 mwX5_root_4 dX5_root_50 ?_
        refine q_cVv (pc := 53) (As := [.ref ((G.2.1 h0 3))]) (ci := 4) (Cn := RX4) (T := TX4) (N := 3) C (sdX4_become C.2.2.2.2.2.1 C.2.2.2.2.2.2 Lr16 Kr16 Lr17 Kr17 h) (cwV 1 C.1.2.2.2.2 gX5_root_X4_become rfl rfl rfl (by decide +kernel) (q_room (by decide) (by decide))) Lr16 (qc4 Kr16 _) rfl rfl rfl (Nat.le_of_ble_eq_true rfl) dX5_root_53 (fun σ18 h => ?_)
        refine q_iconst (pc := 56) (v := 0) C dX5_root_56 (by decide) ?_
        exact q_iret (pc := 57) C dX5_root_57 h
      · replace h := h.2 c10
        refine q_bipush (pc := 30) (v := (-2)) C dX5_root_30 (by decide) ?_
        exact q_iret (pc := 32) C dX5_root_32 h
    · replace h := h.2 c6
      refine q_iconst (pc := 16) (v := (-1)) C dX5_root_16 (by decide) ?_
      exact q_iret (pc := 17) C dX5_root_17 h
theorem mwX5_cmp_0 : ∀ w ∈ wsX50, w ∈ wsX5_cmp := by decide +kernel
theorem mwX5_cmp_1 : Cond.fieldLink RX5 19 "IntFile" "file" "[LIntFile$Whole;" ∈ wsX5_cmp := by decide +kernel
def wpX5_cmp (G : qG) (h0 : Nat) (x1 : Int32) (x2 : Int32) (σ : qS) (post : Int32 → qS → Prop) : Prop := wpX5_isNone G h0 x1 σ (fun (u2 : Int32) (σ1 : qS) => ((u2 = 0 → wpX5_isNone G h0 x2 σ1 (fun (u5 : Int32) (σ4 : qS) => ((u5 = 0 → vp_in x1 (G.2.2 ((G.2.1 h0 1))) ∧ vp_in x2 (G.2.2 ((G.2.1 h0 1))) ∧ wpX4_compareValue G ((G.2.1 ((G.2.1 h0 1)) x1.toNatClampNeg)) ((G.2.1 ((G.2.1 h0 1)) x2.toNatClampNeg)) σ4 (fun (u13 : Int32) (σ12 : qS) => post u13 σ12)) ∧ (¬ u5 = 0 → post 2 σ4)))) ∧ (¬ u2 = 0 → post 2 σ1)))
set_option maxHeartbeats 4000000 in
set_option maxRecDepth 100000 in
theorem sdX5_cmp {l : Launch} {E : qE} {L : List Nat} {G : qG} (hN : L.Nodup) (hG : q_WF G L) {h0 : Nat} {x1 : Int32} {x2 : Int32} (Lh0 : h0 ∈ L) (Kh0 : G.1 h0 = 5) {σ : qS} {post : Int32 → qS → Prop} (h : wpX5_cmp G h0 x1 x2 σ post) : MtI l E L G yX5_cmp wsX5_cmp (q_rm 3) [.ref h0, .int x1, .int x2] σ post := by
  refine q_met (Qc := fun sz => va_Qi post (q_B E L G) (q_free L sz)) (cc := cX5_cmp) (maxL := 3) (ret := (some .int)) (own := RX5) (by decide) rfl rfl (Nat.le_of_ble_eq_true rfl) hN hG ?_
  intro p e s m below meth c C
  unfold wpX5_cmp at h
  refine q_aload_n (pc := 0) C dX5_cmp_0 rfl 0 rfl ?_
  refine q_iload_n (pc := 1) C dX5_cmp_1 rfl 1 rfl ?_
  refine q_cVi (pc := 2) (As := [.int x1]) (ci := 5) (Cn := RX5) (T := TX5) (N := 9) C (sdX5_isNone C.2.2.2.2.2.1 C.2.2.2.2.2.2 Lh0 Kh0 h) (cwV 1 C.1.2.2.2.2 gX5_cmp_X5_isNone rfl rfl rfl (by decide +kernel) (q_room (by decide) (by decide))) Lh0 (qc5 Kh0 _) rfl rfl rfl (Nat.le_of_ble_eq_true rfl) dX5_cmp_2 (fun u2 σ1 h => ?_)
  refine q_if_ne (tgt := 16) (pc := 5) C dX5_cmp_5 (by decide) (fun c3 => ?_) (fun c3 => ?_)
  · replace h := h.2 c3
    refine q_iconst (pc := 16) (v := 2) C dX5_cmp_16 (by decide) ?_
    exact q_iret (pc := 17) C dX5_cmp_17 h
  · replace h := h.1 c3
    refine q_aload_n (pc := 8) C dX5_cmp_8 rfl 0 rfl ?_
    refine q_iload_n (pc := 9) C dX5_cmp_9 rfl 2 rfl ?_
    refine q_cVi (pc := 10) (As := [.int x2]) (ci := 5) (Cn := RX5) (T := TX5) (N := 9) C (sdX5_isNone C.2.2.2.2.2.1 C.2.2.2.2.2.2 Lh0 Kh0 h) (cwV 1 C.1.2.2.2.2 gX5_cmp_X5_isNone rfl rfl rfl (by decide +kernel) (q_room (by decide) (by decide))) Lh0 (qc5 Kh0 _) rfl rfl rfl (Nat.le_of_ble_eq_true rfl) dX5_cmp_10 (fun u5 σ4 h => ?_)
    refine q_if_eq (tgt := 18) (pc := 13) C dX5_cmp_13 (by decide) (fun c6 => ?_) (fun c6 => ?_)
    · replace h := h.1 c6
      refine q_aload_n (pc := 18) C dX5_cmp_18 rfl 0 rfl ?_
      obtain ⟨Lr7, Kr7⟩ := qw_5_1 C.2.2.2.2.2.2 Lh0 Kh0
      refine q_g5_1 (pc := 19) C Lh0 Kh0 mwX5_cmp_0 mwX5_cmp_1 dX5_cmp_19 ?_
      refine q_iload_n (pc := 22) C dX5_cmp_22 rfl 1 rfl ?_
      obtain ⟨b8, h⟩ := h
      refine q_aald (pc := 23) C Lr7 Kr7 b8 dX5_cmp_23 ?_
      obtain ⟨Lr9, Kr9⟩ := qw_10 C.2.2.2.2.2.2 Lr7 Kr7 b8
      refine q_aload_n (pc := 24) C dX5_cmp_24 rfl 0 rfl ?_
      refine q_g5_1 (pc := 25) C Lh0 Kh0 mwX5_cmp_0 mwX5_cmp_1 dX5_cmp_25 ?_
      refine q_iload_n (pc := 28) C dX5_cmp_28 rfl 2 rfl ?_
      obtain ⟨b10, h⟩ := h
      refine q_aald (pc := 29) C Lr7 Kr7 b10 dX5_cmp_29 ?_
      obtain ⟨Lr11, Kr11⟩ := qw_10 C.2.2.2.2.2.2 Lr7 Kr7 b10
      refine q_cVi (pc := 30) (As := [.ref ((G.2.1 ((G.2.1 h0 1)) x2.toNatClampNeg))]) (ci := 4) (Cn := RX4) (T := TX4) (N := 3) C (sdX4_compareValue C.2.2.2.2.2.1 C.2.2.2.2.2.2 Lr9 Kr9 Lr11 Kr11 h) (cwV 1 C.1.2.2.2.2 gX5_cmp_X4_compareValue rfl rfl rfl (by decide +kernel) (q_room (by decide) (by decide))) Lr9 (qc4 Kr9 _) rfl rfl rfl (Nat.le_of_ble_eq_true rfl) dX5_cmp_30 (fun u13 σ12 h => ?_)
      exact q_iret (pc := 33) C dX5_cmp_33 h
    · replace h := h.2 c6
      refine q_iconst (pc := 16) (v := 2) C dX5_cmp_16 (by decide) ?_
      exact q_iret (pc := 17) C dX5_cmp_17 h
theorem mwX5_sign_0 : ∀ w ∈ wsX50, w ∈ wsX5_sign := by decide +kernel
theorem mwX5_sign_1 : Cond.fieldLink RX5 19 "IntFile" "file" "[LIntFile$Whole;" ∈ wsX5_sign := by decide +kernel
def wpX5_sign (G : qG) (h0 : Nat) (x1 : Int32) (σ : qS) (post : Int32 → qS → Prop) : Prop := wpX5_isNone G h0 x1 σ (fun (u2 : Int32) (σ1 : qS) => ((u2 = 0 → vp_in x1 (G.2.2 ((G.2.1 h0 1))) ∧ wpX4_side G ((G.2.1 ((G.2.1 h0 1)) x1.toNatClampNeg)) σ1 (fun (u8 : Int32) (σ7 : qS) => post u8 σ7)) ∧ (¬ u2 = 0 → post 2 σ1)))
set_option maxHeartbeats 4000000 in
set_option maxRecDepth 100000 in
theorem sdX5_sign {l : Launch} {E : qE} {L : List Nat} {G : qG} (hN : L.Nodup) (hG : q_WF G L) {h0 : Nat} {x1 : Int32} (Lh0 : h0 ∈ L) (Kh0 : G.1 h0 = 5) {σ : qS} {post : Int32 → qS → Prop} (h : wpX5_sign G h0 x1 σ post) : MtI l E L G yX5_sign wsX5_sign (q_rm 2) [.ref h0, .int x1] σ post := by
  refine q_met (Qc := fun sz => va_Qi post (q_B E L G) (q_free L sz)) (cc := cX5_sign) (maxL := 2) (ret := (some .int)) (own := RX5) (by decide) rfl rfl (Nat.le_of_ble_eq_true rfl) hN hG ?_
  intro p e s m below meth c C
  unfold wpX5_sign at h
  refine q_aload_n (pc := 0) C dX5_sign_0 rfl 0 rfl ?_
  refine q_iload_n (pc := 1) C dX5_sign_1 rfl 1 rfl ?_
  refine q_cVi (pc := 2) (As := [.int x1]) (ci := 5) (Cn := RX5) (T := TX5) (N := 9) C (sdX5_isNone C.2.2.2.2.2.1 C.2.2.2.2.2.2 Lh0 Kh0 h) (cwV 1 C.1.2.2.2.2 gX5_sign_X5_isNone rfl rfl rfl (by decide +kernel) (q_room (by decide) (by decide))) Lh0 (qc5 Kh0 _) rfl rfl rfl (Nat.le_of_ble_eq_true rfl) dX5_sign_2 (fun u2 σ1 h => ?_)
  refine q_if_eq (tgt := 10) (pc := 5) C dX5_sign_5 (by decide) (fun c3 => ?_) (fun c3 => ?_)
  · replace h := h.1 c3
    refine q_aload_n (pc := 10) C dX5_sign_10 rfl 0 rfl ?_
    obtain ⟨Lr4, Kr4⟩ := qw_5_1 C.2.2.2.2.2.2 Lh0 Kh0
    refine q_g5_1 (pc := 11) C Lh0 Kh0 mwX5_sign_0 mwX5_sign_1 dX5_sign_11 ?_
    refine q_iload_n (pc := 14) C dX5_sign_14 rfl 1 rfl ?_
    obtain ⟨b5, h⟩ := h
    refine q_aald (pc := 15) C Lr4 Kr4 b5 dX5_sign_15 ?_
    obtain ⟨Lr6, Kr6⟩ := qw_10 C.2.2.2.2.2.2 Lr4 Kr4 b5
    refine q_cVi (pc := 16) (As := []) (ci := 4) (Cn := RX4) (T := TX4) (N := 3) C (sdX4_side C.2.2.2.2.2.1 C.2.2.2.2.2.2 Lr6 Kr6 h) (cwV 0 C.1.2.2.2.2 gX5_sign_X4_side rfl rfl rfl (by decide +kernel) (q_room (by decide) (by decide))) Lr6 (qc4 Kr6 _) rfl rfl rfl (Nat.le_of_ble_eq_true rfl) dX5_sign_16 (fun u8 σ7 h => ?_)
    exact q_iret (pc := 19) C dX5_sign_19 h
  · replace h := h.2 c3
    refine q_iconst (pc := 8) (v := 2) C dX5_sign_8 (by decide) ?_
    exact q_iret (pc := 9) C dX5_sign_9 h
theorem mwX5_length_0 : ∀ w ∈ wsX50, w ∈ wsX5_length := by decide +kernel
theorem mwX5_length_1 : Cond.fieldLink RX5 19 "IntFile" "file" "[LIntFile$Whole;" ∈ wsX5_length := by decide +kernel
theorem mwX5_length_2 : ∀ w ∈ wsX40, w ∈ wsX5_length := by decide +kernel
theorem mwX5_length_3 : Cond.fieldLink RX5 100 "IntFile$Whole" "count" "I" ∈ wsX5_length := by decide +kernel
def wpX5_length (G : qG) (h0 : Nat) (x1 : Int32) (x2 : Int32) (σ : qS) (post : Int32 → qS → Prop) : Prop := wpX5_isNone G h0 x1 σ (fun (u2 : Int32) (σ1 : qS) => ((u2 = 0 → ((x2 < 0 → post ((-1)) σ1) ∧ (¬ x2 < 0 → ((x2 ≤ 1 → ((x2 = 0 → vp_in x1 (G.2.2 ((G.2.1 h0 1))) ∧ post (σ1 ((G.2.1 ((G.2.1 h0 1)) x1.toNatClampNeg)) 1) σ1) ∧ (¬ x2 = 0 → vp_in x1 (G.2.2 ((G.2.1 h0 1))) ∧ wpX4_bits G ((G.2.1 ((G.2.1 h0 1)) x1.toNatClampNeg)) σ1 (fun (u11 : Int32) (σ10 : qS) => post u11 σ10)))) ∧ (¬ x2 ≤ 1 → post ((-1)) σ1))))) ∧ (¬ u2 = 0 → post ((-1)) σ1)))
set_option maxHeartbeats 4000000 in
set_option maxRecDepth 100000 in
theorem sdX5_length {l : Launch} {E : qE} {L : List Nat} {G : qG} (hN : L.Nodup) (hG : q_WF G L) {h0 : Nat} {x1 : Int32} {x2 : Int32} (Lh0 : h0 ∈ L) (Kh0 : G.1 h0 = 5) {σ : qS} {post : Int32 → qS → Prop} (h : wpX5_length G h0 x1 x2 σ post) : MtI l E L G yX5_length wsX5_length (q_rm 3) [.ref h0, .int x1, .int x2] σ post := by
  refine q_met (Qc := fun sz => va_Qi post (q_B E L G) (q_free L sz)) (cc := cX5_length) (maxL := 3) (ret := (some .int)) (own := RX5) (by decide) rfl rfl (Nat.le_of_ble_eq_true rfl) hN hG ?_
  intro p e s m below meth c C
  unfold wpX5_length at h
  refine q_aload_n (pc := 0) C dX5_length_0 rfl 0 rfl ?_
  refine q_iload_n (pc := 1) C dX5_length_1 rfl 1 rfl ?_
  refine q_cVi (pc := 2) (As := [.int x1]) (ci := 5) (Cn := RX5) (T := TX5) (N := 9) C (sdX5_isNone C.2.2.2.2.2.1 C.2.2.2.2.2.2 Lh0 Kh0 h) (cwV 1 C.1.2.2.2.2 gX5_length_X5_isNone rfl rfl rfl (by decide +kernel) (q_room (by decide) (by decide))) Lh0 (qc5 Kh0 _) rfl rfl rfl (Nat.le_of_ble_eq_true rfl) dX5_length_2 (fun u2 σ1 h => ?_)
  refine q_if_ne (tgt := 17) (pc := 5) C dX5_length_5 (by decide) (fun c3 => ?_) (fun c3 => ?_)
  · replace h := h.2 c3
    refine q_iconst (pc := 17) (v := (-1)) C dX5_length_17 (by decide) ?_
    exact q_iret (pc := 18) C dX5_length_18 h
  · replace h := h.1 c3
    refine q_iload_n (pc := 8) C dX5_length_8 rfl 2 rfl ?_
    refine q_if_lt (tgt := 17) (pc := 9) C dX5_length_9 (by decide) (fun c4 => ?_) (fun c4 => ?_)
    · replace h := h.1 c4
      refine q_iconst (pc := 17) (v := (-1)) C dX5_length_17 (by decide) ?_
      exact q_iret (pc := 18) C dX5_length_18 h
    · replace h := h.2 c4
      refine q_iload_n (pc := 12) C dX5_length_12 rfl 2 rfl ?_
      refine q_iconst (pc := 13) (v := 1) C dX5_length_13 (by decide) ?_
      refine q_icmp_le (tgt := 19) (pc := 14) C dX5_length_14 (by decide) (fun c5 => ?_) (fun c5 => ?_)
      · replace h := h.1 c5
        refine q_iload_n (pc := 19) C dX5_length_19 rfl 2 rfl ?_
        refine q_if_ne (tgt := 35) (pc := 20) C dX5_length_20 (by decide) (fun c6 => ?_) (fun c6 => ?_)
        · replace h := h.2 c6
          refine q_aload_n (pc := 35) C dX5_length_35 rfl 0 rfl ?_
          obtain ⟨Lr7, Kr7⟩ := qw_5_1 C.2.2.2.2.2.2 Lh0 Kh0
          refine q_g5_1 (pc := 36) C Lh0 Kh0 mwX5_length_0 mwX5_length_1 dX5_length_36 ?_
          refine q_iload_n (pc := 39) C dX5_length_39 rfl 1 rfl ?_
          obtain ⟨b8, h⟩ := h
          refine q_aald (pc := 40) C Lr7 Kr7 b8 dX5_length_40 ?_
          obtain ⟨Lr9, Kr9⟩ := qw_10 C.2.2.2.2.2.2 Lr7 Kr7 b8
          refine q_cVi (pc := 41) (As := []) (ci := 4) (Cn := RX4) (T := TX4) (N := 3) C (sdX4_bits C.2.2.2.2.2.1 C.2.2.2.2.2.2 Lr9 Kr9 h) (cwV 0 C.1.2.2.2.2 gX5_length_X4_bits rfl rfl rfl (by decide +kernel) (q_room (by decide) (by decide))) Lr9 (qc4 Kr9 _) rfl rfl rfl (Nat.le_of_ble_eq_true rfl) dX5_length_41 (fun u11 σ10 h => ?_)
          exact q_iret (pc := 44) C dX5_length_44 h
        · replace h := h.1 c6
          refine q_aload_n (pc := 23) C dX5_length_23 rfl 0 rfl ?_
          obtain ⟨Lr12, Kr12⟩ := qw_5_1 C.2.2.2.2.2.2 Lh0 Kh0
          refine q_g5_1 (pc := 24) C Lh0 Kh0 mwX5_length_0 mwX5_length_1 dX5_length_24 ?_
          refine q_iload_n (pc := 27) C dX5_length_27 rfl 1 rfl ?_
          obtain ⟨b13, h⟩ := h
          refine q_aald (pc := 28) C Lr12 Kr12 b13 dX5_length_28 ?_
          obtain ⟨Lr14, Kr14⟩ := qw_10 C.2.2.2.2.2.2 Lr12 Kr12 b13
          refine q_g4_1 (pc := 29) C Lr14 Kr14 mwX5_length_2 mwX5_length_3 dX5_length_29 ?_
          refine q_goto (tgt := 44) (pc := 32) C dX5_length_32 (by decide) ?_
          exact q_iret (pc := 44) C dX5_length_44 h
      · replace h := h.2 c5
        refine q_iconst (pc := 17) (v := (-1)) C dX5_length_17 (by decide) ?_
        exact q_iret (pc := 18) C dX5_length_18 h
theorem mwX5_limb_0 : ∀ w ∈ wsX50, w ∈ wsX5_limb := by decide +kernel
theorem mwX5_limb_1 : Cond.fieldLink RX5 19 "IntFile" "file" "[LIntFile$Whole;" ∈ wsX5_limb := by decide +kernel
theorem mwX5_limb_2 : ∀ w ∈ wsX40, w ∈ wsX5_limb := by decide +kernel
theorem mwX5_limb_3 : Cond.fieldLink RX5 100 "IntFile$Whole" "count" "I" ∈ wsX5_limb := by decide +kernel
theorem mwX5_limb_4 : Cond.fieldLink RX5 152 "IntFile$Whole" "limbs" "[I" ∈ wsX5_limb := by decide +kernel
def wpX5_limb (G : qG) (h0 : Nat) (x1 : Int32) (x2 : Int32) (σ : qS) (post : Int32 → qS → Prop) : Prop := wpX5_isNone G h0 x1 σ (fun (u2 : Int32) (σ1 : qS) => ((u2 = 0 → ((x2 < 0 → post 0 σ1) ∧ (¬ x2 < 0 → vp_in x1 (G.2.2 ((G.2.1 h0 1))) ∧ ((x2 < (σ1 ((G.2.1 ((G.2.1 h0 1)) x1.toNatClampNeg)) 1) → vp_in x1 (G.2.2 ((G.2.1 h0 1))) ∧ vp_in x2 (G.2.2 ((G.2.1 ((G.2.1 ((G.2.1 h0 1)) x1.toNatClampNeg)) 0))) ∧ post (σ1 ((G.2.1 ((G.2.1 ((G.2.1 h0 1)) x1.toNatClampNeg)) 0)) x2.toNatClampNeg) σ1) ∧ (¬ x2 < (σ1 ((G.2.1 ((G.2.1 h0 1)) x1.toNatClampNeg)) 1) → post 0 σ1))))) ∧ (¬ u2 = 0 → post 0 σ1)))
set_option maxHeartbeats 4000000 in
set_option maxRecDepth 100000 in
theorem sdX5_limb {l : Launch} {E : qE} {L : List Nat} {G : qG} (hN : L.Nodup) (hG : q_WF G L) {h0 : Nat} {x1 : Int32} {x2 : Int32} (Lh0 : h0 ∈ L) (Kh0 : G.1 h0 = 5) {σ : qS} {post : Int32 → qS → Prop} (h : wpX5_limb G h0 x1 x2 σ post) : MtI l E L G yX5_limb wsX5_limb (q_rm 2) [.ref h0, .int x1, .int x2] σ post := by
  refine q_met (Qc := fun sz => va_Qi post (q_B E L G) (q_free L sz)) (cc := cX5_limb) (maxL := 3) (ret := (some .int)) (own := RX5) (by decide) rfl rfl (Nat.le_of_ble_eq_true rfl) hN hG ?_
  intro p e s m below meth c C
  unfold wpX5_limb at h
  refine q_aload_n (pc := 0) C dX5_limb_0 rfl 0 rfl ?_
  refine q_iload_n (pc := 1) C dX5_limb_1 rfl 1 rfl ?_
  refine q_cVi (pc := 2) (As := [.int x1]) (ci := 5) (Cn := RX5) (T := TX5) (N := 9) C (sdX5_isNone C.2.2.2.2.2.1 C.2.2.2.2.2.2 Lh0 Kh0 h) (cwV 1 C.1.2.2.2.2 gX5_limb_X5_isNone rfl rfl rfl (by decide +kernel) (q_room (by decide) (by decide))) Lh0 (qc5 Kh0 _) rfl rfl rfl (Nat.le_of_ble_eq_true rfl) dX5_limb_2 (fun u2 σ1 h => ?_)
  refine q_if_ne (tgt := 25) (pc := 5) C dX5_limb_5 (by decide) (fun c3 => ?_) (fun c3 => ?_)
  · replace h := h.2 c3
    refine q_iconst (pc := 25) (v := 0) C dX5_limb_25 (by decide) ?_
    exact q_iret (pc := 26) C dX5_limb_26 h
  · replace h := h.1 c3
    refine q_iload_n (pc := 8) C dX5_limb_8 rfl 2 rfl ?_
    refine q_if_lt (tgt := 25) (pc := 9) C dX5_limb_9 (by decide) (fun c4 => ?_) (fun c4 => ?_)
    · replace h := h.1 c4
      refine q_iconst (pc := 25) (v := 0) C dX5_limb_25 (by decide) ?_
      exact q_iret (pc := 26) C dX5_limb_26 h
    · replace h := h.2 c4
      refine q_iload_n (pc := 12) C dX5_limb_12 rfl 2 rfl ?_
      refine q_aload_n (pc := 13) C dX5_limb_13 rfl 0 rfl ?_
      obtain ⟨Lr5, Kr5⟩ := qw_5_1 C.2.2.2.2.2.2 Lh0 Kh0
      refine q_g5_1 (pc := 14) C Lh0 Kh0 mwX5_limb_0 mwX5_limb_1 dX5_limb_14 ?_
      refine q_iload_n (pc := 17) C dX5_limb_17 rfl 1 rfl ?_
      obtain ⟨b6, h⟩ := h
      refine q_aald (pc := 18) C Lr5 Kr5 b6 dX5_limb_18 ?_
      obtain ⟨Lr7, Kr7⟩ := qw_10 C.2.2.2.2.2.2 Lr5 Kr5 b6
      refine q_g4_1 (pc := 19) C Lr7 Kr7 mwX5_limb_2 mwX5_limb_3 dX5_limb_19 ?_
      refine q_icmp_lt (tgt := 27) (pc := 22) C dX5_limb_22 (by decide) (fun c8 => ?_) (fun c8 => ?_)
      · replace h := h.1 c8
        refine q_aload_n (pc := 27) C dX5_limb_27 rfl 0 rfl ?_
        refine q_g5_1 (pc := 28) C Lh0 Kh0 mwX5_limb_0 mwX5_limb_1 dX5_limb_28 ?_
        refine q_iload_n (pc := 31) C dX5_limb_31 rfl 1 rfl ?_
        obtain ⟨b9, h⟩ := h
        refine q_aald (pc := 32) C Lr5 Kr5 b9 dX5_limb_32 ?_
        obtain ⟨Lr10, Kr10⟩ := qw_10 C.2.2.2.2.2.2 Lr5 Kr5 b9
        obtain ⟨Lr11, Kr11⟩ := qw_4_0 C.2.2.2.2.2.2 Lr10 Kr10
        refine q_g4_0 (pc := 33) C Lr10 Kr10 mwX5_limb_2 mwX5_limb_4 dX5_limb_33 ?_
        refine q_iload_n (pc := 36) C dX5_limb_36 rfl 2 rfl ?_
        obtain ⟨b12, h⟩ := h
        refine q_iald (pc := 37) C Lr11 Kr11 b12 dX5_limb_37 ?_
        exact q_iret (pc := 38) C dX5_limb_38 h
      · replace h := h.2 c8
        refine q_iconst (pc := 25) (v := 0) C dX5_limb_25 (by decide) ?_
        exact q_iret (pc := 26) C dX5_limb_26 h
theorem mwX5_write_0 : ∀ w ∈ wsX50, w ∈ wsX5_write := by decide +kernel
theorem mwX5_write_1 : Cond.fieldLink RX5 55 "IntFile" "text" "LIntFile$Text;" ∈ wsX5_write := by decide +kernel
theorem mwX5_write_2 : Cond.fieldLink RX5 19 "IntFile" "file" "[LIntFile$Whole;" ∈ wsX5_write := by decide +kernel
theorem mwX5_write_3 : Cond.fieldLink RX5 26 "IntFile" "result" "LIntFile$Whole;" ∈ wsX5_write := by decide +kernel
def wpX5_write (G : qG) (h0 : Nat) (x1 : Int32) (σ : qS) (post : Int32 → qS → Prop) : Prop := wpX5_isNone G h0 x1 σ (fun (u2 : Int32) (σ1 : qS) => ((u2 = 0 → vp_in x1 (G.2.2 ((G.2.1 h0 1))) ∧ wpX3_print G ((G.2.1 h0 7)) ((G.2.1 ((G.2.1 h0 1)) x1.toNatClampNeg)) ((G.2.1 h0 2)) σ1 (fun (σ9 : qS) => wpX3_size G ((G.2.1 h0 7)) σ9 (fun (u12 : Int32) (σ11 : qS) => post u12 σ11))) ∧ (¬ u2 = 0 → post ((-1)) σ1)))
set_option maxHeartbeats 4000000 in
set_option maxRecDepth 100000 in
theorem sdX5_write {l : Launch} {E : qE} {L : List Nat} {G : qG} (hN : L.Nodup) (hG : q_WF G L) {h0 : Nat} {x1 : Int32} (Lh0 : h0 ∈ L) (Kh0 : G.1 h0 = 5) {σ : qS} {post : Int32 → qS → Prop} (h : wpX5_write G h0 x1 σ post) : MtI l E L G yX5_write wsX5_write (q_rm 4) [.ref h0, .int x1] σ post := by
  refine q_met (Qc := fun sz => va_Qi post (q_B E L G) (q_free L sz)) (cc := cX5_write) (maxL := 2) (ret := (some .int)) (own := RX5) (by decide) rfl rfl (Nat.le_of_ble_eq_true rfl) hN hG ?_
  intro p e s m below meth c C
  unfold wpX5_write at h
  refine q_aload_n (pc := 0) C dX5_write_0 rfl 0 rfl ?_
  refine q_iload_n (pc := 1) C dX5_write_1 rfl 1 rfl ?_
  refine q_cVi (pc := 2) (As := [.int x1]) (ci := 5) (Cn := RX5) (T := TX5) (N := 9) C (sdX5_isNone C.2.2.2.2.2.1 C.2.2.2.2.2.2 Lh0 Kh0 h) (cwV 1 C.1.2.2.2.2 gX5_write_X5_isNone rfl rfl rfl (by decide +kernel) (q_room (by decide) (by decide))) Lh0 (qc5 Kh0 _) rfl rfl rfl (Nat.le_of_ble_eq_true rfl) dX5_write_2 (fun u2 σ1 h => ?_)
  refine q_if_eq (tgt := 10) (pc := 5) C dX5_write_5 (by decide) (fun c3 => ?_) (fun c3 => ?_)
  · replace h := h.1 c3
    refine q_aload_n (pc := 10) C dX5_write_10 rfl 0 rfl ?_
    obtain ⟨Lr4, Kr4⟩ := qw_5_7 C.2.2.2.2.2.2 Lh0 Kh0
    refine q_g5_7 (pc := 11) C Lh0 Kh0 mwX5_write_0 mwX5_write_1 dX5_write_11 ?_
    refine q_aload_n (pc := 14) C dX5_write_14 rfl 0 rfl ?_
    obtain ⟨Lr5, Kr5⟩ := qw_5_1 C.2.2.2.2.2.2 Lh0 Kh0
    refine q_g5_1 (pc := 15) C Lh0 Kh0 mwX5_write_0 mwX5_write_2 dX5_write_15 ?_
    refine q_iload_n (pc := 18) C dX5_write_18 rfl 1 rfl ?_
    obtain ⟨b6, h⟩ := h
    refine q_aald (pc := 19) C Lr5 Kr5 b6 dX5_write_19 ?_
    obtain ⟨Lr7, Kr7⟩ := qw_10 C.2.2.2.2.2.2 Lr5 Kr5 b6
    refine q_aload_n (pc := 20) C dX5_write_20 rfl 0 rfl ?_
    obtain ⟨Lr8, Kr8⟩ := qw_5_2 C.2.2.2.2.2.2 Lh0 Kh0
    refine q_g5_2 (pc := 21) C Lh0 Kh0 mwX5_write_0 mwX5_write_3 dX5_write_21 ?_
    refine q_cVv (pc := 24) (As := [.ref ((G.2.1 ((G.2.1 h0 1)) x1.toNatClampNeg)), .ref ((G.2.1 h0 2))]) (ci := 3) (Cn := RX3) (T := TX3) (N := 2) C (sdX3_print C.2.2.2.2.2.1 C.2.2.2.2.2.2 Lr4 Kr4 Lr7 Kr7 Lr8 Kr8 h) (cwV 2 C.1.2.2.2.2 gX5_write_X3_print rfl rfl rfl (by decide +kernel) (q_room (by decide) (by decide))) Lr4 (qc3 Kr4 _) rfl rfl rfl (Nat.le_of_ble_eq_true rfl) dX5_write_24 (fun σ9 h => ?_)
    refine q_aload_n (pc := 27) C dX5_write_27 rfl 0 rfl ?_
    refine q_g5_7 (pc := 28) C Lh0 Kh0 mwX5_write_0 mwX5_write_1 dX5_write_28 ?_
    refine q_cVi (pc := 31) (As := []) (ci := 3) (Cn := RX3) (T := TX3) (N := 2) C (sdX3_size C.2.2.2.2.2.1 C.2.2.2.2.2.2 Lr4 Kr4 h) (cwV 0 C.1.2.2.2.2 gX5_write_X3_size rfl rfl rfl (by decide +kernel) (q_room (by decide) (by decide))) Lr4 (qc3 Kr4 _) rfl rfl rfl (Nat.le_of_ble_eq_true rfl) dX5_write_31 (fun u12 σ11 h => ?_)
    exact q_iret (pc := 34) C dX5_write_34 h
  · replace h := h.2 c3
    refine q_iconst (pc := 8) (v := (-1)) C dX5_write_8 (by decide) ?_
    exact q_iret (pc := 9) C dX5_write_9 h
theorem mwX5_written_0 : ∀ w ∈ wsX50, w ∈ wsX5_written := by decide +kernel
theorem mwX5_written_1 : Cond.fieldLink RX5 55 "IntFile" "text" "LIntFile$Text;" ∈ wsX5_written := by decide +kernel
def wpX5_written (G : qG) (h0 : Nat) (x1 : Int32) (σ : qS) (post : Int32 → qS → Prop) : Prop := ((x1 < 0 → post ((-1)) σ) ∧ (¬ x1 < 0 → wpX3_size G ((G.2.1 h0 7)) σ (fun (u4 : Int32) (σ3 : qS) => ((x1 < u4 → wpX3_at G ((G.2.1 h0 7)) x1 σ3 (fun (u7 : Int32) (σ6 : qS) => post u7 σ6)) ∧ (¬ x1 < u4 → post ((-1)) σ3)))))
set_option maxHeartbeats 4000000 in
set_option maxRecDepth 100000 in
theorem sdX5_written {l : Launch} {E : qE} {L : List Nat} {G : qG} (hN : L.Nodup) (hG : q_WF G L) {h0 : Nat} {x1 : Int32} (Lh0 : h0 ∈ L) (Kh0 : G.1 h0 = 5) {σ : qS} {post : Int32 → qS → Prop} (h : wpX5_written G h0 x1 σ post) : MtI l E L G yX5_written wsX5_written (q_rm 2) [.ref h0, .int x1] σ post := by
  refine q_met (Qc := fun sz => va_Qi post (q_B E L G) (q_free L sz)) (cc := cX5_written) (maxL := 2) (ret := (some .int)) (own := RX5) (by decide) rfl rfl (Nat.le_of_ble_eq_true rfl) hN hG ?_
  intro p e s m below meth c C
  unfold wpX5_written at h
  refine q_iload_n (pc := 0) C dX5_written_0 rfl 1 rfl ?_
  refine q_if_lt (tgt := 15) (pc := 1) C dX5_written_1 (by decide) (fun c1 => ?_) (fun c1 => ?_)
  · replace h := h.1 c1
    refine q_iconst (pc := 15) (v := (-1)) C dX5_written_15 (by decide) ?_
    exact q_iret (pc := 16) C dX5_written_16 h
  · replace h := h.2 c1
    refine q_iload_n (pc := 4) C dX5_written_4 rfl 1 rfl ?_
    refine q_aload_n (pc := 5) C dX5_written_5 rfl 0 rfl ?_
    obtain ⟨Lr2, Kr2⟩ := qw_5_7 C.2.2.2.2.2.2 Lh0 Kh0
    refine q_g5_7 (pc := 6) C Lh0 Kh0 mwX5_written_0 mwX5_written_1 dX5_written_6 ?_
    refine q_cVi (pc := 9) (As := []) (ci := 3) (Cn := RX3) (T := TX3) (N := 2) C (sdX3_size C.2.2.2.2.2.1 C.2.2.2.2.2.2 Lr2 Kr2 h) (cwV 0 C.1.2.2.2.2 gX5_written_X3_size rfl rfl rfl (by decide +kernel) (q_room (by decide) (by decide))) Lr2 (qc3 Kr2 _) rfl rfl rfl (Nat.le_of_ble_eq_true rfl) dX5_written_9 (fun u4 σ3 h => ?_)
    refine q_icmp_lt (tgt := 17) (pc := 12) C dX5_written_12 (by decide) (fun c5 => ?_) (fun c5 => ?_)
    · replace h := h.1 c5
      refine q_aload_n (pc := 17) C dX5_written_17 rfl 0 rfl ?_
      refine q_g5_7 (pc := 18) C Lh0 Kh0 mwX5_written_0 mwX5_written_1 dX5_written_18 ?_
      refine q_iload_n (pc := 21) C dX5_written_21 rfl 1 rfl ?_
      refine q_cVi (pc := 22) (As := [.int x1]) (ci := 3) (Cn := RX3) (T := TX3) (N := 2) C (sdX3_at C.2.2.2.2.2.1 C.2.2.2.2.2.2 Lr2 Kr2 h) (cwV 1 C.1.2.2.2.2 gX5_written_X3_at rfl rfl rfl (by decide +kernel) (q_room (by decide) (by decide))) Lr2 (qc3 Kr2 _) rfl rfl rfl (Nat.le_of_ble_eq_true rfl) dX5_written_22 (fun u7 σ6 h => ?_)
      exact q_iret (pc := 25) C dX5_written_25 h
    · replace h := h.2 c5
      refine q_iconst (pc := 15) (v := (-1)) C dX5_written_15 (by decide) ?_
      exact q_iret (pc := 16) C dX5_written_16 h
theorem mwX5_type_0 : ∀ w ∈ wsX50, w ∈ wsX5_type := by decide +kernel
theorem mwX5_type_1 : Cond.fieldLink RX5 62 "IntFile" "tape" "LIntFile$Tape;" ∈ wsX5_type := by decide +kernel
theorem mwX5_type_2 : ∀ w ∈ wsX20, w ∈ wsX5_type := by decide +kernel
theorem mwX5_type_3 : Cond.fieldLink RX5 172 "IntFile$Tape" "count" "I" ∈ wsX5_type := by decide +kernel
def wpX5_type (G : qG) (h0 : Nat) (x1 : Int64) (x3 : Int32) (σ : qS) (post : Int32 → qS → Prop) : Prop := ((x3 < 1 → post ((-1)) σ) ∧ (¬ x3 < 1 → ((x3 ≤ 8 → wpX2_hasRoomFor G ((G.2.1 h0 8)) x3 σ (fun (u5 : Int32) (σ4 : qS) => ((u5 = 0 → post ((-3)) σ4) ∧ (¬ u5 = 0 → wpX2_append G ((G.2.1 h0 8)) x1 x3 σ4 (fun (σ7 : qS) => post (σ7 ((G.2.1 h0 8)) 1) σ7))))) ∧ (¬ x3 ≤ 8 → post ((-1)) σ))))
set_option maxHeartbeats 4000000 in
set_option maxRecDepth 100000 in
theorem sdX5_type {l : Launch} {E : qE} {L : List Nat} {G : qG} (hN : L.Nodup) (hG : q_WF G L) {h0 : Nat} {x1 : Int64} {x3 : Int32} (Lh0 : h0 ∈ L) (Kh0 : G.1 h0 = 5) {σ : qS} {post : Int32 → qS → Prop} (h : wpX5_type G h0 x1 x3 σ post) : MtI l E L G yX5_type wsX5_type (q_rm 2) [.ref h0, .long x1, .int x3] σ post := by
  refine q_met (Qc := fun sz => va_Qi post (q_B E L G) (q_free L sz)) (cc := cX5_type) (maxL := 4) (ret := (some .int)) (own := RX5) (by decide) rfl rfl (Nat.le_of_ble_eq_true rfl) hN hG ?_
  intro p e s m below meth c C
  unfold wpX5_type at h
  refine q_iload_n (pc := 0) C dX5_type_0 rfl 2 rfl ?_
  refine q_iconst (pc := 1) (v := 1) C dX5_type_1 (by decide) ?_
  refine q_icmp_lt (tgt := 11) (pc := 2) C dX5_type_2 (by decide) (fun c1 => ?_) (fun c1 => ?_)
  · replace h := h.1 c1
    refine q_iconst (pc := 11) (v := (-1)) C dX5_type_11 (by decide) ?_
    exact q_iret (pc := 12) C dX5_type_12 h
  · replace h := h.2 c1
    refine q_iload_n (pc := 5) C dX5_type_5 rfl 2 rfl ?_
    refine q_bipush (pc := 6) (v := 8) C dX5_type_6 (by decide) ?_
    refine q_icmp_le (tgt := 13) (pc := 8) C dX5_type_8 (by decide) (fun c2 => ?_) (fun c2 => ?_)
    · replace h := h.1 c2
      refine q_aload_n (pc := 13) C dX5_type_13 rfl 0 rfl ?_
      obtain ⟨Lr3, Kr3⟩ := qw_5_8 C.2.2.2.2.2.2 Lh0 Kh0
      refine q_g5_8 (pc := 14) C Lh0 Kh0 mwX5_type_0 mwX5_type_1 dX5_type_14 ?_
      refine q_iload_n (pc := 17) C dX5_type_17 rfl 2 rfl ?_
      refine q_cVi (pc := 18) (As := [.int x3]) (ci := 2) (Cn := RX2) (T := TX2) (N := 2) C (sdX2_hasRoomFor C.2.2.2.2.2.1 C.2.2.2.2.2.2 Lr3 Kr3 h) (cwV 1 C.1.2.2.2.2 gX5_type_X2_hasRoomFor rfl rfl rfl (by decide +kernel) (q_room (by decide) (by decide))) Lr3 (qc2 Kr3 _) rfl rfl rfl (Nat.le_of_ble_eq_true rfl) dX5_type_18 (fun u5 σ4 h => ?_)
      refine q_if_ne (tgt := 27) (pc := 21) C dX5_type_21 (by decide) (fun c6 => ?_) (fun c6 => ?_)
      · replace h := h.2 c6
        refine q_aload_n (pc := 27) C dX5_type_27 rfl 0 rfl ?_
        refine q_g5_8 (pc := 28) C Lh0 Kh0 mwX5_type_0 mwX5_type_1 dX5_type_28 ?_
        refine q_lload_n (pc := 31) C dX5_type_31 rfl 1 rfl ?_
        refine q_iload_n (pc := 32) C dX5_type_32 rfl 2 rfl ?_
        refine q_cVv (pc := 33) (As := [.long x1, .int x3]) (ci := 2) (Cn := RX2) (T := TX2) (N := 2) C (sdX2_append C.2.2.2.2.2.1 C.2.2.2.2.2.2 Lr3 Kr3 h) (cwV 2 C.1.2.2.2.2 gX5_type_X2_append rfl rfl rfl (by decide +kernel) (q_room (by decide) (by decide))) Lr3 (qc2 Kr3 _) rfl rfl rfl (Nat.le_of_ble_eq_true rfl) dX5_type_33 (fun σ7 h => ?_)
        refine q_aload_n (pc := 36) C dX5_type_36 rfl 0 rfl ?_
        refine q_g5_8 (pc := 37) C Lh0 Kh0 mwX5_type_0 mwX5_type_1 dX5_type_37 ?_
        refine q_g2_1 (pc := 40) C Lr3 Kr3 mwX5_type_2 mwX5_type_3 dX5_type_40 ?_
        exact q_iret (pc := 43) C dX5_type_43 h
      · replace h := h.1 c6
        refine q_bipush (pc := 24) (v := (-3)) C dX5_type_24 (by decide) ?_
        exact q_iret (pc := 26) C dX5_type_26 h
    · replace h := h.2 c2
      refine q_iconst (pc := 11) (v := (-1)) C dX5_type_11 (by decide) ?_
      exact q_iret (pc := 12) C dX5_type_12 h
theorem mwX5_read_0 : ∀ w ∈ wsX50, w ∈ wsX5_read := by decide +kernel
theorem mwX5_read_1 : Cond.fieldLink RX5 62 "IntFile" "tape" "LIntFile$Tape;" ∈ wsX5_read := by decide +kernel
theorem mwX5_read_2 : ∀ w ∈ wsX20, w ∈ wsX5_read := by decide +kernel
theorem mwX5_read_3 : Cond.fieldLink RX5 172 "IntFile$Tape" "count" "I" ∈ wsX5_read := by decide +kernel
theorem mwX5_read_4 : Cond.fieldLink RX5 26 "IntFile" "result" "LIntFile$Whole;" ∈ wsX5_read := by decide +kernel
theorem mwX5_read_5 : Cond.fieldLink RX5 13 "IntFile" "width" "I" ∈ wsX5_read := by decide +kernel
def bkX5_read_37 (G : qG) (h0 : Nat) (x1 : Int32) (x2 : Int32) (post : Int32 → qS → Prop) (σ : qS) : Prop := ∀ σ9 : qS, σ9 = q_st σ ((G.2.1 h0 8)) 1 0 → ((0 ≤ x2 → post (((-10)) - x2) σ9) ∧ (¬ 0 ≤ x2 → wpX5_put G h0 x1 σ9 (fun (u12 : Int32) (σ11 : qS) => post u12 σ11)))
set_option maxHeartbeats 4000000 in
set_option maxRecDepth 100000 in
theorem sbX5_read_37 {p : Program} {l : Launch} {e : Env} {s : State} {m : MethodId} {args : Array Value} {below : List Frame} {meth : Method} {c : Code} {E : qE} {L : List Nat} {G : qG} {A : Nat → Prop} (C : q_C p s m args meth c cX5_read 3 wsX5_read RX5 (some .int) E L G A) {h0 : Nat} {x1 : Int32} {x2 : Int32} (Lh0 : h0 ∈ L) (Kh0 : G.1 h0 = 5) {post : Int32 → qS → Prop} {σ : qS} (h : bkX5_read_37 G h0 x1 x2 post σ) : Wd p l e (q_rm 4) s m args below meth c E L G A (MQ below (va_Qi post (q_B E L G) A) args s 0 0 A) 3 σ 37 [(0, .ref h0), (1, .int x1), (2, .int x2)] [] := by
  unfold bkX5_read_37 at h
  refine q_aload_n (pc := 37) C dX5_read_37 rfl 0 rfl ?_
  obtain ⟨Lr8, Kr8⟩ := qw_5_8 C.2.2.2.2.2.2 Lh0 Kh0
  refine q_g5_8 (pc := 38) C Lh0 Kh0 mwX5_read_0 mwX5_read_1 dX5_read_38 ?_
  refine q_iconst (pc := 41) (v := 0) C dX5_read_41 (by decide) ?_
  refine q_p2_1 (pc := 42) C Lr8 Kr8 mwX5_read_2 mwX5_read_3 dX5_read_42 (fun σ9 eσ9 => ?_)
  replace h := h σ9 eσ9
  refine q_iload_n (pc := 45) C dX5_read_45 rfl 2 rfl ?_
  refine q_if_ge (tgt := 57) (pc := 46) C dX5_read_46 (by decide) (fun c10 => ?_) (fun c10 => ?_)
  · replace h := h.1 c10
    refine q_bipush (pc := 57) (v := (-10)) C dX5_read_57 (by decide) ?_
    refine q_iload_n (pc := 59) C dX5_read_59 rfl 2 rfl ?_
    refine q_isub (pc := 60) C dX5_read_60 ?_
    exact q_iret (pc := 61) C dX5_read_61 h
  · replace h := h.2 c10
    refine q_aload_n (pc := 49) C dX5_read_49 rfl 0 rfl ?_
    refine q_iload_n (pc := 50) C dX5_read_50 rfl 1 rfl ?_
    refine q_cVi (pc := 51) (As := [.int x1]) (ci := 5) (Cn := RX5) (T := TX5) (N := 9) C (sdX5_put C.2.2.2.2.2.1 C.2.2.2.2.2.2 Lh0 Kh0 h) (cwV 1 C.1.2.2.2.2 gX5_read_X5_put rfl rfl rfl (by decide +kernel) (q_room (by decide) (by decide))) Lh0 (qc5 Kh0 _) rfl rfl rfl (Nat.le_of_ble_eq_true rfl) dX5_read_51 (fun u12 σ11 h => ?_)
    refine q_goto (tgt := 61) (pc := 54) C dX5_read_54 (by decide) ?_
    exact q_iret (pc := 61) C dX5_read_61 h
def wpX5_read (G : qG) (h0 : Nat) (x1 : Int32) (σ : qS) (post : Int32 → qS → Prop) : Prop := wpX5_isNone G h0 x1 σ (fun (u2 : Int32) (σ1 : qS) => ((u2 = 0 → wpX2_firstWrongPlace G ((G.2.1 h0 8)) σ1 (fun (u6 : Int32) (σ5 : qS) => ((0 ≤ u6 → bkX5_read_37 G h0 x1 u6 post σ5) ∧ (¬ 0 ≤ u6 → wpX2_spell G ((G.2.1 h0 8)) ((G.2.1 h0 2)) (σ5 h0 0) σ5 (fun (σ14 : qS) => bkX5_read_37 G h0 x1 u6 post σ14))))) ∧ (¬ u2 = 0 → post ((-1)) σ1)))
set_option maxHeartbeats 4000000 in
set_option maxRecDepth 100000 in
theorem sdX5_read {l : Launch} {E : qE} {L : List Nat} {G : qG} (hN : L.Nodup) (hG : q_WF G L) {h0 : Nat} {x1 : Int32} (Lh0 : h0 ∈ L) (Kh0 : G.1 h0 = 5) {σ : qS} {post : Int32 → qS → Prop} (h : wpX5_read G h0 x1 σ post) : MtI l E L G yX5_read wsX5_read (q_rm 4) [.ref h0, .int x1] σ post := by
  refine q_met (Qc := fun sz => va_Qi post (q_B E L G) (q_free L sz)) (cc := cX5_read) (maxL := 3) (ret := (some .int)) (own := RX5) (by decide) rfl rfl (Nat.le_of_ble_eq_true rfl) hN hG ?_
  intro p e s m below meth c C
  unfold wpX5_read at h
  refine q_aload_n (pc := 0) C dX5_read_0 rfl 0 rfl ?_
  refine q_iload_n (pc := 1) C dX5_read_1 rfl 1 rfl ?_
  refine q_cVi (pc := 2) (As := [.int x1]) (ci := 5) (Cn := RX5) (T := TX5) (N := 9) C (sdX5_isNone C.2.2.2.2.2.1 C.2.2.2.2.2.2 Lh0 Kh0 h) (cwV 1 C.1.2.2.2.2 gX5_read_X5_isNone rfl rfl rfl (by decide +kernel) (q_room (by decide) (by decide))) Lh0 (qc5 Kh0 _) rfl rfl rfl (Nat.le_of_ble_eq_true rfl) dX5_read_2 (fun u2 σ1 h => ?_)
  refine q_if_eq (tgt := 10) (pc := 5) C dX5_read_5 (by decide) (fun c3 => ?_) (fun c3 => ?_)
  · replace h := h.1 c3
    refine q_aload_n (pc := 10) C dX5_read_10 rfl 0 rfl ?_
    obtain ⟨Lr4, Kr4⟩ := qw_5_8 C.2.2.2.2.2.2 Lh0 Kh0
    refine q_g5_8 (pc := 11) C Lh0 Kh0 mwX5_read_0 mwX5_read_1 dX5_read_11 ?_
    refine q_cVi (pc := 14) (As := []) (ci := 2) (Cn := RX2) (T := TX2) (N := 2) C (sdX2_firstWrongPlace C.2.2.2.2.2.1 C.2.2.2.2.2.2 Lr4 Kr4 h) (cwV 0 C.1.2.2.2.2 gX5_read_X2_firstWrongPlace rfl rfl rfl (by decide +kernel) (q_room (by decide) (by decide))) Lr4 (qc2 Kr4 _) rfl rfl rfl (Nat.le_of_ble_eq_true rfl) dX5_read_14 (fun u6 σ5 h => ?_)
    refine q_istore_n (pc := 17) (lv' := [(2, .int u6), (0, .ref h0), (1, .int x1)]) C dX5_read_17 rfl (by decide) rfl ?_
    refine q_iload_n (pc := 18) C dX5_read_18 rfl 0 rfl ?_
    refine q_if_ge (tgt := 37) (pc := 19) C dX5_read_19 (by decide) (fun c7 => ?_) (fun c7 => ?_)
    · replace h := h.1 c7
      refine q_lv (lv' := [(0, .ref h0), (1, .int x1), (2, .int u6)]) [1, 2, 0] rfl ?_
      exact sbX5_read_37 C Lh0 Kh0 h
    · replace h := h.2 c7
      refine q_aload_n (pc := 22) C dX5_read_22 rfl 1 rfl ?_
      refine q_g5_8 (pc := 23) C Lh0 Kh0 mwX5_read_0 mwX5_read_1 dX5_read_23 ?_
      refine q_aload_n (pc := 26) C dX5_read_26 rfl 1 rfl ?_
      obtain ⟨Lr13, Kr13⟩ := qw_5_2 C.2.2.2.2.2.2 Lh0 Kh0
      refine q_g5_2 (pc := 27) C Lh0 Kh0 mwX5_read_0 mwX5_read_4 dX5_read_27 ?_
      refine q_aload_n (pc := 30) C dX5_read_30 rfl 1 rfl ?_
      refine q_g5_0 (pc := 31) C Lh0 Kh0 mwX5_read_0 mwX5_read_5 dX5_read_31 ?_
      refine q_cVv (pc := 34) (As := [.ref ((G.2.1 h0 2)), .int (σ5 h0 0)]) (ci := 2) (Cn := RX2) (T := TX2) (N := 2) C (sdX2_spell C.2.2.2.2.2.1 C.2.2.2.2.2.2 Lr4 Kr4 Lr13 Kr13 h) (cwV 2 C.1.2.2.2.2 gX5_read_X2_spell rfl rfl rfl (by decide +kernel) (q_room (by decide) (by decide))) Lr4 (qc2 Kr4 _) rfl rfl rfl (Nat.le_of_ble_eq_true rfl) dX5_read_34 (fun σ14 h => ?_)
      refine q_lv (lv' := [(0, .ref h0), (1, .int x1), (2, .int u6)]) [1, 2, 0] rfl ?_
      exact sbX5_read_37 C Lh0 Kh0 h
  · replace h := h.2 c3
    refine q_iconst (pc := 8) (v := (-1)) C dX5_read_8 (by decide) ?_
    exact q_iret (pc := 9) C dX5_read_9 h
theorem mwX5_nearest_0 : Cond.methodLink RX5 179 Lib.Math.min.name ∈ wsX5_nearest := by decide +kernel
theorem mwX5_nearest_1 : Cond.static Lib.Math.min.name ∈ wsX5_nearest := by decide +kernel
theorem mwX5_nearest_2 : Cond.initialized "java/lang/Math" ∈ wsX5_nearest := by decide +kernel
theorem mwX5_nearest_3 : Cond.code Lib.Math.min.name Lib.Math.min.code 2 (some .int) ∈ wsX5_nearest := by decide +kernel
theorem mwX5_nearest_4 : Cond.methodLink RX5 185 Lib.Math.max.name ∈ wsX5_nearest := by decide +kernel
theorem mwX5_nearest_5 : Cond.static Lib.Math.max.name ∈ wsX5_nearest := by decide +kernel
theorem mwX5_nearest_6 : Cond.code Lib.Math.max.name Lib.Math.max.code 2 (some .int) ∈ wsX5_nearest := by decide +kernel
def wpX5_nearest (G : qG) (x0 : Int32) (x1 : Int32) (x2 : Int32) (σ : qS) (post : Int32 → qS → Prop) : Prop := post ((if x1 < ((if x0 < x2 then x0 else x2)) then ((if x0 < x2 then x0 else x2)) else x1)) σ
set_option maxHeartbeats 4000000 in
set_option maxRecDepth 100000 in
theorem sdX5_nearest {l : Launch} {E : qE} {L : List Nat} {G : qG} (hN : L.Nodup) (hG : q_WF G L) {x0 : Int32} {x1 : Int32} {x2 : Int32} {σ : qS} {post : Int32 → qS → Prop} (h : wpX5_nearest G x0 x1 x2 σ post) : MtI l E L G yX5_nearest wsX5_nearest (q_rm 1) [.int x0, .int x1, .int x2] σ post := by
  refine q_met (Qc := fun sz => va_Qi post (q_B E L G) (q_free L sz)) (cc := cX5_nearest) (maxL := 3) (ret := (some .int)) (own := RX5) (by decide) rfl rfl (Nat.le_of_ble_eq_true rfl) hN hG ?_
  intro p e s m below meth c C
  unfold wpX5_nearest at h
  refine q_iload_n (pc := 0) C dX5_nearest_0 rfl 1 rfl ?_
  refine q_iload_n (pc := 1) C dX5_nearest_1 rfl 2 rfl ?_
  refine q_iload_n (pc := 2) C dX5_nearest_2 rfl 0 rfl ?_
  refine q_mmin (pc := 3) C mwX5_nearest_0 mwX5_nearest_1 mwX5_nearest_2 mwX5_nearest_3 (by decide) (Nat.le_of_ble_eq_true rfl) dX5_nearest_3 ?_
  refine q_mmax (pc := 6) C mwX5_nearest_4 mwX5_nearest_5 mwX5_nearest_2 mwX5_nearest_6 (by decide) (Nat.le_of_ble_eq_true rfl) dX5_nearest_6 ?_
  exact q_iret (pc := 9) C dX5_nearest_9 h

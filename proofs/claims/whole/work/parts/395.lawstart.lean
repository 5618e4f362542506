set_option maxRecDepth 20000 in
theorem mwL2_9 : Cond.instanceMethod yX6_init ∈ wsL_law := by decide +kernel
set_option maxRecDepth 20000 in
theorem mwL2_8 : Cond.methodLink RL 20 yX6_init ∈ wsL_law := by decide +kernel
set_option maxRecDepth 20000 in
theorem mwL2_7 : Cond.initialized RX6 ∈ wsL_law := by decide +kernel
set_option maxRecDepth 20000 in
theorem mwL2_6 : Cond.instantiable RX6 9 ∈ wsL_law := by decide +kernel
set_option maxRecDepth 20000 in
theorem mwL2_5 : Cond.classLink RL 18 RX6 ∈ wsL_law := by decide +kernel
set_option maxRecDepth 20000 in
theorem mwL2_4 : Cond.instanceMethod yX5_init ∈ wsL_law := by decide +kernel
set_option maxRecDepth 20000 in
theorem mwL2_3 : Cond.methodLink RL 15 yX5_init ∈ wsL_law := by decide +kernel
set_option maxRecDepth 20000 in
theorem mwL2_2 : Cond.initialized RX5 ∈ wsL_law := by decide +kernel
set_option maxRecDepth 20000 in
theorem mwL2_1 : Cond.instantiable RX5 9 ∈ wsL_law := by decide +kernel
set_option maxRecDepth 20000 in
theorem mwL2_0 : Cond.classLink RL 7 RX5 ∈ wsL_law := by decide +kernel
def q_G0 : qG := (fun _ => 0, fun _ _ => 0, fun _ => 0)
def q_S0 : qS := fun _ _ => 0
/-- the law, as a proposition on numbers: N ints xs -/
def LawOK (N : Nat) (xs : Nat → Int32) : Prop :=
  ∀ (q1 : Nat) (L1 : List Nat) (G1 : qG) (σ1 : qS), q1 ∉ ([] : List Nat) → L1 = [] ++ [q1] → G1 = q_gs q_G0 q1 16 (fun _ => 0) 0 → σ1 = va_up q_S0 q1 (fun _ => 0) →
    wnX5_init L1 G1 q1 (q_cellv N xs 0) (q_cellv N xs 1) (q_cellv N xs 2) σ1 (fun L2 G2 σ2 =>
      ∀ (q3 : Nat) (L3 : List Nat) (G3 : qG) (σ3 : qS), q3 ∉ L2 → L3 = L2 ++ [q3] → G3 = q_gs G2 q3 17 (fun _ => 0) 0 → σ3 = va_up σ2 q3 (fun _ => 0) →
        wnX6_init L3 G3 q3 (q_cellv N xs 0) (q_cellv N xs 1) (q_cellv N xs 2) σ3 (fun L4 G4 σ4 =>
          L4.Nodup ∧ q_WF G4 L4 ∧ q1 ∈ L4 ∧ G4.1 q1 = 5 ∧ q3 ∈ L4 ∧ G4.1 q3 = 6 ∧ ∃ n : Nat, lpLaw G4 q1 q3 N xs n 3 σ4))
theorem n_widen {p : Program} {l : Launch} {e : Env} {R : Room} {s : State} {m : MethodId} {args : Array Value} {below : List Frame} {meth : Method} {c : Code} {E : qE} {A : Nat → Prop} {Q : State → Prop} {nL kc ks kc' ks' : Nat} {L : List Nat} {G : qG} {σ : qS} {pc : Nat} {lv : List (Nat × Value)} {st : List Value} (h1 : kc ≤ kc') (h2 : ks ≤ ks') (k : Wn p l e R s m args below meth c E A Q nL kc' ks' L G σ pc lv st) : Wn p l e R s m args below meth c E A Q nL kc ks L G σ pc lv st := fun H locs ls hP hD hS hl => W.widen h1 h2 (k H locs ls hP hD hS hl)
theorem q_arr {s : State} {args : Array Value} {ty : FieldType} (h : (Cond.arrayClass ty).before args s = true) (hty : ∀ C, ty ≠ .object C) : ∃ cA : ClassId, ArrOfT s cA ty ∧ va_RA s cA ty := by
  obtain ⟨c, k, comp, h1, h2, h3⟩ := Cond.arrayClass_spec h
  refine ⟨c, fun n z => ⟨fun k h => (by cases h), k, h2, comp, h3⟩, ?_⟩
  unfold va_RA
  cases ty with
  | object C => exact absurd rfl (hty C)
  | _ => exact h1
theorem q_arrq {s : State} {C : String} (h : va_AO C s) : ∃ cA : ClassId, ArrOfT s cA (.object C) ∧ va_RA s cA (.object C) := by
  obtain ⟨comp, c, k, h1, h2, h3, h4, h5⟩ := Cond.arrayOver_spec h
  exact ⟨c, fun n z => ⟨fun k h => (by cases h), k, h3, comp, h4⟩, k, comp, h3, h4, h1, h5⟩
set_option maxRecDepth 20000 in
theorem lwt_ao : Cond.arrayOver (.object "IntFile$Whole") ∈ lw_tbl := by decide +kernel
set_option maxRecDepth 20000 in
theorem lwt_ai : Cond.arrayClass .int ∈ lw_tbl := by decide +kernel
set_option maxRecDepth 20000 in
theorem lwt_ab : Cond.arrayClass .byte ∈ lw_tbl := by decide +kernel
set_option maxRecDepth 20000 in
theorem lwt_az : Cond.arrayClass .boolean ∈ lw_tbl := by decide +kernel
set_option maxRecDepth 20000 in
theorem lwt_i0 : Cond.instantiable RX0 4 ∈ lw_tbl := by decide +kernel
set_option maxRecDepth 20000 in
theorem lwt_i1 : Cond.instantiable RX1 6 ∈ lw_tbl := by decide +kernel
set_option maxRecDepth 20000 in
theorem lwt_i2 : Cond.instantiable RX2 2 ∈ lw_tbl := by decide +kernel
set_option maxRecDepth 20000 in
theorem lwt_i3 : Cond.instantiable RX3 2 ∈ lw_tbl := by decide +kernel
set_option maxRecDepth 20000 in
theorem lwt_i4 : Cond.instantiable RX4 3 ∈ lw_tbl := by decide +kernel
set_option maxRecDepth 20000 in
theorem lwt_i5 : Cond.instantiable RX5 9 ∈ lw_tbl := by decide +kernel
set_option maxRecDepth 20000 in
theorem lwt_i6 : Cond.instantiable RX6 9 ∈ lw_tbl := by decide +kernel
set_option maxHeartbeats 4000000 in
set_option maxRecDepth 100000 in
/-- THE LAW, from its entry, out of the proposition on numbers -/
theorem whole_open {p : Program} {e : Env} {s : State} {m : MethodId} {below : List Frame} {meth : Method} {c : Code} (l : Launch) {b N : Nat} {xs : Nat → Int32} (hL : N ≤ 2563) (h : LawOK N xs) (C0 : lw_At p s m meth c b N xs) : W p l e room_1 s m #[Value.ref b] below meth c s.heap [] 0 0 (lw_Z below #[Value.ref b] s) (entryFrame m ([Value.ref b] : List Value).toArray 4) := by
  obtain ⟨hx, hb, hr, hml, hown, hts, hX, hbl, hlocks, hgv⟩ := id C0
  have hN31 : N < 2 ^ 31 := by omega
  have hbA : ¬ (fun q : Nat => s.heap.size ≤ q) b := Nat.not_le.mpr hbl
  obtain ⟨c0, iS0, hKn0⟩ := u_known (C := RX0) (T := TX0) (N := 4) (n := 4) hts inX0 (hts _ lwt_i0)
  obtain ⟨c1, iS1, hKn1⟩ := u_known (C := RX1) (T := TX1) (N := 6) (n := 6) hts inX1 (hts _ lwt_i1)
  obtain ⟨c2, iS2, hKn2⟩ := u_known (C := RX2) (T := TX2) (N := 2) (n := 2) hts inX2 (hts _ lwt_i2)
  obtain ⟨c3, iS3, hKn3⟩ := u_known (C := RX3) (T := TX3) (N := 2) (n := 2) hts inX3 (hts _ lwt_i3)
  obtain ⟨c4, iS4, hKn4⟩ := u_known (C := RX4) (T := TX4) (N := 3) (n := 3) hts inX4 (hts _ lwt_i4)
  obtain ⟨c5, iS5, hKn5⟩ := u_known (C := RX5) (T := TX5) (N := 9) (n := 9) hts inX5 (hts _ lwt_i5)
  obtain ⟨c6, iS6, hKn6⟩ := u_known (C := RX6) (T := TX6) (N := 9) (n := 9) hts inX6 (hts _ lwt_i6)
  obtain ⟨dC, dI, hKc⟩ : ∃ (dC : Nat → ClassId) (dI : Nat → Nat → Nat), ∀ (k : Nat) (q : vw_C), vwCl[k]? = some q → u_Kn s q.1 q.2.1 q.2.2 (dC k) (dI k) := by
    refine ⟨fun k => if k = 0 then c0 else if k = 1 then c1 else if k = 2 then c2 else if k = 3 then c3 else if k = 4 then c4 else if k = 5 then c5 else c6, fun k => if k = 0 then iS0 else if k = 1 then iS1 else if k = 2 then iS2 else if k = 3 then iS3 else if k = 4 then iS4 else if k = 5 then iS5 else iS6, ?_⟩
    intro k q hq
    match k, hq with
    | 0, hq => cases hq; exact hKn0
    | 1, hq => cases hq; exact hKn1
    | 2, hq => cases hq; exact hKn2
    | 3, hq => cases hq; exact hKn3
    | 4, hq => cases hq; exact hKn4
    | 5, hq => cases hq; exact hKn5
    | 6, hq => cases hq; exact hKn6
    | k + 7, hq => simp [vwCl] at hq
  have hAO : va_AO "IntFile$Whole" s := hts _ lwt_ao
  obtain ⟨cI, i1, i2⟩ := q_arr (hts _ lwt_ai) (fun C z => by cases z)
  obtain ⟨cB, b1, b2⟩ := q_arr (hts _ lwt_ab) (fun C z => by cases z)
  obtain ⟨cZ, z1, z2⟩ := q_arr (hts _ lwt_az) (fun C z => by cases z)
  obtain ⟨cW, w1, w2⟩ := q_arrq hAO
  obtain ⟨E, hE⟩ : ∃ E : qE, E = ((dC, dI), cI, cB, cZ, cW) := ⟨_, rfl⟩
  have hK : va_K E.1 vwCl (q_tys E) s := by
    rw [hE]
    refine ⟨hKc, fun k q hk => ?_⟩
    match k, hk with
    | 0, hk => cases hk; exact ⟨i1, i2⟩
    | 1, hk => cases hk; exact ⟨b1, b2⟩
    | 2, hk => cases hk; exact ⟨z1, z2⟩
    | 3, hk => cases hk; exact ⟨w1, w2⟩
    | k + 4, hk => simp [q_tys] at hk
  have C : q_N p s m #[Value.ref b] meth c code 4 wsL_law RL ret meth.name E (fun q : Nat => s.heap.size ≤ q) := ⟨⟨hx, hb, hml, hown, fun w hw => hts w (wsL_law_in w hw)⟩, hr, hlocks, hK, hAO, rfl, fun _ z => z⟩
  have hl := lv_entry ([.ref b]) (n := 4) (Nat.le_of_ble_eq_true rfl)
  rw [lg_entry_eq]
  refine (?_ : Wn p l e room_1 s m #[Value.ref b] below meth c E (fun q : Nat => s.heap.size ≤ q) (lw_Z below #[Value.ref b] s) 4 0 0 [] q_G0 q_S0 0 [(0, .ref b)] []) s.heap [] _ (fun k q h => by simp [q_wd, va_pl] at h) ⟨fun i j x y hx => by simp [q_wd, va_pl] at hx, fun k q h => by simp [q_wd, va_pl] at h⟩ va_S.rf hl
  unfold LawOK at h
  refine n_new5 (pc := 0) C inlX5 mwL2_0 mwL2_1 mwL2_2 (Nat.le_of_ble_eq_true rfl) (Nat.le_of_ble_eq_true rfl) dL_law_0 (fun q1 L1 G1 σ1 e1 e2 e3 e4 => ?_)
  replace h := h q1 L1 G1 σ1 e1 e2 e3 e4
  refine n_dup (pc := 3) C dL_law_3 rfl ?_
  refine n_aload_n (pc := 4) C dL_law_4 rfl 0 rfl ?_
  refine n_iconst (pc := 5) (v := nI 0) C dL_law_5 rfl ?_
  refine n_cell (pc := 6) (k := 0) C hX hbl hbA hN31 (by decide) (va_cwS 2 C.1.2.2.2.2 gL_law_L_cell rfl rfl rfl (by decide +kernel) ⟨Nat.le_of_ble_eq_true rfl, Nat.le_of_ble_eq_true rfl⟩) (Nat.le_of_ble_eq_true rfl) (Nat.le_of_ble_eq_true rfl) (Nat.le_of_ble_eq_true rfl) dL_law_6 ?_
  refine n_aload_n (pc := 9) C dL_law_9 rfl 0 rfl ?_
  refine n_iconst (pc := 10) (v := nI 1) C dL_law_10 rfl ?_
  refine n_cell (pc := 11) (k := 1) C hX hbl hbA hN31 (by decide) (va_cwS 2 C.1.2.2.2.2 gL_law_L_cell rfl rfl rfl (by decide +kernel) ⟨Nat.le_of_ble_eq_true rfl, Nat.le_of_ble_eq_true rfl⟩) (Nat.le_of_ble_eq_true rfl) (Nat.le_of_ble_eq_true rfl) (Nat.le_of_ble_eq_true rfl) dL_law_11 ?_
  refine n_aload_n (pc := 14) C dL_law_14 rfl 0 rfl ?_
  refine n_iconst (pc := 15) (v := nI 2) C dL_law_15 rfl ?_
  refine n_cell (pc := 16) (k := 2) C hX hbl hbA hN31 (by decide) (va_cwS 2 C.1.2.2.2.2 gL_law_L_cell rfl rfl rfl (by decide +kernel) ⟨Nat.le_of_ble_eq_true rfl, Nat.le_of_ble_eq_true rfl⟩) (Nat.le_of_ble_eq_true rfl) (Nat.le_of_ble_eq_true rfl) (Nat.le_of_ble_eq_true rfl) dL_law_16 ?_
  refine n_cI (pc := 19) (As := [.int (q_cellv N xs 0), .int (q_cellv N xs 1), .int (q_cellv N xs 2)]) C (snX5_init h) (cwI 3 C.1.2.2.2.2 gL_law_X5_init rfl rfl rfl (C.1.2.2.2.2 _ mwL2_2) (C.1.2.2.2.2 _ mwL2_3) (C.1.2.2.2.2 _ mwL2_4) rfl (by decide +kernel) ⟨(Nat.le_of_ble_eq_true rfl), (Nat.le_of_ble_eq_true rfl)⟩) rfl rfl (Nat.le_of_ble_eq_true rfl) (Nat.le_of_ble_eq_true rfl) (Nat.le_of_ble_eq_true rfl) dL_law_19 (fun L2 G2 σ2 h => ?_)
  refine n_astore_n (pc := 22) (lv' := [(1, .ref q1), (0, .ref b)]) C dL_law_22 rfl (by decide) rfl ?_
  refine n_new6 (pc := 23) C inlX6 mwL2_5 mwL2_6 mwL2_7 (Nat.le_of_ble_eq_true rfl) (Nat.le_of_ble_eq_true rfl) dL_law_23 (fun q3 L3 G3 σ3 e1 e2 e3 e4 => ?_)
  replace h := h q3 L3 G3 σ3 e1 e2 e3 e4
  refine n_dup (pc := 26) C dL_law_26 rfl ?_
  refine n_aload_n (pc := 27) C dL_law_27 rfl 1 rfl ?_
  refine n_iconst (pc := 28) (v := nI 0) C dL_law_28 rfl ?_
  refine n_cell (pc := 29) (k := 0) C hX hbl hbA hN31 (by decide) (va_cwS 2 C.1.2.2.2.2 gL_law_L_cell rfl rfl rfl (by decide +kernel) ⟨Nat.le_of_ble_eq_true rfl, Nat.le_of_ble_eq_true rfl⟩) (Nat.le_of_ble_eq_true rfl) (Nat.le_of_ble_eq_true rfl) (Nat.le_of_ble_eq_true rfl) dL_law_29 ?_
  refine n_aload_n (pc := 32) C dL_law_32 rfl 1 rfl ?_
  refine n_iconst (pc := 33) (v := nI 1) C dL_law_33 rfl ?_
  refine n_cell (pc := 34) (k := 1) C hX hbl hbA hN31 (by decide) (va_cwS 2 C.1.2.2.2.2 gL_law_L_cell rfl rfl rfl (by decide +kernel) ⟨Nat.le_of_ble_eq_true rfl, Nat.le_of_ble_eq_true rfl⟩) (Nat.le_of_ble_eq_true rfl) (Nat.le_of_ble_eq_true rfl) (Nat.le_of_ble_eq_true rfl) dL_law_34 ?_
  refine n_aload_n (pc := 37) C dL_law_37 rfl 1 rfl ?_
  refine n_iconst (pc := 38) (v := nI 2) C dL_law_38 rfl ?_
  refine n_cell (pc := 39) (k := 2) C hX hbl hbA hN31 (by decide) (va_cwS 2 C.1.2.2.2.2 gL_law_L_cell rfl rfl rfl (by decide +kernel) ⟨Nat.le_of_ble_eq_true rfl, Nat.le_of_ble_eq_true rfl⟩) (Nat.le_of_ble_eq_true rfl) (Nat.le_of_ble_eq_true rfl) (Nat.le_of_ble_eq_true rfl) dL_law_39 ?_
  refine n_cI (pc := 42) (As := [.int (q_cellv N xs 0), .int (q_cellv N xs 1), .int (q_cellv N xs 2)]) C (snX6_init h) (cwI 3 C.1.2.2.2.2 gL_law_X6_init rfl rfl rfl (C.1.2.2.2.2 _ mwL2_7) (C.1.2.2.2.2 _ mwL2_8) (C.1.2.2.2.2 _ mwL2_9) rfl (by decide +kernel) ⟨(Nat.le_of_ble_eq_true rfl), (Nat.le_of_ble_eq_true rfl)⟩) rfl rfl (Nat.le_of_ble_eq_true rfl) (Nat.le_of_ble_eq_true rfl) (Nat.le_of_ble_eq_true rfl) dL_law_42 (fun L4 G4 σ4 h => ?_)
  refine n_astore_n (pc := 45) (lv' := [(2, .ref q3), (1, .ref q1), (0, .ref b)]) C dL_law_45 rfl (by decide) rfl ?_
  refine n_iconst (pc := 46) (v := 3) C dL_law_46 (by decide) ?_
  refine n_istore_n (pc := 47) (lv' := [(3, .int 3), (2, .ref q3), (1, .ref q1), (0, .ref b)]) C dL_law_47 rfl (by decide) rfl ?_
  refine n_lv (lv' := [(0, .ref b), (1, .ref q1), (2, .ref q3), (3, .int 3)]) [3, 2, 1, 0] rfl ?_
  refine n_widen (kc' := 600000) (ks' := 7302250) (Nat.le_of_ble_eq_true rfl) (Nat.le_of_ble_eq_true rfl) ?_
  obtain ⟨hNd, hG, g1, g2, g3, g4, n, h⟩ := h
  exact sLaw C hX hbl hbA hNd hG g1 g2 g3 g4 (fun q hq => hq) n 3 σ4 h

/-! Pure level: the class is made (written by wip/gen/puremade.py). -/
theorem mk5 {L : List Nat} {G : qG} {σ : qS} {T : Nat → Nat} {h : Nat} {x1 x2 x3 : Int32} {post : List Nat → qG → qS → Prop} (hO : Od L G T) (c : Ce L G σ T h 16 (fun _ => 0) 0 (fun _ => 0) 1)
    (k : ∀ L' G' σ' T', Od L' G' T' → Fx L' G' σ' T' h (cl 12 x1) (cl 120 x2) → post L' G' σ') : wnX5_init L G h x1 x2 x3 σ post := by
  obtain ⟨n0, n12⟩ := cl_in (M := 12) (by decide) x1
  obtain ⟨w0, w120⟩ := cl_in (M := 120) (by decide) x2
  unfold wnX5_init
  refine ⟨by decide, by decide, wl_near 120 (by decide) (by decide) ?_⟩
  refine ⟨c.mem, c.kind, fun σ6 e => ?_⟩
  obtain ⟨ka0, c0⟩ := st_st 0 (nI (cl 120 x2)) c
  rw [← e] at c0
  clear e ka0
  refine ⟨by decide, by decide, wl_near 12 (by decide) (by decide) ?_⟩
  generalize cl 12 x1 = n at *
  generalize cl 120 x2 = w at *
  rw [nI_clamp (show n < 2 ^ 31 by omega)]
  refine ⟨nI_pos (by omega), by omega, by omega, by omega, ?_⟩
  intro fa L11 G12 σ13 hq eL eG eσ
  obtain ⟨o1, k1, cf1⟩ := st_new (k := 18) (m := n) σ6 2 hO hq ⟨by decide, by decide⟩
  rw [← eL, ← eG, ← eσ] at k1 cf1
  rw [← eL, ← eG] at o1
  have ch1 := c0.ka k1
  refine ⟨ch1.mem, ch1.kind, fun G20 e v21 ev => ⟨n + 1, ?_⟩⟩
  subst ev
  obtain ⟨o2, k2, ch2⟩ := st_gr 1 (fa + 1) o1 ch1 (by decide)
  rw [← e] at o2 k2 ch2
  have m1 := ch1.mark
  refine loop5 (n := n) (w := w) (fa := fa) (R0 := va_up (fun _ => 0) 1 (fa + 1)) (v := va_up (fun _ => 0) 0 (nI w)) rfl rfl w120 n12 ?_ n 0 _ _ L11 G20 σ13 _ _ (by omega) (by omega) (by omega) o2 ch2 (cf1.kp k2 (by omega)) (fun j hj => absurd hj (by omega))
  clear ch1 ch2 o1 o2 k1 k2 cf1 m1 e eL eG eσ hq c0 c hO
  intro kc ks L0 G0 σ0 T0 Rf ekc eks o0 h_0 fa_0 rg_0
  refine ⟨by omega, by omega, ?_⟩
  intro qrs A1 B1 D1 hq1 eL eG eσ
  obtain ⟨oI, kI, cI⟩ := st_new (k := 15) (m := 0) σ0 3 o0 hq1 ⟨by decide, by decide⟩
  rw [← eL, ← eG, ← eσ] at kI cI
  rw [← eL, ← eG] at oI
  have hI := h_0.ka kI
  refine ⟨hI.mem, hI.kind, by omega, by omega, mk4 (m := 2 * w + 1) oI cI (by rw [hI.num]; show (2 : Int32) * nI w + 1 = _; rw [show (2 : Int32) * nI w = nI (2 * w) from pk_mul 2 w, nI_1]) (by omega) ?_⟩
  intro L1 G1 σ1 T1 oJ kJ rs_x
  have ka := Ka.of hq1 kI kJ
  have hJ := h_0.ka ka
  have mJ := hJ.mark
  refine ⟨hJ.mem, hJ.kind, fun F1 e => ?_⟩
  obtain ⟨o1, kK, h_1⟩ := st_gr 2 (qrs + 1) oJ hJ (by decide)
  rw [← e] at o1 kK h_1
  have rg_1 := (rg_0.ka ka).kt kK (by omega)
  have fa_1 := (fa_0.ka ka).kp kK (by omega)
  have rs_1 := rs_x.kt kK (by omega)
  clear rs_x mJ hJ ka kI kJ kK cI oI oJ e eL eG eσ hI o0 h_0 rg_0 fa_0
  refine ⟨by omega, by omega, ?_⟩
  intro qa1 A2 B2 D2 hq2 eL eG eσ
  obtain ⟨oI, kI, cI⟩ := st_new (k := 15) (m := 0) σ1 5 o1 hq2 ⟨by decide, by decide⟩
  rw [← eL, ← eG, ← eσ] at kI cI
  rw [← eL, ← eG] at oI
  have hI := h_1.ka kI
  refine ⟨hI.mem, hI.kind, by omega, by omega, mk4 (m := w) oI cI (by rw [hI.num]; rfl) (by omega) ?_⟩
  intro L2 G2 σ2 T2 oJ kJ a1_x
  have ka := Ka.of hq2 kI kJ
  have hJ := h_1.ka ka
  have mJ := hJ.mark
  refine ⟨hJ.mem, hJ.kind, fun F2 e => ?_⟩
  obtain ⟨o2, kK, h_2⟩ := st_gr 3 (qa1 + 1) oJ hJ (by decide)
  rw [← e] at o2 kK h_2
  have rg_2 := (rg_1.ka ka).kt kK (by omega)
  have fa_2 := (fa_1.ka ka).kp kK (by omega)
  have rs_2 := (rs_1.ka ka).kt kK (by omega)
  have a1_2 := a1_x.kt kK (by omega)
  clear a1_x mJ hJ ka kI kJ kK cI oI oJ e eL eG eσ hI o1 h_1 rg_1 fa_1 rs_1
  refine ⟨by omega, by omega, ?_⟩
  intro qa2 A3 B3 D3 hq3 eL eG eσ
  obtain ⟨oI, kI, cI⟩ := st_new (k := 15) (m := 0) σ2 7 o2 hq3 ⟨by decide, by decide⟩
  rw [← eL, ← eG, ← eσ] at kI cI
  rw [← eL, ← eG] at oI
  have hI := h_2.ka kI
  refine ⟨hI.mem, hI.kind, by omega, by omega, mk4 (m := w) oI cI (by rw [hI.num]; rfl) (by omega) ?_⟩
  intro L3 G3 σ3 T3 oJ kJ a2_x
  have ka := Ka.of hq3 kI kJ
  have hJ := h_2.ka ka
  have mJ := hJ.mark
  refine ⟨hJ.mem, hJ.kind, fun F3 e => ?_⟩
  obtain ⟨o3, kK, h_3⟩ := st_gr 4 (qa2 + 1) oJ hJ (by decide)
  rw [← e] at o3 kK h_3
  have rg_3 := (rg_2.ka ka).kt kK (by omega)
  have fa_3 := (fa_2.ka ka).kp kK (by omega)
  have rs_3 := (rs_2.ka ka).kt kK (by omega)
  have a1_3 := (a1_2.ka ka).kt kK (by omega)
  have a2_3 := a2_x.kt kK (by omega)
  clear a2_x mJ hJ ka kI kJ kK cI oI oJ e eL eG eσ hI o2 h_2 rg_2 fa_2 rs_2 a1_2
  refine ⟨by omega, by omega, ?_⟩
  intro qpr A4 B4 D4 hq4 eL eG eσ
  obtain ⟨oI, kI, cI⟩ := st_new (k := 12) (m := 0) σ3 9 o3 hq4 ⟨by decide, by decide⟩
  rw [← eL, ← eG, ← eσ] at kI cI
  rw [← eL, ← eG] at oI
  have hI := h_3.ka kI
  refine ⟨hI.mem, hI.kind, by omega, by omega, wl_cut (fun cut hcut => ?_)⟩
  refine ⟨by omega, by omega, mk1 (w := w) oI cI (by rw [hI.num]; rfl) w120 ?_⟩
  intro L4 G4 σ4 T4 p R v oJ kJ y0 y1 y2 y3 y4 y5 y6 y7
  have pr_x : Pr L4 G4 σ4 T4 qpr w 9 := ⟨R, v, cut, hcut, y1, y2, y3, y4, y5, y6, by rw [y0]; exact y7⟩
  have ka := Ka.of hq4 kI kJ
  have hJ := h_3.ka ka
  have mJ := hJ.mark
  refine ⟨hJ.mem, hJ.kind, fun F4 e => ?_⟩
  obtain ⟨o4, kK, h_4⟩ := st_gr 5 (qpr + 1) oJ hJ (by decide)
  rw [← e] at o4 kK h_4
  have rg_4 := (rg_3.ka ka).kt kK (by omega)
  have fa_4 := (fa_3.ka ka).kp kK (by omega)
  have rs_4 := (rs_3.ka ka).kt kK (by omega)
  have a1_4 := (a1_3.ka ka).kt kK (by omega)
  have a2_4 := (a2_3.ka ka).kt kK (by omega)
  have pr_4 := pr_x.kt kK (by omega)
  clear pr_x mJ hJ ka kI kJ kK cI oI oJ e eL eG eσ hI o3 h_3 rg_3 fa_3 rs_3 a1_3 a2_3
  refine ⟨by omega, by omega, ?_⟩
  intro qdv A5 B5 D5 hq5 eL eG eσ
  obtain ⟨oI, kI, cI⟩ := st_new (k := 11) (m := 0) σ4 11 o4 hq5 ⟨by decide, by decide⟩
  rw [← eL, ← eG, ← eσ] at kI cI
  rw [← eL, ← eG] at oI
  have hI := h_4.ka kI
  refine ⟨hI.mem, hI.kind, by omega, by omega, mk0 (w := w) oI cI (by rw [hI.num]; rfl) w120 ?_⟩
  intro L5 G5 σ5 T5 p1 p2 p3 p4 R oJ kJ y0 y1 y2 y3 y4 y5 y6 y7 y8
  have dv_x : Dv L5 G5 σ5 T5 qdv w 11 := ⟨R, y4, by rw [y0]; exact y5, by rw [y1]; exact y6, by rw [y2]; exact y7, by rw [y3]; exact y8⟩
  have ka := Ka.of hq5 kI kJ
  have hJ := h_4.ka ka
  have mJ := hJ.mark
  refine ⟨hJ.mem, hJ.kind, fun F5 e => ?_⟩
  obtain ⟨o5, kK, h_5⟩ := st_gr 6 (qdv + 1) oJ hJ (by decide)
  rw [← e] at o5 kK h_5
  have rg_5 := (rg_4.ka ka).kt kK (by omega)
  have fa_5 := (fa_4.ka ka).kp kK (by omega)
  have rs_5 := (rs_4.ka ka).kt kK (by omega)
  have a1_5 := (a1_4.ka ka).kt kK (by omega)
  have a2_5 := (a2_4.ka ka).kt kK (by omega)
  have pr_5 := (pr_4.ka ka).kt kK (by omega)
  have dv_5 := dv_x.kt kK (by omega)
  clear dv_x mJ hJ ka kI kJ kK cI oI oJ e eL eG eσ hI o4 h_4 rg_4 fa_4 rs_4 a1_4 a2_4 pr_4
  refine ⟨by omega, by omega, ?_⟩
  intro qtx A6 B6 D6 hq6 eL eG eσ
  obtain ⟨oI, kI, cI⟩ := st_new (k := 14) (m := 0) σ5 18 o5 hq6 ⟨by decide, by decide⟩
  rw [← eL, ← eG, ← eσ] at kI cI
  rw [← eL, ← eG] at oI
  have hI := h_5.ka kI
  refine ⟨hI.mem, hI.kind, by omega, by omega, mk3 (w := w) oI cI (by rw [hI.num]; rfl) w120 ?_⟩
  intro L6 G6 σ6 T6 p R v oJ kJ y0 y1 y2 y3
  have tx_x : Tx L6 G6 σ6 T6 qtx w 18 := ⟨R, v, y1, y2, by rw [y0]; exact y3⟩
  have ka := Ka.of hq6 kI kJ
  have hJ := h_5.ka ka
  have mJ := hJ.mark
  refine ⟨hJ.mem, hJ.kind, fun F6 e => ?_⟩
  obtain ⟨o6, kK, h_6⟩ := st_gr 7 (qtx + 1) oJ hJ (by decide)
  rw [← e] at o6 kK h_6
  have rg_6 := (rg_5.ka ka).kt kK (by omega)
  have fa_6 := (fa_5.ka ka).kp kK (by omega)
  have rs_6 := (rs_5.ka ka).kt kK (by omega)
  have a1_6 := (a1_5.ka ka).kt kK (by omega)
  have a2_6 := (a2_5.ka ka).kt kK (by omega)
  have pr_6 := (pr_5.ka ka).kt kK (by omega)
  have dv_6 := (dv_5.ka ka).kt kK (by omega)
  have tx_6 := tx_x.kt kK (by omega)
  clear tx_x mJ hJ ka kI kJ kK cI oI oJ e eL eG eσ hI o5 h_5 rg_5 fa_5 rs_5 a1_5 a2_5 pr_5 dv_5
  refine ⟨by omega, by omega, ?_⟩
  intro qtp A7 B7 D7 hq7 eL eG eσ
  obtain ⟨oI, kI, cI⟩ := st_new (k := 13) (m := 0) σ6 20 o6 hq7 ⟨by decide, by decide⟩
  rw [← eL, ← eG, ← eσ] at kI cI
  rw [← eL, ← eG] at oI
  have hI := h_6.ka kI
  refine ⟨by omega, by omega, mk2 oI cI ?_⟩
  intro L7 G7 σ7 T7 p R oJ kJ y0 y1 y2
  have tp_x : Tp L7 G7 σ7 T7 qtp 20 := ⟨R, y1, by rw [y0]; exact y2⟩
  have ka := Ka.of hq7 kI kJ
  have hJ := h_6.ka ka
  have mJ := hJ.mark
  refine ⟨hJ.mem, hJ.kind, fun F7 e => ?_⟩
  obtain ⟨o7, kK, h_7⟩ := st_gr 8 (qtp + 1) oJ hJ (by decide)
  rw [← e] at o7 kK h_7
  have rg_7 := (rg_6.ka ka).kt kK (by omega)
  have fa_7 := (fa_6.ka ka).kp kK (by omega)
  have rs_7 := (rs_6.ka ka).kt kK (by omega)
  have a1_7 := (a1_6.ka ka).kt kK (by omega)
  have a2_7 := (a2_6.ka ka).kt kK (by omega)
  have pr_7 := (pr_6.ka ka).kt kK (by omega)
  have dv_7 := (dv_6.ka ka).kt kK (by omega)
  have tx_7 := (tx_6.ka ka).kt kK (by omega)
  have tp_7 := tp_x.kt kK (by omega)
  clear tp_x mJ hJ ka kI kJ kK cI oI oJ e eL eG eσ hI o6 h_6 rg_6 fa_6 rs_6 a1_6 a2_6 pr_6 dv_6 tx_6
  have nf : ∀ {z kz : Nat}, F7.1 z = kz → kz ≠ 18 → (fin F7 fa 10).1 z = kz := fun {z kz} hz hn => (va_up_ne _ _ (fun e => by rw [e, fa_7.kind] at hz; exact hn hz.symm)).trans hz
  have ef : ∀ i, (fin F7 fa 10).2.1 fa i = Rf i - 1 := fun i => by
    show va_up _ fa (fun i => _ - 1) fa i = _
    rw [va_up_self, fa_7.refs]
  have kf : (fin F7 fa 10).1 fa = 10 := va_up_self _ _ _
  obtain ⟨o8, k8, fa_8⟩ := st_fin (k' := 10) o7 fa_7 (by decide) (wf1_k10 kf (fun i hi => by
    have hl : (fin F7 fa 10).2.2 fa = n := fa_7.len
    rw [hl] at hi
    obtain ⟨f, e1, p, Rw, e2, q1, q2⟩ := rg_7 i hi
    rw [ef, e1]
    exact ⟨q1.mem, nf q1.kind (by decide)⟩))
  have mf := fa_7.mark
  have s8 : q_same L7 F7 (fin F7 fa 10) := fin_same (k' := 10) (fun E v => by
    have g1 := fa_7.kind
    have g2 := fa_7.refs
    have g3 := fa_7.len
    have g4 : (fin F7 fa 10).2.2 fa = n := g3
    refine Or.inr ⟨E.2.2.2.2, n, (fun i => qo (Rf i)), (fun i => some (Rf i - 1)), ?_, ?_, fun i hi => ?_⟩
    · unfold q_cell
      rw [g1, g2, g3]
      rfl
    · unfold q_cell
      rw [kf, g4]
      have g5 : (fin F7 fa 10).2.1 fa = fun i => Rf i - 1 := funext ef
      rw [g5]
      rfl
    · obtain ⟨f, e1, -⟩ := rg_7 i hi
      show qo (Rf i) = some (Rf i - 1)
      rw [e1]
      rfl)
  have h_8 := h_7.kp k8 (by omega)
  have rg_8 := rg_7.kt k8 (by omega)
  have rs_8 := rs_7.kt k8 (by omega)
  have a1_8 := a1_7.kt k8 (by omega)
  have a2_8 := a2_7.kt k8 (by omega)
  have pr_8 := pr_7.kt k8 (by omega)
  have dv_8 := dv_7.kt k8 (by omega)
  have tx_8 := tx_7.kt k8 (by omega)
  have tp_8 := tp_7.kt k8 (by omega)
  have er : ∀ i, (fin (fin F7 fa 10) h 5).2.1 h i = va_up (va_up (va_up (va_up (va_up (va_up (va_up (va_up (fun _ => 0) 1 (fa + 1)) 2 (qrs + 1)) 3 (qa1 + 1)) 4 (qa2 + 1)) 5 (qpr + 1)) 6 (qdv + 1)) 7 (qtx + 1)) 8 (qtp + 1) i - 1 := fun i => by
    show va_up _ h (fun i => _ - 1) h i = _
    rw [va_up_self, h_8.refs]
  have kh : (fin (fin F7 fa 10) h 5).1 h = 5 := va_up_self _ _ _
  have nh : ∀ {z kz : Nat}, (fin F7 fa 10).1 z = kz → kz ≠ 16 → (fin (fin F7 fa 10) h 5).1 z = kz := fun {z kz} hz hn => (va_up_ne _ _ (fun e => by rw [e, h_8.kind] at hz; exact hn hz.symm)).trans hz
  have e1 : (fin (fin F7 fa 10) h 5).2.1 h 1 = fa := (er 1).trans rfl
  have e2 : (fin (fin F7 fa 10) h 5).2.1 h 2 = qrs := (er 2).trans rfl
  have e3 : (fin (fin F7 fa 10) h 5).2.1 h 3 = qa1 := (er 3).trans rfl
  have e4 : (fin (fin F7 fa 10) h 5).2.1 h 4 = qa2 := (er 4).trans rfl
  have e5 : (fin (fin F7 fa 10) h 5).2.1 h 5 = qpr := (er 5).trans rfl
  have e6 : (fin (fin F7 fa 10) h 5).2.1 h 6 = qdv := (er 6).trans rfl
  have e7 : (fin (fin F7 fa 10) h 5).2.1 h 7 = qtx := (er 7).trans rfl
  have e8 : (fin (fin F7 fa 10) h 5).2.1 h 8 = qtp := (er 8).trans rfl
  obtain ⟨_, _, _, zrs, _⟩ := id rs_8
  obtain ⟨_, _, _, za1, _⟩ := id a1_8
  obtain ⟨_, _, _, za2, _⟩ := id a2_8
  obtain ⟨_, _, _, _, _, _, _, _, _, zpr, _⟩ := id pr_8
  obtain ⟨_, zdv, _⟩ := id dv_8
  obtain ⟨_, _, _, ztx, _⟩ := id tx_8
  obtain ⟨_, ztp, _⟩ := id tp_8
  obtain ⟨o9, k9, h_9⟩ := st_fin (k' := 5) o8 h_8 (by decide) (wf1_k5 kh (by rw [e1, e2, e3, e4, e5, e6, e7, e8]; exact ⟨⟨fa_8.mem, nh fa_8.kind (by decide)⟩, ⟨zrs.mem, nh zrs.kind (by decide)⟩, ⟨za1.mem, nh za1.kind (by decide)⟩, ⟨za2.mem, nh za2.kind (by decide)⟩, ⟨zpr.mem, nh zpr.kind (by decide)⟩, ⟨zdv.mem, nh zdv.kind (by decide)⟩, ⟨ztx.mem, nh ztx.kind (by decide)⟩, ⟨ztp.mem, nh ztp.kind (by decide)⟩⟩))
  have m8 := h_8.mark
  have s9 : q_same L7 (fin F7 fa 10) (fin (fin F7 fa 10) h 5) := fin_same (k' := 5) (fun E v => by
    have g1 := h_8.kind
    have g2 := h_8.refs
    refine Or.inl ?_
    unfold q_cell
    rw [kh, g1, g2, e1, e2, e3, e4, e5, e6, e7, e8]
    rfl)
  refine ⟨by omega, by omega, _, s8.trans s9, k _ _ _ _ o9 ⟨_, _, _, ?_, h_9, fa_8.kp k9 (by omega), fun j hj => ?_, rs_8.kt k9 (by omega), a1_8.kt k9 (by omega), a2_8.kt k9 (by omega), pr_8.kt k9 (by omega), dv_8.kt k9 (by omega), tx_8.kt k9 (by omega), tp_8.kt k9 (by omega)⟩⟩
  · rfl
  · obtain ⟨f, e1, c1⟩ := rg_8 j hj
    show Wh _ _ _ _ (Rf j - 1) w _
    rw [e1]
    exact c1.kt k9 (by omega)

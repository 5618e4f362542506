/-- Text -/
theorem mk3 {L : List Nat} {G : qG} {σ : qS} {T : Nat → Nat} {q w t : Nat} {x : Int32} {post : List Nat → qG → qS → Prop} (hO : Od L G T) (c : Ce L G σ T q 14 (fun _ => 0) 0 (fun _ => 0) t) (hx : x = nI w) (hm : w ≤ 120)
    (k : ∀ L' G' σ' T' p R v, Od L' G' T' → Kp q L G σ T L' G' σ' T' → R 0 = p → v 1 = nI (10 * w + 1) → Ce L' G' σ' T' q 3 R 0 v t → Ce L' G' σ' T' p 8 (fun _ => 0) (10 * w + 1) (fun _ => 0) (t + 1) → post L' G' σ') : wnX3_init L G q x σ post := by
  subst hx
  have ex : nI w * 10 + 1 = nI (10 * w + 1) := by
    have e1 : nI w * 10 = nI (w * 10) := pk_mul w 10
    rw [e1, nI_1, Nat.mul_comm]
  unfold wnX3_init
  rw [ex, nI_clamp (show 10 * w + 1 < 2 ^ 31 by omega)]
  refine ⟨nI_pos (by omega), by omega, by omega, by omega, ?_⟩
  intro p L2 G3 σ4 hp eL eG eσ
  subst eL eG eσ
  obtain ⟨o1, k1, c1⟩ := st_new (k := 8) (m := 10 * w + 1) σ (t + 1) hO hp ⟨by decide, by decide⟩
  have d1 := c.ka k1
  refine ⟨d1.mem, d1.kind, fun G11 e => ?_⟩
  subst e
  obtain ⟨o2, k2, d2⟩ := st_gr 0 (p + 1) o1 d1 (by decide)
  have c2 := c1.kp k2 (by rw [d1.mark]; omega)
  refine ⟨d2.mem, d2.kind, p, by rw [d2.refs]; rfl, c2.mem, c2.kind, d2.mem, d2.kind, fun σ20 e => ?_⟩
  rw [c2.len] at e
  subst e
  obtain ⟨k3, d3⟩ := st_st 1 (nI (10 * w + 1)) d2
  have c3 := c2.kp k3 (by rw [d2.mark]; omega)
  have eR : (fin (q_gr (q_gs G p 8 (fun _ => 0) (10 * w + 1)) q 0 (p + 1)) q 3).2.1 q 0 = p := by
    show va_up _ q (fun i => _ - 1) q 0 = p
    rw [va_up_self, d3.refs]
    rfl
  have hne : p ≠ q := fun e => hp (e ▸ c.mem)
  have hpk : (fin (q_gr (q_gs G p 8 (fun _ => 0) (10 * w + 1)) q 0 (p + 1)) q 3).1 p = 8 := (va_up_ne _ _ hne).trans c3.kind
  have hqk : (fin (q_gr (q_gs G p 8 (fun _ => 0) (10 * w + 1)) q 0 (p + 1)) q 3).1 q = 3 := va_up_self _ _ _
  obtain ⟨o5, k5, d5⟩ := st_fin (k' := 3) o2 d3 (by decide) (wf1_k3 hqk (by rw [eR]; exact ⟨c3.mem, hpk⟩))
  have c5 := c3.kp k5 (by rw [d3.mark]; omega)
  refine ⟨by omega, by omega, _, fin_same (k' := 3) (fun E v => Or.inl ?_), k _ _ _ _ p _ _ o5 ((k1.p).trans (k2.trans (k3.trans k5))) rfl rfl d5 c5⟩
  have e1 := d3.kind
  have e2 := d3.refs
  unfold q_cell
  rw [hqk, e1, e2, eR]
  rfl
/-- Tape -/
theorem mk2 {L : List Nat} {G : qG} {σ : qS} {T : Nat → Nat} {q t : Nat} {post : List Nat → qG → qS → Prop} (hO : Od L G T) (c : Ce L G σ T q 13 (fun _ => 0) 0 (fun _ => 0) t)
    (k : ∀ L' G' σ' T' p R, Od L' G' T' → Kp q L G σ T L' G' σ' T' → R 0 = p → Ce L' G' σ' T' q 2 R 0 (fun _ => 0) t → Ce L' G' σ' T' p 8 (fun _ => 0) 1300 (fun _ => 0) (t + 1) → post L' G' σ') : wnX2_init L G q σ post := by
  have ex : (1300 : Int32) = nI 1300 := by decide
  unfold wnX2_init
  rw [ex, nI_clamp (show 1300 < 2 ^ 31 by decide)]
  refine ⟨nI_pos (by decide), by decide, by decide, by decide, ?_⟩
  intro p L2 G3 σ4 hp eL eG eσ
  subst eL eG eσ
  obtain ⟨o1, k1, c1⟩ := st_new (k := 8) (m := 1300) σ (t + 1) hO hp ⟨by decide, by decide⟩
  have d1 := c.ka k1
  refine ⟨d1.mem, d1.kind, fun G11 e => ?_⟩
  subst e
  obtain ⟨o2, k2, d2⟩ := st_gr 0 (p + 1) o1 d1 (by decide)
  have c2 := c1.kp k2 (by rw [d1.mark]; omega)
  refine ⟨d2.mem, d2.kind, fun σ14 e => ?_⟩
  subst e
  obtain ⟨k3, d3⟩ := st_st 1 0 d2
  have c3 := c2.kp k3 (by rw [d2.mark]; omega)
  rw [va_up_0] at d3
  have eR : (fin (q_gr (q_gs G p 8 (fun _ => 0) 1300) q 0 (p + 1)) q 2).2.1 q 0 = p := by
    show va_up _ q (fun i => _ - 1) q 0 = p
    rw [va_up_self, d3.refs]
    rfl
  have hne : p ≠ q := fun e => hp (e ▸ c.mem)
  have hpk : (fin (q_gr (q_gs G p 8 (fun _ => 0) 1300) q 0 (p + 1)) q 2).1 p = 8 := (va_up_ne _ _ hne).trans c3.kind
  have hqk : (fin (q_gr (q_gs G p 8 (fun _ => 0) 1300) q 0 (p + 1)) q 2).1 q = 2 := va_up_self _ _ _
  obtain ⟨o5, k5, d5⟩ := st_fin (k' := 2) o2 d3 (by decide) (wf1_k2 hqk (by rw [eR]; exact ⟨c3.mem, hpk⟩))
  have c5 := c3.kp k5 (by rw [d3.mark]; omega)
  refine ⟨by decide, by decide, _, fin_same (k' := 2) (fun E v => Or.inl ?_), k _ _ _ _ p _ o5 ((k1.p).trans (k2.trans (k3.trans k5))) rfl d5 c5⟩
  have e1 := d3.kind
  have e2 := d3.refs
  unfold q_cell
  rw [hqk, e1, e2, eR]
  rfl
theorem wl_room {G : qG} {w : Nat} {σ : qS} {post : Int32 → qS → Prop} (hw : w ≤ 120) (k : post (nI (hroom 8 w)) σ) : wpX1_roomForHalves G (nI w) σ post := by
  have step : ∀ (d a m i : Nat), i + d = 8 → m ≤ 120 → nI a + nI (hroom d m) = nI (hroom 8 w) → lpX1_roomForHalves_6 G post (fun (w7 : Int32) (σ8 : qS) => post w7 σ8) (d + 1) (nI a) (nI m) (nI i) σ := by
    intro d
    induction d with
    | zero =>
      intro a m i hi hm e
      obtain rfl : i = 8 := by omega
      unfold lpX1_roomForHalves_6
      refine ⟨fun _ => ?_, fun h => absurd (show (8 : Int32) ≤ nI 8 by decide) h⟩
      have e0 : nI a = nI (hroom 8 w) := by
        rw [← e]
        show nI a = nI a + nI 0
        rw [nI_add]; rfl
      show post (nI a) σ
      rw [e0]
      exact k
    | succ d ih =>
      intro a m i hi hm e
      unfold lpX1_roomForHalves_6
      refine ⟨fun h => absurd h (nI_ge (a := i) (b := 8) (by omega) (by decide)), fun _ v4 e4 v5 e5 v6 e6 => ?_⟩
      have h1 : nI m + 1 = nI (m + 1) := nI_1 m
      have h2 : nI (m + 1) / 2 = nI ((m + 1) / 2) := pk_div (d := 2) (by omega) (by decide) (by decide)
      rw [h1, h2, nI_1] at e4
      subst e4
      have h3 : (4 : Int32) * nI ((m + 1) / 2 + 1) = nI (4 * ((m + 1) / 2 + 1)) := pk_mul 4 _
      rw [h3, nI_add] at e5
      rw [nI_1] at e6
      subst e5 e6
      refine ih _ _ _ (by omega) (by omega) ?_
      rw [← e, nI_add, nI_add, Nat.add_assoc]
      rfl
  intro v1 e1 v2 e2
  subst e1 e2
  exact ⟨9, step 8 0 w 0 rfl hw (by rw [nI_add, Nat.zero_add])⟩
/-- Products -/
theorem mk1 {L : List Nat} {G : qG} {σ : qS} {T : Nat → Nat} {q w t : Nat} {x y : Int32} {post : List Nat → qG → qS → Prop} (hO : Od L G T) (c : Ce L G σ T q 12 (fun _ => 0) 0 (fun _ => 0) t) (hx : x = nI w) (hm : w ≤ 120)
    (k : ∀ L' G' σ' T' p R v, Od L' G' T' → Kp q L G σ T L' G' σ' T' → R 1 = p → v 0 = y → v 2 = 0 → v 3 = nI w → v 4 = nI (2 * w) → v 5 = nI (4 * w) → Ce L' G' σ' T' q 1 R 0 v t → Ce L' G' σ' T' p 7 (fun _ => 0) (4 * w + hroom 8 w) (fun _ => 0) (t + 1) → post L' G' σ') : wnX1_init L G q x y σ post := by
  subst hx
  have hr : hroom 8 w ≤ 544 := Nat.le_trans (hroom_mono 8 hm) (by decide)
  unfold wnX1_init
  refine ⟨c.mem, c.kind, fun σ3 e => ?_⟩
  subst e
  obtain ⟨k1, d1⟩ := st_st 0 y c
  refine ⟨d1.mem, d1.kind, fun σ6 e => ?_⟩
  subst e
  obtain ⟨k2, d2⟩ := st_st 2 0 d1
  refine ⟨d2.mem, d2.kind, fun σ9 e => ?_⟩
  subst e
  obtain ⟨k3, d3⟩ := st_st 3 (nI w) d2
  refine ⟨d3.mem, d3.kind, fun σ12 e => ?_⟩
  subst e
  obtain ⟨k4, d4⟩ := st_st 4 ((2 : Int32) * nI w) d3
  refine ⟨d4.mem, d4.kind, fun σ15 e => ?_⟩
  have hs : (4 : Int32) * nI w = nI (4 * w) := pk_mul 4 w
  rw [hs] at e
  obtain ⟨k5, d5⟩ := st_st 5 (nI (4 * w)) d4
  rw [← e] at k5 d5
  have hn5 : σ15 q 5 = nI (4 * w) := by rw [d5.num]; rfl
  refine ⟨d5.mem, d5.kind, by decide, by decide, wl_room hm ?_⟩
  rw [hn5, nI_add, nI_clamp (show 4 * w + hroom 8 w < 2 ^ 31 by omega)]
  refine ⟨nI_pos (by omega), by omega, by omega, by omega, ?_⟩
  intro p L2 G3 σ4 hp eL eG eσ
  subst eL eG eσ
  obtain ⟨o6, k6, c6⟩ := st_new (k := 7) (m := 4 * w + hroom 8 w) σ15 (t + 1) hO hp ⟨by decide, by decide⟩
  have d6 := d5.ka k6
  refine ⟨d6.mem, d6.kind, fun G11 e => ?_⟩
  subst e
  obtain ⟨o7, k7, d7⟩ := st_gr 1 (p + 1) o6 d6 (by decide)
  have c7 := c6.kp k7 (by rw [d6.mark]; omega)
  have eR : (fin (q_gr (q_gs G p 7 (fun _ => 0) (4 * w + hroom 8 w)) q 1 (p + 1)) q 1).2.1 q 1 = p := by
    show va_up _ q (fun i => _ - 1) q 1 = p
    rw [va_up_self, d7.refs]
    rfl
  have hne : p ≠ q := fun e => hp (e ▸ c.mem)
  have hpk : (fin (q_gr (q_gs G p 7 (fun _ => 0) (4 * w + hroom 8 w)) q 1 (p + 1)) q 1).1 p = 7 := (va_up_ne _ _ hne).trans c7.kind
  have hqk : (fin (q_gr (q_gs G p 7 (fun _ => 0) (4 * w + hroom 8 w)) q 1 (p + 1)) q 1).1 q = 1 := va_up_self _ _ _
  obtain ⟨o8, k8, d8⟩ := st_fin (k' := 1) o7 d7 (by decide) (wf1_k1 hqk (by rw [eR]; exact ⟨c7.mem, hpk⟩))
  have c8 := c7.kp k8 (by rw [d7.mark]; omega)
  refine ⟨by omega, by omega, _, fin_same (k' := 1) (fun E v => Or.inl ?_), k _ _ _ _ p _ _ o8 (k1.trans (k2.trans (k3.trans (k4.trans (k5.trans ((k6.p).trans (k7.trans k8))))))) rfl rfl rfl rfl (pk_mul 2 w) rfl d8 c8⟩
  have e1 := d7.kind
  have e2 := d7.refs
  unfold q_cell
  rw [hqk, e1, e2, eR]
  rfl

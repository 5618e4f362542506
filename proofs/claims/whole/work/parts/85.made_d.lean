/-- Division -/
theorem mk0 {L : List Nat} {G : qG} {σ : qS} {T : Nat → Nat} {q w t : Nat} {x : Int32} {post : List Nat → qG → qS → Prop} (hO : Od L G T) (c : Ce L G σ T q 11 (fun _ => 0) 0 (fun _ => 0) t) (hx : x = nI w) (hm : w ≤ 120)
    (k : ∀ L' G' σ' T' a b d e R, Od L' G' T' → Kp q L G σ T L' G' σ' T' → R 0 = a → R 1 = b → R 2 = d → R 3 = e → Ce L' G' σ' T' q 0 R 0 (fun _ => 0) t → Wh L' G' σ' T' a (2 * w) (t + 1) → Wh L' G' σ' T' b w (t + 3) → Ce L' G' σ' T' d 7 (fun _ => 0) (2 * w + 1) (fun _ => 0) (t + 5) → Ce L' G' σ' T' e 7 (fun _ => 0) w (fun _ => 0) (t + 6) → post L' G' σ') : wnX0_init L G q x σ post := by
  subst hx
  have ex : (2 : Int32) * nI w = nI (2 * w) := pk_mul 2 w
  unfold wnX0_init
  rw [ex, nI_1, nI_clamp (show 2 * w + 1 < 2 ^ 31 by omega), nI_clamp (show w < 2 ^ 31 by omega)]
  refine ⟨by decide, by decide, ?_⟩
  intro a L2 G3 σ4 ha eL eG eσ
  subst eL eG eσ
  obtain ⟨o1, k1, c1⟩ := st_new (k := 15) (m := 0) σ (t + 1) hO ha ⟨by decide, by decide⟩
  refine ⟨by decide, by decide, mk4 o1 c1 rfl (by omega) ?_⟩
  intro L9 G10 σ11 T11 o2 k2 wa2
  have ka2 := Ka.of ha k1 k2
  have h2 := c.ka ka2
  refine ⟨h2.mem, h2.kind, fun G14 e => ?_⟩
  subst e
  obtain ⟨o3, k3, h3⟩ := st_gr 0 (a + 1) o2 h2 (by decide)
  have wa3 := wa2.kp k3 (by rw [h2.mark]; omega) (by rw [h2.mark]; omega)
  refine ⟨by decide, by decide, ?_⟩
  intro b L16 G17 σ18 hb eL eG eσ
  subst eL eG eσ
  obtain ⟨o4, k4, c4⟩ := st_new (k := 15) (m := 0) σ11 (t + 3) o3 hb ⟨by decide, by decide⟩
  refine ⟨by decide, by decide, mk4 o4 c4 rfl (by omega) ?_⟩
  intro L23 G24 σ25 T25 o5 k5 wb5
  have ka5 := Ka.of hb k4 k5
  have h5 := h3.ka ka5
  have wa5 := wa3.ka ka5
  refine ⟨h5.mem, h5.kind, fun G28 e => ?_⟩
  subst e
  obtain ⟨o6, k6, h6⟩ := st_gr 1 (b + 1) o5 h5 (by decide)
  have wa6 := wa5.kp k6 (by rw [h5.mark]; omega) (by rw [h5.mark]; omega)
  have wb6 := wb5.kp k6 (by rw [h5.mark]; omega) (by rw [h5.mark]; omega)
  refine ⟨nI_pos (by omega), by omega, by omega, by omega, ?_⟩
  intro d L30 G31 σ32 hd eL eG eσ
  subst eL eG eσ
  obtain ⟨o7, k7, c7⟩ := st_new (k := 7) (m := 2 * w + 1) σ25 (t + 5) o6 hd ⟨by decide, by decide⟩
  have h7 := h6.ka k7
  refine ⟨h7.mem, h7.kind, fun G39 e => ?_⟩
  subst e
  obtain ⟨o8, k8, h8⟩ := st_gr 2 (d + 1) o7 h7 (by decide)
  have K8 := (k7.p).trans k8
  have c8 := c7.kp k8 (by rw [h7.mark]; omega)
  have wa8 := wa6.kp K8 (by rw [h6.mark]; omega) (by rw [h6.mark]; omega)
  have wb8 := wb6.kp K8 (by rw [h6.mark]; omega) (by rw [h6.mark]; omega)
  refine ⟨nI_pos (by omega), by omega, by omega, by omega, ?_⟩
  intro f L41 G42 σ43 hf eL eG eσ
  subst eL eG eσ
  obtain ⟨o9, k9, c9⟩ := st_new (k := 7) (m := w) (va_up σ25 d (fun _ => 0)) (t + 6) o8 hf ⟨by decide, by decide⟩
  have h9 := h8.ka k9
  refine ⟨h9.mem, h9.kind, fun G50 e => ?_⟩
  obtain ⟨o10, k10, h10⟩ := st_gr 3 (f + 1) o9 h9 (by decide)
  rw [← e] at o10 k10 h10
  have K10 := (k9.p).trans k10
  have d10 := c9.kp k10 (by rw [h9.mark]; omega)
  have c10 := c8.kp K10 (by rw [h8.mark]; omega)
  have wa10 := wa8.kp K10 (by rw [h8.mark]; omega) (by rw [h8.mark]; omega)
  have wb10 := wb8.kp K10 (by rw [h8.mark]; omega) (by rw [h8.mark]; omega)
  have eR : ∀ i, (fin G50 q 0).2.1 q i = va_up (va_up (va_up (va_up (fun _ => 0) 0 (a + 1)) 1 (b + 1)) 2 (d + 1)) 3 (f + 1) i - 1 := fun i => by
    show va_up _ q (fun i => _ - 1) q i = _
    rw [va_up_self, h10.refs]
  have e0 : (fin G50 q 0).2.1 q 0 = a := (eR 0).trans rfl
  have e1 : (fin G50 q 0).2.1 q 1 = b := (eR 1).trans rfl
  have e2 : (fin G50 q 0).2.1 q 2 = d := (eR 2).trans rfl
  have e3 : (fin G50 q 0).2.1 q 3 = f := (eR 3).trans rfl
  have hqk : (fin G50 q 0).1 q = 0 := va_up_self _ _ _
  have hk : ∀ {z kz : Nat}, G50.1 z = kz → kz ≠ 11 → (fin G50 q 0).1 z = kz := fun {z kz} hz hn => (va_up_ne _ _ (fun e => by rw [e, h10.kind] at hz; exact hn hz.symm)).trans hz
  obtain ⟨pa, Ra, ea, wa, wa'⟩ := wa10
  obtain ⟨pb, Rb, eb, wb, wb'⟩ := wb10
  obtain ⟨o11, k11, h11⟩ := st_fin (k' := 0) o10 h10 (by decide) (wf1_k0 hqk (by rw [e0, e1, e2, e3]; exact ⟨⟨wa.mem, hk wa.kind (by decide)⟩, ⟨wb.mem, hk wb.kind (by decide)⟩, ⟨c10.mem, hk c10.kind (by decide)⟩, ⟨d10.mem, hk d10.kind (by decide)⟩⟩))
  have m10 := h10.mark
  refine ⟨by omega, by omega, _, fin_same (k' := 0) (fun E v => Or.inl ?_), k _ _ _ _ a b d f _ o11 ((ka2.p).trans (k3.trans ((ka5.p).trans (k6.trans (K8.trans (K10.trans k11)))))) rfl rfl rfl rfl h11 ⟨pa, Ra, ea, wa.kp k11 (by omega), wa'.kp k11 (by omega)⟩ ⟨pb, Rb, eb, wb.kp k11 (by omega), wb'.kp k11 (by omega)⟩ (c10.kp k11 (by omega)) (d10.kp k11 (by omega))⟩
  have g1 := h10.kind
  have g2 := h10.refs
  unfold q_cell
  rw [hqk, g1, g2, e0, e1, e2, e3]
  rfl

/-- a finished Whole q of m limbs that holds 0 -/
def Wh (L : List Nat) (G : qG) (σ : qS) (T : Nat → Nat) (q m t : Nat) : Prop := ∃ p R, R 0 = p ∧ Ce L G σ T q 4 R 0 (fun _ => 0) t ∧ Ce L G σ T p 7 (fun _ => 0) m (fun _ => 0) (t + 1)
theorem Wh.ka {L L' : List Nat} {G G' : qG} {σ σ' : qS} {T T' : Nat → Nat} {q m t : Nat} (c : Wh L G σ T q m t) (x : Ka L G σ T L' G' σ' T') : Wh L' G' σ' T' q m t := by
  obtain ⟨p, R, e, c1, c2⟩ := c
  exact ⟨p, R, e, c1.ka x, c2.ka x⟩
theorem Wh.kp {h : Nat} {L L' : List Nat} {G G' : qG} {σ σ' : qS} {T T' : Nat → Nat} {q m t : Nat} (c : Wh L G σ T q m t) (x : Kp h L G σ T L' G' σ' T') (h1 : T h ≠ t) (h2 : T h ≠ t + 1) : Wh L' G' σ' T' q m t := by
  obtain ⟨p, R, e, c1, c2⟩ := c
  exact ⟨p, R, e, c1.kp x h1, c2.kp x h2⟩
theorem va_up_0 {i : Nat} : va_up (fun _ => (0 : Int32)) i 0 = fun _ => 0 := by
  funext j
  show (if j = i then (0 : Int32) else 0) = 0
  exact ite_self _
theorem mk4 {L : List Nat} {G : qG} {σ : qS} {T : Nat → Nat} {q m t : Nat} {x : Int32} {post : List Nat → qG → qS → Prop} (hO : Od L G T) (c : Ce L G σ T q 15 (fun _ => 0) 0 (fun _ => 0) t) (hx : x = nI m) (hm : m ≤ 300)
    (k : ∀ L' G' σ' T', Od L' G' T' → Kp q L G σ T L' G' σ' T' → Wh L' G' σ' T' q m t → post L' G' σ') : wnX4_init L G q x σ post := by
  subst hx
  unfold wnX4_init
  rw [nI_clamp (show m < 2 ^ 31 by omega)]
  refine ⟨nI_pos (by omega), by omega, by omega, by omega, ?_⟩
  intro p L2 G3 σ4 hp eL eG eσ
  subst eL eG eσ
  obtain ⟨o1, k1, c1⟩ := st_new (k := 7) (m := m) σ (t + 1) hO hp ⟨by decide, by decide⟩
  have d1 := c.ka k1
  refine ⟨d1.mem, d1.kind, fun G11 e => ?_⟩
  subst e
  obtain ⟨o2, k2, d2⟩ := st_gr 0 (p + 1) o1 d1 (by decide)
  have c2 := c1.kp k2 (by rw [d1.mark]; omega)
  refine ⟨d2.mem, d2.kind, fun σ14 e => ?_⟩
  subst e
  obtain ⟨k3, d3⟩ := st_st 1 0 d2
  have c3 := c2.kp k3 (by rw [d2.mark]; omega)
  refine ⟨d3.mem, d3.kind, fun σ17 e => ?_⟩
  subst e
  obtain ⟨k4, d4⟩ := st_st 2 0 d3
  have c4 := c3.kp k4 (by rw [d3.mark]; omega)
  rw [va_up_0, va_up_0] at d4
  have eR : (fin (q_gr (q_gs G p 7 (fun _ => 0) m) q 0 (p + 1)) q 4).2.1 q 0 = p := by
    show va_up _ q (fun i => _ - 1) q 0 = p
    rw [va_up_self, d4.refs]
    rfl
  have hne : p ≠ q := fun e => hp (e ▸ c.mem)
  have hpk : (fin (q_gr (q_gs G p 7 (fun _ => 0) m) q 0 (p + 1)) q 4).1 p = 7 := (va_up_ne _ _ hne).trans c4.kind
  have hqk : (fin (q_gr (q_gs G p 7 (fun _ => 0) m) q 0 (p + 1)) q 4).1 q = 4 := va_up_self _ _ _
  obtain ⟨o5, k5, d5⟩ := st_fin (k' := 4) o2 d4 (by decide) ⟨fun e => absurd e (by rw [hqk]; decide), fun e => absurd e (by rw [hqk]; decide), fun e => absurd e (by rw [hqk]; decide), fun e => absurd e (by rw [hqk]; decide), fun _ => by rw [eR]; exact ⟨c4.mem, hpk⟩, fun e => absurd e (by rw [hqk]; decide), fun e => absurd e (by rw [hqk]; decide), fun e => absurd e (by rw [hqk]; decide)⟩
  have c5 := c4.kp k5 (by rw [d4.mark]; omega)
  refine ⟨by omega, by omega, _, fin_same (k' := 4) (fun E v => Or.inl ?_), k _ _ _ _ o5 ((k1.p).trans (k2.trans (k3.trans (k4.trans k5)))) ⟨p, _, rfl, d5, c5⟩⟩
  have e1 := d4.kind
  have e2 := d4.refs
  unfold q_cell
  rw [hqk, e1, e2, eR]
  rfl

/-- parts of the class, as made -/
def Pr (L : List Nat) (G : qG) (σ : qS) (T : Nat → Nat) (q w t : Nat) : Prop := ∃ (R : Nat → Nat) (v : Nat → Int32) (cut : Nat), cut < 100000 ∧ v 0 = nI cut ∧ v 2 = 0 ∧ v 3 = nI w ∧ v 4 = nI (2 * w) ∧ v 5 = nI (4 * w) ∧ Ce L G σ T q 1 R 0 v t ∧ Ce L G σ T (R 1) 7 (fun _ => 0) (4 * w + hroom 8 w) (fun _ => 0) (t + 1)
def Dv (L : List Nat) (G : qG) (σ : qS) (T : Nat → Nat) (q w t : Nat) : Prop := ∃ R : Nat → Nat, Ce L G σ T q 0 R 0 (fun _ => 0) t ∧ Wh L G σ T (R 0) (2 * w) (t + 1) ∧ Wh L G σ T (R 1) w (t + 3) ∧ Ce L G σ T (R 2) 7 (fun _ => 0) (2 * w + 1) (fun _ => 0) (t + 5) ∧ Ce L G σ T (R 3) 7 (fun _ => 0) w (fun _ => 0) (t + 6)
def Tx (L : List Nat) (G : qG) (σ : qS) (T : Nat → Nat) (q w t : Nat) : Prop := ∃ (R : Nat → Nat) (v : Nat → Int32), v 1 = nI (10 * w + 1) ∧ Ce L G σ T q 3 R 0 v t ∧ Ce L G σ T (R 0) 8 (fun _ => 0) (10 * w + 1) (fun _ => 0) (t + 1)
def Tp (L : List Nat) (G : qG) (σ : qS) (T : Nat → Nat) (q t : Nat) : Prop := ∃ R : Nat → Nat, Ce L G σ T q 2 R 0 (fun _ => 0) t ∧ Ce L G σ T (R 0) 8 (fun _ => 0) 1300 (fun _ => 0) (t + 1)
theorem Wh.kt {h : Nat} {L L' : List Nat} {G G' : qG} {σ σ' : qS} {T T' : Nat → Nat} {q m t : Nat} (c : Wh L G σ T q m t) (x : Kp h L G σ T L' G' σ' T') (ht : T h < t) : Wh L' G' σ' T' q m t := c.kp x (by omega) (by omega)
theorem Pr.kt {h : Nat} {L L' : List Nat} {G G' : qG} {σ σ' : qS} {T T' : Nat → Nat} {q w t : Nat} (c : Pr L G σ T q w t) (x : Kp h L G σ T L' G' σ' T') (ht : T h < t) : Pr L' G' σ' T' q w t := by
  obtain ⟨R, v, cut, e1, e2, e3, e4, e5, e6, c1, c2⟩ := c
  exact ⟨R, v, cut, e1, e2, e3, e4, e5, e6, c1.kp x (by omega), c2.kp x (by omega)⟩
theorem Pr.ka {L L' : List Nat} {G G' : qG} {σ σ' : qS} {T T' : Nat → Nat} {q w t : Nat} (c : Pr L G σ T q w t) (x : Ka L G σ T L' G' σ' T') : Pr L' G' σ' T' q w t := by
  obtain ⟨R, v, cut, e1, e2, e3, e4, e5, e6, c1, c2⟩ := c
  exact ⟨R, v, cut, e1, e2, e3, e4, e5, e6, c1.ka x, c2.ka x⟩
theorem Dv.kt {h : Nat} {L L' : List Nat} {G G' : qG} {σ σ' : qS} {T T' : Nat → Nat} {q w t : Nat} (c : Dv L G σ T q w t) (x : Kp h L G σ T L' G' σ' T') (ht : T h < t) : Dv L' G' σ' T' q w t := by
  obtain ⟨R, c1, c2, c3, c4, c5⟩ := c
  exact ⟨R, c1.kp x (by omega), c2.kt x (by omega), c3.kt x (by omega), c4.kp x (by omega), c5.kp x (by omega)⟩
theorem Dv.ka {L L' : List Nat} {G G' : qG} {σ σ' : qS} {T T' : Nat → Nat} {q w t : Nat} (c : Dv L G σ T q w t) (x : Ka L G σ T L' G' σ' T') : Dv L' G' σ' T' q w t := by
  obtain ⟨R, c1, c2, c3, c4, c5⟩ := c
  exact ⟨R, c1.ka x, c2.ka x, c3.ka x, c4.ka x, c5.ka x⟩
theorem Tx.kt {h : Nat} {L L' : List Nat} {G G' : qG} {σ σ' : qS} {T T' : Nat → Nat} {q w t : Nat} (c : Tx L G σ T q w t) (x : Kp h L G σ T L' G' σ' T') (ht : T h < t) : Tx L' G' σ' T' q w t := by
  obtain ⟨R, v, e, c1, c2⟩ := c
  exact ⟨R, v, e, c1.kp x (by omega), c2.kp x (by omega)⟩
theorem Tx.ka {L L' : List Nat} {G G' : qG} {σ σ' : qS} {T T' : Nat → Nat} {q w t : Nat} (c : Tx L G σ T q w t) (x : Ka L G σ T L' G' σ' T') : Tx L' G' σ' T' q w t := by
  obtain ⟨R, v, e, c1, c2⟩ := c
  exact ⟨R, v, e, c1.ka x, c2.ka x⟩
theorem Tp.kt {h : Nat} {L L' : List Nat} {G G' : qG} {σ σ' : qS} {T T' : Nat → Nat} {q t : Nat} (c : Tp L G σ T q t) (x : Kp h L G σ T L' G' σ' T') (ht : T h < t) : Tp L' G' σ' T' q t := by
  obtain ⟨R, c1, c2⟩ := c
  exact ⟨R, c1.kp x (by omega), c2.kp x (by omega)⟩
theorem Tp.ka {L L' : List Nat} {G G' : qG} {σ σ' : qS} {T T' : Nat → Nat} {q t : Nat} (c : Tp L G σ T q t) (x : Ka L G σ T L' G' σ' T') : Tp L' G' σ' T' q t := by
  obtain ⟨R, c1, c2⟩ := c
  exact ⟨R, c1.ka x, c2.ka x⟩
/-- the registers behind the row Rf, their references one higher -/
def Rg (L : List Nat) (G : qG) (σ : qS) (T : Nat → Nat) (Rf : Nat → Nat) (n w : Nat) : Prop := ∀ j, j < n → ∃ f, Rf j = f + 1 ∧ Wh L G σ T f w (30 + 2 * j)
theorem Rg.kt {h : Nat} {L L' : List Nat} {G G' : qG} {σ σ' : qS} {T T' : Nat → Nat} {Rf : Nat → Nat} {n w : Nat} (c : Rg L G σ T Rf n w) (x : Kp h L G σ T L' G' σ' T') (ht : T h < 30) : Rg L' G' σ' T' Rf n w := by
  intro j hj
  obtain ⟨f, e, c1⟩ := c j hj
  exact ⟨f, e, c1.kt x (by omega)⟩
theorem Rg.ka {L L' : List Nat} {G G' : qG} {σ σ' : qS} {T T' : Nat → Nat} {Rf : Nat → Nat} {n w : Nat} (c : Rg L G σ T Rf n w) (x : Ka L G σ T L' G' σ' T') : Rg L' G' σ' T' Rf n w := by
  intro j hj
  obtain ⟨f, e, c1⟩ := c j hj
  exact ⟨f, e, c1.ka x⟩
/-- the class, as made -/
def Fx (L : List Nat) (G : qG) (σ : qS) (T : Nat → Nat) (h n w : Nat) : Prop := ∃ (R Rf : Nat → Nat) (v : Nat → Int32), v 0 = nI w ∧ Ce L G σ T h 5 R 0 v 1 ∧ Ce L G σ T (R 1) 10 Rf n (fun _ => 0) 2 ∧ (∀ j, j < n → Wh L G σ T (Rf j) w (30 + 2 * j)) ∧ Wh L G σ T (R 2) (2 * w + 1) 3 ∧ Wh L G σ T (R 3) w 5 ∧ Wh L G σ T (R 4) w 7 ∧ Pr L G σ T (R 5) w 9 ∧ Dv L G σ T (R 6) w 11 ∧ Tx L G σ T (R 7) w 18 ∧ Tp L G σ T (R 8) 20
theorem Fx.ka {L L' : List Nat} {G G' : qG} {σ σ' : qS} {T T' : Nat → Nat} {h n w : Nat} (c : Fx L G σ T h n w) (x : Ka L G σ T L' G' σ' T') : Fx L' G' σ' T' h n w := by
  obtain ⟨R, Rf, v, e, c0, c1, c2, c3, c4, c5, c6, c7, c8, c9⟩ := c
  exact ⟨R, Rf, v, e, c0.ka x, c1.ka x, fun j hj => (c2 j hj).ka x, c3.ka x, c4.ka x, c5.ka x, c6.ka x, c7.ka x, c8.ka x, c9.ka x⟩
theorem q_like.trans {x y z : va_E} (h1 : q_like x y) (h2 : q_like y z) : q_like x z := by
  rcases h1 with rfl | ⟨c, n, f, g, e1, e2, hf⟩
  · exact h2
  · rcases h2 with rfl | ⟨c', n', f', g', e3, e4, hf'⟩
    · exact Or.inr ⟨c, n, f, g, e1, e2, hf⟩
    · have e := e2.symm.trans e3
      simp only [Sum.inl.injEq, Prod.mk.injEq, Sum.inr.injEq] at e
      obtain ⟨rfl, rfl, rfl⟩ := e
      exact Or.inr ⟨_, _, _, _, e1, e4, fun i hi => (hf i hi).trans (hf' i hi)⟩
theorem q_same.trans {L : List Nat} {G G' G'' : qG} (h1 : q_same L G G') (h2 : q_same L G' G'') : q_same L G G'' := fun E a v ha => (h1 E a v ha).trans (h2 E a v ha)
/-- the registers are made -/
theorem loop5 {h n w fa : Nat} {x3 : Int32} {post : List Nat → qG → qS → Prop} {kx : Nat → Nat → List Nat → qG → qS → Prop} {R0 : Nat → Nat} {v : Nat → Int32} (hR : R0 1 = fa + 1) (hv : v 0 = nI w) (hw : w ≤ 120) (hn : n ≤ 12)
    (hk : ∀ kc ks L G σ T Rf, kc = 1 + 2 * n → ks = n + 303 * n → Od L G T → Ce L G σ T h 16 R0 0 v 1 → Ce L G σ T fa 18 Rf n (fun _ => 0) 2 → Rg L G σ T Rf n w → kx kc ks L G σ) :
    ∀ (k i kc ks : Nat) (L : List Nat) (G : qG) (σ : qS) (T Rf : Nat → Nat), i + k = n → kc = 1 + 2 * i → ks = n + 303 * i → Od L G T → Ce L G σ T h 16 R0 0 v 1 → Ce L G σ T fa 18 Rf n (fun _ => 0) 2 → Rg L G σ T Rf i w → lnX5_init_32 h x3 post kx (k + 1) (nI i) kc ks L G σ := by
  intro k
  induction k with
  | zero =>
    intro i kc ks L G σ T Rf hi e1 e2 o ch cf cr
    obtain rfl : i = n := by omega
    unfold lnX5_init_32
    refine ⟨ch.mem, ch.kind, fa, by rw [ch.refs]; exact hR, cf.mem, cf.kind, fun _ => hk kc ks L G σ T Rf e1 e2 o ch cf cr, fun q => absurd ?_ q⟩
    rw [cf.len]
    exact nI_le (Nat.le_refl _) (by omega)
  | succ k ih =>
    intro i kc ks L G σ T Rf hi e1 e2 o ch cf cr
    unfold lnX5_init_32
    refine ⟨ch.mem, ch.kind, fa, by rw [ch.refs]; exact hR, cf.mem, cf.kind, fun q => absurd q ?_, fun _ => ⟨ch.mem, ch.kind, fa, by rw [ch.refs]; exact hR, by omega, by omega, ?_⟩⟩
    · rw [cf.len]
      exact nI_ge (by omega) (by omega)
    · intro q L34 G35 σ36 hq eL eG eσ
      obtain ⟨o1, k1, c1⟩ := st_new (k := 15) (m := 0) σ (30 + 2 * i) o hq ⟨by decide, by decide⟩
      rw [← eL, ← eG, ← eσ] at k1 c1
      rw [← eL, ← eG] at o1
      have ch1 := ch.ka k1
      refine ⟨ch1.mem, ch1.kind, by omega, by omega, mk4 (m := w) o1 c1 (by rw [ch1.num]; exact hv) (by omega) ?_⟩
      intro L' G' σ' T' o2 k2 wq
      have ka := Ka.of hq k1 k2
      have ch2 := ch.ka ka
      have cf2 := cf.ka ka
      obtain ⟨p, Rw, ew, q1, q2⟩ := id wq
      refine ⟨cf2.mem, cf2.kind, q1.mem, q1.kind, by rw [cf2.len]; exact vp_in_nI (by omega) (by omega), fun G51 e v52 ev => ?_⟩
      rw [nI_clamp (by omega)] at e
      rw [nI_1] at ev
      subst ev
      obtain ⟨o3, k3, cf3⟩ := st_gr i (q + 1) o2 cf2 (by decide)
      rw [← e] at o3 k3 cf3
      have m2 := cf2.mark
      refine ih (i + 1) _ _ L' G51 σ' T' _ (by omega) (by omega) (by omega) o3 (ch2.kp k3 (by omega)) cf3 ?_
      intro j hj
      by_cases ej : j = i
      · subst ej
        exact ⟨q, va_up_self _ _ _, wq.kt k3 (by omega)⟩
      · obtain ⟨f, e4, c4⟩ := cr j (by omega)
        exact ⟨f, (va_up_ne _ _ ej).trans e4, (c4.ka ka).kt k3 (by omega)⟩
theorem wl_cut {G : qG} {x : Int32} {σ : qS} {post : Int32 → qS → Prop} (h : ∀ cut, cut < 100000 → post (nI cut) σ) : wpX5_nearest G x 4 60 σ post := by
  unfold wpX5_nearest
  have e4 : (4 : Int32).toInt = 4 := by decide
  have e60 : (60 : Int32).toInt = 60 := by decide
  have key : ∀ y : Int32, (4 ≤ y.toInt ∧ y.toInt ≤ 60) → post y σ := fun y hy => by
    obtain ⟨j, hj, rfl⟩ := nI_of (x := y) (fun q => by
      have : y.toInt < (0 : Int32).toInt := Int32.lt_iff_toInt_lt.mp q
      have e0 : (0 : Int32).toInt = 0 := by decide
      omega)
    rw [nI_toInt hj] at hy
    exact h j (by omega)
  apply key
  by_cases h1 : x < 60
  · rw [if_pos h1]
    rw [Int32.lt_iff_toInt_lt, e60] at h1
    by_cases h2 : (4 : Int32) < x
    · rw [if_pos h2]
      rw [Int32.lt_iff_toInt_lt, e4] at h2
      omega
    · rw [if_neg h2, e4]; omega
  · rw [if_neg h1, if_pos (by decide), e60]
    omega

/-! Pure level: both objects as made hold the first state; the law. -/
def S0 : qSt := (fun _ => 0, (0, fun _ => 0), (0, fun _ => 0))
theorem Wh.z {L : List Nat} {G : qG} {σ : qS} {T : Nat → Nat} {q m t : Nat} (c : Wh L G σ T q m t) : T q = t ∧ T ((G.2.1 q 0)) = t + 1 ∧ G.2.2 ((G.2.1 q 0)) = m ∧ hZ G σ q 0 := by
  obtain ⟨p, R, rfl, c1, c2⟩ := c
  have e := c1.refs
  refine ⟨c1.mark, by rw [e]; exact c2.mark, by rw [e]; exact c2.len, 0, ⟨by rw [c1.num]; rfl, Nat.zero_le _, by rw [c1.num]; exact Or.inl rfl, fun _ => by rw [c1.num], fun j hj => absurd hj (by omega)⟩, ?_⟩
  unfold wZ wN
  rw [c1.num, if_neg (by decide)]
  rfl
theorem Fx_side {L : List Nat} {G : qG} {σ : qS} {T : Nat → Nat} {h n w : Nat} (c : Fx L G σ T h n w) (hn : nw n w) : fS G h n w T ∧ I5 G σ h n w S0 := by
  obtain ⟨R, Rf, v, ev, c0, c1, c2, c3, c4, c5, ⟨Rp, vp, cut, u1, u2, u3, u4, u5, u6, c6, c6'⟩, ⟨Rd, c7, d0, d1, d2, d3⟩, ⟨Rt, vt, u7, c8, c8'⟩, ⟨Rq, c9, c9'⟩⟩ := c
  have f3 := c3.z
  have f4 := c4.z
  have f5 := c5.z
  have g0 := d0.z
  have g1 := d1.z
  have eh := c0.refs
  have e1 := c1.refs
  have e6 := c6.refs
  have e7 := c7.refs
  have e8 := c8.refs
  have e9 := c9.refs
  have hr : hroom 8 w ≤ 544 := Nat.le_trans (hroom_mono 8 hn.2.2.2) (by decide)
  refine ⟨?_, ?_⟩
  · unfold fS
    rw [eh, e1, e6, e7, e8, e9]
    refine ⟨⟨c0.mark, c1.mark, f3.1, f3.2.1, f4.1, f4.2.1, f5.1, f5.2.1, c6.mark, c6'.mark, c7.mark, g0.1, g0.2.1, g1.1, g1.2.1, d2.mark, d3.mark, c8.mark, c8'.mark, c9.mark, c9'.mark⟩, fun r hr => ?_, ⟨c1.len, f3.2.2.1, f4.2.2.1, f5.2.2.1, g0.2.2.1, g1.2.2.1, d2.len, d3.len, c8'.len, c9'.len⟩, hn⟩
    obtain ⟨x1, x2, x3, -⟩ := (c2 r hr).z
    exact ⟨x1, by rw [x2]; omega, x3⟩
  · unfold I5 pdOk txOk tpOk S0
    rw [eh, e6, e8, e9, e1]
    refine ⟨by rw [c0.num]; exact ev, ⟨⟨cut, by rw [c6.num]; exact u2, u1⟩, by rw [c6.num]; exact u3, by rw [c6.num]; exact u4, by rw [c6.num]; exact u5, by rw [c6.num]; exact u6, c6'.len, by rw [c6'.len]; have := hn.2.2.2; omega, ntg (T := T) (by rw [c6.mark, c6'.mark]; decide)⟩, fun r hr => (c2 r hr).z.2.2.2, ⟨Nat.zero_le _, by rw [c8.num, c8'.len]; exact u7, fun k hk => absurd hk (Nat.not_lt_zero k)⟩, ⟨Nat.zero_le _, by rw [c9.num]; rfl, fun k hk => absurd hk (Nat.not_lt_zero k)⟩⟩
theorem Mx {L : List Nat} {G : qG} {σ : qS} {U : Nat → Nat} {h n w a b d e f : Nat} {R : Nat → Nat} {v : Nat → Int32} (r2 : R 2 = a) (r3 : R 3 = b) (r4 : R 4 = d) (r5 : R 5 = e) (r7 : R 7 = f) (v0 : v 0 = nI n) (v1 : v 1 = nI (2 * w)) (v6 : v 6 = 0) (v8 : v 8 = 0) (c0 : Ce L G σ U h 6 R 0 v 1) (c2 : Ce L G σ U a 7 (fun _ => 0) 12480 (fun _ => 0) 2) (c3 : Ce L G σ U b 7 (fun _ => 0) 24 (fun _ => 0) 3) (c4 : Ce L G σ U d 9 (fun _ => 0) 24 (fun _ => 0) 4) (c5 : Ce L G σ U e 7 (fun _ => 0) 1400 (fun _ => 0) 5) (c7 : Ce L G σ U f 7 (fun _ => 0) 1300 (fun _ => 0) 6) : mS G h U ∧ I6 G σ h n w S0 := by
  have eh := c0.refs
  subst r2 r3 r4 r5 r7
  refine ⟨?_, ?_⟩
  · unfold mS
    rw [eh]
    exact ⟨⟨c0.mark, c2.mark, c3.mark, c4.mark, c5.mark, c7.mark⟩, c2.len, c3.len, c4.len, c5.len, c7.len⟩
  · unfold I6 mW rOk rZ S0
    rw [eh, c0.num]
    refine ⟨v0, v1, ⟨fun j => by rw [c2.num]; exact (by decide : uI 0 < 65536), fun r => by rw [c4.num]; exact Or.inl rfl⟩, fun r hr => ⟨0, ⟨by rw [c3.num]; rfl, Nat.zero_le _, fun j hj => absurd hj (by omega)⟩, Nat.zero_le _, fun _ => by rw [c4.num], ?_⟩, ⟨Nat.zero_le _, v6, fun i hi => absurd hi (Nat.not_lt_zero i)⟩, ⟨Nat.zero_le _, v8, fun i hi => absurd hi (Nat.not_lt_zero i)⟩⟩
    rw [c4.num, if_neg (show ¬ (0 : Int32) = 1 by decide)]
    rfl
theorem law_ok (N : Nat) (xs : Nat → Int32) (hN : N ≤ 2563) : LawOK N xs := by
  intro q1 L1 G1 σ1 h1 eL eG eσ
  have o0 : Od ([] : List Nat) q_G0 (fun _ => 0) := ⟨List.nodup_nil, fun a ha => absurd ha List.not_mem_nil, fun _ _ => rfl⟩
  obtain ⟨o1, -, c1⟩ := st_new (k := 16) (m := 0) q_S0 1 o0 h1 ⟨by decide, by decide⟩
  rw [← eL, ← eG] at o1
  rw [← eL, ← eG, ← eσ] at c1
  have n1 := cl_in (M := 12) (by decide) (q_cellv N xs 0)
  have w1 := cl_in (M := 120) (by decide) (q_cellv N xs 1)
  refine mk5 o1 c1 (fun L2 G2 σ2 T o2 fx => ?_)
  intro q3 L3 G3 σ3 h3 eL3 eG3 eσ3
  have o2' : Od L2 G2 (fun _ => 0) := ⟨o2.1, o2.2.1, fun _ _ => rfl⟩
  obtain ⟨o3, k3, c3⟩ := st_new (k := 17) (m := 0) σ2 1 o2' h3 ⟨by decide, by decide⟩
  rw [← eL3, ← eG3] at o3
  rw [← eL3, ← eG3, ← eσ3] at c3 k3
  refine mk6 o3 c3 ?_
  intro L4 G4 σ4 U a b d e f R v o4 k4 r2 r3 r4 r5 r7 v0 v1 v6 v8 c0 c2 c3 c4 c5 c7
  have ku := Ka.of h3 k3 k4
  have kt : Ka L2 G2 σ2 T L4 G4 σ4 T := fun x hx => ⟨(ku x hx).1, (ku x hx).2.1, (ku x hx).2.2.1, (ku x hx).2.2.2.1, (ku x hx).2.2.2.2.1, rfl⟩
  have fx4 := fx.ka kt
  obtain ⟨hf, hi⟩ := Fx_side fx4 ⟨n1.1, n1.2, w1.1, w1.2⟩
  obtain ⟨hm, hj⟩ := Mx r2 r3 r4 r5 r7 v0 v1 v6 v8 c0 c2 c3 c4 c5 c7
  obtain ⟨R5, Rf, v5, -, z0, -⟩ := fx4
  refine ⟨o4.1, wf1_all o4.2.1, z0.mem, z0.kind, c0.mem, c0.kind, law_loop (T := T) (U := U) ⟨hf, hm, ⟨n1.1, n1.2, w1.1, w1.2⟩, fun x => ?_⟩ hN ⟨hi, hj⟩⟩
  by_cases hx : x ∈ L2
  · exact Or.inr (ku x hx).2.2.2.2.2
  · exact Or.inl (o2.2.2 x hx)

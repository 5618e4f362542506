/-! Pure level: the calls of the reference. -/
def nw (n w : Nat) : Prop := 0 < n ∧ n ≤ 12 ∧ 0 < w ∧ w ≤ 120
def gF (G : qG) (h : Nat) (σ σ' : qS) : Prop := (∀ b, b ≠ (G.2.1 h 2) → b ≠ (G.2.1 h 3) → b ≠ (G.2.1 h 4) → σ' b = σ b) ∧ (∀ j, j < 6240 → σ' (G.2.1 h 2) j = σ (G.2.1 h 2) j) ∧ ∀ r, r < 12 → σ' (G.2.1 h 3) r = σ (G.2.1 h 3) r ∧ σ' (G.2.1 h 4) r = σ (G.2.1 h 4) r
theorem gF.refl {G : qG} {h : Nat} {σ : qS} : gF G h σ σ := ⟨fun _ _ _ _ => rfl, fun _ _ => rfl, fun _ _ => ⟨rfl, rfl⟩⟩
theorem gF.trans {G : qG} {h : Nat} {σ σ' σ'' : qS} (a : gF G h σ σ') (b : gF G h σ' σ'') : gF G h σ σ'' := ⟨fun x h1 h2 h3 => by rw [b.1 x h1 h2 h3, a.1 x h1 h2 h3], fun j hj => by rw [b.2.1 j hj, a.2.1 j hj], fun r hr => ⟨by rw [(b.2.2 r hr).1, (a.2.2 r hr).1], by rw [(b.2.2 r hr).2, (a.2.2 r hr).2]⟩⟩
theorem rF.gF {G : qG} {h d : Nat} {σ σ' : qS} (a : rF G h d σ σ') (h1 : 12 ≤ d) : gF G h σ σ' := ⟨a.1, fun j hj => a.2.1 j (by omega), fun r hr => a.2.2 r (by omega)⟩
theorem dF.gF {G : qG} {h : Nat} {σ σ' : qS} (a : dF G h σ σ') : gF G h σ σ' := ⟨a.1, fun j hj => a.2.1 j (by omega), fun r hr => a.2.2 r (by omega)⟩
theorem gF.same {G : qG} {h r : Nat} {σ σ' : qS} (a : gF G h σ σ') (hr : r < 12) : rSame G h r σ σ' := ⟨fun j hj => a.2.1 _ (by omega), (a.2.2 r hr).1, (a.2.2 r hr).2⟩
theorem gF.out {G : qG} {h : Nat} {σ σ' : qS} {U : Nat → Nat} (a : gF G h σ σ') (hM : mS G h U) : ∀ x, U x = 0 → σ' x = σ x := by
  obtain ⟨⟨gH, gC, gL, gB, gT, gP⟩, kC, kL, kB, kT, kP⟩ := id hM
  exact fun x hx => a.1 x (ntg (T := U) (by omega)) (ntg (T := U) (by omega)) (ntg (T := U) (by omega))
def rZ (G : qG) (σ : qS) (h r c : Nat) : Int := if σ (G.2.1 h 4) r = 1 then -(rV G σ h r c : Int) else (rV G σ h r c : Int)
def I6 (G : qG) (σ : qS) (h n w : Nat) (S : qSt) : Prop := σ h 0 = nI n ∧ σ h 1 = nI (2 * w) ∧ mW G σ h ∧ (∀ r, r < n → ∃ c, rOk G σ h r c ∧ c ≤ 2 * w ∧ (c = 0 → σ (G.2.1 h 4) r = 0) ∧ rZ G σ h r c = S.1 r) ∧ (S.2.1.1 ≤ 1400 ∧ σ h 6 = nI S.2.1.1 ∧ ∀ i, i < S.2.1.1 → σ (G.2.1 h 5) i = nI (S.2.1.2 (S.2.1.1 - 1 - i))) ∧ (S.2.2.1 ≤ 1300 ∧ σ h 8 = nI S.2.2.1 ∧ ∀ i, i < S.2.2.1 → S.2.2.2 i < 256 ∧ σ (G.2.1 h 7) i = nI (S.2.2.2 i))
def K6 (G : qG) (h n w : Nat) (U : Nat → Nat) (σ : qS) (post : Int32 → qS → Prop) (A : Int32 × qSt) : Prop := ∀ σ', (∀ a, U a = 0 → σ' a = σ a) → I6 G σ' h n w A.2 → post A.1 σ'
theorem K6_same {G : qG} {h n w : Nat} {U : Nat → Nat} {σ : qS} {post : Int32 → qS → Prop} {a : Int32} {S : qSt} (k : K6 G h n w U σ post (a, S)) (hI : I6 G σ h n w S) : post a σ := k σ (fun _ _ => rfl) hI
theorem rZ_same {G : qG} {h r c : Nat} {σ σ' : qS} (a : rSame G h r σ σ') (o : rOk G σ h r c) : rZ G σ' h r c = rZ G σ h r c := by
  unfold rZ
  rw [a.2.2, (rOk_same a o).2]
theorem I6_gF {G : qG} {σ τ : qS} {h n w : Nat} {U : Nat → Nat} {S : qSt} (hM : mS G h U) (hn : nw n w) (hI : I6 G σ h n w S) (a : gF G h σ τ) (hW : mW G τ h) : I6 G τ h n w S := by
  obtain ⟨i1, i2, i3, i4, ⟨t1, t2, t3⟩, ⟨p1, p2, p3⟩⟩ := hI
  obtain ⟨n1, n2, n3, n4⟩ := hn
  obtain ⟨⟨gH, gC, gL, gB, gT, gP⟩, kC, kL, kB, kT, kP⟩ := id hM
  have hh : τ h = σ h := a.1 h (ntg (T := U) (by omega)) (ntg (T := U) (by omega)) (ntg (T := U) (by omega))
  have hT : τ (G.2.1 h 5) = σ (G.2.1 h 5) := a.1 _ (ntg (T := U) (by omega)) (ntg (T := U) (by omega)) (ntg (T := U) (by omega))
  have hP : τ (G.2.1 h 7) = σ (G.2.1 h 7) := a.1 _ (ntg (T := U) (by omega)) (ntg (T := U) (by omega)) (ntg (T := U) (by omega))
  refine ⟨by rw [hh]; exact i1, by rw [hh]; exact i2, hW, fun r hr => ?_, ⟨t1, by rw [hh]; exact t2, fun i hi => by rw [hT]; exact t3 i hi⟩, ⟨p1, by rw [hh]; exact p2, fun i hi => by rw [hP]; exact p3 i hi⟩⟩
  obtain ⟨c, o, hc, f, v⟩ := i4 r hr
  have s := a.same (r := r) (by omega)
  exact ⟨c, (rOk_same s o).1, hc, fun q => by rw [s.2.2]; exact f q, by rw [rZ_same s o]; exact v⟩
theorem I6_up {G : qG} {τ σ' : qS} {h n w d c : Nat} {U : Nat → Nat} {S : qSt} {z : Int} (hM : mS G h U) (hI : I6 G τ h n w S) (a : rF G h d τ σ') (hW : mW G σ' h) (o : rOk G σ' h d c) (hc : c ≤ 2 * w) (f : c = 0 → σ' (G.2.1 h 4) d = 0) (v : rZ G σ' h d c = z) : I6 G σ' h n w (up S d z) := by
  obtain ⟨i1, i2, i3, i4, ⟨t1, t2, t3⟩, ⟨p1, p2, p3⟩⟩ := hI
  obtain ⟨⟨gH, gC, gL, gB, gT, gP⟩, kC, kL, kB, kT, kP⟩ := id hM
  have hh : σ' h = τ h := a.1 h (ntg (T := U) (by omega)) (ntg (T := U) (by omega)) (ntg (T := U) (by omega))
  have hT : σ' (G.2.1 h 5) = τ (G.2.1 h 5) := a.1 _ (ntg (T := U) (by omega)) (ntg (T := U) (by omega)) (ntg (T := U) (by omega))
  have hP : σ' (G.2.1 h 7) = τ (G.2.1 h 7) := a.1 _ (ntg (T := U) (by omega)) (ntg (T := U) (by omega)) (ntg (T := U) (by omega))
  refine ⟨by rw [hh]; exact i1, by rw [hh]; exact i2, hW, fun r hr => ?_, ⟨t1, by rw [hh]; exact t2, fun i hi => by rw [hT]; exact t3 i hi⟩, ⟨p1, by rw [hh]; exact p2, fun i hi => by rw [hP]; exact p3 i hi⟩⟩
  show ∃ c, rOk G σ' h r c ∧ c ≤ 2 * w ∧ (c = 0 → σ' (G.2.1 h 4) r = 0) ∧ rZ G σ' h r c = if r = d then z else S.1 r
  by_cases hrd : r = d
  · subst hrd
    rw [if_pos rfl]
    exact ⟨c, o, hc, f, v⟩
  · rw [if_neg hrd]
    obtain ⟨c', o', hc', f', v'⟩ := i4 r hr
    have s := a.same hrd
    exact ⟨c', (rOk_same s o').1, hc', fun q => by rw [s.2.2]; exact f' q, by rw [rZ_same s o']; exact v'⟩
theorem m6_reg {G : qG} {σ : qS} {h n w j : Nat} {S : qSt} (hI : I6 G σ h n w S) (hj : j < n) : ∃ c, rOk G σ h j c ∧ c ≤ 2 * w ∧ rV G σ h j c = (S.1 j).natAbs ∧ (σ (G.2.1 h 4) j = 1 ↔ S.1 j < 0) ∧ (c = 0 ↔ S.1 j = 0) ∧ rZ G σ h j c = S.1 j ∧ (c = 0 → σ (G.2.1 h 4) j = 0) := by
  obtain ⟨i1, i2, i3, i4, -⟩ := hI
  obtain ⟨c, o, hc, f, v⟩ := i4 j hj
  have hz := rOk_zero i3 o
  refine ⟨c, o, hc, ?_, ?_, ?_, v, f⟩
  · rw [← v]; unfold rZ; split <;> omega
  · rw [← v]
    unfold rZ
    constructor
    · intro q
      rw [if_pos q]
      have : c ≠ 0 := fun q2 => by rw [f q2] at q; exact absurd q (by decide)
      omega
    · intro q
      by_cases q2 : σ (G.2.1 h 4) j = 1
      · exact q2
      · rw [if_neg q2] at q; omega
  · rw [← v, hz]
    unfold rZ
    split <;> omega
theorem p16_32 (w : Nat) : (65536 : Nat) ^ (2 * w) = 4294967296 ^ w := by rw [Nat.pow_mul]
theorem m_keep {G : qG} {σ τ : qS} {h n w d row c : Nat} {U : Nat → Nat} {S : qSt} {z : Int} {post : Int32 → qS → Prop} (hM : mS G h U) (hn : nw n w) (hI : I6 G τ h n w S) (hf : ∀ a, U a = 0 → τ a = σ a) (hd : d < n) (h12 : 12 ≤ row) (h24 : row < 24) (o : rOk G τ h row c) (f : c = 0 → τ (G.2.1 h 4) row = 0) (v : rZ G τ h row c = z) (k : K6 G h n w U σ post (spPut w S d z)) : wpX6_keep G h (nI d) (nI row) τ post := by
  have hn' := hn
  obtain ⟨n1, n2, n3, n4⟩ := hn
  have hcnt := rOk_count (k := 2 * w) hI.2.2.1 o
  have hV : rV G τ h row c = z.natAbs := by rw [← v]; unfold rZ; split <;> omega
  rw [hV, p16_32] at hcnt
  have hc520 := o.2.1
  unfold wpX6_keep
  rw [nI_clamp (n := row) (by omega), o.1, hI.2.1, nI_leI (by omega) (by omega)]
  refine ⟨vL hM h24, fun h1 => ?_, fun h1 => ?_⟩
  · rw [spPut_fit (hcnt.mp h1)] at k
    refine m_move hM (by omega) h24 (by omega) hI.2.2.1 o (fun σ' F' W' o' v' b' => k σ' (fun a ha => ?_) (I6_up hM hI F' W' o' h1 (fun q => by rw [b']; exact f q) ?_))
    · obtain ⟨⟨gH, gC, gL, gB, gT, gP⟩, kC, kL, kB, kT, kP⟩ := id hM
      rw [F'.1 a (ntg (T := U) (by omega)) (ntg (T := U) (by omega)) (ntg (T := U) (by omega)), hf a ha]
    · rw [← v]
      unfold rZ
      rw [b', v']
  · rw [spPut_full (fun q => h1 (hcnt.mpr q))] at k
    exact k τ hf hI
/-- a sign set, then kept -/
theorem m_done {G : qG} {σ τ σ' : qS} {h n w d row c : Nat} {U : Nat → Nat} {S : qSt} {z : Int} {s : Int32} {neg : Prop} {post : Int32 → qS → Prop} (hM : mS G h U) (hn : nw n w) (hI : I6 G τ h n w S) (hf : ∀ a, U a = 0 → τ a = σ a) (hd : d < n) (h12 : 12 ≤ row) (h24 : row < 24) (o : rOk G τ h row c) (hs : s = 0 ∨ s = 1) (hsn : s = 1 ↔ neg ∧ c ≠ 0) (hz1 : neg → z = -(rV G τ h row c : Int)) (hz2 : ¬ neg → z = (rV G τ h row c : Int)) (k : K6 G h n w U σ post (spPut w S d z)) (e : σ' = q_st τ (G.2.1 h 4) row s) : wpX6_keep G h (nI d) (nI row) σ' post := by
  have hW := hI.2.2.1
  have hz := rOk_zero hW o
  obtain ⟨⟨gH, gC, gL, gB, gT, gP⟩, kC, kL, kB, kT, kP⟩ := id hM
  have hC : σ' (G.2.1 h 2) = τ (G.2.1 h 2) := by rw [e, q_st_a _ _ (ntg (T := U) (by omega))]
  have hL : σ' (G.2.1 h 3) = τ (G.2.1 h 3) := by rw [e, q_st_a _ _ (ntg (T := U) (by omega))]
  have hB : σ' (G.2.1 h 4) row = s := by rw [e, q_st_self]
  have F : rF G h row τ σ' := ⟨fun b _ _ b3 => by rw [e, q_st_a _ _ b3], fun j _ => by rw [hC], fun t ht => ⟨by rw [hL], by rw [e, q_st_ne _ _ (by omega)]⟩⟩
  have W' : mW G σ' h := ⟨fun j => by rw [hC]; exact hW.1 j, fun t => by
    by_cases ht : t = row
    · rw [ht, hB]; exact hs
    · rw [e, q_st_ne _ _ (by omega)]; exact hW.2 t⟩
  have o' : rOk G σ' h row c := ⟨by rw [hL]; exact o.1, o.2.1, fun j hj => by rw [hC]; exact o.2.2 j hj⟩
  have v' : rV G σ' h row c = rV G τ h row c := mO_congr (fun j _ => by rw [hC])
  have s0 : s ≠ 1 → s = 0 := fun q => hs.resolve_right q
  refine m_keep hM hn (I6_gF hM hn hI (F.gF h12) W') (fun a ha => by rw [(F.gF h12).out hM a ha, hf a ha]) hd h12 h24 o' (fun q => by rw [hB]; exact s0 (fun q2 => (hsn.mp q2).2 q)) ?_ k
  unfold rZ
  rw [hB, v']
  by_cases hneg : neg
  · rw [hz1 hneg]
    by_cases hc : c = 0
    · rw [if_neg (fun q => (hsn.mp q).2 hc), hz.mp hc]
      rfl
    · rw [if_pos (hsn.mpr ⟨hneg, hc⟩)]
  · rw [hz2 hneg, if_neg (fun q => hneg (hsn.mp q).1)]
theorem m6_is {G : qG} {σ : qS} {h n w : Nat} {S : qSt} {x : Int32} {post : Int32 → qS → Prop} (hn : nw n w) (hI : I6 G σ h n w S) (k0 : ∀ j, j < n → x = nI j → rg n x → post 1 σ) (k1 : ¬ rg n x → post 0 σ) : wpX6_is G h x σ post := by
  obtain ⟨n1, n2, n3, n4⟩ := hn
  unfold wpX6_is
  rw [hI.1]
  refine ⟨fun h1 => k1 (fun q => q.1 h1), fun h1 => ⟨fun h2 => k1 (fun q => Int32.not_lt.mpr h2 q.2), fun h2 => ?_⟩⟩
  have h3 : x < nI n := Int32.not_le.mp h2
  obtain ⟨j, hj, e⟩ := rg_of (n := n) (by omega) ⟨h1, h3⟩
  exact k0 j hj e ⟨h1, h3⟩
theorem m6_set {G : qG} {σ : qS} {h n w : Nat} {U : Nat → Nat} {S : qSt} {x1 x2 : Int32} {post : Int32 → qS → Prop} (hM : mS G h U) (hn : nw n w) (hI : I6 G σ h n w S) (k : K6 G h n w U σ post (spSet n S x1 x2)) : wpX6_set G h x1 x2 σ post := by
  unfold wpX6_set
  unfold spSet at k
  refine m6_is hn hI (fun j hj e hr => ⟨fun h => absurd h (by decide), fun _ => ?_⟩) (fun hr => ⟨fun _ => K6_same (by rw [spIf_f hr] at k; exact k) hI, fun h => absurd rfl h⟩)
  have hn' := hn
  obtain ⟨n1, n2, n3, n4⟩ := hn
  subst e
  rw [spIf_t hr, ixo_nI (by omega)] at k
  have hx := uI_lt x2
  have hxi := uI_int x2
  have hfit : x2.toInt.natAbs < 4294967296 ^ w := by
    have h1 : 4294967296 ^ 1 ≤ 4294967296 ^ w := Nat.pow_le_pow_right (by decide) n3
    rw [Nat.pow_one] at h1
    rw [hxi]
    split <;> omega
  rw [← spPut_fit (w := w) (S := S) (d := j) hfit] at k
  have c12 : (12 : Int32).toNatClampNeg = 12 := by decide
  have go : ∀ v : Int64, uL v = x2.toInt.natAbs → bkX6_set_25 G h (nI j) x2 h 12 v post σ := by
    intro v hv
    unfold bkX6_set_25 bkX6_set_43
    rw [c12]
    refine m_small (r := 12) hM (by decide) hI.2.2.1 (fun σ5 F5 W5 M5 B5 => ?_)
    obtain ⟨c, o5, v5⟩ := M5
    rw [hv] at v5
    have hI5 := I6_gF hM hn' hI (F5.gF (by decide)) W5
    have hz := rOk_zero W5 o5
    refine ⟨fun h0 => ⟨vB (r := 12) hM (by decide), Or.inl rfl, fun σ11 e11 => m_done (row := 12) (neg := x2.toInt < 0) hM hn' hI5 ((F5.gF (by decide)).out hM) hj (by decide) (by decide) o5 (Or.inl rfl) ⟨fun q => absurd q (by decide), fun q => ?_⟩ (fun q => by rw [v5]; omega) (fun q => by rw [v5]; omega) k e11⟩, fun h0 => ⟨vB (r := 12) hM (by decide), Or.inr rfl, fun σ11 e11 => m_done (row := 12) (neg := x2.toInt < 0) hM hn' hI5 ((F5.gF (by decide)).out hM) hj (by decide) (by decide) o5 (Or.inr rfl) ⟨fun _ => ?_, fun _ => rfl⟩ (fun q => by rw [v5]; omega) (fun q => by rw [v5]; omega) k e11⟩⟩
    · have h1 : (0 : Int) ≤ x2.toInt := by have := Int32.le_iff_toInt_le.mp h0; exact this
      exact absurd q.1 (by omega)
    · have h1 : x2.toInt < 0 := by
        have := Int32.lt_iff_toInt_lt.mp (Int32.not_le.mp h0)
        exact this
      exact ⟨h1, fun q => by have := hz.mp q; omega⟩
  refine ⟨fun h0 => go _ ?_, fun h0 => go _ ?_⟩
  · have h1 : ¬ x2 < 0 := Int32.not_lt.mpr h0
    rw [uI_neg] at h1
    rw [uL_ext0, if_pos (by omega), hxi, if_pos (by omega)]
    omega
  · have h1 : x2 < 0 := Int32.not_le.mp h0
    rw [uI_neg] at h1
    rw [uL_negv, uL_ext0, if_neg (by omega), hxi, if_neg (by omega)]
    omega
theorem m6_push {G : qG} {σ : qS} {h n w : Nat} {U : Nat → Nat} {S : qSt} {x1 x2 : Int32} {post : Int32 → qS → Prop} (hM : mS G h U) (hn : nw n w) (hI : I6 G σ h n w S) (k : K6 G h n w U σ post (spPush n w S x1 x2)) : wpX6_push G h x1 x2 σ post := by
  unfold wpX6_push
  unfold spPush at k
  refine m6_is hn hI (fun j hj e hr => ⟨fun h => absurd h (by decide), fun _ => ?_⟩) (fun hr => ⟨fun _ => K6_same (by rw [spIf_f hr] at k; exact k) hI, fun h => absurd rfl h⟩)
  have hn' := hn
  obtain ⟨c, o, hc, hv, sg, z0, -, -⟩ := m6_reg hI hj
  obtain ⟨n1, n2, n3, n4⟩ := hn
  subst e
  rw [spIf_t hr, ixo_nI (by omega)] at k
  have c14 : (14 : Int32).toNatClampNeg = 14 := by decide
  unfold bkX6_push_70 bkX6_push_71
  rw [c14, nI_clamp (n := j) (by omega)]
  refine m_small (r := 13) hM (by decide) hI.2.2.1 (fun σ4 F4 W4 M4 B4 => ?_)
  rw [uL_ext] at M4
  have s4 := F4.same (r := j) (by omega)
  obtain ⟨o4, v4⟩ := rOk_same s4 o
  refine m_shiftUp (d := 12) (m := 32) hM (by decide) (by omega) (by omega) W4 o4 (by decide) (by omega) (fun σ6 R6 => ?_)
  rw [v4, hv] at R6
  obtain ⟨F6, W6, -, c6, o6, v6, -⟩ := R6
  obtain ⟨cb, ob, vb⟩ := rM_same (F6.same (r := 13) (by decide)) M4
  have hc6 : c6 ≤ 519 := (rOk_count W6 o6).mpr (by
    rw [v6, ← hv]
    have h1 : rV G σ h j c < 65536 ^ (2 * w) := (rOk_count hI.2.2.1 o).mp hc
    have h2 : 65536 ^ (2 * w) * 2 ^ 32 ≤ 65536 ^ 519 := by
      have : (2 : Nat) ^ 32 = 65536 ^ 2 := by decide
      rw [this, ← Nat.pow_add]
      exact Nat.pow_le_pow_right (by decide) (by omega)
    exact Nat.lt_of_lt_of_le (Nat.mul_lt_mul_of_pos_right h1 (by decide)) h2)
  have hcb : cb ≤ 519 := (rOk_count W6 ob).mpr (by
    rw [vb]
    have h1 := uI_lt x2
    have h2 : 65536 ^ 2 ≤ 65536 ^ 519 := Nat.pow_le_pow_right (by decide) (by decide)
    have h3 : (65536 : Nat) ^ 2 = 4294967296 := by decide
    omega)
  refine m_plus (d := 14) (a := 12) (b := 13) hM (by decide) (by decide) (by decide) (by decide) (by decide) W6 o6 ob hc6 hcb (fun σ8 R8 => ?_)
  rw [v6, vb] at R8
  obtain ⟨F8, W8, -, c8, o8, v8, -⟩ := R8
  have g8 : gF G h σ σ8 := (F4.gF (by decide)).trans ((F6.gF (by decide)).trans (F8.gF (by decide)))
  have hB8 : σ8 (G.2.1 h 4) j = σ (G.2.1 h 4) j := (g8.same (r := j) (by omega)).2.2
  have hI8 := I6_gF hM hn' hI g8 W8
  have h0 := rOk_zero W8 o8
  have hc520 := o8.2.1
  have fin : ∀ s : Int32, (s = 0 ∨ s = 1) → (s = 1 ↔ S.1 j < 0 ∧ c8 ≠ 0) → ∀ σ15, σ15 = q_st σ8 (G.2.1 h 4) 14 s → wpX6_keep G h (nI j) 14 σ15 (fun (u17 : Int32) (σ16 : qS) => post u17 σ16) := by
    intro s hs hsn σ15 e15
    refine m_done (row := 14) (neg := S.1 j < 0) hM hn' hI8 (g8.out hM) hj (by decide) (by decide) o8 hs hsn (fun q => ?_) (fun q => ?_) k e15
    · rw [v8]; unfold pushZ; rw [if_pos q]; omega
    · rw [v8]; unfold pushZ; rw [if_neg q]; omega
  rw [hB8, o8.1, nI_le0 (by omega)]
  refine ⟨vB hM (by omega), fun h1 => ⟨vB (r := 14) hM (by decide), Or.inl rfl, fin 0 (Or.inl rfl) ⟨fun q => absurd q (by decide), fun q => absurd (h1.symm.trans (sg.mpr q.1)) (by decide)⟩⟩, fun h1 => ⟨vL (r := 14) hM (by decide), fun h2 => ⟨vB (r := 14) hM (by decide), Or.inl rfl, fin 0 (Or.inl rfl) ⟨fun q => absurd q (by decide), fun q => absurd h2 q.2⟩⟩, fun h2 => ⟨vB (r := 14) hM (by decide), Or.inr rfl, fin 1 (Or.inr rfl) ⟨fun _ => ⟨sg.mp ((hI.2.2.1.2 j).resolve_left h1), h2⟩, fun _ => rfl⟩⟩⟩⟩
theorem m6_copy {G : qG} {σ : qS} {h n w : Nat} {U : Nat → Nat} {S : qSt} {x1 x2 : Int32} {post : Int32 → qS → Prop} (hM : mS G h U) (hn : nw n w) (hI : I6 G σ h n w S) (k : K6 G h n w U σ post (spCopy n S x1 x2)) : wpX6_copy G h x1 x2 σ post := by
  unfold wpX6_copy
  unfold spCopy at k
  refine m6_is hn hI (fun j hj e hr => ⟨fun h => absurd h (by decide), fun _ => ?_⟩) (fun hr => ⟨fun _ => K6_same (by rw [spIf_f (fun q => hr q.1)] at k; exact k) hI, fun h => absurd rfl h⟩)
  refine m6_is hn hI (fun j2 hj2 e2 hr2 => ⟨fun h => absurd h (by decide), fun _ => ?_⟩) (fun hr => ⟨fun _ => K6_same (by rw [spIf_f (fun q => hr q.2)] at k; exact k) hI, fun h => absurd rfl h⟩)
  have hn' := hn
  obtain ⟨c, o, hc, hv, sg, z0, hz, hf⟩ := m6_reg hI hj2
  obtain ⟨n1, n2, n3, n4⟩ := hn
  subst e e2
  rw [spIf_t ⟨hr, hr2⟩, ixo_nI (by omega), ixo_nI (by omega)] at k
  have hfit : (S.1 j2).natAbs < 4294967296 ^ w := by
    rw [← hv, ← p16_32]
    exact (rOk_count hI.2.2.1 o).mp hc
  rw [← spPut_fit (w := w) (S := S) (d := j) hfit] at k
  refine m_move (d := 12) hM (by decide) (by omega) (by omega) hI.2.2.1 o (fun σ7 F7 W7 o7 v7 b7 => ?_)
  refine m_keep (row := 12) hM hn' (I6_gF hM hn' hI (F7.gF (by decide)) W7) ((F7.gF (by decide)).out hM) hj (by decide) (by decide) o7 (fun q => by rw [b7]; exact hf q) ?_ k
  rw [← hz]
  unfold rZ
  rw [b7, v7]
theorem m6_neg {G : qG} {σ : qS} {h n w : Nat} {U : Nat → Nat} {S : qSt} {x1 : Int32} {post : Int32 → qS → Prop} (hM : mS G h U) (hn : nw n w) (hI : I6 G σ h n w S) (k : K6 G h n w U σ post (spNeg n S x1)) : wpX6_neg G h x1 σ post := by
  unfold wpX6_neg
  unfold spNeg at k
  refine m6_is hn hI (fun j hj e hr => ⟨fun h => absurd h (by decide), fun _ => ?_⟩) (fun hr => ⟨fun _ => K6_same (by rw [spIf_f hr] at k; exact k) hI, fun h => absurd rfl h⟩)
  obtain ⟨c, o, hc, hv, sg, z0, hz, hf⟩ := m6_reg hI hj
  obtain ⟨n1, n2, n3, n4⟩ := hn
  subst e
  rw [spIf_t hr, ixo_nI (by omega)] at k
  have hW := hI.2.2.1
  have hc520 := o.2.1
  have h0 := rOk_zero hW o
  obtain ⟨⟨gH, gC, gL, gB, gT, gP⟩, kC, kL, kB, kT, kP⟩ := id hM
  have fin : ∀ s : Int32, (s = 0 ∨ s = 1) → (s = 1 ↔ ¬ S.1 j < 0 ∧ c ≠ 0) → ∀ σ9, σ9 = q_st σ (G.2.1 h 4) j s → post 0 σ9 := by
    intro s hs hsn σ9 e
    have hC : σ9 (G.2.1 h 2) = σ (G.2.1 h 2) := by rw [e, q_st_a _ _ (ntg (T := U) (by omega))]
    have hL : σ9 (G.2.1 h 3) = σ (G.2.1 h 3) := by rw [e, q_st_a _ _ (ntg (T := U) (by omega))]
    have hB : σ9 (G.2.1 h 4) j = s := by rw [e, q_st_self]
    have F : rF G h j σ σ9 := ⟨fun b _ _ b3 => by rw [e, q_st_a _ _ b3], fun i _ => by rw [hC], fun t ht => ⟨by rw [hL], by rw [e, q_st_ne _ _ (by omega)]⟩⟩
    have W' : mW G σ9 h := ⟨fun i => by rw [hC]; exact hW.1 i, fun t => by
      by_cases ht : t = j
      · rw [ht, hB]; exact hs
      · rw [e, q_st_ne _ _ (by omega)]; exact hW.2 t⟩
    refine k σ9 (fun a ha => F.1 a (ntg (T := U) (by omega)) (ntg (T := U) (by omega)) (ntg (T := U) (by omega))) (I6_up hM hI F W' ⟨by rw [hL]; exact o.1, o.2.1, fun i hi => by rw [hC]; exact o.2.2 i hi⟩ hc (fun q => by rw [hB]; exact hs.resolve_right (fun q2 => (hsn.mp q2).2 q)) ?_)
    have v' : rV G σ9 h j c = rV G σ h j c := mO_congr (fun i _ => by rw [hC])
    unfold rZ
    rw [hB, v', hv]
    by_cases hs1 : s = 1
    · rw [if_pos hs1]
      have := (hsn.mp hs1).1
      omega
    · rw [if_neg hs1]
      by_cases hneg : S.1 j < 0
      · omega
      · have : c = 0 := Decidable.byContradiction (fun q => hs1 (hsn.mpr ⟨hneg, q⟩))
        have := z0.mp this
        omega
  unfold bkX6_neg_37 bkX6_neg_38
  rw [nI_clamp (n := j) (by omega), o.1, nI_le0 (by omega)]
  have vb := vB (r := j) hM (by omega)
  refine ⟨vb, fun h1 => ⟨vL hM (by omega), fun h2 => ⟨vb, Or.inl rfl, fin 0 (Or.inl rfl) ⟨fun q => absurd q (by decide), fun q => absurd h2 q.2⟩⟩, fun h2 => ⟨vb, Or.inr rfl, fin 1 (Or.inr rfl) ⟨fun _ => ⟨fun q => absurd (h1.symm.trans (sg.mpr q)) (by decide), h2⟩, fun _ => rfl⟩⟩⟩, fun h1 => ⟨vb, Or.inl rfl, fin 0 (Or.inl rfl) ⟨fun q => absurd q (by decide), fun q => absurd (sg.mp ((hW.2 j).resolve_left h1)) q.1⟩⟩⟩

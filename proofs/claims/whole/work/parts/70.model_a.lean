/-! Pure level: the reference. Its rows lie in one row of cells, 520 each, digits to the base 65536. -/
def mO (σ : qS) (a p n : Nat) : Nat := nv 65536 (fun i => uI (σ a (p + i))) n
theorem mO_congr {σ σ' : qS} {a a' p p' n : Nat} (h : ∀ j, j < n → σ a (p + j) = σ' a' (p' + j)) : mO σ a p n = mO σ' a' p' n := nv_congr (fun i hi => by simp only [h i hi])
theorem mO_s (σ : qS) (a p n : Nat) : mO σ a p (n + 1) = mO σ a p n + uI (σ a (p + n)) * 65536 ^ n := rfl
theorem mO_add (σ : qS) (a p m n : Nat) : mO σ a p (m + n) = mO σ a p m + 65536 ^ m * mO σ a (p + m) n := by
  unfold mO
  rw [nv_add]
  congr 2
  exact nv_congr (fun i _ => by rw [Nat.add_assoc])
def mS (G : qG) (h : Nat) (U : Nat → Nat) : Prop := (U h = 1 ∧ U (G.2.1 h 2) = 2 ∧ U (G.2.1 h 3) = 3 ∧ U (G.2.1 h 4) = 4 ∧ U (G.2.1 h 5) = 5 ∧ U (G.2.1 h 7) = 6) ∧ G.2.2 (G.2.1 h 2) = 12480 ∧ G.2.2 (G.2.1 h 3) = 24 ∧ G.2.2 (G.2.1 h 4) = 24 ∧ G.2.2 (G.2.1 h 5) = 1400 ∧ G.2.2 (G.2.1 h 7) = 1300
/-- all cells are digits, all signs 0 or 1 -/
def mW (G : qG) (σ : qS) (h : Nat) : Prop := (∀ j, uI (σ (G.2.1 h 2) j) < 65536) ∧ ∀ r, σ (G.2.1 h 4) r = 0 ∨ σ (G.2.1 h 4) r = 1
/-- row r has c digits, the highest not 0 -/
def rOk (G : qG) (σ : qS) (h r c : Nat) : Prop := σ (G.2.1 h 3) r = nI c ∧ c ≤ 520 ∧ ∀ j, c = j + 1 → uI (σ (G.2.1 h 2) (520 * r + j)) ≠ 0
abbrev rV (G : qG) (σ : qS) (h r c : Nat) : Nat := mO σ (G.2.1 h 2) (520 * r) c
/-- row r holds the size N -/
def rM (G : qG) (σ : qS) (h r N : Nat) : Prop := ∃ c, rOk G σ h r c ∧ rV G σ h r c = N
/-- only row d has changed -/
def rF (G : qG) (h d : Nat) (σ σ' : qS) : Prop := (∀ b, b ≠ (G.2.1 h 2) → b ≠ (G.2.1 h 3) → b ≠ (G.2.1 h 4) → σ' b = σ b) ∧ (∀ j, (j < 520 * d ∨ 520 * d + 520 ≤ j) → σ' (G.2.1 h 2) j = σ (G.2.1 h 2) j) ∧ ∀ r, r ≠ d → σ' (G.2.1 h 3) r = σ (G.2.1 h 3) r ∧ σ' (G.2.1 h 4) r = σ (G.2.1 h 4) r
theorem rF.refl {G : qG} {h d : Nat} {σ : qS} : rF G h d σ σ := ⟨fun _ _ _ _ => rfl, fun _ _ => rfl, fun _ _ => ⟨rfl, rfl⟩⟩
theorem rF.trans {G : qG} {h d : Nat} {σ σ' σ'' : qS} (a : rF G h d σ σ') (b : rF G h d σ' σ'') : rF G h d σ σ'' := ⟨fun x h1 h2 h3 => by rw [b.1 x h1 h2 h3, a.1 x h1 h2 h3], fun j hj => by rw [b.2.1 j hj, a.2.1 j hj], fun r hr => ⟨by rw [(b.2.2 r hr).1, (a.2.2 r hr).1], by rw [(b.2.2 r hr).2, (a.2.2 r hr).2]⟩⟩
/-- row r is as it was -/
def rSame (G : qG) (h r : Nat) (σ σ' : qS) : Prop := (∀ j, j < 520 → σ' (G.2.1 h 2) (520 * r + j) = σ (G.2.1 h 2) (520 * r + j)) ∧ σ' (G.2.1 h 3) r = σ (G.2.1 h 3) r ∧ σ' (G.2.1 h 4) r = σ (G.2.1 h 4) r
theorem rSame.trans {G : qG} {h r : Nat} {σ σ' σ'' : qS} (a : rSame G h r σ σ') (b : rSame G h r σ' σ'') : rSame G h r σ σ'' := ⟨fun j hj => by rw [b.1 j hj, a.1 j hj], by rw [b.2.1, a.2.1], by rw [b.2.2, a.2.2]⟩
theorem rF.same {G : qG} {h d r : Nat} {σ σ' : qS} (a : rF G h d σ σ') (hr : r ≠ d) : rSame G h r σ σ' := ⟨fun j hj => a.2.1 _ (by omega), (a.2.2 r hr).1, (a.2.2 r hr).2⟩
theorem rOk_same {G : qG} {h r c : Nat} {σ σ' : qS} (a : rSame G h r σ σ') (o : rOk G σ h r c) : rOk G σ' h r c ∧ rV G σ' h r c = rV G σ h r c := by
  obtain ⟨o1, o2, o3⟩ := o
  exact ⟨⟨by rw [a.2.1]; exact o1, o2, fun j hj => by rw [a.1 j (by omega)]; exact o3 j hj⟩, mO_congr (fun j hj => a.1 j (by omega))⟩
theorem rM_same {G : qG} {h r N : Nat} {σ σ' : qS} (a : rSame G h r σ σ') (o : rM G σ h r N) : rM G σ' h r N := by
  obtain ⟨c, o, v⟩ := o
  obtain ⟨x, y⟩ := rOk_same a o
  exact ⟨c, x, y.trans v⟩
theorem rV_lt {G : qG} {σ : qS} {h r n : Nat} (hW : mW G σ h) : rV G σ h r n < 65536 ^ n := nv_lt (by decide) (fun i _ => hW.1 _)
theorem rOk_count {G : qG} {σ : qS} {h r c k : Nat} (hW : mW G σ h) (o : rOk G σ h r c) : c ≤ k ↔ rV G σ h r c < 65536 ^ k := by
  obtain ⟨o1, o2, o3⟩ := o
  constructor
  · intro hc
    exact Nat.lt_of_lt_of_le (rV_lt hW) (Nat.pow_le_pow_right (by decide) hc)
  · intro hlt
    rcases Nat.lt_or_ge k c with h1 | h1
    · obtain ⟨j, rfl⟩ : ∃ j, c = j + 1 := ⟨c - 1, by omega⟩
      have h2 : 65536 ^ j ≤ rV G σ h r (j + 1) := nv_ge (Nat.pos_of_ne_zero (o3 j rfl))
      have h3 : 65536 ^ k ≤ 65536 ^ j := Nat.pow_le_pow_right (by decide) (by omega)
      omega
    · exact h1
theorem rOk_zero {G : qG} {σ : qS} {h r c : Nat} (hW : mW G σ h) (o : rOk G σ h r c) : c = 0 ↔ rV G σ h r c = 0 := by
  have := rOk_count (k := 0) hW o
  rw [Nat.pow_zero] at this
  omega
/-- row d now holds the size N -/
def rR (G : qG) (h d : Nat) (σ σ' : qS) (N : Nat) : Prop := rF G h d σ σ' ∧ mW G σ' h ∧ (σ (G.2.1 h 4) d = 0 → σ' (G.2.1 h 4) d = 0) ∧ ∃ c, rOk G σ' h d c ∧ rV G σ' h d c = N ∧ (c = 0 → σ' (G.2.1 h 4) d = 0)
theorem rR.ok {G : qG} {h d : Nat} {σ σ' : qS} {N : Nat} (a : rR G h d σ σ' N) : rM G σ' h d N := by
  obtain ⟨-, -, -, c, o, v, -⟩ := a
  exact ⟨c, o, v⟩
theorem m_ix (r k : Nat) : (520 : Int32) * nI r + nI k = nI (520 * r + k) := by
  have : (520 : Int32) = nI 520 := by decide
  rw [this, pk_mul, nI_add]
theorem vL {G : qG} {h r : Nat} {U : Nat → Nat} (hM : mS G h U) (hr : r < 24) : vp_in (nI r) (G.2.2 (G.2.1 h 3)) := by
  obtain ⟨⟨gH, gC, gL, gB, gT, gP⟩, kC, kL, kB, kT, kP⟩ := id hM
  exact vp_in_nI (by omega) (by omega)
theorem vB {G : qG} {h r : Nat} {U : Nat → Nat} (hM : mS G h U) (hr : r < 24) : vp_in (nI r) (G.2.2 (G.2.1 h 4)) := by
  obtain ⟨⟨gH, gC, gL, gB, gT, gP⟩, kC, kL, kB, kT, kP⟩ := id hM
  exact vp_in_nI (by omega) (by omega)
theorem vC {G : qG} {h p : Nat} {U : Nat → Nat} (hM : mS G h U) (hp : p < 12480) : vp_in (nI p) (G.2.2 (G.2.1 h 2)) := by
  obtain ⟨⟨gH, gC, gL, gB, gT, gP⟩, kC, kL, kB, kT, kP⟩ := id hM
  exact vp_in_nI (by omega) (by omega)
def mdg (G : qG) (σ : qS) (h r c k : Nat) : Nat := if k < c then uI (σ (G.2.1 h 2) (520 * r + k)) else 0
theorem mdg_lt {G : qG} {σ : qS} {h r c k : Nat} (hW : mW G σ h) : mdg G σ h r c k < 65536 := by
  unfold mdg
  split
  · exact hW.1 _
  · decide
theorem nv_mdg (G : qG) (σ : qS) (h r c : Nat) {n : Nat} (hc : c ≤ n) : nv 65536 (mdg G σ h r c) n = rV G σ h r c := by
  rw [nv_trim hc (fun j h1 h2 => by unfold mdg; rw [if_neg (by omega)])]
  exact nv_congr (fun i hi => by unfold mdg; rw [if_pos hi])
theorem m_digit {G : qG} {σ : qS} {h r c k : Nat} {U : Nat → Nat} {post : Int32 → qS → Prop} (hM : mS G h U) (hr : r < 24) (hk : k < 2 ^ 31) (hl : σ (G.2.1 h 3) r = nI c) (hc : c ≤ 520) (kk : post (nI (mdg G σ h r c k)) σ) : wpX6_digit G h (nI r) (nI k) σ post := by
  unfold wpX6_digit
  unfold mdg at kk
  rw [nI_clamp (by omega), hl, nI_leI (by omega) hk]
  refine ⟨vL hM hr, fun h1 => ?_, fun h1 => ?_⟩
  · rw [if_neg (by omega)] at kk
    exact kk
  · rw [if_pos (by omega), ← nI_uI'] at kk
    rw [m_ix, nI_clamp (by omega)]
    exact ⟨vC hM (by omega), kk⟩
theorem m_put {G : qG} {σ : qS} {h r k : Nat} {v : Int32} {U : Nat → Nat} {post : qS → Prop} (hM : mS G h U) (hr : r < 24) (hk : k < 520) (kk : ∀ σ', σ' = q_st σ (G.2.1 h 2) (520 * r + k) v → post σ') : wpX6_put G h (nI r) (nI k) v σ post := by
  unfold wpX6_put
  rw [m_ix, nI_clamp (by omega)]
  exact ⟨vC hM (by omega), kk⟩
theorem rF_put {G : qG} {h d k : Nat} {σ σ' : qS} {v : Int32} {U : Nat → Nat} (hM : mS G h U) (hk : k < 520) (e : σ' = q_st σ (G.2.1 h 2) (520 * d + k) v) : rF G h d σ σ' := by
  obtain ⟨⟨gH, gC, gL, gB, gT, gP⟩, kC, kL, kB, kT, kP⟩ := id hM
  exact ⟨fun b h1 _ _ => by rw [e, q_st_a _ _ h1], fun j hj => by rw [e, q_st_ne _ _ (by omega)], fun r _ => by rw [e, q_st_a _ _ (ntg (T := U) (by omega)), q_st_a _ _ (ntg (T := U) (by omega))]; exact ⟨rfl, rfl⟩⟩
theorem mW_put {G : qG} {h p : Nat} {σ σ' : qS} {v : Int32} {U : Nat → Nat} (hM : mS G h U) (hW : mW G σ h) (hv : uI v < 65536) (e : σ' = q_st σ (G.2.1 h 2) p v) : mW G σ' h := by
  obtain ⟨⟨gH, gC, gL, gB, gT, gP⟩, kC, kL, kB, kT, kP⟩ := id hM
  refine ⟨fun j => ?_, fun r => by rw [e, q_st_a _ _ (ntg (T := U) (by omega))]; exact hW.2 r⟩
  by_cases hj : j = p
  · rw [e, hj, q_st_self]; exact hv
  · rw [e, q_st_ne _ _ (by omega)]; exact hW.1 j
theorem m_trim {G : qG} {σ : qS} {h r n : Nat} {U : Nat → Nat} {post : qS → Prop} (hM : mS G h U) (hr : r < 24) (hn : n ≤ 520) (hW : mW G σ h)
    (k : ∀ σ', (∀ b, b ≠ (G.2.1 h 3) → b ≠ (G.2.1 h 4) → σ' b = σ b) → rR G h r σ σ' (mO σ (G.2.1 h 2) (520 * r) n) → post σ') : wpX6_trim G h (nI r) (nI n) σ post := by
  obtain ⟨⟨gH, gC, gL, gB, gT, gP⟩, kC, kL, kB, kT, kP⟩ := id hM
  unfold wpX6_trim
  refine lp2 (W := fun f x τ => lpX6_trim_2 G h (nI r) post _ f x τ) (I := fun x τ => τ = σ ∧ ∃ c, c ≤ n ∧ x = nI c ∧ ∀ j, c ≤ j → j < n → uI (σ (G.2.1 h 2) (520 * r + j)) = 0) (μ := fun x _ => x.toNatClampNeg) ?_ (nI n) σ ⟨rfl, n, Nat.le_refl _, rfl, fun j h1 h2 => absurd h1 (by omega)⟩
  intro f x τ hI ih
  obtain ⟨rfl, c, hc, rfl, hz⟩ := hI
  have fin : (∀ j, c = j + 1 → uI (τ (G.2.1 h 2) (520 * r + j)) ≠ 0) → bkX6_trim_29 G h (nI r) (nI c) post τ := by
    intro ht
    have out : ∀ (s : Int32) (τ' : qS), τ' = q_st (q_st τ (G.2.1 h 3) r (nI c)) (G.2.1 h 4) r s → (s = 0 ∨ s = 1) → (τ (G.2.1 h 4) r = 0 → s = 0) → (c = 0 → s = 0) → post τ' := by
      intro s τ' e hs h1 h2
      have hC : τ' (G.2.1 h 2) = τ (G.2.1 h 2) := by rw [e, q_st_a _ _ (ntg (T := U) (by omega)), q_st_a _ _ (ntg (T := U) (by omega))]
      have hB : τ' (G.2.1 h 4) r = s := by rw [e, q_st_self]
      have hL : τ' (G.2.1 h 3) r = nI c := by rw [e, q_st_a _ _ (ntg (T := U) (by omega)), q_st_self]
      refine k τ' (fun b b1 b2 => by rw [e, q_st_a _ _ b2, q_st_a _ _ b1]) ⟨⟨fun b b1 b2 b3 => by rw [e, q_st_a _ _ b3, q_st_a _ _ b2], fun j _ => by rw [hC], fun t ht => ⟨?_, ?_⟩⟩, ⟨fun j => by rw [hC]; exact hW.1 j, fun t => ?_⟩, fun h3 => by rw [hB]; exact h1 h3, c, ⟨hL, by omega, fun j hj => by rw [hC]; exact ht j hj⟩, ?_, fun h3 => by rw [hB]; exact h2 h3⟩
      · rw [e, q_st_a _ _ (ntg (T := U) (by omega)), q_st_ne _ _ (by omega)]
      · rw [e, q_st_ne _ _ (by omega), q_st_a _ _ (ntg (T := U) (by omega))]
      · by_cases htr : t = r
        · rw [htr, hB]; exact hs
        · rw [e, q_st_ne _ _ (by omega), q_st_a _ _ (ntg (T := U) (by omega))]; exact hW.2 t
      · show mO τ' (G.2.1 h 2) (520 * r) c = mO τ (G.2.1 h 2) (520 * r) n
        rw [mO_congr (σ := τ') (σ' := τ) (a' := (G.2.1 h 2)) (p' := 520 * r) (fun j _ => by rw [hC])]
        exact (nv_trim hc (fun j h1 h2 => hz j h1 h2)).symm
    unfold bkX6_trim_29 bkX6_trim_58
    rw [nI_clamp (by omega)]
    refine ⟨vL hM hr, fun σ10 e10 => ⟨vB hM hr, ?_⟩⟩
    have hb : σ10 (G.2.1 h 4) r = τ (G.2.1 h 4) r := by rw [e10, q_st_a _ _ (ntg (T := U) (by omega))]
    rw [hb, nI_le0 (by omega)]
    refine ⟨fun h1 => ⟨vB hM hr, fun σ15 e15 => out 0 σ15 (by rw [e15, e10]) (Or.inl rfl) (fun _ => rfl) (fun _ => rfl)⟩, fun h1 => ⟨fun h2 => ⟨vB hM hr, fun σ15 e15 => out 0 σ15 (by rw [e15, e10]) (Or.inl rfl) (fun _ => rfl) (fun _ => rfl)⟩, fun h2 => ⟨vB hM hr, fun σ18 e18 => out 1 σ18 (by rw [e18, e10]) (Or.inr rfl) (fun h3 => absurd h3 h1) (fun h3 => absurd h3 h2)⟩⟩⟩
  show lpX6_trim_2 G h (nI r) post _ (f + 1) _ _
  unfold lpX6_trim_2
  rw [nI_le0 (by omega), m_ix]
  refine ⟨fun h0 => fin (fun j hj => absurd hj (by omega)), fun h0 => ?_⟩
  rw [nI_m1 (by omega), nI_clamp (by omega), uI_eq0]
  refine ⟨vC hM (by omega), fun h1 v5 e5 => ih v5 τ ⟨rfl, c - 1, by omega, by rw [e5, i32_m1, nI_m1 (by omega)], fun j j1 j2 => ?_⟩ ?_, fun h1 => fin (fun j hj => ?_)⟩
  · rcases Nat.lt_or_ge (c - 1) j with h3 | h3
    · exact hz j (by omega) j2
    · rw [show 520 * r + j = 520 * r + c - 1 by omega]; exact h1
  · show v5.toNatClampNeg < (nI c).toNatClampNeg
    rw [e5, i32_m1, nI_m1 (by omega), nI_clamp (by omega), nI_clamp (by omega)]
    omega
  · rw [show 520 * r + j = 520 * r + c - 1 by omega]; exact h1
theorem m_move {G : qG} {σ : qS} {h d a c : Nat} {U : Nat → Nat} {post : qS → Prop} (hM : mS G h U) (hd : d < 24) (ha : a < 24) (hda : d ≠ a) (hW : mW G σ h) (o : rOk G σ h a c)
    (k : ∀ σ', rF G h d σ σ' → mW G σ' h → rOk G σ' h d c → rV G σ' h d c = rV G σ h a c → σ' (G.2.1 h 4) d = σ (G.2.1 h 4) a → post σ') : wpX6_move G h (nI d) (nI a) σ post := by
  obtain ⟨⟨gH, gC, gL, gB, gT, gP⟩, kC, kL, kB, kT, kP⟩ := id hM
  obtain ⟨o1, o2, o3⟩ := o
  unfold wpX6_move
  rw [nI_clamp (n := a) (by omega), nI_clamp (n := d) (by omega)]
  intro v1 e1
  refine lp2 (W := fun f x τ => lpX6_move_2 G h (nI d) (nI a) post _ f x τ) (I := fun x τ => ∃ i, i ≤ c ∧ x = nI i ∧ rF G h d σ τ ∧ mW G τ h ∧ τ (G.2.1 h 3) = σ (G.2.1 h 3) ∧ τ (G.2.1 h 4) = σ (G.2.1 h 4) ∧ ∀ j, j < i → τ (G.2.1 h 2) (520 * d + j) = σ (G.2.1 h 2) (520 * a + j)) (μ := fun x _ => c - x.toNatClampNeg) ?_ v1 σ ⟨0, Nat.zero_le _, e1, rF.refl, hW, rfl, rfl, fun j hj => absurd hj (by omega)⟩
  intro f x τ hI ih
  obtain ⟨i, hi, rfl, hF, hWt, hL, hB, hs⟩ := hI
  show lpX6_move_2 G h (nI d) (nI a) post _ (f + 1) _ _
  unfold lpX6_move_2
  rw [hL, nI_clamp (n := a) (by omega), o1, nI_leI (by omega) (by omega)]
  refine ⟨vL hM ha, fun h1 => ?_, fun h1 => ?_⟩
  · have : i = c := by omega
    subst this
    show vp_in _ _ ∧ _
    refine ⟨vL hM ha, vL hM hd, fun σ14 e14 => ⟨vB hM ha, vB hM hd, ?_⟩⟩
    have hB14 : σ14 (G.2.1 h 4) = σ (G.2.1 h 4) := by rw [e14, q_st_a _ _ (ntg (T := U) (by omega)), hB]
    rw [hB14]
    refine ⟨hW.2 a, fun σ19 e19 => ?_⟩
    have hC : σ19 (G.2.1 h 2) = τ (G.2.1 h 2) := by rw [e19, q_st_a _ _ (ntg (T := U) (by omega)), e14, q_st_a _ _ (ntg (T := U) (by omega))]
    refine k σ19 (hF.trans ⟨fun b b1 b2 b3 => by rw [e19, q_st_a _ _ b3, e14, q_st_a _ _ b2], fun j _ => by rw [hC], fun r hr => ⟨by rw [e19, q_st_a _ _ (ntg (T := U) (by omega)), e14, q_st_ne _ _ (by omega)], by rw [e19, q_st_ne _ _ (by omega), hB14, hB]⟩⟩) ⟨fun j => by rw [hC]; exact hWt.1 j, fun r => ?_⟩ ⟨by rw [e19, q_st_a _ _ (ntg (T := U) (by omega)), e14, q_st_self], o2, fun j hj => by rw [hC, hs j (by omega)]; exact o3 j hj⟩ (mO_congr (fun j hj => by rw [hC, hs j hj])) (by rw [e19, q_st_self])
    by_cases hr : r = d
    · rw [e19, hr, q_st_self]; exact hW.2 a
    · rw [e19, q_st_ne _ _ (by omega), hB14]; exact hW.2 r
  · rw [m_ix, m_ix, nI_clamp (by omega), nI_clamp (by omega)]
    refine ⟨vC hM (by omega), vC hM (by omega), fun σ8 e8 v9 e9 => ih v9 σ8 ⟨i + 1, by omega, by rw [e9, nI_1], hF.trans (rF_put hM (by omega) e8), mW_put hM hWt (hWt.1 _) e8, by rw [e8, q_st_a _ _ (ntg (T := U) (by omega)), hL], by rw [e8, q_st_a _ _ (ntg (T := U) (by omega)), hB], fun j hj => ?_⟩ ?_⟩
    · rcases Nat.lt_or_ge j i with h2 | h2
      · rw [e8, q_st_ne _ _ (by omega)]; exact hs j h2
      · rw [e8, show j = i by omega, q_st_self]
        exact hF.2.1 _ (by omega)
    · show c - v9.toNatClampNeg < c - (nI i).toNatClampNeg
      rw [e9, nI_1, nI_clamp (by omega), nI_clamp (by omega)]
      omega
theorem uL_lo16 (x : Int64) : uL (x &&& 65535) = uL x % 65536 := by
  show (x.toUInt64 &&& Int64.toUInt64 65535).toNat = _
  rw [UInt64.toNat_and]
  exact Nat.and_two_pow_sub_one_eq_mod _ 16
theorem uL_s16 (x : Int64) : uL (x.toUInt64 >>> ((16 : Int32).toInt64.toUInt64 &&& Int64.toUInt64 63)).toInt64 = uL x / 65536 := uL_srr (r := 16) x (by decide)
theorem m_small {G : qG} {σ : qS} {h r : Nat} {v : Int64} {U : Nat → Nat} {post : qS → Prop} (hM : mS G h U) (hr : r < 24) (hW : mW G σ h)
    (k : ∀ σ', rF G h r σ σ' → mW G σ' h → rM G σ' h r (uL v) → σ' (G.2.1 h 4) r = 0 → post σ') : wpX6_small G h (nI r) v σ post := by
  obtain ⟨⟨gH, gC, gL, gB, gT, gP⟩, kC, kL, kB, kT, kP⟩ := id hM
  have hv64 := uL_lt v
  unfold wpX6_small
  intro v1 e1
  refine lp3 (W := fun f x4 x5 τ => lpX6_small_6 G h (nI r) post _ f x4 x5 τ) (I := fun x4 x5 τ => ∃ i, i ≤ 4 ∧ x4 = nI i ∧ uL x5 = uL v / 65536 ^ i ∧ rF G h r σ τ ∧ mW G τ h ∧ mO τ (G.2.1 h 2) (520 * r) i + uL x5 * 65536 ^ i = uL v ∧ ∀ j, i = j + 1 → uI (τ (G.2.1 h 2) (520 * r + j)) ≠ 0 ∨ uL x5 ≠ 0) (μ := fun _ x5 _ => uL x5) ?_ v1 v σ ⟨0, by omega, e1, by rw [Nat.pow_zero, Nat.div_one], rF.refl, hW, by show 0 + uL v * 1 = _; omega, fun j hj => absurd hj (by omega)⟩
  intro f x4 x5 τ hI ih
  obtain ⟨i, hi, rfl, hx, hF, hWt, hv, ht⟩ := hI
  show lpX6_small_6 G h (nI r) post _ (f + 1) _ _ _
  unfold lpX6_small_6
  rw [lc_eq, uL_eq0]
  refine ⟨fun h0 => ?_, fun h0 => ?_⟩
  · show vp_in _ _ ∧ _
    rw [nI_clamp (by omega)]
    refine ⟨vL hM hr, fun σ11 e11 => ⟨vB hM hr, fun σ14 e14 => ?_⟩⟩
    have hC : σ14 (G.2.1 h 2) = τ (G.2.1 h 2) := by rw [e14, q_st_a _ _ (ntg (T := U) (by omega)), e11, q_st_a _ _ (ntg (T := U) (by omega))]
    refine k σ14 (hF.trans ⟨fun b b1 b2 b3 => by rw [e14, q_st_a _ _ b3, e11, q_st_a _ _ b2], fun j _ => by rw [hC], fun t ht => ⟨by rw [e14, q_st_a _ _ (ntg (T := U) (by omega)), e11, q_st_ne _ _ (by omega)], by rw [e14, q_st_ne _ _ (by omega), e11, q_st_a _ _ (ntg (T := U) (by omega))]⟩⟩) ⟨fun j => by rw [hC]; exact hWt.1 j, fun t => ?_⟩ ⟨i, ⟨by rw [e14, q_st_a _ _ (ntg (T := U) (by omega)), e11, q_st_self], by omega, fun j hj => by rw [hC]; exact (ht j hj).resolve_right (fun q => q h0)⟩, ?_⟩ (by rw [e14, q_st_self])
    · by_cases hr : t = r
      · rw [e14, hr, q_st_self]; exact Or.inl rfl
      · rw [e14, q_st_ne _ _ (by omega), e11, q_st_a _ _ (ntg (T := U) (by omega))]; exact hWt.2 t
    · show mO σ14 (G.2.1 h 2) (520 * r) i = _
      rw [mO_congr (σ := σ14) (σ' := τ) (a' := (G.2.1 h 2)) (p' := 520 * r) (fun j _ => by rw [hC])]
      rw [h0] at hv
      omega
  · have hi3 : i ≤ 3 := by
      rcases Nat.lt_or_ge 3 i with h1 | h1
      · have : i = 4 := by omega
        subst this
        rw [Nat.div_eq_of_lt (by omega)] at hx
        exact absurd hx h0
      · exact h1
    refine m_put hM hr (by omega) (fun σ3 e3 v5 e5 v6 e6 => ?_)
    have hdig : uI (x5 &&& 65535).toInt32 = uL x5 % 65536 := by rw [uI_low, uL_lo16]; omega
    have h6 : uL v6 = uL x5 / 65536 := by rw [e6, uL_s16]
    refine ih v5 v6 σ3 ⟨i + 1, by omega, by rw [e5, nI_1], by rw [h6, hx, Nat.pow_succ, Nat.div_div_eq_div_mul], hF.trans (rF_put hM (by omega) e3), mW_put hM hWt (by rw [hdig]; omega) e3, ?_, fun j hj => ?_⟩ (by show uL v6 < uL x5; omega)
    · rw [mO_s, mO_congr (σ := σ3) (σ' := τ) (a' := (G.2.1 h 2)) (p' := 520 * r) (fun j hj => by rw [e3, q_st_ne _ _ (by omega)]), e3, q_st_self, hdig, h6]
      have hcs := carry_step 65536 (uL x5) (65536 ^ i)
      rw [← Nat.pow_succ] at hcs
      rw [Nat.add_assoc, hcs]
      exact hv
    · have : j = i := by omega
      subst this
      rw [e3, q_st_self, hdig, h6]
      omega
theorem m_order {G : qG} {σ : qS} {h a b ca cb : Nat} {U : Nat → Nat} {post : Int32 → qS → Prop} (hM : mS G h U) (ha : a < 24) (hb : b < 24) (hW : mW G σ h) (oa : rOk G σ h a ca) (ob : rOk G σ h b cb)
    (k : ∀ r : Int32, ((rV G σ h a ca < rV G σ h b cb ∧ r = -1) ∨ (rV G σ h a ca = rV G σ h b cb ∧ r = 0) ∨ (rV G σ h b cb < rV G σ h a ca ∧ r = 1)) → post r σ) : wpX6_order G h (nI a) (nI b) σ post := by
  have na := rOk_count (k := cb) hW oa
  have nb := rOk_count (k := ca) hW ob
  have la := rV_lt (r := a) (n := ca) hW
  have lb := rV_lt (r := b) (n := cb) hW
  obtain ⟨a1, a2, a3⟩ := oa
  obtain ⟨b1, b2, b3⟩ := ob
  unfold wpX6_order
  rw [nI_clamp (n := a) (by omega), nI_clamp (n := b) (by omega), a1, b1, nI_eq (by omega) (by omega), nI_leI (by omega) (by omega)]
  refine ⟨vL hM ha, vL hM hb, fun he => ⟨vL hM ha, fun v6 e6 => ?_⟩, fun hne => ⟨vL hM ha, vL hM hb, fun h1 => k 1 (Or.inr (Or.inr ⟨?_, rfl⟩)), fun h1 => k (-1) (Or.inl ⟨?_, rfl⟩)⟩⟩
  · subst he
    refine lp2 (W := fun f x τ => lpX6_order_45 G h (nI a) (nI b) post _ _ f x τ) (I := fun x τ => τ = σ ∧ ∃ i, i ≤ ca ∧ x = nI i - 1 ∧ ∀ j, i ≤ j → j < ca → uI (σ (G.2.1 h 2) (520 * a + j)) = uI (σ (G.2.1 h 2) (520 * b + j))) (μ := fun x _ => (x + 1).toNatClampNeg) ?_ v6 σ ⟨rfl, ca, Nat.le_refl _, e6, fun j h1 h2 => absurd h1 (by omega)⟩
    intro f x τ hI ih
    obtain ⟨rfl, i, hi, rfl, hs⟩ := hI
    show lpX6_order_45 G h (nI a) (nI b) post _ _ (f + 1) _ _
    unfold lpX6_order_45
    rw [nI_m1neg (by omega)]
    refine ⟨fun h0 => ?_, fun h0 => ?_⟩
    · subst h0
      exact k 0 (Or.inr (Or.inl ⟨nv_congr (fun j hj => hs j (Nat.zero_le _) hj), rfl⟩))
    · obtain ⟨i', rfl⟩ : ∃ i', i = i' + 1 := ⟨i - 1, by omega⟩
      rw [nI_pred]
      refine m_digit hM ha (by omega) a1 a2 (m_digit hM hb (by omega) b1 b2 ?_)
      have hda : mdg G τ h a ca i' = uI (τ (G.2.1 h 2) (520 * a + i')) := by unfold mdg; rw [if_pos (by omega)]
      have hdb : mdg G τ h b ca i' = uI (τ (G.2.1 h 2) (520 * b + i')) := by unfold mdg; rw [if_pos (by omega)]
      have wa := hW.1 (520 * a + i')
      have wb := hW.1 (520 * b + i')
      rw [hda, hdb, nI_eq (by omega) (by omega)]
      refine ⟨fun hq v13 e13 => ih v13 τ ⟨rfl, i', by omega, by rw [e13, i32_m1], fun j j1 j2 => ?_⟩ ?_, fun hq => ?_⟩
      · rcases Nat.lt_or_ge i' j with h5 | h5
        · exact hs j (by omega) j2
        · rw [show j = i' by omega]; exact hq
      · show (v13 + 1).toNatClampNeg < (nI (i' + 1) - 1 + 1).toNatClampNeg
        rw [e13, i32_m1, i32_mp, i32_mp, nI_clamp (by omega), nI_clamp (by omega)]
        omega
      · refine m_digit hM ha (by omega) a1 a2 (m_digit hM hb (by omega) b1 b2 ?_)
        rw [hda, hdb, nI_leI (by omega) (by omega)]
        refine ⟨fun h3 => k 1 (Or.inr (Or.inr ⟨?_, rfl⟩)), fun h3 => k (-1) (Or.inl ⟨?_, rfl⟩)⟩
        · exact nv_lt_at (by decide) (i := i') (by omega) (fun j h4 h5 => (hs j (by omega) h5).symm) (show uI (τ (G.2.1 h 2) (520 * b + i')) < uI (τ (G.2.1 h 2) (520 * a + i')) by omega) (fun j _ => hW.1 _)
        · exact nv_lt_at (by decide) (i := i') (by omega) (fun j h4 h5 => hs j (by omega) h5) (show uI (τ (G.2.1 h 2) (520 * a + i')) < uI (τ (G.2.1 h 2) (520 * b + i')) by omega) (fun j _ => hW.1 _)
  · have h2 : ¬ rV G σ h a ca < 65536 ^ cb := fun q => absurd (na.mpr q) (by omega)
    omega
  · have h2 : ¬ rV G σ h b cb < 65536 ^ ca := fun q => absurd (nb.mpr q) (by omega)
    omega

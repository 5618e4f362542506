/-! Pure level: making. T gives each cell its mark; a cell that is being made is raw (kind 11 and up). -/
def Ka (L : List Nat) (G : qG) (σ : qS) (T : Nat → Nat) (L' : List Nat) (G' : qG) (σ' : qS) (T' : Nat → Nat) : Prop := ∀ a, a ∈ L → a ∈ L' ∧ G'.1 a = G.1 a ∧ G'.2.1 a = G.2.1 a ∧ G'.2.2 a = G.2.2 a ∧ σ' a = σ a ∧ T' a = T a
def Kp (h : Nat) (L : List Nat) (G : qG) (σ : qS) (T : Nat → Nat) (L' : List Nat) (G' : qG) (σ' : qS) (T' : Nat → Nat) : Prop := ∀ a, a ∈ L → a ≠ h → a ∈ L' ∧ G'.1 a = G.1 a ∧ G'.2.1 a = G.2.1 a ∧ G'.2.2 a = G.2.2 a ∧ σ' a = σ a ∧ T' a = T a
theorem Kp.trans {h : Nat} {L L' L'' : List Nat} {G G' G'' : qG} {σ σ' σ'' : qS} {T T' T'' : Nat → Nat} (x : Kp h L G σ T L' G' σ' T') (y : Kp h L' G' σ' T' L'' G'' σ'' T'') : Kp h L G σ T L'' G'' σ'' T'' := fun a ha hn => by
  obtain ⟨a1, a2, a3, a4, a5, a6⟩ := x a ha hn
  obtain ⟨b1, b2, b3, b4, b5, b6⟩ := y a a1 hn
  exact ⟨b1, b2.trans a2, b3.trans a3, b4.trans a4, b5.trans a5, b6.trans a6⟩
theorem Kp.refl {h : Nat} {L : List Nat} {G : qG} {σ : qS} {T : Nat → Nat} : Kp h L G σ T L G σ T := fun _ ha _ => ⟨ha, rfl, rfl, rfl, rfl, rfl⟩
theorem Ka.p {h : Nat} {L L' : List Nat} {G G' : qG} {σ σ' : qS} {T T' : Nat → Nat} (x : Ka L G σ T L' G' σ' T') : Kp h L G σ T L' G' σ' T' := fun a ha _ => x a ha
theorem Ka.of {q : Nat} {L L' L'' : List Nat} {G G' G'' : qG} {σ σ' σ'' : qS} {T T' T'' : Nat → Nat} (hq : q ∉ L) (x : Ka L G σ T L' G' σ' T') (y : Kp q L' G' σ' T' L'' G'' σ'' T'') : Ka L G σ T L'' G'' σ'' T'' := fun a ha => by
  obtain ⟨a1, a2, a3, a4, a5, a6⟩ := x a ha
  obtain ⟨b1, b2, b3, b4, b5, b6⟩ := y a a1 (fun e => hq (e ▸ ha))
  exact ⟨b1, b2.trans a2, b3.trans a3, b4.trans a4, b5.trans a5, b6.trans a6⟩
/-- what a finished cell owes -/
def wf1 (G : qG) (L : List Nat) (a : Nat) : Prop :=
  (G.1 a = 0 → (G.2.1 a 0 ∈ L ∧ G.1 (G.2.1 a 0) = 4) ∧ (G.2.1 a 1 ∈ L ∧ G.1 (G.2.1 a 1) = 4) ∧ (G.2.1 a 2 ∈ L ∧ G.1 (G.2.1 a 2) = 7) ∧ (G.2.1 a 3 ∈ L ∧ G.1 (G.2.1 a 3) = 7)) ∧
  (G.1 a = 1 → (G.2.1 a 1 ∈ L ∧ G.1 (G.2.1 a 1) = 7)) ∧
  (G.1 a = 2 → (G.2.1 a 0 ∈ L ∧ G.1 (G.2.1 a 0) = 8)) ∧
  (G.1 a = 3 → (G.2.1 a 0 ∈ L ∧ G.1 (G.2.1 a 0) = 8)) ∧
  (G.1 a = 4 → (G.2.1 a 0 ∈ L ∧ G.1 (G.2.1 a 0) = 7)) ∧
  (G.1 a = 5 → (G.2.1 a 1 ∈ L ∧ G.1 (G.2.1 a 1) = 10) ∧ (G.2.1 a 2 ∈ L ∧ G.1 (G.2.1 a 2) = 4) ∧ (G.2.1 a 3 ∈ L ∧ G.1 (G.2.1 a 3) = 4) ∧ (G.2.1 a 4 ∈ L ∧ G.1 (G.2.1 a 4) = 4) ∧ (G.2.1 a 5 ∈ L ∧ G.1 (G.2.1 a 5) = 1) ∧ (G.2.1 a 6 ∈ L ∧ G.1 (G.2.1 a 6) = 0) ∧ (G.2.1 a 7 ∈ L ∧ G.1 (G.2.1 a 7) = 3) ∧ (G.2.1 a 8 ∈ L ∧ G.1 (G.2.1 a 8) = 2)) ∧
  (G.1 a = 6 → (G.2.1 a 2 ∈ L ∧ G.1 (G.2.1 a 2) = 7) ∧ (G.2.1 a 3 ∈ L ∧ G.1 (G.2.1 a 3) = 7) ∧ (G.2.1 a 4 ∈ L ∧ G.1 (G.2.1 a 4) = 9) ∧ (G.2.1 a 5 ∈ L ∧ G.1 (G.2.1 a 5) = 7) ∧ (G.2.1 a 7 ∈ L ∧ G.1 (G.2.1 a 7) = 7)) ∧
  (G.1 a = 10 → ∀ i, i < G.2.2 a → (G.2.1 a i ∈ L ∧ G.1 (G.2.1 a i) = 4))
theorem wf1_all {G : qG} {L : List Nat} (h : ∀ a, a ∈ L → wf1 G L a) : q_WF G L := ⟨fun a ha => (h a ha).1, fun a ha => (h a ha).2.1, fun a ha => (h a ha).2.2.1, fun a ha => (h a ha).2.2.2.1, fun a ha => (h a ha).2.2.2.2.1, fun a ha => (h a ha).2.2.2.2.2.1, fun a ha => (h a ha).2.2.2.2.2.2.1, fun a ha => (h a ha).2.2.2.2.2.2.2⟩
theorem wf1_raw {G : qG} {L : List Nat} {a : Nat} (h : 7 ≤ G.1 a ∧ G.1 a ≠ 10) : wf1 G L a := ⟨fun e => absurd e (by omega), fun e => absurd e (by omega), fun e => absurd e (by omega), fun e => absurd e (by omega), fun e => absurd e (by omega), fun e => absurd e (by omega), fun e => absurd e (by omega), fun e => absurd e (by omega)⟩
theorem wf1_tr {G G' : qG} {L L' : List Nat} {a : Nat} (hw : wf1 G L a) (e1 : G'.1 a = G.1 a) (e2 : G'.2.1 a = G.2.1 a) (e3 : G'.2.2 a = G.2.2 a) (hs : ∀ b j, j ≤ 10 → (b ∈ L ∧ G.1 b = j) → (b ∈ L' ∧ G'.1 b = j)) : wf1 G' L' a := by
  obtain ⟨w0, w1, w2, w3, w4, w5, w6, w7⟩ := hw
  unfold wf1
  rw [e1, e2, e3]
  refine ⟨fun e => ?_, fun e => hs _ _ (by decide) (w1 e), fun e => hs _ _ (by decide) (w2 e), fun e => hs _ _ (by decide) (w3 e), fun e => hs _ _ (by decide) (w4 e), fun e => ?_, fun e => ?_, fun e i hi => hs _ _ (by decide) (w7 e i hi)⟩
  · obtain ⟨x0, x1, x2, x3⟩ := w0 e
    exact ⟨hs _ _ (by decide) x0, hs _ _ (by decide) x1, hs _ _ (by decide) x2, hs _ _ (by decide) x3⟩
  · obtain ⟨x0, x1, x2, x3, x4, x5, x6, x7⟩ := w5 e
    exact ⟨hs _ _ (by decide) x0, hs _ _ (by decide) x1, hs _ _ (by decide) x2, hs _ _ (by decide) x3, hs _ _ (by decide) x4, hs _ _ (by decide) x5, hs _ _ (by decide) x6, hs _ _ (by decide) x7⟩
  · obtain ⟨x0, x1, x2, x3, x4⟩ := w6 e
    exact ⟨hs _ _ (by decide) x0, hs _ _ (by decide) x1, hs _ _ (by decide) x2, hs _ _ (by decide) x3, hs _ _ (by decide) x4⟩
theorem wf1_k0 {G : qG} {L : List Nat} {a : Nat} (hk : G.1 a = 0) (h : (G.2.1 a 0 ∈ L ∧ G.1 (G.2.1 a 0) = 4) ∧ (G.2.1 a 1 ∈ L ∧ G.1 (G.2.1 a 1) = 4) ∧ (G.2.1 a 2 ∈ L ∧ G.1 (G.2.1 a 2) = 7) ∧ (G.2.1 a 3 ∈ L ∧ G.1 (G.2.1 a 3) = 7)) : wf1 G L a := ⟨fun _ => h, fun e => absurd (hk.symm.trans e) (by decide), fun e => absurd (hk.symm.trans e) (by decide), fun e => absurd (hk.symm.trans e) (by decide), fun e => absurd (hk.symm.trans e) (by decide), fun e => absurd (hk.symm.trans e) (by decide), fun e => absurd (hk.symm.trans e) (by decide), fun e => absurd (hk.symm.trans e) (by decide)⟩
theorem wf1_k1 {G : qG} {L : List Nat} {a : Nat} (hk : G.1 a = 1) (h : (G.2.1 a 1 ∈ L ∧ G.1 (G.2.1 a 1) = 7)) : wf1 G L a := ⟨fun e => absurd (hk.symm.trans e) (by decide), fun _ => h, fun e => absurd (hk.symm.trans e) (by decide), fun e => absurd (hk.symm.trans e) (by decide), fun e => absurd (hk.symm.trans e) (by decide), fun e => absurd (hk.symm.trans e) (by decide), fun e => absurd (hk.symm.trans e) (by decide), fun e => absurd (hk.symm.trans e) (by decide)⟩
theorem wf1_k2 {G : qG} {L : List Nat} {a : Nat} (hk : G.1 a = 2) (h : (G.2.1 a 0 ∈ L ∧ G.1 (G.2.1 a 0) = 8)) : wf1 G L a := ⟨fun e => absurd (hk.symm.trans e) (by decide), fun e => absurd (hk.symm.trans e) (by decide), fun _ => h, fun e => absurd (hk.symm.trans e) (by decide), fun e => absurd (hk.symm.trans e) (by decide), fun e => absurd (hk.symm.trans e) (by decide), fun e => absurd (hk.symm.trans e) (by decide), fun e => absurd (hk.symm.trans e) (by decide)⟩
theorem wf1_k3 {G : qG} {L : List Nat} {a : Nat} (hk : G.1 a = 3) (h : (G.2.1 a 0 ∈ L ∧ G.1 (G.2.1 a 0) = 8)) : wf1 G L a := ⟨fun e => absurd (hk.symm.trans e) (by decide), fun e => absurd (hk.symm.trans e) (by decide), fun e => absurd (hk.symm.trans e) (by decide), fun _ => h, fun e => absurd (hk.symm.trans e) (by decide), fun e => absurd (hk.symm.trans e) (by decide), fun e => absurd (hk.symm.trans e) (by decide), fun e => absurd (hk.symm.trans e) (by decide)⟩
theorem wf1_k4 {G : qG} {L : List Nat} {a : Nat} (hk : G.1 a = 4) (h : (G.2.1 a 0 ∈ L ∧ G.1 (G.2.1 a 0) = 7)) : wf1 G L a := ⟨fun e => absurd (hk.symm.trans e) (by decide), fun e => absurd (hk.symm.trans e) (by decide), fun e => absurd (hk.symm.trans e) (by decide), fun e => absurd (hk.symm.trans e) (by decide), fun _ => h, fun e => absurd (hk.symm.trans e) (by decide), fun e => absurd (hk.symm.trans e) (by decide), fun e => absurd (hk.symm.trans e) (by decide)⟩
theorem wf1_k5 {G : qG} {L : List Nat} {a : Nat} (hk : G.1 a = 5) (h : (G.2.1 a 1 ∈ L ∧ G.1 (G.2.1 a 1) = 10) ∧ (G.2.1 a 2 ∈ L ∧ G.1 (G.2.1 a 2) = 4) ∧ (G.2.1 a 3 ∈ L ∧ G.1 (G.2.1 a 3) = 4) ∧ (G.2.1 a 4 ∈ L ∧ G.1 (G.2.1 a 4) = 4) ∧ (G.2.1 a 5 ∈ L ∧ G.1 (G.2.1 a 5) = 1) ∧ (G.2.1 a 6 ∈ L ∧ G.1 (G.2.1 a 6) = 0) ∧ (G.2.1 a 7 ∈ L ∧ G.1 (G.2.1 a 7) = 3) ∧ (G.2.1 a 8 ∈ L ∧ G.1 (G.2.1 a 8) = 2)) : wf1 G L a := ⟨fun e => absurd (hk.symm.trans e) (by decide), fun e => absurd (hk.symm.trans e) (by decide), fun e => absurd (hk.symm.trans e) (by decide), fun e => absurd (hk.symm.trans e) (by decide), fun e => absurd (hk.symm.trans e) (by decide), fun _ => h, fun e => absurd (hk.symm.trans e) (by decide), fun e => absurd (hk.symm.trans e) (by decide)⟩
theorem wf1_k6 {G : qG} {L : List Nat} {a : Nat} (hk : G.1 a = 6) (h : (G.2.1 a 2 ∈ L ∧ G.1 (G.2.1 a 2) = 7) ∧ (G.2.1 a 3 ∈ L ∧ G.1 (G.2.1 a 3) = 7) ∧ (G.2.1 a 4 ∈ L ∧ G.1 (G.2.1 a 4) = 9) ∧ (G.2.1 a 5 ∈ L ∧ G.1 (G.2.1 a 5) = 7) ∧ (G.2.1 a 7 ∈ L ∧ G.1 (G.2.1 a 7) = 7)) : wf1 G L a := ⟨fun e => absurd (hk.symm.trans e) (by decide), fun e => absurd (hk.symm.trans e) (by decide), fun e => absurd (hk.symm.trans e) (by decide), fun e => absurd (hk.symm.trans e) (by decide), fun e => absurd (hk.symm.trans e) (by decide), fun e => absurd (hk.symm.trans e) (by decide), fun _ => h, fun e => absurd (hk.symm.trans e) (by decide)⟩
theorem wf1_k10 {G : qG} {L : List Nat} {a : Nat} (hk : G.1 a = 10) (h : ∀ i, i < G.2.2 a → (G.2.1 a i ∈ L ∧ G.1 (G.2.1 a i) = 4)) : wf1 G L a := ⟨fun e => absurd (hk.symm.trans e) (by decide), fun e => absurd (hk.symm.trans e) (by decide), fun e => absurd (hk.symm.trans e) (by decide), fun e => absurd (hk.symm.trans e) (by decide), fun e => absurd (hk.symm.trans e) (by decide), fun e => absurd (hk.symm.trans e) (by decide), fun e => absurd (hk.symm.trans e) (by decide), fun _ => h⟩
/-- the world is in order -/
def Od (L : List Nat) (G : qG) (T : Nat → Nat) : Prop := L.Nodup ∧ (∀ a, a ∈ L → wf1 G L a) ∧ ∀ a, a ∉ L → T a = 0
/-- the cell a: kind k, references R, length m, numbers v, mark t -/
def Ce (L : List Nat) (G : qG) (σ : qS) (T : Nat → Nat) (a k : Nat) (R : Nat → Nat) (m : Nat) (v : Nat → Int32) (t : Nat) : Prop := a ∈ L ∧ G.1 a = k ∧ G.2.1 a = R ∧ G.2.2 a = m ∧ σ a = v ∧ T a = t
theorem Ce.ka {L L' : List Nat} {G G' : qG} {σ σ' : qS} {T T' : Nat → Nat} {a k m t : Nat} {R : Nat → Nat} {v : Nat → Int32} (c : Ce L G σ T a k R m v t) (x : Ka L G σ T L' G' σ' T') : Ce L' G' σ' T' a k R m v t := by
  obtain ⟨c1, c2, c3, c4, c5, c6⟩ := c
  obtain ⟨a1, a2, a3, a4, a5, a6⟩ := x a c1
  exact ⟨a1, a2.trans c2, a3.trans c3, a4.trans c4, a5.trans c5, a6.trans c6⟩
theorem Ce.kp {h : Nat} {L L' : List Nat} {G G' : qG} {σ σ' : qS} {T T' : Nat → Nat} {a k m t : Nat} {R : Nat → Nat} {v : Nat → Int32} (c : Ce L G σ T a k R m v t) (x : Kp h L G σ T L' G' σ' T') (ht : T h ≠ t) : Ce L' G' σ' T' a k R m v t := by
  obtain ⟨c1, c2, c3, c4, c5, c6⟩ := c
  obtain ⟨a1, a2, a3, a4, a5, a6⟩ := x a c1 (fun e => ht (e ▸ c6))
  exact ⟨a1, a2.trans c2, a3.trans c3, a4.trans c4, a5.trans c5, a6.trans c6⟩
theorem Ce.mem {L : List Nat} {G : qG} {σ : qS} {T : Nat → Nat} {a k m t : Nat} {R : Nat → Nat} {v : Nat → Int32} (c : Ce L G σ T a k R m v t) : a ∈ L := c.1
theorem Ce.kind {L : List Nat} {G : qG} {σ : qS} {T : Nat → Nat} {a k m t : Nat} {R : Nat → Nat} {v : Nat → Int32} (c : Ce L G σ T a k R m v t) : G.1 a = k := c.2.1
theorem Ce.refs {L : List Nat} {G : qG} {σ : qS} {T : Nat → Nat} {a k m t : Nat} {R : Nat → Nat} {v : Nat → Int32} (c : Ce L G σ T a k R m v t) : G.2.1 a = R := c.2.2.1
theorem Ce.len {L : List Nat} {G : qG} {σ : qS} {T : Nat → Nat} {a k m t : Nat} {R : Nat → Nat} {v : Nat → Int32} (c : Ce L G σ T a k R m v t) : G.2.2 a = m := c.2.2.2.1
theorem Ce.num {L : List Nat} {G : qG} {σ : qS} {T : Nat → Nat} {a k m t : Nat} {R : Nat → Nat} {v : Nat → Int32} (c : Ce L G σ T a k R m v t) : σ a = v := c.2.2.2.2.1
theorem Ce.mark {L : List Nat} {G : qG} {σ : qS} {T : Nat → Nat} {a k m t : Nat} {R : Nat → Nat} {v : Nat → Int32} (c : Ce L G σ T a k R m v t) : T a = t := c.2.2.2.2.2
/-- a new cell -/
theorem st_new {L : List Nat} {G : qG} {T : Nat → Nat} (σ : qS) {q k m : Nat} (t : Nat) (hO : Od L G T) (hq : q ∉ L) (hk : 7 ≤ k ∧ k ≠ 10) : Od (L ++ [q]) (q_gs G q k (fun _ => 0) m) (va_up T q t) ∧ Ka L G σ T (L ++ [q]) (q_gs G q k (fun _ => 0) m) (va_up σ q (fun _ => 0)) (va_up T q t) ∧ Ce (L ++ [q]) (q_gs G q k (fun _ => 0) m) (va_up σ q (fun _ => 0)) (va_up T q t) q k (fun _ => 0) m (fun _ => 0) t := by
  obtain ⟨o1, o2, o3⟩ := hO
  have hne : ∀ a, a ∈ L → a ≠ q := fun a ha e => hq (e ▸ ha)
  refine ⟨⟨?_, fun a ha => ?_, fun a ha => ?_⟩, fun a ha => ⟨List.mem_append.mpr (Or.inl ha), va_up_ne _ _ (hne a ha), va_up_ne _ _ (hne a ha), va_up_ne _ _ (hne a ha), va_up_ne _ _ (hne a ha), va_up_ne _ _ (hne a ha)⟩, List.mem_append.mpr (Or.inr (List.mem_singleton.mpr rfl)), va_up_self _ _ _, va_up_self _ _ _, va_up_self _ _ _, va_up_self _ _ _, va_up_self _ _ _⟩
  · exact List.nodup_append.mpr ⟨o1, List.nodup_cons.mpr ⟨List.not_mem_nil, List.nodup_nil⟩, fun a ha b hb => by rw [List.mem_singleton.mp hb]; exact hne a ha⟩
  · by_cases e : a = q
    · subst e
      exact wf1_raw (by show 7 ≤ va_up G.1 a k a ∧ va_up G.1 a k a ≠ 10; rw [va_up_self]; exact hk)
    · have haL : a ∈ L := by
        rcases List.mem_append.mp ha with h1 | h1
        · exact h1
        · exact absurd (List.mem_singleton.mp h1) e
      exact wf1_tr (o2 a haL) (va_up_ne _ _ e) (va_up_ne _ _ e) (va_up_ne _ _ e) (fun b j _ hb => ⟨List.mem_append.mpr (Or.inl hb.1), (va_up_ne _ _ (hne b hb.1)).trans hb.2⟩)
  · have h1 : a ∉ L := fun h => ha (List.mem_append.mpr (Or.inl h))
    have h2 : a ≠ q := fun h => ha (List.mem_append.mpr (Or.inr (List.mem_singleton.mpr h)))
    rw [va_up_ne _ _ h2]
    exact o3 a h1
/-- a raw cell is given a reference -/
theorem st_gr {L : List Nat} {G : qG} {σ : qS} {T : Nat → Nat} {h k m t : Nat} {R : Nat → Nat} {v : Nat → Int32} (i r : Nat) (hO : Od L G T) (c : Ce L G σ T h k R m v t) (hk : 11 ≤ k) : Od L (q_gr G h i r) T ∧ Kp h L G σ T L (q_gr G h i r) σ T ∧ Ce L (q_gr G h i r) σ T h k (va_up R i r) m v t := by
  obtain ⟨o1, o2, o3⟩ := hO
  obtain ⟨c1, c2, c3, c4, c5, c6⟩ := c
  refine ⟨⟨o1, fun a ha => ?_, o3⟩, fun a ha hn => ⟨ha, rfl, va_up_ne _ _ hn, rfl, rfl, rfl⟩, c1, c2, ?_, c4, c5, c6⟩
  · by_cases e : a = h
    · subst e
      exact wf1_raw (by show 7 ≤ G.1 a ∧ G.1 a ≠ 10; omega)
    · exact wf1_tr (o2 a ha) rfl (va_up_ne _ _ e) rfl (fun b j _ hb => hb)
  · show va_up G.2.1 h (va_up (G.2.1 h) i r) h = _
    rw [va_up_self, c3]
/-- a cell is given a number -/
theorem st_st {L : List Nat} {G : qG} {σ : qS} {T : Nat → Nat} {h k m t : Nat} {R : Nat → Nat} {v : Nat → Int32} (i : Nat) (x : Int32) (c : Ce L G σ T h k R m v t) : Kp h L G σ T L G (q_st σ h i x) T ∧ Ce L G (q_st σ h i x) T h k R m (va_up v i x) t := by
  obtain ⟨c1, c2, c3, c4, c5, c6⟩ := c
  refine ⟨fun a ha hn => ⟨ha, rfl, rfl, rfl, ?_, rfl⟩, c1, c2, c3, c4, ?_, c6⟩
  · funext j
    show (if a = h ∧ j = i then x else σ a j) = _
    rw [if_neg (fun e => hn e.1)]
  · funext j
    show (if h = h ∧ j = i then x else σ h j) = (if j = i then x else v j)
    rw [c5]
    by_cases e : j = i
    · rw [if_pos ⟨rfl, e⟩, if_pos e]
    · rw [if_neg (fun z => e z.2), if_neg e]
/-- a raw cell is finished -/
def fin (G : qG) (h k : Nat) : qG := (va_up G.1 h k, va_up G.2.1 h (fun i => G.2.1 h i - 1), G.2.2)
theorem st_fin {L : List Nat} {G : qG} {σ : qS} {T : Nat → Nat} {h k k' m t : Nat} {R : Nat → Nat} {v : Nat → Int32} (hO : Od L G T) (c : Ce L G σ T h k R m v t) (hk : 11 ≤ k) (hw : wf1 (fin G h k') L h) : Od L (fin G h k') T ∧ Kp h L G σ T L (fin G h k') σ T ∧ Ce L (fin G h k') σ T h k' (fun i => R i - 1) m v t := by
  obtain ⟨o1, o2, o3⟩ := hO
  obtain ⟨c1, c2, c3, c4, c5, c6⟩ := c
  refine ⟨⟨o1, fun a ha => ?_, o3⟩, fun a ha hn => ⟨ha, va_up_ne _ _ hn, va_up_ne _ _ hn, rfl, rfl, rfl⟩, c1, va_up_self _ _ _, ?_, c4, c5, c6⟩
  · by_cases e : a = h
    · subst e; exact hw
    · exact wf1_tr (o2 a ha) (va_up_ne _ _ e) (va_up_ne _ _ e) rfl (fun b j hj hb => ⟨hb.1, (va_up_ne _ _ (fun z => by rw [z, c2] at hb; omega)).trans hb.2⟩)
  · show va_up G.2.1 h (fun i => G.2.1 h i - 1) h = _
    rw [va_up_self, c3]
theorem fin_same {L : List Nat} {G : qG} {h k' : Nat} (hh : ∀ (E : qE) (v : Nat → Int32), q_like (q_cell E G h v) (q_cell E (fin G h k') h v)) : q_same L G (fin G h k') := by
  intro E a v _
  by_cases e : a = h
  · subst e; exact hh E v
  · exact Or.inl (q_cell_congr (G := G) (G' := fin G h k') (va_up_ne _ _ e) (va_up_ne _ _ e) rfl).symm
theorem q_like.trans' {x y z : va_E} (h1 : q_like x y) (h2 : y = z ∨ x = y) (h3 : q_like y z) : q_like x z := by
  rcases h2 with rfl | rfl
  · exact h1
  · exact h3

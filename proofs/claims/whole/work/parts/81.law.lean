/-! Pure level: the law, call by call: both sides hold one state, and answer alike. -/
theorem I6_keep {G : qG} {σ σ' : qS} {h n w : Nat} {U : Nat → Nat} {S : qSt} (hM : mS G h U) (hI : I6 G σ h n w S) (hf : ∀ a, U a ≠ 0 → σ' a = σ a) : I6 G σ' h n w S := by
  obtain ⟨i1, i2, i3, i4, ⟨t1, t2, t3⟩, ⟨p1, p2, p3⟩⟩ := hI
  obtain ⟨⟨gH, gC, gL, gB, gT, gP⟩, kC, kL, kB, kT, kP⟩ := id hM
  have hh : σ' h = σ h := hf _ (by omega)
  have hC : σ' (G.2.1 h 2) = σ (G.2.1 h 2) := hf _ (by omega)
  have hL : σ' (G.2.1 h 3) = σ (G.2.1 h 3) := hf _ (by omega)
  have hB : σ' (G.2.1 h 4) = σ (G.2.1 h 4) := hf _ (by omega)
  have hT : σ' (G.2.1 h 5) = σ (G.2.1 h 5) := hf _ (by omega)
  have hP : σ' (G.2.1 h 7) = σ (G.2.1 h 7) := hf _ (by omega)
  refine ⟨by rw [hh]; exact i1, by rw [hh]; exact i2, ⟨fun j => by rw [hC]; exact i3.1 j, fun r => by rw [hB]; exact i3.2 r⟩, fun r hr => ?_, ⟨t1, by rw [hh]; exact t2, fun i hi => by rw [hT]; exact t3 i hi⟩, ⟨p1, by rw [hh]; exact p2, fun i hi => by rw [hP]; exact p3 i hi⟩⟩
  obtain ⟨c, o, hc, f, v⟩ := i4 r hr
  have s : rSame G h r σ σ' := ⟨fun t _ => by rw [hC], by rw [hL], by rw [hB]⟩
  exact ⟨c, (rOk_same s o).1, hc, fun q => by rw [s.2.2]; exact f q, by rw [rZ_same s o]; exact v⟩
/-- both sides hold S -/
def Jn (G : qG) (q1 q3 n w : Nat) (S : qSt) (σ : qS) : Prop := I5 G σ q1 n w S ∧ I6 G σ q3 n w S
def Sides (G : qG) (q1 q3 n w : Nat) (T U : Nat → Nat) : Prop := fS G q1 n w T ∧ mS G q3 U ∧ nw n w ∧ ∀ a, T a = 0 ∨ U a = 0
theorem I5_keep {G : qG} {σ σ' : qS} {h n w : Nat} {T : Nat → Nat} {S : qSt} (hS : fS G h n w T) (hI : I5 G σ h n w S) (hf : ∀ a, T a ≠ 0 → σ' a = σ a) : I5 G σ' h n w S := by
  obtain ⟨⟨tH, tFA, tRS, tlRS, tA1, tlA1, tA2, tlA2, tPR, tPW, tDV, tQ, tlQ, tR, tlR, tOV, tUN, tTX, tTXB, tTP, tTPB⟩, tF, -⟩ := hS
  obtain ⟨a1, a2, a3, a4, a5⟩ := hI
  refine ⟨by rw [hf h (by omega)]; exact a1, pdOk_keep a2 (hf _ (by omega)), fun r hr => ?_, txOk_keep a4 (hf _ (by omega)) (hf _ (by omega)), tpOk_keep a5 (hf _ (by omega)) (hf _ (by omega))⟩
  obtain ⟨f1, f2, f3⟩ := tF r hr
  exact hZ_keep (a3 r hr) (hf _ (by omega)) (hf _ (by omega))

theorem law_0 {G : qG} {q1 q3 n w N t : Nat} {T U : Nat → Nat} {S : qSt} {xs : Nat → Int32} {kb : qS → Prop} {σ : qS} (hX : Sides G q1 q3 n w T U) (hJ : Jn G q1 q3 n w S σ) (hN : N ≤ 2563) (ht : t + 5 ≤ N) (k : ∀ S' σ', Jn G q1 q3 n w S' σ' → kb σ') : lc0 G q1 q3 N xs (nI t) kb σ := by
  obtain ⟨hS, hM, hn, hd⟩ := hX
  have e1 : nI t + 1 = nI (t + 1) := nI_add t 1
  have e2 : nI t + 2 = nI (t + 2) := nI_add t 2
  unfold lc0
  rw [e1, e2, nI_clamp (n := t + 1) (by omega), nI_clamp (n := t + 2) (by omega)]
  refine ⟨vp_in_nI (by omega) (by omega), vp_in_nI (by omega) (by omega), f5_set hS hJ.1 (fun σ1 f1 j1 => ⟨vp_in_nI (by omega) (by omega), vp_in_nI (by omega) (by omega), m6_set hM hn (I6_keep hM hJ.2 (fun a ha => f1 a ((hd a).resolve_right ha))) (fun σ2 f2 j2 => ⟨rfl, k _ σ2 ⟨I5_keep hS j1 (fun a ha => f2 a ((hd a).resolve_left ha)), j2⟩⟩)⟩)⟩

theorem law_1 {G : qG} {q1 q3 n w N t : Nat} {T U : Nat → Nat} {S : qSt} {xs : Nat → Int32} {kb : qS → Prop} {σ : qS} (hX : Sides G q1 q3 n w T U) (hJ : Jn G q1 q3 n w S σ) (hN : N ≤ 2563) (ht : t + 5 ≤ N) (k : ∀ S' σ', Jn G q1 q3 n w S' σ' → kb σ') : lc1 G q1 q3 N xs (nI t) kb σ := by
  obtain ⟨hS, hM, hn, hd⟩ := hX
  have e1 : nI t + 1 = nI (t + 1) := nI_add t 1
  have e2 : nI t + 2 = nI (t + 2) := nI_add t 2
  unfold lc1
  rw [e1, e2, nI_clamp (n := t + 1) (by omega), nI_clamp (n := t + 2) (by omega)]
  refine ⟨vp_in_nI (by omega) (by omega), vp_in_nI (by omega) (by omega), f5_push hS hJ.1 (fun σ1 f1 j1 => ⟨vp_in_nI (by omega) (by omega), vp_in_nI (by omega) (by omega), m6_push hM hn (I6_keep hM hJ.2 (fun a ha => f1 a ((hd a).resolve_right ha))) (fun σ2 f2 j2 => ⟨rfl, k _ σ2 ⟨I5_keep hS j1 (fun a ha => f2 a ((hd a).resolve_left ha)), j2⟩⟩)⟩)⟩

theorem law_2 {G : qG} {q1 q3 n w N t : Nat} {T U : Nat → Nat} {S : qSt} {xs : Nat → Int32} {kb : qS → Prop} {σ : qS} (hX : Sides G q1 q3 n w T U) (hJ : Jn G q1 q3 n w S σ) (hN : N ≤ 2563) (ht : t + 5 ≤ N) (k : ∀ S' σ', Jn G q1 q3 n w S' σ' → kb σ') : lc2 G q1 q3 N xs (nI t) kb σ := by
  obtain ⟨hS, hM, hn, hd⟩ := hX
  have e1 : nI t + 1 = nI (t + 1) := nI_add t 1
  have e2 : nI t + 2 = nI (t + 2) := nI_add t 2
  unfold lc2
  rw [e1, e2, nI_clamp (n := t + 1) (by omega), nI_clamp (n := t + 2) (by omega)]
  refine ⟨vp_in_nI (by omega) (by omega), vp_in_nI (by omega) (by omega), f5_copy hS hJ.1 (fun σ1 f1 j1 => ⟨vp_in_nI (by omega) (by omega), vp_in_nI (by omega) (by omega), m6_copy hM hn (I6_keep hM hJ.2 (fun a ha => f1 a ((hd a).resolve_right ha))) (fun σ2 f2 j2 => ⟨rfl, k _ σ2 ⟨I5_keep hS j1 (fun a ha => f2 a ((hd a).resolve_left ha)), j2⟩⟩)⟩)⟩

theorem law_3 {G : qG} {q1 q3 n w N t : Nat} {T U : Nat → Nat} {S : qSt} {xs : Nat → Int32} {kb : qS → Prop} {σ : qS} (hX : Sides G q1 q3 n w T U) (hJ : Jn G q1 q3 n w S σ) (hN : N ≤ 2563) (ht : t + 5 ≤ N) (k : ∀ S' σ', Jn G q1 q3 n w S' σ' → kb σ') : lc3 G q1 q3 N xs (nI t) kb σ := by
  obtain ⟨hS, hM, hn, hd⟩ := hX
  have e1 : nI t + 1 = nI (t + 1) := nI_add t 1
  unfold lc3
  rw [e1, nI_clamp (n := t + 1) (by omega)]
  refine ⟨vp_in_nI (by omega) (by omega), f5_neg hS hJ.1 (fun σ1 f1 j1 => ⟨vp_in_nI (by omega) (by omega), m6_neg hM hn (I6_keep hM hJ.2 (fun a ha => f1 a ((hd a).resolve_right ha))) (fun σ2 f2 j2 => ⟨rfl, k _ σ2 ⟨I5_keep hS j1 (fun a ha => f2 a ((hd a).resolve_left ha)), j2⟩⟩)⟩)⟩

theorem law_4 {G : qG} {q1 q3 n w N t : Nat} {T U : Nat → Nat} {S : qSt} {xs : Nat → Int32} {kb : qS → Prop} {σ : qS} (hX : Sides G q1 q3 n w T U) (hJ : Jn G q1 q3 n w S σ) (hN : N ≤ 2563) (ht : t + 5 ≤ N) (k : ∀ S' σ', Jn G q1 q3 n w S' σ' → kb σ') : lc4 G q1 q3 N xs (nI t) kb σ := by
  obtain ⟨hS, hM, hn, hd⟩ := hX
  have e1 : nI t + 1 = nI (t + 1) := nI_add t 1
  have e2 : nI t + 2 = nI (t + 2) := nI_add t 2
  have e3 : nI t + 3 = nI (t + 3) := nI_add t 3
  unfold lc4
  rw [e1, e2, e3, nI_clamp (n := t + 1) (by omega), nI_clamp (n := t + 2) (by omega), nI_clamp (n := t + 3) (by omega)]
  refine ⟨vp_in_nI (by omega) (by omega), vp_in_nI (by omega) (by omega), vp_in_nI (by omega) (by omega), f5_add hS hJ.1 (fun σ1 f1 j1 => ⟨vp_in_nI (by omega) (by omega), vp_in_nI (by omega) (by omega), vp_in_nI (by omega) (by omega), m6_add hM hn (I6_keep hM hJ.2 (fun a ha => f1 a ((hd a).resolve_right ha))) (fun σ2 f2 j2 => ⟨rfl, k _ σ2 ⟨I5_keep hS j1 (fun a ha => f2 a ((hd a).resolve_left ha)), j2⟩⟩)⟩)⟩

theorem law_5 {G : qG} {q1 q3 n w N t : Nat} {T U : Nat → Nat} {S : qSt} {xs : Nat → Int32} {kb : qS → Prop} {σ : qS} (hX : Sides G q1 q3 n w T U) (hJ : Jn G q1 q3 n w S σ) (hN : N ≤ 2563) (ht : t + 5 ≤ N) (k : ∀ S' σ', Jn G q1 q3 n w S' σ' → kb σ') : lc5 G q1 q3 N xs (nI t) kb σ := by
  obtain ⟨hS, hM, hn, hd⟩ := hX
  have e1 : nI t + 1 = nI (t + 1) := nI_add t 1
  have e2 : nI t + 2 = nI (t + 2) := nI_add t 2
  have e3 : nI t + 3 = nI (t + 3) := nI_add t 3
  unfold lc5
  rw [e1, e2, e3, nI_clamp (n := t + 1) (by omega), nI_clamp (n := t + 2) (by omega), nI_clamp (n := t + 3) (by omega)]
  refine ⟨vp_in_nI (by omega) (by omega), vp_in_nI (by omega) (by omega), vp_in_nI (by omega) (by omega), f5_sub hS hJ.1 (fun σ1 f1 j1 => ⟨vp_in_nI (by omega) (by omega), vp_in_nI (by omega) (by omega), vp_in_nI (by omega) (by omega), m6_sub hM hn (I6_keep hM hJ.2 (fun a ha => f1 a ((hd a).resolve_right ha))) (fun σ2 f2 j2 => ⟨rfl, k _ σ2 ⟨I5_keep hS j1 (fun a ha => f2 a ((hd a).resolve_left ha)), j2⟩⟩)⟩)⟩

theorem law_6 {G : qG} {q1 q3 n w N t : Nat} {T U : Nat → Nat} {S : qSt} {xs : Nat → Int32} {kb : qS → Prop} {σ : qS} (hX : Sides G q1 q3 n w T U) (hJ : Jn G q1 q3 n w S σ) (hN : N ≤ 2563) (ht : t + 5 ≤ N) (k : ∀ S' σ', Jn G q1 q3 n w S' σ' → kb σ') : lc6 G q1 q3 N xs (nI t) kb σ := by
  obtain ⟨hS, hM, hn, hd⟩ := hX
  have e1 : nI t + 1 = nI (t + 1) := nI_add t 1
  have e2 : nI t + 2 = nI (t + 2) := nI_add t 2
  have e3 : nI t + 3 = nI (t + 3) := nI_add t 3
  unfold lc6
  rw [e1, e2, e3, nI_clamp (n := t + 1) (by omega), nI_clamp (n := t + 2) (by omega), nI_clamp (n := t + 3) (by omega)]
  refine ⟨vp_in_nI (by omega) (by omega), vp_in_nI (by omega) (by omega), vp_in_nI (by omega) (by omega), f5_mul hS hJ.1 (fun σ1 f1 j1 => ⟨vp_in_nI (by omega) (by omega), vp_in_nI (by omega) (by omega), vp_in_nI (by omega) (by omega), m6_mul hM hn (I6_keep hM hJ.2 (fun a ha => f1 a ((hd a).resolve_right ha))) (fun σ2 f2 j2 => ⟨rfl, k _ σ2 ⟨I5_keep hS j1 (fun a ha => f2 a ((hd a).resolve_left ha)), j2⟩⟩)⟩)⟩

theorem law_7 {G : qG} {q1 q3 n w N t : Nat} {T U : Nat → Nat} {S : qSt} {xs : Nat → Int32} {kb : qS → Prop} {σ : qS} (hX : Sides G q1 q3 n w T U) (hJ : Jn G q1 q3 n w S σ) (hN : N ≤ 2563) (ht : t + 5 ≤ N) (k : ∀ S' σ', Jn G q1 q3 n w S' σ' → kb σ') : lc7 G q1 q3 N xs (nI t) kb σ := by
  obtain ⟨hS, hM, hn, hd⟩ := hX
  have e1 : nI t + 1 = nI (t + 1) := nI_add t 1
  have e2 : nI t + 2 = nI (t + 2) := nI_add t 2
  have e3 : nI t + 3 = nI (t + 3) := nI_add t 3
  have e4 : nI t + 4 = nI (t + 4) := nI_add t 4
  unfold lc7
  rw [e1, e2, e3, e4, nI_clamp (n := t + 1) (by omega), nI_clamp (n := t + 2) (by omega), nI_clamp (n := t + 3) (by omega), nI_clamp (n := t + 4) (by omega)]
  refine ⟨vp_in_nI (by omega) (by omega), vp_in_nI (by omega) (by omega), vp_in_nI (by omega) (by omega), vp_in_nI (by omega) (by omega), f5_divMod hS hJ.1 (fun σ1 f1 j1 => ⟨vp_in_nI (by omega) (by omega), vp_in_nI (by omega) (by omega), vp_in_nI (by omega) (by omega), vp_in_nI (by omega) (by omega), m6_divMod hM hn (I6_keep hM hJ.2 (fun a ha => f1 a ((hd a).resolve_right ha))) (fun σ2 f2 j2 => ⟨rfl, k _ σ2 ⟨I5_keep hS j1 (fun a ha => f2 a ((hd a).resolve_left ha)), j2⟩⟩)⟩)⟩

theorem law_8 {G : qG} {q1 q3 n w N t : Nat} {T U : Nat → Nat} {S : qSt} {xs : Nat → Int32} {kb : qS → Prop} {σ : qS} (hX : Sides G q1 q3 n w T U) (hJ : Jn G q1 q3 n w S σ) (hN : N ≤ 2563) (ht : t + 5 ≤ N) (k : ∀ S' σ', Jn G q1 q3 n w S' σ' → kb σ') : lc8 G q1 q3 N xs (nI t) kb σ := by
  obtain ⟨hS, hM, hn, hd⟩ := hX
  have e1 : nI t + 1 = nI (t + 1) := nI_add t 1
  have e2 : nI t + 2 = nI (t + 2) := nI_add t 2
  have e3 : nI t + 3 = nI (t + 3) := nI_add t 3
  unfold lc8
  rw [e1, e2, e3, nI_clamp (n := t + 1) (by omega), nI_clamp (n := t + 2) (by omega), nI_clamp (n := t + 3) (by omega)]
  refine ⟨vp_in_nI (by omega) (by omega), vp_in_nI (by omega) (by omega), vp_in_nI (by omega) (by omega), f5_shl hS hJ.1 (fun σ1 f1 j1 => ⟨vp_in_nI (by omega) (by omega), vp_in_nI (by omega) (by omega), vp_in_nI (by omega) (by omega), m6_shl hM hn (I6_keep hM hJ.2 (fun a ha => f1 a ((hd a).resolve_right ha))) (fun σ2 f2 j2 => ⟨rfl, k _ σ2 ⟨I5_keep hS j1 (fun a ha => f2 a ((hd a).resolve_left ha)), j2⟩⟩)⟩)⟩

theorem law_9 {G : qG} {q1 q3 n w N t : Nat} {T U : Nat → Nat} {S : qSt} {xs : Nat → Int32} {kb : qS → Prop} {σ : qS} (hX : Sides G q1 q3 n w T U) (hJ : Jn G q1 q3 n w S σ) (hN : N ≤ 2563) (ht : t + 5 ≤ N) (k : ∀ S' σ', Jn G q1 q3 n w S' σ' → kb σ') : lc9 G q1 q3 N xs (nI t) kb σ := by
  obtain ⟨hS, hM, hn, hd⟩ := hX
  have e1 : nI t + 1 = nI (t + 1) := nI_add t 1
  have e2 : nI t + 2 = nI (t + 2) := nI_add t 2
  have e3 : nI t + 3 = nI (t + 3) := nI_add t 3
  unfold lc9
  rw [e1, e2, e3, nI_clamp (n := t + 1) (by omega), nI_clamp (n := t + 2) (by omega), nI_clamp (n := t + 3) (by omega)]
  refine ⟨vp_in_nI (by omega) (by omega), vp_in_nI (by omega) (by omega), vp_in_nI (by omega) (by omega), f5_shr hS hJ.1 (fun σ1 f1 j1 => ⟨vp_in_nI (by omega) (by omega), vp_in_nI (by omega) (by omega), vp_in_nI (by omega) (by omega), m6_shr hM hn (I6_keep hM hJ.2 (fun a ha => f1 a ((hd a).resolve_right ha))) (fun σ2 f2 j2 => ⟨rfl, k _ σ2 ⟨I5_keep hS j1 (fun a ha => f2 a ((hd a).resolve_left ha)), j2⟩⟩)⟩)⟩

theorem law_10 {G : qG} {q1 q3 n w N t : Nat} {T U : Nat → Nat} {S : qSt} {xs : Nat → Int32} {kb : qS → Prop} {σ : qS} (hX : Sides G q1 q3 n w T U) (hJ : Jn G q1 q3 n w S σ) (hN : N ≤ 2563) (ht : t + 5 ≤ N) (k : ∀ S' σ', Jn G q1 q3 n w S' σ' → kb σ') : lc10 G q1 q3 N xs (nI t) kb σ := by
  obtain ⟨hS, hM, hn, hd⟩ := hX
  have e1 : nI t + 1 = nI (t + 1) := nI_add t 1
  have e2 : nI t + 2 = nI (t + 2) := nI_add t 2
  have e3 : nI t + 3 = nI (t + 3) := nI_add t 3
  unfold lc10
  rw [e1, e2, e3, nI_clamp (n := t + 1) (by omega), nI_clamp (n := t + 2) (by omega), nI_clamp (n := t + 3) (by omega)]
  refine ⟨vp_in_nI (by omega) (by omega), vp_in_nI (by omega) (by omega), vp_in_nI (by omega) (by omega), f5_gcd hS hJ.1 (fun σ1 f1 j1 => ⟨vp_in_nI (by omega) (by omega), vp_in_nI (by omega) (by omega), vp_in_nI (by omega) (by omega), m6_gcd hM hn (I6_keep hM hJ.2 (fun a ha => f1 a ((hd a).resolve_right ha))) (fun σ2 f2 j2 => ⟨rfl, k _ σ2 ⟨I5_keep hS j1 (fun a ha => f2 a ((hd a).resolve_left ha)), j2⟩⟩)⟩)⟩

theorem law_11 {G : qG} {q1 q3 n w N t : Nat} {T U : Nat → Nat} {S : qSt} {xs : Nat → Int32} {kb : qS → Prop} {σ : qS} (hX : Sides G q1 q3 n w T U) (hJ : Jn G q1 q3 n w S σ) (hN : N ≤ 2563) (ht : t + 5 ≤ N) (k : ∀ S' σ', Jn G q1 q3 n w S' σ' → kb σ') : lc11 G q1 q3 N xs (nI t) kb σ := by
  obtain ⟨hS, hM, hn, hd⟩ := hX
  have e1 : nI t + 1 = nI (t + 1) := nI_add t 1
  have e2 : nI t + 2 = nI (t + 2) := nI_add t 2
  have e3 : nI t + 3 = nI (t + 3) := nI_add t 3
  have e4 : nI t + 4 = nI (t + 4) := nI_add t 4
  unfold lc11
  rw [e1, e2, e3, e4, nI_clamp (n := t + 1) (by omega), nI_clamp (n := t + 2) (by omega), nI_clamp (n := t + 3) (by omega), nI_clamp (n := t + 4) (by omega)]
  refine ⟨vp_in_nI (by omega) (by omega), vp_in_nI (by omega) (by omega), vp_in_nI (by omega) (by omega), vp_in_nI (by omega) (by omega), f5_powMod hS hJ.1 (fun σ1 f1 j1 => ⟨vp_in_nI (by omega) (by omega), vp_in_nI (by omega) (by omega), vp_in_nI (by omega) (by omega), vp_in_nI (by omega) (by omega), m6_powMod hM hn (I6_keep hM hJ.2 (fun a ha => f1 a ((hd a).resolve_right ha))) (fun σ2 f2 j2 => ⟨rfl, k _ σ2 ⟨I5_keep hS j1 (fun a ha => f2 a ((hd a).resolve_left ha)), j2⟩⟩)⟩)⟩

theorem law_12 {G : qG} {q1 q3 n w N t : Nat} {T U : Nat → Nat} {S : qSt} {xs : Nat → Int32} {kb : qS → Prop} {σ : qS} (hX : Sides G q1 q3 n w T U) (hJ : Jn G q1 q3 n w S σ) (hN : N ≤ 2563) (ht : t + 5 ≤ N) (k : ∀ S' σ', Jn G q1 q3 n w S' σ' → kb σ') : lc12 G q1 q3 N xs (nI t) kb σ := by
  obtain ⟨hS, hM, hn, hd⟩ := hX
  have e1 : nI t + 1 = nI (t + 1) := nI_add t 1
  have e2 : nI t + 2 = nI (t + 2) := nI_add t 2
  unfold lc12
  rw [e1, e2, nI_clamp (n := t + 1) (by omega), nI_clamp (n := t + 2) (by omega)]
  refine ⟨vp_in_nI (by omega) (by omega), vp_in_nI (by omega) (by omega), f5_root hS hJ.1 (fun σ1 f1 j1 => ⟨vp_in_nI (by omega) (by omega), vp_in_nI (by omega) (by omega), m6_root hM hn (I6_keep hM hJ.2 (fun a ha => f1 a ((hd a).resolve_right ha))) (fun σ2 f2 j2 => ⟨rfl, k _ σ2 ⟨I5_keep hS j1 (fun a ha => f2 a ((hd a).resolve_left ha)), j2⟩⟩)⟩)⟩

theorem law_13 {G : qG} {q1 q3 n w N t : Nat} {T U : Nat → Nat} {S : qSt} {xs : Nat → Int32} {kb : qS → Prop} {σ : qS} (hX : Sides G q1 q3 n w T U) (hJ : Jn G q1 q3 n w S σ) (hN : N ≤ 2563) (ht : t + 5 ≤ N) (k : ∀ S' σ', Jn G q1 q3 n w S' σ' → kb σ') : lc13 G q1 q3 N xs (nI t) kb σ := by
  obtain ⟨hS, hM, hn, hd⟩ := hX
  have e1 : nI t + 1 = nI (t + 1) := nI_add t 1
  have e2 : nI t + 2 = nI (t + 2) := nI_add t 2
  unfold lc13
  rw [e1, e2, nI_clamp (n := t + 1) (by omega), nI_clamp (n := t + 2) (by omega)]
  refine ⟨vp_in_nI (by omega) (by omega), vp_in_nI (by omega) (by omega), f5_cmp hS hJ.1 (fun σ1 f1 j1 => ⟨vp_in_nI (by omega) (by omega), vp_in_nI (by omega) (by omega), m6_cmp hM hn (I6_keep hM hJ.2 (fun a ha => f1 a ((hd a).resolve_right ha))) (fun σ2 f2 j2 => ⟨rfl, k _ σ2 ⟨I5_keep hS j1 (fun a ha => f2 a ((hd a).resolve_left ha)), j2⟩⟩)⟩)⟩

theorem law_14 {G : qG} {q1 q3 n w N t : Nat} {T U : Nat → Nat} {S : qSt} {xs : Nat → Int32} {kb : qS → Prop} {σ : qS} (hX : Sides G q1 q3 n w T U) (hJ : Jn G q1 q3 n w S σ) (hN : N ≤ 2563) (ht : t + 5 ≤ N) (k : ∀ S' σ', Jn G q1 q3 n w S' σ' → kb σ') : lc14 G q1 q3 N xs (nI t) kb σ := by
  obtain ⟨hS, hM, hn, hd⟩ := hX
  have e1 : nI t + 1 = nI (t + 1) := nI_add t 1
  unfold lc14
  rw [e1, nI_clamp (n := t + 1) (by omega)]
  refine ⟨vp_in_nI (by omega) (by omega), f5_sign hS hJ.1 (fun σ1 f1 j1 => ⟨vp_in_nI (by omega) (by omega), m6_sign hM hn (I6_keep hM hJ.2 (fun a ha => f1 a ((hd a).resolve_right ha))) (fun σ2 f2 j2 => ⟨rfl, k _ σ2 ⟨I5_keep hS j1 (fun a ha => f2 a ((hd a).resolve_left ha)), j2⟩⟩)⟩)⟩

theorem law_15 {G : qG} {q1 q3 n w N t : Nat} {T U : Nat → Nat} {S : qSt} {xs : Nat → Int32} {kb : qS → Prop} {σ : qS} (hX : Sides G q1 q3 n w T U) (hJ : Jn G q1 q3 n w S σ) (hN : N ≤ 2563) (ht : t + 5 ≤ N) (k : ∀ S' σ', Jn G q1 q3 n w S' σ' → kb σ') : lc15 G q1 q3 N xs (nI t) kb σ := by
  obtain ⟨hS, hM, hn, hd⟩ := hX
  have e1 : nI t + 1 = nI (t + 1) := nI_add t 1
  have e2 : nI t + 2 = nI (t + 2) := nI_add t 2
  unfold lc15
  rw [e1, e2, nI_clamp (n := t + 1) (by omega), nI_clamp (n := t + 2) (by omega)]
  refine ⟨vp_in_nI (by omega) (by omega), vp_in_nI (by omega) (by omega), f5_length hS hJ.1 (fun σ1 f1 j1 => ⟨vp_in_nI (by omega) (by omega), vp_in_nI (by omega) (by omega), m6_length hM hn (I6_keep hM hJ.2 (fun a ha => f1 a ((hd a).resolve_right ha))) (fun σ2 f2 j2 => ⟨rfl, k _ σ2 ⟨I5_keep hS j1 (fun a ha => f2 a ((hd a).resolve_left ha)), j2⟩⟩)⟩)⟩

theorem law_16 {G : qG} {q1 q3 n w N t : Nat} {T U : Nat → Nat} {S : qSt} {xs : Nat → Int32} {kb : qS → Prop} {σ : qS} (hX : Sides G q1 q3 n w T U) (hJ : Jn G q1 q3 n w S σ) (hN : N ≤ 2563) (ht : t + 5 ≤ N) (k : ∀ S' σ', Jn G q1 q3 n w S' σ' → kb σ') : lc16 G q1 q3 N xs (nI t) kb σ := by
  obtain ⟨hS, hM, hn, hd⟩ := hX
  have e1 : nI t + 1 = nI (t + 1) := nI_add t 1
  have e2 : nI t + 2 = nI (t + 2) := nI_add t 2
  unfold lc16
  rw [e1, e2, nI_clamp (n := t + 1) (by omega), nI_clamp (n := t + 2) (by omega)]
  refine ⟨vp_in_nI (by omega) (by omega), vp_in_nI (by omega) (by omega), f5_limb hS hJ.1 (fun σ1 f1 j1 => ⟨vp_in_nI (by omega) (by omega), vp_in_nI (by omega) (by omega), m6_limb hM hn (I6_keep hM hJ.2 (fun a ha => f1 a ((hd a).resolve_right ha))) (fun σ2 f2 j2 => ⟨rfl, k _ σ2 ⟨I5_keep hS j1 (fun a ha => f2 a ((hd a).resolve_left ha)), j2⟩⟩)⟩)⟩

theorem law_17 {G : qG} {q1 q3 n w N t : Nat} {T U : Nat → Nat} {S : qSt} {xs : Nat → Int32} {kb : qS → Prop} {σ : qS} (hX : Sides G q1 q3 n w T U) (hJ : Jn G q1 q3 n w S σ) (hN : N ≤ 2563) (ht : t + 5 ≤ N) (k : ∀ S' σ', Jn G q1 q3 n w S' σ' → kb σ') : lc17 G q1 q3 N xs (nI t) kb σ := by
  obtain ⟨hS, hM, hn, hd⟩ := hX
  have e1 : nI t + 1 = nI (t + 1) := nI_add t 1
  unfold lc17
  rw [e1, nI_clamp (n := t + 1) (by omega)]
  refine ⟨vp_in_nI (by omega) (by omega), f5_write hS hJ.1 (fun σ1 f1 j1 => ⟨vp_in_nI (by omega) (by omega), m6_write hM hn (I6_keep hM hJ.2 (fun a ha => f1 a ((hd a).resolve_right ha))) (fun σ2 f2 j2 => ⟨rfl, k _ σ2 ⟨I5_keep hS j1 (fun a ha => f2 a ((hd a).resolve_left ha)), j2⟩⟩)⟩)⟩

theorem law_18 {G : qG} {q1 q3 n w N t : Nat} {T U : Nat → Nat} {S : qSt} {xs : Nat → Int32} {kb : qS → Prop} {σ : qS} (hX : Sides G q1 q3 n w T U) (hJ : Jn G q1 q3 n w S σ) (hN : N ≤ 2563) (ht : t + 5 ≤ N) (k : ∀ S' σ', Jn G q1 q3 n w S' σ' → kb σ') : lc18 G q1 q3 N xs (nI t) kb σ := by
  obtain ⟨hS, hM, hn, hd⟩ := hX
  have e1 : nI t + 1 = nI (t + 1) := nI_add t 1
  unfold lc18
  rw [e1, nI_clamp (n := t + 1) (by omega)]
  refine ⟨vp_in_nI (by omega) (by omega), f5_written hS hJ.1 (fun σ1 f1 j1 => ⟨vp_in_nI (by omega) (by omega), m6_written hM (I6_keep hM hJ.2 (fun a ha => f1 a ((hd a).resolve_right ha))) (fun σ2 f2 j2 => ⟨rfl, k _ σ2 ⟨I5_keep hS j1 (fun a ha => f2 a ((hd a).resolve_left ha)), j2⟩⟩)⟩)⟩

theorem law_19 {G : qG} {q1 q3 n w N t : Nat} {T U : Nat → Nat} {S : qSt} {xs : Nat → Int32} {kb : qS → Prop} {σ : qS} (hX : Sides G q1 q3 n w T U) (hJ : Jn G q1 q3 n w S σ) (hN : N ≤ 2563) (ht : t + 5 ≤ N) (k : ∀ S' σ', Jn G q1 q3 n w S' σ' → kb σ') : lc19 G q1 q3 N xs (nI t) kb σ := by
  obtain ⟨hS, hM, hn, hd⟩ := hX
  have e1 : nI t + 1 = nI (t + 1) := nI_add t 1
  have e2 : nI t + 2 = nI (t + 2) := nI_add t 2
  have e3 : nI t + 3 = nI (t + 3) := nI_add t 3
  unfold lc19
  rw [e1, e2, e3, nI_clamp (n := t + 1) (by omega), nI_clamp (n := t + 2) (by omega), nI_clamp (n := t + 3) (by omega)]
  refine ⟨vp_in_nI (by omega) (by omega), vp_in_nI (by omega) (by omega), vp_in_nI (by omega) (by omega), f5_type hS hJ.1 (fun σ1 f1 j1 => ⟨vp_in_nI (by omega) (by omega), vp_in_nI (by omega) (by omega), vp_in_nI (by omega) (by omega), m6_type hM (I6_keep hM hJ.2 (fun a ha => f1 a ((hd a).resolve_right ha))) (fun σ2 f2 j2 => ⟨rfl, k _ σ2 ⟨I5_keep hS j1 (fun a ha => f2 a ((hd a).resolve_left ha)), j2⟩⟩)⟩)⟩

theorem law_20 {G : qG} {q1 q3 n w N t : Nat} {T U : Nat → Nat} {S : qSt} {xs : Nat → Int32} {kb : qS → Prop} {σ : qS} (hX : Sides G q1 q3 n w T U) (hJ : Jn G q1 q3 n w S σ) (hN : N ≤ 2563) (ht : t + 5 ≤ N) (k : ∀ S' σ', Jn G q1 q3 n w S' σ' → kb σ') : lc20 G q1 q3 N xs (nI t) kb σ := by
  obtain ⟨hS, hM, hn, hd⟩ := hX
  have e1 : nI t + 1 = nI (t + 1) := nI_add t 1
  unfold lc20
  rw [e1, nI_clamp (n := t + 1) (by omega)]
  refine ⟨vp_in_nI (by omega) (by omega), f5_read hS hJ.1 (fun σ1 f1 j1 => ⟨vp_in_nI (by omega) (by omega), m6_read hM hn (I6_keep hM hJ.2 (fun a ha => f1 a ((hd a).resolve_right ha))) (fun σ2 f2 j2 => ⟨rfl, k _ σ2 ⟨I5_keep hS j1 (fun a ha => f2 a ((hd a).resolve_left ha)), j2⟩⟩)⟩)⟩

theorem law_loop {G : qG} {q1 q3 n w N : Nat} {T U : Nat → Nat} {S : qSt} {xs : Nat → Int32} {σ : qS} (hX : Sides G q1 q3 n w T U) (hN : N ≤ 2563) (hJ : Jn G q1 q3 n w S σ) : ∃ f : Nat, lpLaw G q1 q3 N xs f 3 σ := by
  refine lp2 (W := fun f i τ => lpLaw G q1 q3 N xs f i τ) (I := fun i τ => ∃ (t : Nat) (S : qSt), t ≤ N + 5 ∧ i = nI t ∧ Jn G q1 q3 n w S τ) (μ := fun i _ => N + 10 - i.toNatClampNeg) ?_ 3 σ ⟨3, S, by omega, rfl, hJ⟩
  intro f i τ hI ih
  obtain ⟨t, S, hle, rfl, hJ⟩ := hI
  show lpLaw G q1 q3 N xs (f + 1) _ _
  unfold lpLaw
  intro hge
  have ht : t + 5 ≤ N := by
    have h1 : (nI N - nI 5).toInt = (N : Int) - (5 : Nat) := pk_sub_toInt (by omega) (by decide)
    have h2 : (nI N - 5).toInt = (N : Int) - (5 : Nat) := h1
    have h3 : ¬ ((nI N - 5).toInt < (nI t).toInt) := fun q => hge (Int32.lt_iff_toInt_lt.mpr q)
    rw [h2, nI_toInt (by omega)] at h3
    omega
  refine ⟨vp_in_nI (by omega) (by omega), fun o eo i2 e2 => ?_⟩
  have e5 : nI t + 5 = nI (t + 5) := nI_add t 5
  rw [e5] at e2
  subst e2
  have kk : ∀ S' σ', Jn G q1 q3 n w S' σ' → lpLaw G q1 q3 N xs f (nI (t + 5)) σ' := fun S' σ' j => ih _ σ' ⟨t + 5, S', by omega, rfl, j⟩ (by
    show N + 10 - (nI (t + 5)).toNatClampNeg < N + 10 - (nI t).toNatClampNeg
    rw [nI_clamp (by omega), nI_clamp (by omega)]
    omega)
  refine ⟨?_, ?_, ?_, ?_, ?_, ?_, ?_, ?_, ?_, ?_, ?_, ?_, ?_, ?_, ?_, ?_, ?_, ?_, ?_, ?_, ?_, fun _ => kk S τ hJ⟩
  · intro _; exact law_0 hX hJ hN ht kk
  · intro _; exact law_1 hX hJ hN ht kk
  · intro _; exact law_2 hX hJ hN ht kk
  · intro _; exact law_3 hX hJ hN ht kk
  · intro _; exact law_4 hX hJ hN ht kk
  · intro _; exact law_5 hX hJ hN ht kk
  · intro _; exact law_6 hX hJ hN ht kk
  · intro _; exact law_7 hX hJ hN ht kk
  · intro _; exact law_8 hX hJ hN ht kk
  · intro _; exact law_9 hX hJ hN ht kk
  · intro _; exact law_10 hX hJ hN ht kk
  · intro _; exact law_11 hX hJ hN ht kk
  · intro _; exact law_12 hX hJ hN ht kk
  · intro _; exact law_13 hX hJ hN ht kk
  · intro _; exact law_14 hX hJ hN ht kk
  · intro _; exact law_15 hX hJ hN ht kk
  · intro _; exact law_16 hX hJ hN ht kk
  · intro _; exact law_17 hX hJ hN ht kk
  · intro _; exact law_18 hX hJ hN ht kk
  · intro _; exact law_19 hX hJ hN ht kk
  · intro _; exact law_20 hX hJ hN ht kk

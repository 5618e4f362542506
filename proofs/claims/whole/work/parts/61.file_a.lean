/-! Pure level: the class IntFile h. T gives each of its objects and rows its own mark, all others 0. -/
theorem ntg {T : Nat → Nat} {a b : Nat} (h : T a ≠ T b) : a ≠ b := fun e => h (congrArg T e)
def fS (G : qG) (h n w : Nat) (T : Nat → Nat) : Prop :=
  (T h = 1 ∧ T (G.2.1 h 1) = 2 ∧ T (G.2.1 h 2) = 3 ∧ T (G.2.1 (G.2.1 h 2) 0) = 4 ∧ T (G.2.1 h 3) = 5 ∧ T (G.2.1 (G.2.1 h 3) 0) = 6 ∧ T (G.2.1 h 4) = 7 ∧ T (G.2.1 (G.2.1 h 4) 0) = 8 ∧ T (G.2.1 h 5) = 9 ∧ T (G.2.1 (G.2.1 h 5) 1) = 10 ∧ T (G.2.1 h 6) = 11 ∧ T (G.2.1 (G.2.1 h 6) 0) = 12 ∧ T (G.2.1 (G.2.1 (G.2.1 h 6) 0) 0) = 13 ∧ T (G.2.1 (G.2.1 h 6) 1) = 14 ∧ T (G.2.1 (G.2.1 (G.2.1 h 6) 1) 0) = 15 ∧ T (G.2.1 (G.2.1 h 6) 2) = 16 ∧ T (G.2.1 (G.2.1 h 6) 3) = 17 ∧ T (G.2.1 h 7) = 18 ∧ T (G.2.1 (G.2.1 h 7) 0) = 19 ∧ T (G.2.1 h 8) = 20 ∧ T (G.2.1 (G.2.1 h 8) 0) = 21) ∧ (∀ r, r < n → T (G.2.1 (G.2.1 h 1) r) = 30 + 2 * r ∧ T (G.2.1 (G.2.1 (G.2.1 h 1) r) 0) = 31 + 2 * r ∧ G.2.2 (G.2.1 (G.2.1 (G.2.1 h 1) r) 0) = w) ∧ (G.2.2 (G.2.1 h 1) = n ∧ G.2.2 (G.2.1 (G.2.1 h 2) 0) = 2 * w + 1 ∧ G.2.2 (G.2.1 (G.2.1 h 3) 0) = w ∧ G.2.2 (G.2.1 (G.2.1 h 4) 0) = w ∧ G.2.2 (G.2.1 (G.2.1 (G.2.1 h 6) 0) 0) = 2 * w ∧ G.2.2 (G.2.1 (G.2.1 (G.2.1 h 6) 1) 0) = w ∧ G.2.2 (G.2.1 (G.2.1 h 6) 2) = 2 * w + 1 ∧ G.2.2 (G.2.1 (G.2.1 h 6) 3) = w ∧ G.2.2 (G.2.1 (G.2.1 h 7) 0) = 10 * w + 1 ∧ G.2.2 (G.2.1 (G.2.1 h 8) 0) = 1300) ∧ 0 < n ∧ n ≤ 12 ∧ 0 < w ∧ w ≤ 120
/-- it holds the state S -/
def I5 (G : qG) (σ : qS) (h n w : Nat) (S : qSt) : Prop := σ h 0 = nI w ∧ pdOk G σ (G.2.1 h 5) w ∧ (∀ r, r < n → hZ G σ (G.2.1 (G.2.1 h 1) r) (S.1 r)) ∧ txOk G σ (G.2.1 h 7) S.2.1.1 S.2.1.2 ∧ tpOk G σ (G.2.1 h 8) S.2.2.1 S.2.2.2
/-- only marks that hold nothing between calls have changed -/
def SF (T : Nat → Nat) (σ σ' : qS) : Prop := ∀ a, ¬ (3 ≤ T a ∧ T a ≤ 17 ∧ T a ≠ 9) → σ' a = σ a
theorem SF.refl {T : Nat → Nat} {σ : qS} : SF T σ σ := fun _ _ => rfl
theorem SF.trans {T : Nat → Nat} {σ σ' σ'' : qS} (h : SF T σ σ') (h' : SF T σ' σ'') : SF T σ σ'' := fun a ha => by rw [h' a ha, h a ha]
def K5 (G : qG) (h n w : Nat) (T : Nat → Nat) (σ : qS) (post : Int32 → qS → Prop) (A : Int32 × qSt) : Prop := ∀ σ', (∀ a, T a = 0 → σ' a = σ a) → I5 G σ' h n w A.2 → post A.1 σ'
theorem txOk_keep {G : qG} {σ σ' : qS} {h0 t : Nat} {f : Nat → Nat} (ho : txOk G σ h0 t f) (e1 : σ' h0 = σ h0) (e2 : σ' (G.2.1 h0 0) = σ (G.2.1 h0 0)) : txOk G σ' h0 t f := by
  obtain ⟨a, b, c⟩ := ho
  exact ⟨a, by rw [e1]; exact b, fun k hk => by rw [e2]; exact c k hk⟩
theorem tpOk_keep {G : qG} {σ σ' : qS} {h0 t : Nat} {f : Nat → Nat} (ho : tpOk G σ h0 t f) (e1 : σ' h0 = σ h0) (e2 : σ' (G.2.1 h0 0) = σ (G.2.1 h0 0)) : tpOk G σ' h0 t f := by
  obtain ⟨a, b, c⟩ := ho
  exact ⟨a, by rw [e1]; exact b, fun k hk => by rw [e2]; exact c k hk⟩
theorem hZ_keep {G : qG} {σ σ' : qS} {h : Nat} {z : Int} (ho : hZ G σ h z) (e1 : σ' h = σ h) (e2 : σ' ((G.2.1 h 0)) = σ ((G.2.1 h 0))) : hZ G σ' h z := by
  obtain ⟨c, o, v⟩ := ho
  obtain ⟨a, -, b⟩ := wOk_keep (σ' := σ') o e1 e2
  exact ⟨c, a, b.trans v⟩
theorem pdOk_keep {G : qG} {σ σ' : qS} {h w : Nat} (ho : pdOk G σ h w) (e1 : σ' h = σ h) : pdOk G σ' h w := by
  obtain ⟨⟨cut, a1, a2⟩, b, c, d, e, f⟩ := ho
  exact ⟨⟨cut, by rw [e1]; exact a1, a2⟩, by rw [e1]; exact b, by rw [e1]; exact c, by rw [e1]; exact d, by rw [e1]; exact e, f⟩
theorem I5_SF {G : qG} {σ σ' : qS} {h n w : Nat} {T : Nat → Nat} {S : qSt} (hS : fS G h n w T) (hI : I5 G σ h n w S) (hf : SF T σ σ') : I5 G σ' h n w S := by
  obtain ⟨⟨tH, tFA, tRS, tlRS, tA1, tlA1, tA2, tlA2, tPR, tPW, tDV, tQ, tlQ, tR, tlR, tOV, tUN, tTX, tTXB, tTP, tTPB⟩, tF, ⟨cFA, cRS, cA1, cA2, cQ, cR, cOV, cUN, cTXB, cTPB⟩, pn0, pn, pw0, pw⟩ := hS
  obtain ⟨a1, a2, a3, a4, a5⟩ := hI
  refine ⟨by rw [hf h (by omega)]; exact a1, pdOk_keep a2 (hf _ (by omega)), fun r hr => ?_, txOk_keep a4 (hf _ (by omega)) (hf _ (by omega)), tpOk_keep a5 (hf _ (by omega)) (hf _ (by omega))⟩
  obtain ⟨f1, f2, f3⟩ := tF r hr
  exact hZ_keep (a3 r hr) (hf _ (by omega)) (hf _ (by omega))
/-- a register has been set -/
theorem I5_up {G : qG} {σ σ' : qS} {h n w d : Nat} {T : Nat → Nat} {S : qSt} {z : Int} (hS : fS G h n w T) (hI : I5 G σ h n w S) (hd : d < n) (hf : ∀ a, a ≠ (G.2.1 (G.2.1 h 1) d) → a ≠ (G.2.1 (G.2.1 (G.2.1 h 1) d) 0) → σ' a = σ a) (hz : hZ G σ' (G.2.1 (G.2.1 h 1) d) z) : I5 G σ' h n w (up S d z) := by
  obtain ⟨⟨tH, tFA, tRS, tlRS, tA1, tlA1, tA2, tlA2, tPR, tPW, tDV, tQ, tlQ, tR, tlR, tOV, tUN, tTX, tTXB, tTP, tTPB⟩, tF, ⟨cFA, cRS, cA1, cA2, cQ, cR, cOV, cUN, cTXB, cTPB⟩, pn0, pn, pw0, pw⟩ := hS
  obtain ⟨a1, a2, a3, a4, a5⟩ := hI
  obtain ⟨d1, d2, d3⟩ := tF d hd
  have hf' : ∀ a, T a ≠ 30 + 2 * d → T a ≠ 31 + 2 * d → σ' a = σ a := fun a h1 h2 => hf a (ntg (T := T) (by omega)) (ntg (T := T) (by omega))
  refine ⟨by rw [hf' h (by omega) (by omega)]; exact a1, pdOk_keep a2 (hf' _ (by omega) (by omega)), fun r hr => ?_, txOk_keep a4 (hf' _ (by omega) (by omega)) (hf' _ (by omega) (by omega)), tpOk_keep a5 (hf' _ (by omega) (by omega)) (hf' _ (by omega) (by omega))⟩
  show hZ G σ' (G.2.1 (G.2.1 h 1) r) (if r = d then z else S.1 r)
  by_cases hrd : r = d
  · subst hrd
    rw [if_pos rfl]
    exact hz
  · rw [if_neg hrd]
    obtain ⟨f1, f2, f3⟩ := tF r hr
    exact hZ_keep (a3 r hr) (hf' _ (by omega) (by omega)) (hf' _ (by omega) (by omega))
theorem wF {G : qG} {h n w : Nat} {T : Nat → Nat} (hS : fS G h n w T) {r : Nat} (hr : r < n) : wFix G (G.2.1 (G.2.1 h 1) r) := by
  obtain ⟨⟨tH, tFA, tRS, tlRS, tA1, tlA1, tA2, tlA2, tPR, tPW, tDV, tQ, tlQ, tR, tlR, tOV, tUN, tTX, tTXB, tTP, tTPB⟩, tF, ⟨cFA, cRS, cA1, cA2, cQ, cR, cOV, cUN, cTXB, cTPB⟩, pn0, pn, pw0, pw⟩ := hS
  obtain ⟨f1, f2, f3⟩ := tF r hr
  exact ⟨ntg (T := T) (by omega), by rw [f3]; omega⟩
theorem wRS {G : qG} {h n w : Nat} {T : Nat → Nat} (hS : fS G h n w T) : wFix G (G.2.1 h 2) := by
  obtain ⟨⟨tH, tFA, tRS, tlRS, tA1, tlA1, tA2, tlA2, tPR, tPW, tDV, tQ, tlQ, tR, tlR, tOV, tUN, tTX, tTXB, tTP, tTPB⟩, tF, ⟨cFA, cRS, cA1, cA2, cQ, cR, cOV, cUN, cTXB, cTPB⟩, pn0, pn, pw0, pw⟩ := hS
  exact ⟨ntg (T := T) (by omega), by omega⟩
theorem wA1 {G : qG} {h n w : Nat} {T : Nat → Nat} (hS : fS G h n w T) : wFix G (G.2.1 h 3) := by
  obtain ⟨⟨tH, tFA, tRS, tlRS, tA1, tlA1, tA2, tlA2, tPR, tPW, tDV, tQ, tlQ, tR, tlR, tOV, tUN, tTX, tTXB, tTP, tTPB⟩, tF, ⟨cFA, cRS, cA1, cA2, cQ, cR, cOV, cUN, cTXB, cTPB⟩, pn0, pn, pw0, pw⟩ := hS
  exact ⟨ntg (T := T) (by omega), by omega⟩
theorem wA2 {G : qG} {h n w : Nat} {T : Nat → Nat} (hS : fS G h n w T) : wFix G (G.2.1 h 4) := by
  obtain ⟨⟨tH, tFA, tRS, tlRS, tA1, tlA1, tA2, tlA2, tPR, tPW, tDV, tQ, tlQ, tR, tlR, tOV, tUN, tTX, tTXB, tTP, tTPB⟩, tF, ⟨cFA, cRS, cA1, cA2, cQ, cR, cOV, cUN, cTXB, cTPB⟩, pn0, pn, pw0, pw⟩ := hS
  exact ⟨ntg (T := T) (by omega), by omega⟩
theorem wQ {G : qG} {h n w : Nat} {T : Nat → Nat} (hS : fS G h n w T) : wFix G (G.2.1 (G.2.1 h 6) 0) := by
  obtain ⟨⟨tH, tFA, tRS, tlRS, tA1, tlA1, tA2, tlA2, tPR, tPW, tDV, tQ, tlQ, tR, tlR, tOV, tUN, tTX, tTXB, tTP, tTPB⟩, tF, ⟨cFA, cRS, cA1, cA2, cQ, cR, cOV, cUN, cTXB, cTPB⟩, pn0, pn, pw0, pw⟩ := hS
  exact ⟨ntg (T := T) (by omega), by omega⟩
theorem wR {G : qG} {h n w : Nat} {T : Nat → Nat} (hS : fS G h n w T) : wFix G (G.2.1 (G.2.1 h 6) 1) := by
  obtain ⟨⟨tH, tFA, tRS, tlRS, tA1, tlA1, tA2, tlA2, tPR, tPW, tDV, tQ, tlQ, tR, tlR, tOV, tUN, tTX, tTXB, tTP, tTPB⟩, tF, ⟨cFA, cRS, cA1, cA2, cQ, cR, cOV, cUN, cTXB, cTPB⟩, pn0, pn, pw0, pw⟩ := hS
  exact ⟨ntg (T := T) (by omega), by omega⟩
theorem dvF {G : qG} {h n w : Nat} {T : Nat → Nat} (hS : fS G h n w T) : dvFix G (G.2.1 h 6) := by
  have h1 := wQ hS
  have h2 := wR hS
  obtain ⟨⟨tH, tFA, tRS, tlRS, tA1, tlA1, tA2, tlA2, tPR, tPW, tDV, tQ, tlQ, tR, tlR, tOV, tUN, tTX, tTXB, tTP, tTPB⟩, tF, ⟨cFA, cRS, cA1, cA2, cQ, cR, cOV, cUN, cTXB, cTPB⟩, pn0, pn, pw0, pw⟩ := hS
  exact ⟨h1, h2, by omega, by omega, ⟨ntg (T := T) (by omega), ntg (T := T) (by omega), ntg (T := T) (by omega), ntg (T := T) (by omega)⟩, ⟨ntg (T := T) (by omega), ntg (T := T) (by omega), ntg (T := T) (by omega), ntg (T := T) (by omega), ntg (T := T) (by omega)⟩, ⟨ntg (T := T) (by omega), ntg (T := T) (by omega), ntg (T := T) (by omega), ntg (T := T) (by omega)⟩⟩
theorem dvO {G : qG} {h n w : Nat} {T : Nat → Nat} (hS : fS G h n w T) {x : Nat} (hx : T x < 12 ∨ 17 < T x) : dvOut G (G.2.1 h 6) x := by
  obtain ⟨⟨tH, tFA, tRS, tlRS, tA1, tlA1, tA2, tlA2, tPR, tPW, tDV, tQ, tlQ, tR, tlR, tOV, tUN, tTX, tTXB, tTP, tTPB⟩, tF, ⟨cFA, cRS, cA1, cA2, cQ, cR, cOV, cUN, cTXB, cTPB⟩, pn0, pn, pw0, pw⟩ := hS
  exact ⟨ntg (T := T) (by omega), ntg (T := T) (by omega), ntg (T := T) (by omega), ntg (T := T) (by omega), ntg (T := T) (by omega), ntg (T := T) (by omega)⟩
/-- size and sign of the number that is held -/
theorem wN_abs {G : qG} {σ : qS} {h c : Nat} : wN G σ h c = (wZ G σ h c).natAbs := by
  unfold wZ
  split <;> omega
theorem f5_isNone {G : qG} {h n w : Nat} {T : Nat → Nat} {x : Int32} {σ : qS} {post : Int32 → qS → Prop} (hS : fS G h n w T) (k0 : ∀ j, j < n → x = nI j → rg n x → post 0 σ) (k1 : ¬ rg n x → post 1 σ) : wpX5_isNone G h x σ post := by
  obtain ⟨⟨tH, tFA, tRS, tlRS, tA1, tlA1, tA2, tlA2, tPR, tPW, tDV, tQ, tlQ, tR, tlR, tOV, tUN, tTX, tTXB, tTP, tTPB⟩, tF, ⟨cFA, cRS, cA1, cA2, cQ, cR, cOV, cUN, cTXB, cTPB⟩, pn0, pn, pw0, pw⟩ := hS
  unfold wpX5_isNone bkX5_isNone_13
  rw [cFA]
  refine ⟨fun h => k1 (fun q => q.1 h), fun h1 => ⟨fun h2 => ?_, fun h2 => k1 (fun q => h2 q.2)⟩⟩
  obtain ⟨j, hj, e⟩ := rg_of (n := n) (by omega) ⟨h1, h2⟩
  exact k0 j hj e ⟨h1, h2⟩
/-- a register becomes what a Whole b holds -/
theorem f5_give {G : qG} {h n w d c : Nat} {T : Nat → Nat} {S : qSt} {σ τ : qS} {b : Nat} {z : Int} {post : qS → Prop} (hS : fS G h n w T) (hI : I5 G τ h n w S) (hf0 : ∀ a, T a = 0 → τ a = σ a) (hd : d < n) (hwb : wFix G b) (ho : wOk G τ b c) (hc : c ≤ w) (hz : wZ G τ b c = z) (hb : T b ≠ 31 + 2 * d)
    (k : ∀ σ', (∀ a, T a = 0 → σ' a = σ a) → (∀ a, a ≠ (G.2.1 (G.2.1 h 1) d) → a ≠ (G.2.1 (G.2.1 (G.2.1 h 1) d) 0) → σ' a = τ a) → I5 G σ' h n w (up S d z) → post σ') : wpX4_become G (G.2.1 (G.2.1 h 1) d) b τ post := by
  have hw := wF hS hd
  have hS' := hS
  obtain ⟨⟨tH, tFA, tRS, tlRS, tA1, tlA1, tA2, tlA2, tPR, tPW, tDV, tQ, tlQ, tR, tlR, tOV, tUN, tTX, tTXB, tTP, tTPB⟩, tF, ⟨cFA, cRS, cA1, cA2, cQ, cR, cOV, cUN, cTXB, cTPB⟩, pn0, pn, pw0, pw⟩ := hS
  obtain ⟨d1, d2, d3⟩ := tF d hd
  refine wl_become hw hwb ho (by omega) (ntg (T := T) (by omega)) (fun σ' f1 o1 _ z1 => k σ' (fun a ha => ?_) f1 (I5_up hS' hI hd f1 ⟨c, o1, by rw [z1, hz]⟩))
  rw [f1 a (ntg (T := T) (by omega)) (ntg (T := T) (by omega)), hf0 a ha]
theorem f5_put {G : qG} {h n w d c : Nat} {T : Nat → Nat} {S : qSt} {σ τ : qS} {z : Int} {post : Int32 → qS → Prop} (hS : fS G h n w T) (hI : I5 G τ h n w S) (hf0 : ∀ a, T a = 0 → τ a = σ a) (hd : d < n) (ho : wOk G τ (G.2.1 h 2) c) (hz : wZ G τ (G.2.1 h 2) c = z)
    (k : K5 G h n w T σ post (spPut w S d z)) : wpX5_put G h (nI d) τ post := by
  have hw := wRS hS
  have hcnt := wOk_count (w := w) ho
  have hN : wN G τ (G.2.1 h 2) c = z.natAbs := by rw [wN_abs, hz]
  have hS' := hS
  obtain ⟨a1, a2, -⟩ := id ho
  have hi0 := hI.1
  obtain ⟨⟨tH, tFA, tRS, tlRS, tA1, tlA1, tA2, tlA2, tPR, tPW, tDV, tQ, tlQ, tR, tlR, tOV, tUN, tTX, tTXB, tTP, tTPB⟩, tF, ⟨cFA, cRS, cA1, cA2, cQ, cR, cOV, cUN, cTXB, cTPB⟩, pn0, pn, pw0, pw⟩ := hS
  unfold wpX5_put
  rw [a1, hi0, nI_leI (by omega) (by omega), nI_clamp (by omega)]
  refine ⟨fun h1 => ⟨vp_in_nI (by omega) (by omega), ?_⟩, fun h1 => ?_⟩
  · rw [spPut_fit (by rw [← hN]; exact hcnt.mp h1)] at k
    exact f5_give hS' hI hf0 hd hw ho h1 hz (by omega) (fun σ' g1 g2 g3 => k σ' g1 g3)
  · rw [spPut_full (by rw [← hN]; exact fun q => h1 (hcnt.mpr q))] at k
    exact k τ hf0 hI

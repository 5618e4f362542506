/-! What the calls answer, and what they leave: on registers that hold whole numbers, a text, a tape. Both sides are tied to it. -/
abbrev qSt : Type := (Nat → Int) × (Nat × (Nat → Nat)) × (Nat × (Nat → Nat))
def up (S : qSt) (d : Nat) (z : Int) : qSt := (fun r => if r = d then z else S.1 r, S.2)
def rg (n : Nat) (x : Int32) : Prop := ¬ x < 0 ∧ x < nI n
theorem rg_of {n : Nat} {x : Int32} (hn : n < 2 ^ 31) (h : rg n x) : ∃ j, j < n ∧ x = nI j := by
  obtain ⟨j, hj, rfl⟩ := nI_of h.1
  exact ⟨j, (nI_ltI hj hn).mp h.2, rfl⟩
theorem rg_ix {n j : Nat} (hn : n < 2 ^ 31) (h : j < n) : rg n (nI j) := ⟨nI_pos (by omega), nI_lt h hn⟩
noncomputable def spPut (w : Nat) (S : qSt) (d : Nat) (z : Int) : Int32 × qSt := if z.natAbs < 4294967296 ^ w then (0, up S d z) else (-3, S)
/-- the registers that a call names are there, or it answers BAD -/
noncomputable def spIf (p : Prop) (a : Int32) (S : qSt) (r : Int32 × qSt) : Int32 × qSt := @ite _ p (Classical.propDecidable p) r (a, S)
theorem spIf_t {p : Prop} {a : Int32} {S : qSt} {r : Int32 × qSt} (h : p) : spIf p a S r = r := by unfold spIf; rw [if_pos h]
theorem spIf_f {p : Prop} {a : Int32} {S : qSt} {r : Int32 × qSt} (h : ¬ p) : spIf p a S r = (a, S) := by unfold spIf; rw [if_neg h]
abbrev ixo (x : Int32) : Nat := x.toNatClampNeg
noncomputable def spSet (n : Nat) (S : qSt) (x1 x2 : Int32) : Int32 × qSt := spIf (rg n x1) (-1) S (0, up S (ixo x1) x2.toInt)
noncomputable def pushZ (z : Int) (u : Nat) : Int := if z < 0 then z * 4294967296 - u else z * 4294967296 + u
noncomputable def spPush (n w : Nat) (S : qSt) (x1 x2 : Int32) : Int32 × qSt := spIf (rg n x1) (-1) S (spPut w S (ixo x1) (pushZ (S.1 (ixo x1)) (uI x2)))
noncomputable def spCopy (n : Nat) (S : qSt) (x1 x2 : Int32) : Int32 × qSt := spIf (rg n x1 ∧ rg n x2) (-1) S (0, up S (ixo x1) (S.1 (ixo x2)))
noncomputable def spNeg (n : Nat) (S : qSt) (x1 : Int32) : Int32 × qSt := spIf (rg n x1) (-1) S (0, up S (ixo x1) (-(S.1 (ixo x1))))
noncomputable def spAdd (n w : Nat) (S : qSt) (x1 x2 x3 : Int32) : Int32 × qSt := spIf (rg n x1 ∧ rg n x2 ∧ rg n x3) (-1) S (spPut w S (ixo x1) (S.1 (ixo x2) + S.1 (ixo x3)))
noncomputable def spSub (n w : Nat) (S : qSt) (x1 x2 x3 : Int32) : Int32 × qSt := spIf (rg n x1 ∧ rg n x2 ∧ rg n x3) (-1) S (spPut w S (ixo x1) (S.1 (ixo x2) - S.1 (ixo x3)))
noncomputable def spMul (n w : Nat) (S : qSt) (x1 x2 x3 : Int32) : Int32 × qSt := spIf (rg n x1 ∧ rg n x2 ∧ rg n x3) (-1) S (spPut w S (ixo x1) (S.1 (ixo x2) * S.1 (ixo x3)))
/-- quotient cut towards 0, rest with the sign of the dividend -/
def dq (a b : Int) : Int := if (a < 0) ↔ (b < 0) then ((a.natAbs / b.natAbs : Nat) : Int) else -((a.natAbs / b.natAbs : Nat) : Int)
def dr (a b : Int) : Int := if a < 0 then -((a.natAbs % b.natAbs : Nat) : Int) else ((a.natAbs % b.natAbs : Nat) : Int)
noncomputable def spDivMod (n : Nat) (S : qSt) (x1 x2 x3 x4 : Int32) : Int32 × qSt := spIf (rg n x1 ∧ rg n x2 ∧ rg n x3 ∧ rg n x4) (-1) S (spIf (¬ (S.1 (ixo x4) = 0 ∨ x1 = x2)) (-2) S (0, up (up S (ixo x1) (dq (S.1 (ixo x3)) (S.1 (ixo x4)))) (ixo x2) (dr (S.1 (ixo x3)) (S.1 (ixo x4)))))
noncomputable def spShl (n w : Nat) (S : qSt) (x1 x2 x3 : Int32) : Int32 × qSt := spIf (rg n x1 ∧ rg n x2) (-1) S (spIf (¬ x3 < 0) (-2) S (spPut w S (ixo x1) (S.1 (ixo x2) * 2 ^ (ixo x3))))
noncomputable def spShr (n w : Nat) (S : qSt) (x1 x2 x3 : Int32) : Int32 × qSt := spIf (rg n x1 ∧ rg n x2) (-1) S (spIf (¬ x3 < 0) (-2) S (spPut w S (ixo x1) (S.1 (ixo x2) / 2 ^ (ixo x3))))
noncomputable def spGcd (n : Nat) (S : qSt) (x1 x2 x3 : Int32) : Int32 × qSt := spIf (rg n x1 ∧ rg n x2 ∧ rg n x3) (-1) S (0, up S (ixo x1) ((Nat.gcd (S.1 (ixo x2)).natAbs (S.1 (ixo x3)).natAbs : Nat) : Int))
noncomputable def spPowMod (n : Nat) (S : qSt) (x1 x2 x3 x4 : Int32) : Int32 × qSt := spIf (rg n x1 ∧ rg n x2 ∧ rg n x3 ∧ rg n x4) (-1) S (spIf (0 < S.1 (ixo x4) ∧ 0 ≤ S.1 (ixo x3) ∧ (S.1 (ixo x3)).natAbs < 4294967296 ^ 2) (-2) S (0, up S (ixo x1) ((S.1 (ixo x2)) ^ (S.1 (ixo x3)).natAbs % S.1 (ixo x4))))
/-- the root, rounded down -/
def sqf (N : Nat) : Nat → Nat
  | 0 => 0
  | k + 1 => if (k + 1) * (k + 1) ≤ N then k + 1 else sqf N k
def sqr (N : Nat) : Nat := sqf N N
theorem sqf_spec (N : Nat) : ∀ k, sqf N k * sqf N k ≤ N ∧ sqf N k ≤ k ∧ (sqf N k < k → N < (sqf N k + 1) * (sqf N k + 1))
  | 0 => ⟨by show 0 * 0 ≤ N; omega, Nat.le_refl _, fun h => absurd h (Nat.lt_irrefl _)⟩
  | k + 1 => by
    unfold sqf
    by_cases h : (k + 1) * (k + 1) ≤ N
    · rw [if_pos h]
      exact ⟨h, Nat.le_refl _, fun h' => absurd h' (Nat.lt_irrefl _)⟩
    · rw [if_neg h]
      obtain ⟨a, b, c⟩ := sqf_spec N k
      refine ⟨a, by omega, fun _ => ?_⟩
      rcases Nat.eq_or_lt_of_le b with h1 | h1
      · rw [h1]; omega
      · exact c h1
theorem sqr_spec (N : Nat) : sqr N * sqr N ≤ N ∧ N < (sqr N + 1) * (sqr N + 1) := by
  obtain ⟨a, b, c⟩ := sqf_spec N N
  refine ⟨a, ?_⟩
  rcases Nat.eq_or_lt_of_le b with h1 | h1
  · show N < (sqf N N + 1) * (sqf N N + 1)
    rw [h1]
    have : N * 1 ≤ (N + 1) * N := by rw [Nat.mul_one]; exact Nat.le_mul_of_pos_left N (by omega)
    have h2 : (N + 1) * (N + 1) = (N + 1) * N + (N + 1) := Nat.mul_succ _ _
    omega
  · exact c h1
theorem sqr_unique {N r : Nat} (h1 : r * r ≤ N) (h2 : N < (r + 1) * (r + 1)) : r = sqr N := by
  obtain ⟨a, b⟩ := sqr_spec N
  rcases Nat.lt_trichotomy r (sqr N) with h | h | h
  · have := Nat.mul_le_mul (show r + 1 ≤ sqr N from h) (show r + 1 ≤ sqr N from h)
    omega
  · exact h
  · have := Nat.mul_le_mul (show sqr N + 1 ≤ r from h) (show sqr N + 1 ≤ r from h)
    omega
noncomputable def spRoot (n : Nat) (S : qSt) (x1 x2 : Int32) : Int32 × qSt := spIf (rg n x1 ∧ rg n x2) (-1) S (spIf (¬ S.1 (ixo x2) < 0) (-2) S (0, up S (ixo x1) ((sqr (S.1 (ixo x2)).natAbs : Nat) : Int)))
def cmpZ (a b : Int) : Int32 := if a < b then -1 else if a = b then 0 else 1
noncomputable def spCmp (n : Nat) (S : qSt) (x1 x2 : Int32) : Int32 × qSt := spIf (rg n x1 ∧ rg n x2) 2 S (cmpZ (S.1 (ixo x1)) (S.1 (ixo x2)), S)
noncomputable def spSign (n : Nat) (S : qSt) (x1 : Int32) : Int32 × qSt := spIf (rg n x1) 2 S (cmpZ (S.1 (ixo x1)) 0, S)
def bl (N : Nat) : Nat := if N = 0 then 0 else N.log2 + 1
theorem bl_is (N : Nat) : isBits N (bl N) := by
  unfold bl
  by_cases h : N = 0
  · rw [if_pos h]; exact Or.inl ⟨h, rfl⟩
  · rw [if_neg h]
    exact Or.inr ⟨by omega, by rw [Nat.add_sub_cancel]; exact Nat.log2_self_le h, Nat.lt_log2_self⟩
noncomputable def spLength (n : Nat) (S : qSt) (x1 x2 : Int32) : Int32 × qSt := spIf (rg n x1 ∧ ¬ x2 < 0 ∧ x2 ≤ 1) (-1) S (if x2 = 0 then nI ((bl (S.1 (ixo x1)).natAbs + 31) / 32) else nI (bl (S.1 (ixo x1)).natAbs), S)
noncomputable def spLimb (n : Nat) (S : qSt) (x1 x2 : Int32) : Int32 × qSt := spIf (rg n x1 ∧ ¬ x2 < 0) 0 S (nI ((S.1 (ixo x1)).natAbs / 4294967296 ^ (ixo x2) % 4294967296), S)
noncomputable def ndig (N : Nat) : Nat := Classical.choose (isDig_ex N)
theorem ndig_is (N : Nat) : isDig N (ndig N) := Classical.choose_spec (isDig_ex N)
noncomputable def txOf (z : Int) : Nat × (Nat → Nat) := (ndig z.natAbs + (if z < 0 then 1 else 0), tch z.natAbs (ndig z.natAbs))
noncomputable def spWrite (n : Nat) (S : qSt) (x1 : Int32) : Int32 × qSt := spIf (rg n x1) (-1) S (nI (txOf (S.1 (ixo x1))).1, (S.1, txOf (S.1 (ixo x1)), S.2.2))
noncomputable def spWritten (S : qSt) (x1 : Int32) : Int32 × qSt := spIf (rg S.2.1.1 x1) (-1) S (nI (S.2.1.2 (S.2.1.1 - 1 - ixo x1)), S)
noncomputable def spType (S : qSt) (x1 : Int64) (x3 : Int32) : Int32 × qSt := spIf (¬ x3 < 1 ∧ x3 ≤ 8) (-1) S (spIf (S.2.2.1 + ixo x3 ≤ 1300) (-3) S (nI (S.2.2.1 + ixo x3), (S.1, S.2.1, (S.2.2.1 + ixo x3, tpApp S.2.2.2 S.2.2.1 (uL x1) (ixo x3)))))
/-- the first place that holds no digit, from i on, among k -/
def fw (b : Nat → Nat) (i : Nat) : Nat → Nat
  | 0 => i
  | k + 1 => if isD (b i) then fw b (i + 1) k else i
theorem fw_all (b : Nat → Nat) : ∀ (k i : Nat), (∀ j, i ≤ j → j < i + k → isD (b j)) → fw b i k = i + k
  | 0, i, _ => rfl
  | k + 1, i, h => by
    unfold fw
    rw [if_pos (h i (Nat.le_refl _) (by omega)), fw_all b k (i + 1) (fun j h1 h2 => h j (by omega) (by omega))]
    omega
theorem fw_at (b : Nat → Nat) (p : Nat) : ∀ (k i : Nat), i ≤ p → p < i + k → (∀ j, i ≤ j → j < p → isD (b j)) → ¬ isD (b p) → fw b i k = p
  | 0, i, h1, h2, _, _ => absurd h2 (by omega)
  | k + 1, i, h1, h2, h3, h4 => by
    unfold fw
    rcases Nat.eq_or_lt_of_le h1 with h | h
    · subst h
      rw [if_neg h4]
    · rw [if_pos (h3 i (Nat.le_refl _) h), fw_at b p k (i + 1) h (by omega) (fun j j1 j2 => h3 j (by omega) j2) h4]
def tpZ (b : Nat → Nat) (m : Nat) : Int := if b 0 = 45 then -(dv b (dFrom b m) (m - dFrom b m) : Int) else (dv b (dFrom b m) (m - dFrom b m) : Int)
noncomputable def spRead (n w : Nat) (S : qSt) (x1 : Int32) : Int32 × qSt := spIf (rg n x1) (-1) S
  (spIf (fw S.2.2.2 (dFrom S.2.2.2 S.2.2.1) (S.2.2.1 - dFrom S.2.2.2 S.2.2.1) = S.2.2.1 ∧ dFrom S.2.2.2 S.2.2.1 < S.2.2.1) (-10 - nI (fw S.2.2.2 (dFrom S.2.2.2 S.2.2.1) (S.2.2.1 - dFrom S.2.2.2 S.2.2.1))) (S.1, S.2.1, (0, S.2.2.2))
    (spPut w (S.1, S.2.1, (0, S.2.2.2)) (ixo x1) (tpZ S.2.2.2 S.2.2.1)))
theorem spPut_fit {w : Nat} {S : qSt} {d : Nat} {z : Int} (h : z.natAbs < 4294967296 ^ w) : spPut w S d z = (0, up S d z) := by unfold spPut; rw [if_pos h]
theorem spPut_full {w : Nat} {S : qSt} {d : Nat} {z : Int} (h : ¬ z.natAbs < 4294967296 ^ w) : spPut w S d z = (-3, S) := by unfold spPut; rw [if_neg h]

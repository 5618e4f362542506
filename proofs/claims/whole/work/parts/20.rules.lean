/-! The world: addresses L, a shape G that stands (kind of each address, its references, its length), numbers σ that move (address, slot). -/
abbrev qS : Type := Nat → Nat → Int32
abbrev qG : Type := (Nat → Nat) × (Nat → Nat → Nat) × (Nat → Nat)
abbrev qE : Type := va_G × ClassId × ClassId × ClassId × ClassId
def q_tys (E : qE) : List (ClassId × FieldType) := [(E.2.1, .int), (E.2.2.1, .byte), (E.2.2.2.1, .boolean), (E.2.2.2.2, .object "IntFile$Whole")]
/-- in an object that is being made a reference is null (0) or stands one higher -/
def qr (n : Nat) : Value := match n with
  | 0 => .null
  | k + 1 => .ref k
def qo (n : Nat) : Option Nat := match n with
  | 0 => none
  | k + 1 => some k
def q_cell (E : qE) (G : qG) (a : Nat) (v : Nat → Int32) : va_E := match G.1 a with
  | 0 => .inr (0, [.ref (G.2.1 a 0), .ref (G.2.1 a 1), .ref (G.2.1 a 2), .ref (G.2.1 a 3)])
  | 1 => .inr (1, [.int (v 0), .ref (G.2.1 a 1), .int (v 2), .int (v 3), .int (v 4), .int (v 5)])
  | 2 => .inr (2, [.ref (G.2.1 a 0), .int (v 1)])
  | 3 => .inr (3, [.ref (G.2.1 a 0), .int (v 1)])
  | 4 => .inr (4, [.ref (G.2.1 a 0), .int (v 1), .int (v 2)])
  | 5 => .inr (5, [.int (v 0), .ref (G.2.1 a 1), .ref (G.2.1 a 2), .ref (G.2.1 a 3), .ref (G.2.1 a 4), .ref (G.2.1 a 5), .ref (G.2.1 a 6), .ref (G.2.1 a 7), .ref (G.2.1 a 8)])
  | 6 => .inr (6, [.int (v 0), .int (v 1), .ref (G.2.1 a 2), .ref (G.2.1 a 3), .ref (G.2.1 a 4), .ref (G.2.1 a 5), .int (v 6), .ref (G.2.1 a 7), .int (v 8)])
  | 7 => .inl (E.2.1, G.2.2 a, .inl v)
  | 8 => .inl (E.2.2.1, G.2.2 a, .inl v)
  | 9 => .inl (E.2.2.2.1, G.2.2 a, .inl v)
  | 11 => .inr (0, [qr (G.2.1 a 0), qr (G.2.1 a 1), qr (G.2.1 a 2), qr (G.2.1 a 3)])
  | 12 => .inr (1, [.int (v 0), qr (G.2.1 a 1), .int (v 2), .int (v 3), .int (v 4), .int (v 5)])
  | 13 => .inr (2, [qr (G.2.1 a 0), .int (v 1)])
  | 14 => .inr (3, [qr (G.2.1 a 0), .int (v 1)])
  | 15 => .inr (4, [qr (G.2.1 a 0), .int (v 1), .int (v 2)])
  | 16 => .inr (5, [.int (v 0), qr (G.2.1 a 1), qr (G.2.1 a 2), qr (G.2.1 a 3), qr (G.2.1 a 4), qr (G.2.1 a 5), qr (G.2.1 a 6), qr (G.2.1 a 7), qr (G.2.1 a 8)])
  | 17 => .inr (6, [.int (v 0), .int (v 1), qr (G.2.1 a 2), qr (G.2.1 a 3), qr (G.2.1 a 4), qr (G.2.1 a 5), .int (v 6), qr (G.2.1 a 7), .int (v 8)])
  | 18 => .inl (E.2.2.2.2, G.2.2 a, .inr (.inr (.inr (.inr (fun i => qo (G.2.1 a i))))))
  | _ => .inl (E.2.2.2.2, G.2.2 a, .inr (.inr (.inr (.inr (fun i => some (G.2.1 a i))))))
theorem qc0 {E : qE} {G : qG} {a : Nat} (h : G.1 a = 0) (v : Nat → Int32) : q_cell E G a v = .inr (0, [.ref (G.2.1 a 0), .ref (G.2.1 a 1), .ref (G.2.1 a 2), .ref (G.2.1 a 3)]) := by simp only [q_cell, h]
theorem qc1 {E : qE} {G : qG} {a : Nat} (h : G.1 a = 1) (v : Nat → Int32) : q_cell E G a v = .inr (1, [.int (v 0), .ref (G.2.1 a 1), .int (v 2), .int (v 3), .int (v 4), .int (v 5)]) := by simp only [q_cell, h]
theorem qc2 {E : qE} {G : qG} {a : Nat} (h : G.1 a = 2) (v : Nat → Int32) : q_cell E G a v = .inr (2, [.ref (G.2.1 a 0), .int (v 1)]) := by simp only [q_cell, h]
theorem qc3 {E : qE} {G : qG} {a : Nat} (h : G.1 a = 3) (v : Nat → Int32) : q_cell E G a v = .inr (3, [.ref (G.2.1 a 0), .int (v 1)]) := by simp only [q_cell, h]
theorem qc4 {E : qE} {G : qG} {a : Nat} (h : G.1 a = 4) (v : Nat → Int32) : q_cell E G a v = .inr (4, [.ref (G.2.1 a 0), .int (v 1), .int (v 2)]) := by simp only [q_cell, h]
theorem qc5 {E : qE} {G : qG} {a : Nat} (h : G.1 a = 5) (v : Nat → Int32) : q_cell E G a v = .inr (5, [.int (v 0), .ref (G.2.1 a 1), .ref (G.2.1 a 2), .ref (G.2.1 a 3), .ref (G.2.1 a 4), .ref (G.2.1 a 5), .ref (G.2.1 a 6), .ref (G.2.1 a 7), .ref (G.2.1 a 8)]) := by simp only [q_cell, h]
theorem qc6 {E : qE} {G : qG} {a : Nat} (h : G.1 a = 6) (v : Nat → Int32) : q_cell E G a v = .inr (6, [.int (v 0), .int (v 1), .ref (G.2.1 a 2), .ref (G.2.1 a 3), .ref (G.2.1 a 4), .ref (G.2.1 a 5), .int (v 6), .ref (G.2.1 a 7), .int (v 8)]) := by simp only [q_cell, h]
theorem qc7 {E : qE} {G : qG} {a : Nat} (h : G.1 a = 7) (v : Nat → Int32) : q_cell E G a v = .inl (E.2.1, G.2.2 a, .inl v) := by simp only [q_cell, h]
theorem qc8 {E : qE} {G : qG} {a : Nat} (h : G.1 a = 8) (v : Nat → Int32) : q_cell E G a v = .inl (E.2.2.1, G.2.2 a, .inl v) := by simp only [q_cell, h]
theorem qc9 {E : qE} {G : qG} {a : Nat} (h : G.1 a = 9) (v : Nat → Int32) : q_cell E G a v = .inl (E.2.2.2.1, G.2.2 a, .inl v) := by simp only [q_cell, h]
theorem qc10 {E : qE} {G : qG} {a : Nat} (h : G.1 a = 10) (v : Nat → Int32) : q_cell E G a v = .inl (E.2.2.2.2, G.2.2 a, .inr (.inr (.inr (.inr (fun i => some (G.2.1 a i)))))) := by simp only [q_cell, h]
theorem qc11 {E : qE} {G : qG} {a : Nat} (h : G.1 a = 11) (v : Nat → Int32) : q_cell E G a v = .inr (0, [qr (G.2.1 a 0), qr (G.2.1 a 1), qr (G.2.1 a 2), qr (G.2.1 a 3)]) := by simp only [q_cell, h]
theorem qc12 {E : qE} {G : qG} {a : Nat} (h : G.1 a = 12) (v : Nat → Int32) : q_cell E G a v = .inr (1, [.int (v 0), qr (G.2.1 a 1), .int (v 2), .int (v 3), .int (v 4), .int (v 5)]) := by simp only [q_cell, h]
theorem qc13 {E : qE} {G : qG} {a : Nat} (h : G.1 a = 13) (v : Nat → Int32) : q_cell E G a v = .inr (2, [qr (G.2.1 a 0), .int (v 1)]) := by simp only [q_cell, h]
theorem qc14 {E : qE} {G : qG} {a : Nat} (h : G.1 a = 14) (v : Nat → Int32) : q_cell E G a v = .inr (3, [qr (G.2.1 a 0), .int (v 1)]) := by simp only [q_cell, h]
theorem qc15 {E : qE} {G : qG} {a : Nat} (h : G.1 a = 15) (v : Nat → Int32) : q_cell E G a v = .inr (4, [qr (G.2.1 a 0), .int (v 1), .int (v 2)]) := by simp only [q_cell, h]
theorem qc16 {E : qE} {G : qG} {a : Nat} (h : G.1 a = 16) (v : Nat → Int32) : q_cell E G a v = .inr (5, [.int (v 0), qr (G.2.1 a 1), qr (G.2.1 a 2), qr (G.2.1 a 3), qr (G.2.1 a 4), qr (G.2.1 a 5), qr (G.2.1 a 6), qr (G.2.1 a 7), qr (G.2.1 a 8)]) := by simp only [q_cell, h]
theorem qc17 {E : qE} {G : qG} {a : Nat} (h : G.1 a = 17) (v : Nat → Int32) : q_cell E G a v = .inr (6, [.int (v 0), .int (v 1), qr (G.2.1 a 2), qr (G.2.1 a 3), qr (G.2.1 a 4), qr (G.2.1 a 5), .int (v 6), qr (G.2.1 a 7), .int (v 8)]) := by simp only [q_cell, h]
theorem qc18 {E : qE} {G : qG} {a : Nat} (h : G.1 a = 18) (v : Nat → Int32) : q_cell E G a v = .inl (E.2.2.2.2, G.2.2 a, .inr (.inr (.inr (.inr (fun i => qo (G.2.1 a i)))))) := by simp only [q_cell, h]
def q_wd (E : qE) (L : List Nat) (G : qG) (σ : qS) : va_W := va_pl L (fun a => q_cell E G a (σ a))
/-- one number of the world is set -/
def q_st (σ : qS) (a k : Nat) (x : Int32) : qS := fun b j => if b = a ∧ j = k then x else σ b j
theorem q_st_self (σ : qS) (a k : Nat) (x : Int32) : q_st σ a k x a k = x := by simp [q_st]
theorem q_st_ne (σ : qS) {a k b j : Nat} (x : Int32) (h : ¬ (b = a ∧ j = k)) : q_st σ a k x b j = σ b j := by simp only [q_st, if_neg h]
theorem q_st_a (σ : qS) {a k b : Nat} (x : Int32) (h : b ≠ a) : q_st σ a k x b = σ b := by funext j; simp [q_st, h]
theorem q_st_at (σ : qS) (a k : Nat) (x : Int32) : q_st σ a k x a = upd (σ a) k x := by funext j; simp [q_st, upd]
/-- a row is laid over another -/
def q_cp (σ : qS) (a0 sp a dp n : Nat) : qS := fun b => if b = a then va_cpy (σ a0) (σ a) sp dp n else σ b
/-- which kinds the references of each kind have -/
def q_WF (G : qG) (L : List Nat) : Prop :=
  (∀ a, a ∈ L → G.1 a = 0 → (G.2.1 a 0 ∈ L ∧ G.1 (G.2.1 a 0) = 4) ∧ (G.2.1 a 1 ∈ L ∧ G.1 (G.2.1 a 1) = 4) ∧ (G.2.1 a 2 ∈ L ∧ G.1 (G.2.1 a 2) = 7) ∧ (G.2.1 a 3 ∈ L ∧ G.1 (G.2.1 a 3) = 7)) ∧
  (∀ a, a ∈ L → G.1 a = 1 → (G.2.1 a 1 ∈ L ∧ G.1 (G.2.1 a 1) = 7)) ∧
  (∀ a, a ∈ L → G.1 a = 2 → (G.2.1 a 0 ∈ L ∧ G.1 (G.2.1 a 0) = 8)) ∧
  (∀ a, a ∈ L → G.1 a = 3 → (G.2.1 a 0 ∈ L ∧ G.1 (G.2.1 a 0) = 8)) ∧
  (∀ a, a ∈ L → G.1 a = 4 → (G.2.1 a 0 ∈ L ∧ G.1 (G.2.1 a 0) = 7)) ∧
  (∀ a, a ∈ L → G.1 a = 5 → (G.2.1 a 1 ∈ L ∧ G.1 (G.2.1 a 1) = 10) ∧ (G.2.1 a 2 ∈ L ∧ G.1 (G.2.1 a 2) = 4) ∧ (G.2.1 a 3 ∈ L ∧ G.1 (G.2.1 a 3) = 4) ∧ (G.2.1 a 4 ∈ L ∧ G.1 (G.2.1 a 4) = 4) ∧ (G.2.1 a 5 ∈ L ∧ G.1 (G.2.1 a 5) = 1) ∧ (G.2.1 a 6 ∈ L ∧ G.1 (G.2.1 a 6) = 0) ∧ (G.2.1 a 7 ∈ L ∧ G.1 (G.2.1 a 7) = 3) ∧ (G.2.1 a 8 ∈ L ∧ G.1 (G.2.1 a 8) = 2)) ∧
  (∀ a, a ∈ L → G.1 a = 6 → (G.2.1 a 2 ∈ L ∧ G.1 (G.2.1 a 2) = 7) ∧ (G.2.1 a 3 ∈ L ∧ G.1 (G.2.1 a 3) = 7) ∧ (G.2.1 a 4 ∈ L ∧ G.1 (G.2.1 a 4) = 9) ∧ (G.2.1 a 5 ∈ L ∧ G.1 (G.2.1 a 5) = 7) ∧ (G.2.1 a 7 ∈ L ∧ G.1 (G.2.1 a 7) = 7)) ∧
  (∀ a, a ∈ L → G.1 a = 10 → ∀ i, i < G.2.2 a → (G.2.1 a i ∈ L ∧ G.1 (G.2.1 a i) = 4))
def q_free (L : List Nat) (sz : Nat) : Nat → Prop := fun q => q ∈ L ∨ sz ≤ q
def q_B (E : qE) (L : List Nat) (G : qG) (σ : qS) (t : State) : Prop := va_P E.1 vwCl (q_wd E L G σ) t.heap ∧ va_K E.1 vwCl (q_tys E) t
def q_Pc (E : qE) (L : List Nat) (G : qG) (σ : qS) (sz : Nat) (av : List Value) : Array Value → State → Prop := va_Pc av (fun U => U.heap.size = sz ∧ va_P E.1 vwCl (q_wd E L G σ) U.heap ∧ va_K E.1 vwCl (q_tys E) U)
/-- contracts: from the numbers σ, with the arguments av; what is answered and the numbers behind it have 'post' -/
def MtI (l : Launch) (E : qE) (L : List Nat) (G : qG) (y : MethodName) (ws : List Cond) (rm : Room) (av : List Value) (σ : qS) (post : Int32 → qS → Prop) : Prop := ∀ sz : Nat, Met l y ws rm (q_Pc E L G σ sz av) (va_Qi post (q_B E L G) (q_free L sz)) 0 0 (q_free L sz)
def MtL (l : Launch) (E : qE) (L : List Nat) (G : qG) (y : MethodName) (ws : List Cond) (rm : Room) (av : List Value) (σ : qS) (post : Int64 → qS → Prop) : Prop := ∀ sz : Nat, Met l y ws rm (q_Pc E L G σ sz av) (va_Ql post (q_B E L G) (q_free L sz)) 0 0 (q_free L sz)
def MtV (l : Launch) (E : qE) (L : List Nat) (G : qG) (y : MethodName) (ws : List Cond) (rm : Room) (av : List Value) (σ : qS) (post : qS → Prop) : Prop := ∀ sz : Nat, Met l y ws rm (q_Pc E L G σ sz av) (va_Qv post (q_B E L G) (q_free L sz)) 0 0 (q_free L sz)
/-- rooms by levels -/
def q_rm (k : Nat) : Room := { frames := 2 * k, cells := 0, slots := 0, locals := 60 * k }
/-- what stands fast in a method's body -/
def q_C (p : Program) (s : State) (m : MethodId) (args : Array Value) (meth : Method) (c : Code) (cc : ByteArray) (nL : Nat) (Ts : List Cond) (own : String) (ret : Option FieldType) (E : qE) (L : List Nat) (G : qG) (A : Nat → Prop) : Prop :=
  CallFix p m c cc nL s args Ts own ∧ meth.sig.returnType = ret ∧ meth.locks = false ∧ va_K E.1 vwCl (q_tys E) s ∧ A = q_free L s.heap.size ∧ L.Nodup ∧ q_WF G L
/-- the judgement: from here, with the numbers σ, the locals lv and the stack st, the machine comes to Q -/
def Wd (p : Program) (l : Launch) (e : Env) (R : Room) (s : State) (m : MethodId) (args : Array Value) (below : List Frame) (meth : Method) (c : Code) (E : qE) (L : List Nat) (G : qG) (A : Nat → Prop) (Q : State → Prop) (nL : Nat) (σ : qS) (pc : Nat) (lv : List (Nat × Value)) (st : List Value) : Prop :=
  ∀ (H : Heap) (locs : List Loc) (ls : Array Slot), va_P E.1 vwCl (q_wd E L G σ) H → va_S A s.heap H locs → lv_has ls nL lv → W p l e R s m args below meth c H locs 0 0 Q (F0 m pc ls st)
theorem q_nd {L : List Nat} (h : L.Nodup) : ∀ (i j a : Nat), L[i]? = some a → L[j]? = some a → i = j := by
  intro i j a hi hj
  have h1 := (List.getElem?_eq_some_iff.mp hi).1
  exact (List.getElem?_inj h1 h).mp (hi.trans hj.symm)
theorem q_D {E : qE} {L : List Nat} {G : qG} {A : Nat → Prop} (hN : L.Nodup) (hA : ∀ a, a ∈ L → A a) (σ : qS) : va_D A (q_wd E L G σ) := by
  refine ⟨fun i j x y hx hy hxy => ?_, fun k q hk => ?_⟩
  · unfold q_wd va_pl at hx hy
    rw [List.getElem?_map] at hx hy
    cases h1 : L[i]? with
    | none => rw [h1] at hx; cases hx
    | some a =>
      cases h2 : L[j]? with
      | none => rw [h2] at hy; cases hy
      | some b =>
        rw [h1] at hx; rw [h2] at hy
        cases hx; cases hy
        have hab : a = b := hxy
        subst hab
        exact q_nd hN i j a h1 h2
  · unfold q_wd va_pl at hk
    rw [List.getElem?_map] at hk
    cases h1 : L[k]? with
    | none => rw [h1] at hk; cases hk
    | some a =>
      rw [h1] at hk
      cases hk
      exact hA a (List.mem_of_getElem? h1)
theorem q_at {E : qE} {L : List Nat} {G : qG} {σ : qS} {a : Nat} (h : a ∈ L) : ∃ k : Nat, (q_wd E L G σ)[k]? = some (a, q_cell E G a (σ a)) := va_pl_get (X := []) (f := fun a => q_cell E G a (σ a)) h
theorem q_set {E : qE} {L : List Nat} {G : qG} {σ σ' : qS} {A : Nat → Prop} {a k : Nat} {x : va_E} (hD : va_D A (q_wd E L G σ)) (h : a ∈ L) (hk : (q_wd E L G σ)[k]? = some (a, q_cell E G a (σ a))) (hx : q_cell E G a (σ' a) = x) (ho : ∀ b, b ≠ a → σ' b = σ b) : (q_wd E L G σ).set k (a, x) = q_wd E L G σ' := by
  have h1 := va_pl_set (X := []) (f := fun a => q_cell E G a (σ a)) (e := x) hD h hk
  refine h1.trans ?_
  show va_pl L _ = va_pl L _
  apply va_pl_congr
  intro b
  by_cases hb : b = a
  · subst hb
    rw [va_up_self, hx]
  · rw [va_up_ne _ _ hb, ho b hb]
theorem q_A1 {L : List Nat} {s : State} {A : Nat → Prop} {H : Heap} {locs : List Loc} (hA : A = q_free L s.heap.size) (hS : va_S A s.heap H locs) : ∀ q, q_free L H.size q → A q := by
  intro q h
  subst hA
  rcases h with h | h
  · exact Or.inl h
  · exact Or.inr (Nat.le_trans hS.1 h)
section QR
variable {p : Program} {l : Launch} {e : Env} {R : Room} {s : State} {m : MethodId} {args : Array Value} {below : List Frame} {meth : Method} {c : Code} {Q : State → Prop} {cc : ByteArray} {pc : Nat} {rest : List Value} {A : Nat → Prop} {nL : Nat} {Ts : List Cond} {own : String} {ret : Option FieldType} {E : qE} {L : List Nat} {G : qG} {σ : qS} {lv : List (Nat × Value)}
theorem q_iconst (C : q_C p s m args meth c cc nL Ts own ret E L G A) {n : Int} {v : Int32} (hdg : decode cc pc = .ok (.iconst n, 1)) (hv : Int32.ofInt n = v) (k : Wd p l e R s m args below meth c E L G A Q nL σ (pc + 1) lv (.int v :: rest)) : Wd p l e R s m args below meth c E L G A Q nL σ pc lv (rest) := fun H locs ls hP hS hl => lv_iconst C.1.1 C.1.2.1 hdg hv (k H locs ls hP hS hl)
theorem q_bipush (C : q_C p s m args meth c cc nL Ts own ret E L G A) {n : Int} {v : Int32} (hdg : decode cc pc = .ok (.bipush n, 2)) (hv : (Int8.ofInt n).toInt32 = v) (k : Wd p l e R s m args below meth c E L G A Q nL σ (pc + 2) lv (.int v :: rest)) : Wd p l e R s m args below meth c E L G A Q nL σ pc lv (rest) := fun H locs ls hP hS hl => lv_bipush C.1.1 C.1.2.1 hdg hv (k H locs ls hP hS hl)
theorem q_sipush (C : q_C p s m args meth c cc nL Ts own ret E L G A) {n : Int} {v : Int32} (hdg : decode cc pc = .ok (.sipush n, 3)) (hv : (Int16.ofInt n).toInt32 = v) (k : Wd p l e R s m args below meth c E L G A Q nL σ (pc + 3) lv (.int v :: rest)) : Wd p l e R s m args below meth c E L G A Q nL σ pc lv (rest) := fun H locs ls hP hS hl => lv_sipush C.1.1 C.1.2.1 hdg hv (k H locs ls hP hS hl)
theorem q_lconst (C : q_C p s m args meth c cc nL Ts own ret E L G A) {n : Fin 2} {v : Int64} (hdg : decode cc pc = .ok (.lconst n, 1)) (hv : Int64.ofNat (n : Nat) = v) (k : Wd p l e R s m args below meth c E L G A Q nL σ (pc + 1) lv (.long v :: rest)) : Wd p l e R s m args below meth c E L G A Q nL σ pc lv (rest) := fun H locs ls hP hS hl => lv_lconst C.1.1 C.1.2.1 hdg hv (k H locs ls hP hS hl)
theorem q_ldc (C : q_C p s m args meth c cc nL Ts own ret E L G A) {n : Nat} {v : Int32} (hdg : decode cc pc = .ok (.ldc n, 2)) (hc : Cond.constant own n v ∈ Ts) (k : Wd p l e R s m args below meth c E L G A Q nL σ (pc + 2) lv (.int v :: rest)) : Wd p l e R s m args below meth c E L G A Q nL σ pc lv (rest) := fun H locs ls hP hS hl => lv_ldc C.1.1 C.1.2.1 C.1.2.2.2.1 (C.1.2.2.2.2 _ hc) hdg (k H locs ls hP hS hl)
theorem q_ldcw (C : q_C p s m args meth c cc nL Ts own ret E L G A) {n : Nat} {v : Int32} (hdg : decode cc pc = .ok (.ldc_w n, 3)) (hc : Cond.constant own n v ∈ Ts) (k : Wd p l e R s m args below meth c E L G A Q nL σ (pc + 3) lv (.int v :: rest)) : Wd p l e R s m args below meth c E L G A Q nL σ pc lv (rest) := fun H locs ls hP hS hl => lv_ldcw C.1.1 C.1.2.1 C.1.2.2.2.1 (C.1.2.2.2.2 _ hc) hdg (k H locs ls hP hS hl)
theorem q_ldc2 (C : q_C p s m args meth c cc nL Ts own ret E L G A) {n : Nat} {v : Int64} (hdg : decode cc pc = .ok (.ldc2_w n, 3)) (hc : Cond.constantLong own n v ∈ Ts) (k : Wd p l e R s m args below meth c E L G A Q nL σ (pc + 3) lv (.long v :: rest)) : Wd p l e R s m args below meth c E L G A Q nL σ pc lv (rest) := fun H locs ls hP hS hl => lv_ldc2 C.1.1 C.1.2.1 C.1.2.2.2.1 (C.1.2.2.2.2 _ hc) hdg (k H locs ls hP hS hl)
theorem q_iload_n (C : q_C p s m args meth c cc nL Ts own ret E L G A) {kf : Fin 4} {i : Nat} {x : Int32} (hdg : decode cc pc = .ok (.iload_n kf, 1)) (hi : (kf : Nat) = i) (j : Nat) (hj : lv[j]? = some (i, .int x)) (k : Wd p l e R s m args below meth c E L G A Q nL σ (pc + 1) lv (.int x :: rest)) : Wd p l e R s m args below meth c E L G A Q nL σ pc lv (rest) := fun H locs ls hP hS hl => lv_iload_n C.1.1 C.1.2.1 hdg hi (lv_at hl j hj) (k H locs ls hP hS hl)
theorem q_iload (C : q_C p s m args meth c cc nL Ts own ret E L G A) {i : Nat} {x : Int32} (hdg : decode cc pc = .ok (.iload i, 2)) (j : Nat) (hj : lv[j]? = some (i, .int x)) (k : Wd p l e R s m args below meth c E L G A Q nL σ (pc + 2) lv (.int x :: rest)) : Wd p l e R s m args below meth c E L G A Q nL σ pc lv (rest) := fun H locs ls hP hS hl => lv_iload C.1.1 C.1.2.1 hdg (lv_at hl j hj) (k H locs ls hP hS hl)
theorem q_istore_n (C : q_C p s m args meth c cc nL Ts own ret E L G A) {kf : Fin 4} {i : Nat} {x : Int32} {lv' : List (Nat × Value)} (hdg : decode cc pc = .ok (.istore_n kf, 1)) (hi : (kf : Nat) = i) (hn : i < nL) (hf : (i, Value.int x) :: lv.filter (fun q => !(q.1 == i) && !(q.1 + 1 == i && q.2.category == 2)) = lv') (k : Wd p l e R s m args below meth c E L G A Q nL σ (pc + 1) lv' rest) : Wd p l e R s m args below meth c E L G A Q nL σ pc lv (.int x :: rest) := fun H locs ls hP hS hl => lv_istore_n C.1.1 C.1.2.1 hdg hi hl hn hf (fun ls' hl' => k H locs ls' hP hS hl')
theorem q_istore (C : q_C p s m args meth c cc nL Ts own ret E L G A) {i : Nat} {x : Int32} {lv' : List (Nat × Value)} (hdg : decode cc pc = .ok (.istore i, 2)) (hn : i < nL) (hf : (i, Value.int x) :: lv.filter (fun q => !(q.1 == i) && !(q.1 + 1 == i && q.2.category == 2)) = lv') (k : Wd p l e R s m args below meth c E L G A Q nL σ (pc + 2) lv' rest) : Wd p l e R s m args below meth c E L G A Q nL σ pc lv (.int x :: rest) := fun H locs ls hP hS hl => lv_istore C.1.1 C.1.2.1 hdg hl hn hf (fun ls' hl' => k H locs ls' hP hS hl')
theorem q_lload_n (C : q_C p s m args meth c cc nL Ts own ret E L G A) {kf : Fin 4} {i : Nat} {x : Int64} (hdg : decode cc pc = .ok (.lload_n kf, 1)) (hi : (kf : Nat) = i) (j : Nat) (hj : lv[j]? = some (i, .long x)) (k : Wd p l e R s m args below meth c E L G A Q nL σ (pc + 1) lv (.long x :: rest)) : Wd p l e R s m args below meth c E L G A Q nL σ pc lv (rest) := fun H locs ls hP hS hl => lv_lload_n C.1.1 C.1.2.1 hdg hi (lv_at hl j hj) (k H locs ls hP hS hl)
theorem q_lload (C : q_C p s m args meth c cc nL Ts own ret E L G A) {i : Nat} {x : Int64} (hdg : decode cc pc = .ok (.lload i, 2)) (j : Nat) (hj : lv[j]? = some (i, .long x)) (k : Wd p l e R s m args below meth c E L G A Q nL σ (pc + 2) lv (.long x :: rest)) : Wd p l e R s m args below meth c E L G A Q nL σ pc lv (rest) := fun H locs ls hP hS hl => lv_lload C.1.1 C.1.2.1 hdg (lv_at hl j hj) (k H locs ls hP hS hl)
theorem q_lstore_n (C : q_C p s m args meth c cc nL Ts own ret E L G A) {kf : Fin 4} {i : Nat} {x : Int64} {lv' : List (Nat × Value)} (hdg : decode cc pc = .ok (.lstore_n kf, 1)) (hi : (kf : Nat) = i) (hn : i + 1 < nL) (hf : (i, Value.long x) :: lv.filter (fun q => !(q.1 == i) && (!(q.1 == i + 1) && !(q.1 + 1 == i && q.2.category == 2))) = lv') (k : Wd p l e R s m args below meth c E L G A Q nL σ (pc + 1) lv' rest) : Wd p l e R s m args below meth c E L G A Q nL σ pc lv (.long x :: rest) := fun H locs ls hP hS hl => lv_lstore_n C.1.1 C.1.2.1 hdg hi hl hn hf (fun ls' hl' => k H locs ls' hP hS hl')
theorem q_lstore (C : q_C p s m args meth c cc nL Ts own ret E L G A) {i : Nat} {x : Int64} {lv' : List (Nat × Value)} (hdg : decode cc pc = .ok (.lstore i, 2)) (hn : i + 1 < nL) (hf : (i, Value.long x) :: lv.filter (fun q => !(q.1 == i) && (!(q.1 == i + 1) && !(q.1 + 1 == i && q.2.category == 2))) = lv') (k : Wd p l e R s m args below meth c E L G A Q nL σ (pc + 2) lv' rest) : Wd p l e R s m args below meth c E L G A Q nL σ pc lv (.long x :: rest) := fun H locs ls hP hS hl => lv_lstore C.1.1 C.1.2.1 hdg hl hn hf (fun ls' hl' => k H locs ls' hP hS hl')
theorem q_aload_n (C : q_C p s m args meth c cc nL Ts own ret E L G A) {kf : Fin 4} {i : Nat} {x : Nat} (hdg : decode cc pc = .ok (.aload_n kf, 1)) (hi : (kf : Nat) = i) (j : Nat) (hj : lv[j]? = some (i, .ref x)) (k : Wd p l e R s m args below meth c E L G A Q nL σ (pc + 1) lv (.ref x :: rest)) : Wd p l e R s m args below meth c E L G A Q nL σ pc lv (rest) := fun H locs ls hP hS hl => lv_aload_n C.1.1 C.1.2.1 hdg hi (lv_at hl j hj) (k H locs ls hP hS hl)
theorem q_aload (C : q_C p s m args meth c cc nL Ts own ret E L G A) {i : Nat} {x : Nat} (hdg : decode cc pc = .ok (.aload i, 2)) (j : Nat) (hj : lv[j]? = some (i, .ref x)) (k : Wd p l e R s m args below meth c E L G A Q nL σ (pc + 2) lv (.ref x :: rest)) : Wd p l e R s m args below meth c E L G A Q nL σ pc lv (rest) := fun H locs ls hP hS hl => lv_aload C.1.1 C.1.2.1 hdg (lv_at hl j hj) (k H locs ls hP hS hl)
theorem q_astore_n (C : q_C p s m args meth c cc nL Ts own ret E L G A) {kf : Fin 4} {i : Nat} {x : Nat} {lv' : List (Nat × Value)} (hdg : decode cc pc = .ok (.astore_n kf, 1)) (hi : (kf : Nat) = i) (hn : i < nL) (hf : (i, Value.ref x) :: lv.filter (fun q => !(q.1 == i) && !(q.1 + 1 == i && q.2.category == 2)) = lv') (k : Wd p l e R s m args below meth c E L G A Q nL σ (pc + 1) lv' rest) : Wd p l e R s m args below meth c E L G A Q nL σ pc lv (.ref x :: rest) := fun H locs ls hP hS hl => lv_astore_n C.1.1 C.1.2.1 hdg hi hl hn hf (fun ls' hl' => k H locs ls' hP hS hl')
theorem q_astore (C : q_C p s m args meth c cc nL Ts own ret E L G A) {i : Nat} {x : Nat} {lv' : List (Nat × Value)} (hdg : decode cc pc = .ok (.astore i, 2)) (hn : i < nL) (hf : (i, Value.ref x) :: lv.filter (fun q => !(q.1 == i) && !(q.1 + 1 == i && q.2.category == 2)) = lv') (k : Wd p l e R s m args below meth c E L G A Q nL σ (pc + 2) lv' rest) : Wd p l e R s m args below meth c E L G A Q nL σ pc lv (.ref x :: rest) := fun H locs ls hP hS hl => lv_astore C.1.1 C.1.2.1 hdg hl hn hf (fun ls' hl' => k H locs ls' hP hS hl')
theorem q_iinc (C : q_C p s m args meth c cc nL Ts own ret E L G A) {i j : Nat} {n : Int} {x v : Int32} {lv' : List (Nat × Value)} (hdg : decode cc pc = .ok (.iinc i n, 3)) (hk : lv[j]? = some (i, .int x)) (hv : v = x + Int32.ofInt n) (hn : i < nL) (hf : (i, Value.int v) :: lv.filter (fun q => !(q.1 == i) && !(q.1 + 1 == i && q.2.category == 2)) = lv') (k : Wd p l e R s m args below meth c E L G A Q nL σ (pc + 3) lv' rest) : Wd p l e R s m args below meth c E L G A Q nL σ pc lv rest := fun H locs ls hP hS hl => lv_iinc C.1.1 C.1.2.1 hdg hl hk hv.symm hn hf (fun ls' hl' => k H locs ls' hP hS hl')
theorem q_iadd (C : q_C p s m args meth c cc nL Ts own ret E L G A) {x y : Int32} (hdg : decode cc pc = .ok (.iadd, 1)) (k : Wd p l e R s m args below meth c E L G A Q nL σ (pc + 1) lv (.int (x + y) :: rest)) : Wd p l e R s m args below meth c E L G A Q nL σ pc lv (.int y :: .int x :: rest) := fun H locs ls hP hS hl => lv_iadd C.1.1 C.1.2.1 hdg (k H locs ls hP hS hl)
theorem q_isub (C : q_C p s m args meth c cc nL Ts own ret E L G A) {x y : Int32} (hdg : decode cc pc = .ok (.isub, 1)) (k : Wd p l e R s m args below meth c E L G A Q nL σ (pc + 1) lv (.int (x - y) :: rest)) : Wd p l e R s m args below meth c E L G A Q nL σ pc lv (.int y :: .int x :: rest) := fun H locs ls hP hS hl => lv_isub C.1.1 C.1.2.1 hdg (k H locs ls hP hS hl)
theorem q_imul (C : q_C p s m args meth c cc nL Ts own ret E L G A) {x y : Int32} (hdg : decode cc pc = .ok (.imul, 1)) (k : Wd p l e R s m args below meth c E L G A Q nL σ (pc + 1) lv (.int (x * y) :: rest)) : Wd p l e R s m args below meth c E L G A Q nL σ pc lv (.int y :: .int x :: rest) := fun H locs ls hP hS hl => lv_imul C.1.1 C.1.2.1 hdg (k H locs ls hP hS hl)
theorem q_iand (C : q_C p s m args meth c cc nL Ts own ret E L G A) {x y : Int32} (hdg : decode cc pc = .ok (.iand, 1)) (k : Wd p l e R s m args below meth c E L G A Q nL σ (pc + 1) lv (.int (x &&& y) :: rest)) : Wd p l e R s m args below meth c E L G A Q nL σ pc lv (.int y :: .int x :: rest) := fun H locs ls hP hS hl => lv_iand C.1.1 C.1.2.1 hdg (k H locs ls hP hS hl)
theorem q_ior (C : q_C p s m args meth c cc nL Ts own ret E L G A) {x y : Int32} (hdg : decode cc pc = .ok (.ior, 1)) (k : Wd p l e R s m args below meth c E L G A Q nL σ (pc + 1) lv (.int (x ||| y) :: rest)) : Wd p l e R s m args below meth c E L G A Q nL σ pc lv (.int y :: .int x :: rest) := fun H locs ls hP hS hl => lv_ior C.1.1 C.1.2.1 hdg (k H locs ls hP hS hl)
theorem q_ixor (C : q_C p s m args meth c cc nL Ts own ret E L G A) {x y : Int32} (hdg : decode cc pc = .ok (.ixor, 1)) (k : Wd p l e R s m args below meth c E L G A Q nL σ (pc + 1) lv (.int (x ^^^ y) :: rest)) : Wd p l e R s m args below meth c E L G A Q nL σ pc lv (.int y :: .int x :: rest) := fun H locs ls hP hS hl => lv_ixor C.1.1 C.1.2.1 hdg (k H locs ls hP hS hl)
theorem q_ishl (C : q_C p s m args meth c cc nL Ts own ret E L G A) {x y : Int32} (hdg : decode cc pc = .ok (.ishl, 1)) (k : Wd p l e R s m args below meth c E L G A Q nL σ (pc + 1) lv (.int (x <<< (y &&& 31)) :: rest)) : Wd p l e R s m args below meth c E L G A Q nL σ pc lv (.int y :: .int x :: rest) := fun H locs ls hP hS hl => lv_ishl C.1.1 C.1.2.1 hdg (k H locs ls hP hS hl)
theorem q_ishr (C : q_C p s m args meth c cc nL Ts own ret E L G A) {x y : Int32} (hdg : decode cc pc = .ok (.ishr, 1)) (k : Wd p l e R s m args below meth c E L G A Q nL σ (pc + 1) lv (.int (x >>> (y &&& 31)) :: rest)) : Wd p l e R s m args below meth c E L G A Q nL σ pc lv (.int y :: .int x :: rest) := fun H locs ls hP hS hl => lv_ishr C.1.1 C.1.2.1 hdg (k H locs ls hP hS hl)
theorem q_ladd (C : q_C p s m args meth c cc nL Ts own ret E L G A) {x y : Int64} (hdg : decode cc pc = .ok (.ladd, 1)) (k : Wd p l e R s m args below meth c E L G A Q nL σ (pc + 1) lv (.long (x + y) :: rest)) : Wd p l e R s m args below meth c E L G A Q nL σ pc lv (.long y :: .long x :: rest) := fun H locs ls hP hS hl => lv_ladd C.1.1 C.1.2.1 hdg (k H locs ls hP hS hl)
theorem q_lsub (C : q_C p s m args meth c cc nL Ts own ret E L G A) {x y : Int64} (hdg : decode cc pc = .ok (.lsub, 1)) (k : Wd p l e R s m args below meth c E L G A Q nL σ (pc + 1) lv (.long (x - y) :: rest)) : Wd p l e R s m args below meth c E L G A Q nL σ pc lv (.long y :: .long x :: rest) := fun H locs ls hP hS hl => lv_lsub C.1.1 C.1.2.1 hdg (k H locs ls hP hS hl)
theorem q_lmul (C : q_C p s m args meth c cc nL Ts own ret E L G A) {x y : Int64} (hdg : decode cc pc = .ok (.lmul, 1)) (k : Wd p l e R s m args below meth c E L G A Q nL σ (pc + 1) lv (.long (x * y) :: rest)) : Wd p l e R s m args below meth c E L G A Q nL σ pc lv (.long y :: .long x :: rest) := fun H locs ls hP hS hl => lv_lmul C.1.1 C.1.2.1 hdg (k H locs ls hP hS hl)
theorem q_land (C : q_C p s m args meth c cc nL Ts own ret E L G A) {x y : Int64} (hdg : decode cc pc = .ok (.land, 1)) (k : Wd p l e R s m args below meth c E L G A Q nL σ (pc + 1) lv (.long (x &&& y) :: rest)) : Wd p l e R s m args below meth c E L G A Q nL σ pc lv (.long y :: .long x :: rest) := fun H locs ls hP hS hl => lv_land C.1.1 C.1.2.1 hdg (k H locs ls hP hS hl)
theorem q_lor (C : q_C p s m args meth c cc nL Ts own ret E L G A) {x y : Int64} (hdg : decode cc pc = .ok (.lor, 1)) (k : Wd p l e R s m args below meth c E L G A Q nL σ (pc + 1) lv (.long (x ||| y) :: rest)) : Wd p l e R s m args below meth c E L G A Q nL σ pc lv (.long y :: .long x :: rest) := fun H locs ls hP hS hl => lv_lor C.1.1 C.1.2.1 hdg (k H locs ls hP hS hl)
theorem q_lxor (C : q_C p s m args meth c cc nL Ts own ret E L G A) {x y : Int64} (hdg : decode cc pc = .ok (.lxor, 1)) (k : Wd p l e R s m args below meth c E L G A Q nL σ (pc + 1) lv (.long (x ^^^ y) :: rest)) : Wd p l e R s m args below meth c E L G A Q nL σ pc lv (.long y :: .long x :: rest) := fun H locs ls hP hS hl => lv_lxor C.1.1 C.1.2.1 hdg (k H locs ls hP hS hl)
theorem q_idiv (C : q_C p s m args meth c cc nL Ts own ret E L G A) {x y : Int32} (hdg : decode cc pc = .ok (.idiv, 1)) (hne : ¬ y = 0) (k : Wd p l e R s m args below meth c E L G A Q nL σ (pc + 1) lv (.int (x / y) :: rest)) : Wd p l e R s m args below meth c E L G A Q nL σ pc lv (.int y :: .int x :: rest) := fun H locs ls hP hS hl => lv_idiv C.1.1 C.1.2.1 hdg hne (k H locs ls hP hS hl)
theorem q_irem (C : q_C p s m args meth c cc nL Ts own ret E L G A) {x y : Int32} (hdg : decode cc pc = .ok (.irem, 1)) (hne : ¬ y = 0) (k : Wd p l e R s m args below meth c E L G A Q nL σ (pc + 1) lv (.int (x - x / y * y) :: rest)) : Wd p l e R s m args below meth c E L G A Q nL σ pc lv (.int y :: .int x :: rest) := fun H locs ls hP hS hl => lv_irem C.1.1 C.1.2.1 hdg hne (k H locs ls hP hS hl)
theorem q_ldiv (C : q_C p s m args meth c cc nL Ts own ret E L G A) {x y : Int64} (hdg : decode cc pc = .ok (.ldiv, 1)) (hne : ¬ y = 0) (k : Wd p l e R s m args below meth c E L G A Q nL σ (pc + 1) lv (.long (x / y) :: rest)) : Wd p l e R s m args below meth c E L G A Q nL σ pc lv (.long y :: .long x :: rest) := fun H locs ls hP hS hl => lv_ldiv C.1.1 C.1.2.1 hdg hne (k H locs ls hP hS hl)
theorem q_lrem (C : q_C p s m args meth c cc nL Ts own ret E L G A) {x y : Int64} (hdg : decode cc pc = .ok (.lrem, 1)) (hne : ¬ y = 0) (k : Wd p l e R s m args below meth c E L G A Q nL σ (pc + 1) lv (.long (x - x / y * y) :: rest)) : Wd p l e R s m args below meth c E L G A Q nL σ pc lv (.long y :: .long x :: rest) := fun H locs ls hP hS hl => lv_lrem C.1.1 C.1.2.1 hdg hne (k H locs ls hP hS hl)
theorem q_ineg (C : q_C p s m args meth c cc nL Ts own ret E L G A) {x : Int32} (hdg : decode cc pc = .ok (.ineg, 1)) (k : Wd p l e R s m args below meth c E L G A Q nL σ (pc + 1) lv (.int (-x) :: rest)) : Wd p l e R s m args below meth c E L G A Q nL σ pc lv (.int x :: rest) := fun H locs ls hP hS hl => lv_ineg C.1.1 C.1.2.1 hdg (k H locs ls hP hS hl)
theorem q_lneg (C : q_C p s m args meth c cc nL Ts own ret E L G A) {x : Int64} (hdg : decode cc pc = .ok (.lneg, 1)) (k : Wd p l e R s m args below meth c E L G A Q nL σ (pc + 1) lv (.long (-x) :: rest)) : Wd p l e R s m args below meth c E L G A Q nL σ pc lv (.long x :: rest) := fun H locs ls hP hS hl => lv_lneg C.1.1 C.1.2.1 hdg (k H locs ls hP hS hl)
theorem q_i2l (C : q_C p s m args meth c cc nL Ts own ret E L G A) {x : Int32} (hdg : decode cc pc = .ok (.i2l, 1)) (k : Wd p l e R s m args below meth c E L G A Q nL σ (pc + 1) lv (.long x.toInt64 :: rest)) : Wd p l e R s m args below meth c E L G A Q nL σ pc lv (.int x :: rest) := fun H locs ls hP hS hl => lv_i2l C.1.1 C.1.2.1 hdg rfl (k H locs ls hP hS hl)
theorem q_l2i (C : q_C p s m args meth c cc nL Ts own ret E L G A) {x : Int64} (hdg : decode cc pc = .ok (.l2i, 1)) (k : Wd p l e R s m args below meth c E L G A Q nL σ (pc + 1) lv (.int x.toInt32 :: rest)) : Wd p l e R s m args below meth c E L G A Q nL σ pc lv (.long x :: rest) := fun H locs ls hP hS hl => lv_l2i C.1.1 C.1.2.1 hdg rfl (k H locs ls hP hS hl)
theorem q_i2b (C : q_C p s m args meth c cc nL Ts own ret E L G A) {x : Int32} (hdg : decode cc pc = .ok (.i2b, 1)) (k : Wd p l e R s m args below meth c E L G A Q nL σ (pc + 1) lv (.int x.toInt8.toInt32 :: rest)) : Wd p l e R s m args below meth c E L G A Q nL σ pc lv (.int x :: rest) := fun H locs ls hP hS hl => lv_i2b C.1.1 C.1.2.1 hdg rfl (k H locs ls hP hS hl)
theorem q_iushr (C : q_C p s m args meth c cc nL Ts own ret E L G A) {x y : Int32} (hdg : decode cc pc = .ok (.iushr, 1)) (k : Wd p l e R s m args below meth c E L G A Q nL σ (pc + 1) lv (.int (x.toUInt32 >>> (y.toUInt32 &&& Int32.toUInt32 31)).toInt32 :: rest)) : Wd p l e R s m args below meth c E L G A Q nL σ pc lv (.int y :: .int x :: rest) := fun H locs ls hP hS hl => lv_iushr C.1.1 C.1.2.1 hdg rfl (k H locs ls hP hS hl)
theorem q_lushr (C : q_C p s m args meth c cc nL Ts own ret E L G A) {x : Int64} {y : Int32} (hdg : decode cc pc = .ok (.lushr, 1)) (k : Wd p l e R s m args below meth c E L G A Q nL σ (pc + 1) lv (.long (x.toUInt64 >>> (y.toInt64.toUInt64 &&& Int64.toUInt64 63)).toInt64 :: rest)) : Wd p l e R s m args below meth c E L G A Q nL σ pc lv (.int y :: .long x :: rest) := fun H locs ls hP hS hl => lv_lushr C.1.1 C.1.2.1 hdg rfl (k H locs ls hP hS hl)
theorem q_lshl (C : q_C p s m args meth c cc nL Ts own ret E L G A) {x : Int64} {y : Int32} (hdg : decode cc pc = .ok (.lshl, 1)) (k : Wd p l e R s m args below meth c E L G A Q nL σ (pc + 1) lv (.long (x <<< (y.toInt64 &&& 63)) :: rest)) : Wd p l e R s m args below meth c E L G A Q nL σ pc lv (.int y :: .long x :: rest) := fun H locs ls hP hS hl => lv_lshl C.1.1 C.1.2.1 hdg rfl (k H locs ls hP hS hl)
theorem q_lshr (C : q_C p s m args meth c cc nL Ts own ret E L G A) {x : Int64} {y : Int32} (hdg : decode cc pc = .ok (.lshr, 1)) (k : Wd p l e R s m args below meth c E L G A Q nL σ (pc + 1) lv (.long (x >>> (y.toInt64 &&& 63)) :: rest)) : Wd p l e R s m args below meth c E L G A Q nL σ pc lv (.int y :: .long x :: rest) := fun H locs ls hP hS hl => lv_lshr C.1.1 C.1.2.1 hdg rfl (k H locs ls hP hS hl)
theorem q_lcmp (C : q_C p s m args meth c cc nL Ts own ret E L G A) {x y : Int64} (hdg : decode cc pc = .ok (.lcmp, 1)) (k : Wd p l e R s m args below meth c E L G A Q nL σ (pc + 1) lv (.int (lg_cmp x y) :: rest)) : Wd p l e R s m args below meth c E L G A Q nL σ pc lv (.long y :: .long x :: rest) := fun H locs ls hP hS hl => W.lcmp C.1.1 C.1.2.1 hdg (k H locs ls hP hS hl)
theorem q_dup (C : q_C p s m args meth c cc nL Ts own ret E L G A) {va : Value} (hdg : decode cc pc = .ok (.dup, 1)) (hva : va.category = 1) (k : Wd p l e R s m args below meth c E L G A Q nL σ (pc + 1) lv (va :: va :: rest)) : Wd p l e R s m args below meth c E L G A Q nL σ pc lv (va :: rest) := fun H locs ls hP hS hl => lv_dup C.1.1 C.1.2.1 hdg hva (k H locs ls hP hS hl)
theorem q_pop (C : q_C p s m args meth c cc nL Ts own ret E L G A) {va : Value} (hdg : decode cc pc = .ok (.pop, 1)) (hva : va.category = 1) (k : Wd p l e R s m args below meth c E L G A Q nL σ (pc + 1) lv (rest)) : Wd p l e R s m args below meth c E L G A Q nL σ pc lv (va :: rest) := fun H locs ls hP hS hl => lv_pop C.1.1 C.1.2.1 hdg hva (k H locs ls hP hS hl)
theorem q_dup2_11 (C : q_C p s m args meth c cc nL Ts own ret E L G A) {va vb : Value} (hdg : decode cc pc = .ok (.dup2, 1)) (hva : va.category = 1) (hvb : vb.category = 1) (k : Wd p l e R s m args below meth c E L G A Q nL σ (pc + 1) lv (va :: vb :: va :: vb :: rest)) : Wd p l e R s m args below meth c E L G A Q nL σ pc lv (va :: vb :: rest) := fun H locs ls hP hS hl => lv_dup2_11 C.1.1 C.1.2.1 hdg hva hvb (k H locs ls hP hS hl)
theorem q_dup2_2 (C : q_C p s m args meth c cc nL Ts own ret E L G A) {va : Value} (hdg : decode cc pc = .ok (.dup2, 1)) (hva : va.category = 2) (k : Wd p l e R s m args below meth c E L G A Q nL σ (pc + 1) lv (va :: va :: rest)) : Wd p l e R s m args below meth c E L G A Q nL σ pc lv (va :: rest) := fun H locs ls hP hS hl => lv_dup2_2 C.1.1 C.1.2.1 hdg hva (k H locs ls hP hS hl)
theorem q_if_eq (C : q_C p s m args meth c cc nL Ts own ret E L G A) {x : Int32} {off : Int} {tgt : Nat} (hdg : decode cc pc = .ok (.ifCond .eq off, 3)) (ht : (pc : Int) + off = (tgt : Int)) (kt : x = 0 → Wd p l e R s m args below meth c E L G A Q nL σ tgt lv rest) (kf : ¬ x = 0 → Wd p l e R s m args below meth c E L G A Q nL σ (pc + 3) lv rest) : Wd p l e R s m args below meth c E L G A Q nL σ pc lv (.int x :: rest) := fun H locs ls hP hS hl => lv_if_eq C.1.1 C.1.2.1 hdg ht (fun h => kt h H locs ls hP hS hl) (fun h => kf h H locs ls hP hS hl)
theorem q_icmp_eq (C : q_C p s m args meth c cc nL Ts own ret E L G A) {x y : Int32} {off : Int} {tgt : Nat} (hdg : decode cc pc = .ok (.if_icmp .eq off, 3)) (ht : (pc : Int) + off = (tgt : Int)) (kt : x = y → Wd p l e R s m args below meth c E L G A Q nL σ tgt lv rest) (kf : ¬ x = y → Wd p l e R s m args below meth c E L G A Q nL σ (pc + 3) lv rest) : Wd p l e R s m args below meth c E L G A Q nL σ pc lv (.int y :: .int x :: rest) := fun H locs ls hP hS hl => lv_icmp_eq C.1.1 C.1.2.1 hdg ht (fun h => kt h H locs ls hP hS hl) (fun h => kf h H locs ls hP hS hl)
theorem q_if_lt (C : q_C p s m args meth c cc nL Ts own ret E L G A) {x : Int32} {off : Int} {tgt : Nat} (hdg : decode cc pc = .ok (.ifCond .lt off, 3)) (ht : (pc : Int) + off = (tgt : Int)) (kt : x < 0 → Wd p l e R s m args below meth c E L G A Q nL σ tgt lv rest) (kf : ¬ x < 0 → Wd p l e R s m args below meth c E L G A Q nL σ (pc + 3) lv rest) : Wd p l e R s m args below meth c E L G A Q nL σ pc lv (.int x :: rest) := fun H locs ls hP hS hl => lv_if_lt C.1.1 C.1.2.1 hdg ht (fun h => kt h H locs ls hP hS hl) (fun h => kf h H locs ls hP hS hl)
theorem q_icmp_lt (C : q_C p s m args meth c cc nL Ts own ret E L G A) {x y : Int32} {off : Int} {tgt : Nat} (hdg : decode cc pc = .ok (.if_icmp .lt off, 3)) (ht : (pc : Int) + off = (tgt : Int)) (kt : x < y → Wd p l e R s m args below meth c E L G A Q nL σ tgt lv rest) (kf : ¬ x < y → Wd p l e R s m args below meth c E L G A Q nL σ (pc + 3) lv rest) : Wd p l e R s m args below meth c E L G A Q nL σ pc lv (.int y :: .int x :: rest) := fun H locs ls hP hS hl => lv_icmp_lt C.1.1 C.1.2.1 hdg ht (fun h => kt h H locs ls hP hS hl) (fun h => kf h H locs ls hP hS hl)
theorem q_if_ge (C : q_C p s m args meth c cc nL Ts own ret E L G A) {x : Int32} {off : Int} {tgt : Nat} (hdg : decode cc pc = .ok (.ifCond .ge off, 3)) (ht : (pc : Int) + off = (tgt : Int)) (kt : 0 ≤ x → Wd p l e R s m args below meth c E L G A Q nL σ tgt lv rest) (kf : ¬ 0 ≤ x → Wd p l e R s m args below meth c E L G A Q nL σ (pc + 3) lv rest) : Wd p l e R s m args below meth c E L G A Q nL σ pc lv (.int x :: rest) := fun H locs ls hP hS hl => lv_if_ge C.1.1 C.1.2.1 hdg ht (fun h => kt h H locs ls hP hS hl) (fun h => kf h H locs ls hP hS hl)
theorem q_icmp_ge (C : q_C p s m args meth c cc nL Ts own ret E L G A) {x y : Int32} {off : Int} {tgt : Nat} (hdg : decode cc pc = .ok (.if_icmp .ge off, 3)) (ht : (pc : Int) + off = (tgt : Int)) (kt : y ≤ x → Wd p l e R s m args below meth c E L G A Q nL σ tgt lv rest) (kf : ¬ y ≤ x → Wd p l e R s m args below meth c E L G A Q nL σ (pc + 3) lv rest) : Wd p l e R s m args below meth c E L G A Q nL σ pc lv (.int y :: .int x :: rest) := fun H locs ls hP hS hl => lv_icmp_ge C.1.1 C.1.2.1 hdg ht (fun h => kt h H locs ls hP hS hl) (fun h => kf h H locs ls hP hS hl)
theorem q_if_gt (C : q_C p s m args meth c cc nL Ts own ret E L G A) {x : Int32} {off : Int} {tgt : Nat} (hdg : decode cc pc = .ok (.ifCond .gt off, 3)) (ht : (pc : Int) + off = (tgt : Int)) (kt : 0 < x → Wd p l e R s m args below meth c E L G A Q nL σ tgt lv rest) (kf : ¬ 0 < x → Wd p l e R s m args below meth c E L G A Q nL σ (pc + 3) lv rest) : Wd p l e R s m args below meth c E L G A Q nL σ pc lv (.int x :: rest) := fun H locs ls hP hS hl => lv_if_gt C.1.1 C.1.2.1 hdg ht (fun h => kt h H locs ls hP hS hl) (fun h => kf h H locs ls hP hS hl)
theorem q_icmp_gt (C : q_C p s m args meth c cc nL Ts own ret E L G A) {x y : Int32} {off : Int} {tgt : Nat} (hdg : decode cc pc = .ok (.if_icmp .gt off, 3)) (ht : (pc : Int) + off = (tgt : Int)) (kt : y < x → Wd p l e R s m args below meth c E L G A Q nL σ tgt lv rest) (kf : ¬ y < x → Wd p l e R s m args below meth c E L G A Q nL σ (pc + 3) lv rest) : Wd p l e R s m args below meth c E L G A Q nL σ pc lv (.int y :: .int x :: rest) := fun H locs ls hP hS hl => lv_icmp_gt C.1.1 C.1.2.1 hdg ht (fun h => kt h H locs ls hP hS hl) (fun h => kf h H locs ls hP hS hl)
theorem q_if_le (C : q_C p s m args meth c cc nL Ts own ret E L G A) {x : Int32} {off : Int} {tgt : Nat} (hdg : decode cc pc = .ok (.ifCond .le off, 3)) (ht : (pc : Int) + off = (tgt : Int)) (kt : x ≤ 0 → Wd p l e R s m args below meth c E L G A Q nL σ tgt lv rest) (kf : ¬ x ≤ 0 → Wd p l e R s m args below meth c E L G A Q nL σ (pc + 3) lv rest) : Wd p l e R s m args below meth c E L G A Q nL σ pc lv (.int x :: rest) := fun H locs ls hP hS hl => lv_if_le C.1.1 C.1.2.1 hdg ht (fun h => kt h H locs ls hP hS hl) (fun h => kf h H locs ls hP hS hl)
theorem q_icmp_le (C : q_C p s m args meth c cc nL Ts own ret E L G A) {x y : Int32} {off : Int} {tgt : Nat} (hdg : decode cc pc = .ok (.if_icmp .le off, 3)) (ht : (pc : Int) + off = (tgt : Int)) (kt : x ≤ y → Wd p l e R s m args below meth c E L G A Q nL σ tgt lv rest) (kf : ¬ x ≤ y → Wd p l e R s m args below meth c E L G A Q nL σ (pc + 3) lv rest) : Wd p l e R s m args below meth c E L G A Q nL σ pc lv (.int y :: .int x :: rest) := fun H locs ls hP hS hl => lv_icmp_le C.1.1 C.1.2.1 hdg ht (fun h => kt h H locs ls hP hS hl) (fun h => kf h H locs ls hP hS hl)
theorem q_if_ne (C : q_C p s m args meth c cc nL Ts own ret E L G A) {x : Int32} {off : Int} {tgt : Nat} (hdg : decode cc pc = .ok (.ifCond .ne off, 3)) (ht : (pc : Int) + off = (tgt : Int)) (kt : ¬ x = 0 → Wd p l e R s m args below meth c E L G A Q nL σ tgt lv rest) (kf : x = 0 → Wd p l e R s m args below meth c E L G A Q nL σ (pc + 3) lv rest) : Wd p l e R s m args below meth c E L G A Q nL σ pc lv (.int x :: rest) := fun H locs ls hP hS hl => lv_if_ne C.1.1 C.1.2.1 hdg ht (fun h => kt h H locs ls hP hS hl) (fun h => kf h H locs ls hP hS hl)
theorem q_icmp_ne (C : q_C p s m args meth c cc nL Ts own ret E L G A) {x y : Int32} {off : Int} {tgt : Nat} (hdg : decode cc pc = .ok (.if_icmp .ne off, 3)) (ht : (pc : Int) + off = (tgt : Int)) (kt : ¬ x = y → Wd p l e R s m args below meth c E L G A Q nL σ tgt lv rest) (kf : x = y → Wd p l e R s m args below meth c E L G A Q nL σ (pc + 3) lv rest) : Wd p l e R s m args below meth c E L G A Q nL σ pc lv (.int y :: .int x :: rest) := fun H locs ls hP hS hl => lv_icmp_ne C.1.1 C.1.2.1 hdg ht (fun h => kt h H locs ls hP hS hl) (fun h => kf h H locs ls hP hS hl)
theorem q_goto (C : q_C p s m args meth c cc nL Ts own ret E L G A) {off : Int} {tgt : Nat} (hdg : decode cc pc = .ok (.goto off, 3)) (ht : (pc : Int) + off = (tgt : Int)) (k : Wd p l e R s m args below meth c E L G A Q nL σ tgt lv rest) : Wd p l e R s m args below meth c E L G A Q nL σ pc lv rest := fun H locs ls hP hS hl => lv_goto C.1.1 C.1.2.1 hdg ht (k H locs ls hP hS hl)
theorem q_topi {x : Int32} (k : ∀ y : Int32, y = x → Wd p l e R s m args below meth c E L G A Q nL σ pc lv (.int y :: rest)) : Wd p l e R s m args below meth c E L G A Q nL σ pc lv (.int x :: rest) := k x rfl
theorem q_topl {x : Int64} (k : ∀ y : Int64, y = x → Wd p l e R s m args below meth c E L G A Q nL σ pc lv (.long y :: rest)) : Wd p l e R s m args below meth c E L G A Q nL σ pc lv (.long x :: rest) := k x rfl
theorem q_lv {lv' : List (Nat × Value)} (ks : List Nat) (hk : lv_pick lv ks = lv') (k : Wd p l e R s m args below meth c E L G A Q nL σ pc lv' rest) : Wd p l e R s m args below meth c E L G A Q nL σ pc lv rest := fun H locs ls hP hS hl => k H locs ls hP hS (lv_sub hl ks hk)
theorem q_get (C : q_C p s m args meth c cc nL Ts own ret E L G A) {ci index : Nat} {fs : List Value} {Cn : String} {T : u_T} {N : Nat} {a : Nat} {v : Value} (hL : a ∈ L) (he : q_cell E G a (σ a) = .inr (ci, fs)) (hc : vwCl[ci]? = some (Cn, T, N)) (hin : ∀ w ∈ u_ws Cn T N, w ∈ Ts) (k : Nat) (hk : k < N) (hlink : Cond.fieldLink own index (T k).1 (T k).2.1 (T k).2.2.1 ∈ Ts) (hv : fs[k]? = some v) (hdg : decode cc pc = .ok (.getfield index, 3)) (kk : Wd p l e R s m args below meth c E L G A Q nL σ (pc + 3) lv (v :: rest)) : Wd p l e R s m args below meth c E L G A Q nL σ pc lv (.ref a :: rest) := by
  intro H locs ls hP hS hl
  obtain ⟨q0, h0⟩ := q_at (E := E) (G := G) (σ := σ) hL
  rw [he] at h0
  exact va_get C.1.1 C.1.2.1 C.1.2.2.2.2 hin C.1.2.2.2.1 C.2.2.2.1 hP q0 h0 hc k hk (C.1.2.2.2.2 _ hlink) (fun _ h9 => h9) hv hdg (kk H locs ls hP hS hl)
theorem q_put (C : q_C p s m args meth c cc nL Ts own ret E L G A) {ci index : Nat} {fs : List Value} {Cn : String} {T : u_T} {N : Nat} {a : Nat} {x : Int32} {ty : FieldType} (hL : a ∈ L) (he : q_cell E G a (σ a) = .inr (ci, fs)) (hc : vwCl[ci]? = some (Cn, T, N)) (hin : ∀ w ∈ u_ws Cn T N, w ∈ Ts) (ty0 : Nat → FieldType) (hty : ∀ k, k < N → parseFieldDescriptor (T k).2.2.1 = some (ty0 k)) (hnm : ∀ a, a < N → ∀ b, b < N → a ≠ b → (T a).2.1 ≠ (T b).2.1) (k : Nat) (hk : k < N) (hlink : Cond.fieldLink own index (T k).1 (T k).2.1 (T k).2.2.1 ∈ Ts) (hfin : (T k).2.2.2 = false) (hd : parseFieldDescriptor (T k).2.2.1 = some ty) (hn : narrow ty (.int x) = .int x) (hfit : fits ty (.int x) = true) (hlen : k < fs.length) (hup : q_cell E G a (q_st σ a k x a) = .inr (ci, fs.set k (.int x))) (hdg : decode cc pc = .ok (.putfield index, 3)) (kk : ∀ σ' : qS, σ' = q_st σ a k x → Wd p l e R s m args below meth c E L G A Q nL σ' (pc + 3) lv rest) : Wd p l e R s m args below meth c E L G A Q nL σ pc lv (.int x :: .ref a :: rest) := by
  intro H locs ls hP hS hl
  obtain ⟨q0, h0⟩ := q_at (E := E) (G := G) (σ := σ) hL
  have hD : va_D A (q_wd E L G σ) := q_D C.2.2.2.2.2.1 (fun a h => by rw [C.2.2.2.2.1]; exact Or.inl h) σ
  have hset := q_set (σ' := q_st σ a k x) hD hL h0 hup (fun b hb => q_st_a σ x hb)
  rw [he] at h0
  refine va_put C.1.1 C.1.2.1 C.1.2.2.2.2 hin ty0 hty hnm C.1.2.2.2.1 C.2.2.2.1 hP hD hS q0 h0 hc k hk (C.1.2.2.2.2 _ hlink) (fun _ h9 => h9) hfin hd hn hfit hlen hdg (fun H1 locs1 hP1 _ hS1 => ?_)
  rw [hset] at hP1
  exact kk _ rfl H1 locs1 ls hP1 hS1 hl
theorem q_iald (C : q_C p s m args meth c cc nL Ts own ret E L G A) {a : Nat} {i : Int32} (hL : a ∈ L) (hk : G.1 a = 7) (hin : vp_in i (G.2.2 a)) (hdg : decode cc pc = .ok (.iaload, 1)) (kk : Wd p l e R s m args below meth c E L G A Q nL σ (pc + 1) lv (.int (σ a i.toNatClampNeg) :: rest)) : Wd p l e R s m args below meth c E L G A Q nL σ pc lv (.int i :: .ref a :: rest) := by
  intro H locs ls hP hS hl
  obtain ⟨q0, h0⟩ := q_at (E := E) (G := G) (σ := σ) hL
  rw [qc7 hk] at h0
  exact va_iald C.1.1 C.1.2.1 C.2.2.2.1 hP q0 0 h0 rfl hin hdg (kk H locs ls hP hS hl)
theorem q_bald (C : q_C p s m args meth c cc nL Ts own ret E L G A) {a : Nat} {i : Int32} (hL : a ∈ L) (hk : G.1 a = 8) (hin : vp_in i (G.2.2 a)) (hdg : decode cc pc = .ok (.baload, 1)) (kk : Wd p l e R s m args below meth c E L G A Q nL σ (pc + 1) lv (.int (σ a i.toNatClampNeg) :: rest)) : Wd p l e R s m args below meth c E L G A Q nL σ pc lv (.int i :: .ref a :: rest) := by
  intro H locs ls hP hS hl
  obtain ⟨q0, h0⟩ := q_at (E := E) (G := G) (σ := σ) hL
  rw [qc8 hk] at h0
  exact va_bald C.1.1 C.1.2.1 C.2.2.2.1 hP q0 1 h0 rfl hin hdg (kk H locs ls hP hS hl)
theorem q_zald (C : q_C p s m args meth c cc nL Ts own ret E L G A) {a : Nat} {i : Int32} (hL : a ∈ L) (hk : G.1 a = 9) (hin : vp_in i (G.2.2 a)) (hdg : decode cc pc = .ok (.baload, 1)) (kk : Wd p l e R s m args below meth c E L G A Q nL σ (pc + 1) lv (.int (σ a i.toNatClampNeg) :: rest)) : Wd p l e R s m args below meth c E L G A Q nL σ pc lv (.int i :: .ref a :: rest) := by
  intro H locs ls hP hS hl
  obtain ⟨q0, h0⟩ := q_at (E := E) (G := G) (σ := σ) hL
  rw [qc9 hk] at h0
  exact va_zald C.1.1 C.1.2.1 C.2.2.2.1 hP q0 2 h0 rfl hin hdg (kk H locs ls hP hS hl)
theorem q_iast (C : q_C p s m args meth c cc nL Ts own ret E L G A) {a : Nat} {i x : Int32} (hL : a ∈ L) (hk : G.1 a = 7) (hin : vp_in i (G.2.2 a)) (hdg : decode cc pc = .ok (.iastore, 1)) (kk : ∀ σ' : qS, σ' = q_st σ a i.toNatClampNeg (x) → Wd p l e R s m args below meth c E L G A Q nL σ' (pc + 1) lv rest) : Wd p l e R s m args below meth c E L G A Q nL σ pc lv (.int x :: .int i :: .ref a :: rest) := by
  intro H locs ls hP hS hl
  obtain ⟨q0, h0⟩ := q_at (E := E) (G := G) (σ := σ) hL
  have hD : va_D A (q_wd E L G σ) := q_D C.2.2.2.2.2.1 (fun a h => by rw [C.2.2.2.2.1]; exact Or.inl h) σ
  have hset := q_set (σ' := q_st σ a i.toNatClampNeg (x)) hD hL h0 (qc7 hk _) (fun b hb => q_st_a σ _ hb)
  rw [qc7 hk] at h0
  refine va_iast C.1.1 C.1.2.1 C.2.2.2.1 hP hD hS q0 0 h0 rfl hin hdg (fun H1 locs1 hP1 _ hS1 => ?_)
  rw [q_st_at] at hset
  rw [hset] at hP1
  exact kk _ rfl H1 locs1 ls hP1 hS1 hl
theorem q_bast (C : q_C p s m args meth c cc nL Ts own ret E L G A) {a : Nat} {i x : Int32} (hL : a ∈ L) (hk : G.1 a = 8) (hin : vp_in i (G.2.2 a)) (hdg : decode cc pc = .ok (.bastore, 1)) (kk : ∀ σ' : qS, σ' = q_st σ a i.toNatClampNeg (x.toInt8.toInt32) → Wd p l e R s m args below meth c E L G A Q nL σ' (pc + 1) lv rest) : Wd p l e R s m args below meth c E L G A Q nL σ pc lv (.int x :: .int i :: .ref a :: rest) := by
  intro H locs ls hP hS hl
  obtain ⟨q0, h0⟩ := q_at (E := E) (G := G) (σ := σ) hL
  have hD : va_D A (q_wd E L G σ) := q_D C.2.2.2.2.2.1 (fun a h => by rw [C.2.2.2.2.1]; exact Or.inl h) σ
  have hset := q_set (σ' := q_st σ a i.toNatClampNeg (x.toInt8.toInt32)) hD hL h0 (qc8 hk _) (fun b hb => q_st_a σ _ hb)
  rw [qc8 hk] at h0
  refine va_bast C.1.1 C.1.2.1 C.2.2.2.1 hP hD hS q0 1 h0 rfl hin hdg (fun H1 locs1 hP1 _ hS1 => ?_)
  rw [vp_nar_byte] at hP1
  rw [q_st_at] at hset
  rw [hset] at hP1
  exact kk _ rfl H1 locs1 ls hP1 hS1 hl
theorem q_zast (C : q_C p s m args meth c cc nL Ts own ret E L G A) {a : Nat} {i x : Int32} (hL : a ∈ L) (hk : G.1 a = 9) (hin : vp_in i (G.2.2 a)) (hx : x = 0 ∨ x = 1) (hdg : decode cc pc = .ok (.bastore, 1)) (kk : ∀ σ' : qS, σ' = q_st σ a i.toNatClampNeg (x) → Wd p l e R s m args below meth c E L G A Q nL σ' (pc + 1) lv rest) : Wd p l e R s m args below meth c E L G A Q nL σ pc lv (.int x :: .int i :: .ref a :: rest) := by
  intro H locs ls hP hS hl
  obtain ⟨q0, h0⟩ := q_at (E := E) (G := G) (σ := σ) hL
  have hD : va_D A (q_wd E L G σ) := q_D C.2.2.2.2.2.1 (fun a h => by rw [C.2.2.2.2.1]; exact Or.inl h) σ
  have hset := q_set (σ' := q_st σ a i.toNatClampNeg (x)) hD hL h0 (qc9 hk _) (fun b hb => q_st_a σ _ hb)
  rw [qc9 hk] at h0
  refine va_zast C.1.1 C.1.2.1 C.2.2.2.1 hP hD hS q0 2 h0 rfl hin hdg (fun H1 locs1 hP1 _ hS1 => ?_)
  have hnz : vp_nar .boolean x = x := by rcases hx with rfl | rfl <;> decide +kernel
  rw [hnz] at hP1
  rw [q_st_at] at hset
  rw [hset] at hP1
  exact kk _ rfl H1 locs1 ls hP1 hS1 hl
theorem q_aald (C : q_C p s m args meth c cc nL Ts own ret E L G A) {a : Nat} {i : Int32} (hL : a ∈ L) (hk : G.1 a = 10) (hin : vp_in i (G.2.2 a)) (hdg : decode cc pc = .ok (.aaload, 1)) (kk : Wd p l e R s m args below meth c E L G A Q nL σ (pc + 1) lv (.ref (G.2.1 a i.toNatClampNeg) :: rest)) : Wd p l e R s m args below meth c E L G A Q nL σ pc lv (.int i :: .ref a :: rest) := by
  intro H locs ls hP hS hl
  obtain ⟨q0, h0⟩ := q_at (E := E) (G := G) (σ := σ) hL
  rw [qc10 hk] at h0
  exact va_aldq C.1.1 C.1.2.1 C.2.2.2.1 hP q0 3 h0 rfl hin hdg (kk H locs ls hP hS hl)
theorem q_alen7 (C : q_C p s m args meth c cc nL Ts own ret E L G A) {a : Nat} (hL : a ∈ L) (hk : G.1 a = 7) (hdg : decode cc pc = .ok (.arraylength, 1)) (kk : Wd p l e R s m args below meth c E L G A Q nL σ (pc + 1) lv (.int (nI (G.2.2 a)) :: rest)) : Wd p l e R s m args below meth c E L G A Q nL σ pc lv (.ref a :: rest) := by
  intro H locs ls hP hS hl
  obtain ⟨q0, h0⟩ := q_at (E := E) (G := G) (σ := σ) hL
  rw [qc7 hk] at h0
  exact va_alen C.1.1 C.1.2.1 C.2.2.2.1 hP q0 0 h0 rfl rfl hdg (kk H locs ls hP hS hl)
theorem q_alen8 (C : q_C p s m args meth c cc nL Ts own ret E L G A) {a : Nat} (hL : a ∈ L) (hk : G.1 a = 8) (hdg : decode cc pc = .ok (.arraylength, 1)) (kk : Wd p l e R s m args below meth c E L G A Q nL σ (pc + 1) lv (.int (nI (G.2.2 a)) :: rest)) : Wd p l e R s m args below meth c E L G A Q nL σ pc lv (.ref a :: rest) := by
  intro H locs ls hP hS hl
  obtain ⟨q0, h0⟩ := q_at (E := E) (G := G) (σ := σ) hL
  rw [qc8 hk] at h0
  exact va_alen C.1.1 C.1.2.1 C.2.2.2.1 hP q0 1 h0 rfl rfl hdg (kk H locs ls hP hS hl)
theorem q_alen9 (C : q_C p s m args meth c cc nL Ts own ret E L G A) {a : Nat} (hL : a ∈ L) (hk : G.1 a = 9) (hdg : decode cc pc = .ok (.arraylength, 1)) (kk : Wd p l e R s m args below meth c E L G A Q nL σ (pc + 1) lv (.int (nI (G.2.2 a)) :: rest)) : Wd p l e R s m args below meth c E L G A Q nL σ pc lv (.ref a :: rest) := by
  intro H locs ls hP hS hl
  obtain ⟨q0, h0⟩ := q_at (E := E) (G := G) (σ := σ) hL
  rw [qc9 hk] at h0
  exact va_alen C.1.1 C.1.2.1 C.2.2.2.1 hP q0 2 h0 rfl rfl hdg (kk H locs ls hP hS hl)
theorem q_alen10 (C : q_C p s m args meth c cc nL Ts own ret E L G A) {a : Nat} (hL : a ∈ L) (hk : G.1 a = 10) (hdg : decode cc pc = .ok (.arraylength, 1)) (kk : Wd p l e R s m args below meth c E L G A Q nL σ (pc + 1) lv (.int (nI (G.2.2 a)) :: rest)) : Wd p l e R s m args below meth c E L G A Q nL σ pc lv (.ref a :: rest) := by
  intro H locs ls hP hS hl
  obtain ⟨q0, h0⟩ := q_at (E := E) (G := G) (σ := σ) hL
  rw [qc10 hk] at h0
  exact va_alen C.1.1 C.1.2.1 C.2.2.2.1 hP q0 3 h0 rfl rfl hdg (kk H locs ls hP hS hl)
theorem q_copy (C : q_C p s m args meth c cc nL Ts own ret E L G A) {index : Nat} {a0 a : Nat} {sp dp n : Int32} (hlink : Cond.methodLink own index arraycopyName ∈ Ts) (hnat : Cond.native arraycopyName ∈ Ts) (hstat : Cond.static arraycopyName ∈ Ts) (hini : Cond.initialized "java/lang/System" ∈ Ts) (hL0 : a0 ∈ L) (hk0 : G.1 a0 = 7) (hL : a ∈ L) (hk : G.1 a = 7) (h1 : ¬ sp < 0) (h2 : ¬ dp < 0) (h3 : ¬ n < 0) (h4 : sp.toNatClampNeg + n.toNatClampNeg ≤ G.2.2 a0) (h5 : dp.toNatClampNeg + n.toNatClampNeg ≤ G.2.2 a) (hframes : 1 ≤ R.frames) (hlocals : (rest.map fun v => v.category).sum + (nativeFrameWords "java/lang/System" "arraycopy" 5 + 11) ≤ R.locals) (hdg : decode cc pc = .ok (.invokestatic index, 3)) (kk : ∀ σ' : qS, σ' = q_cp σ a0 sp.toNatClampNeg a dp.toNatClampNeg n.toNatClampNeg → Wd p l e R s m args below meth c E L G A Q nL σ' (pc + 3) lv rest) : Wd p l e R s m args below meth c E L G A Q nL σ pc lv (.int n :: .int dp :: .ref a :: .int sp :: .ref a0 :: rest) := by
  intro H locs ls hP hS hl
  obtain ⟨q0, h0⟩ := q_at (E := E) (G := G) (σ := σ) hL0
  obtain ⟨q1, h9⟩ := q_at (E := E) (G := G) (σ := σ) hL
  have hD : va_D A (q_wd E L G σ) := q_D C.2.2.2.2.2.1 (fun a h => by rw [C.2.2.2.2.1]; exact Or.inl h) σ
  have hset := q_set (σ' := q_cp σ a0 sp.toNatClampNeg a dp.toNatClampNeg n.toNatClampNeg) hD hL h9 (qc7 hk _) (fun b hb => by simp only [q_cp, if_neg hb])
  rw [qc7 hk0] at h0
  rw [qc7 hk] at h9
  have hs := C.1.2.2.2.2
  refine va_copyi C.1.1 C.1.2.1 (C.1.2.2.1.trans hl.1.symm) C.1.2.2.2.1 (hs _ hlink) (hs _ hnat) (hs _ hstat) (hs _ hini) C.2.2.2.1 hP hD hS q0 q1 0 0 h0 h9 rfl rfl rfl h1 h2 h3 h4 h5 (fun _ _ => rfl) hframes hlocals hdg (fun H1 locs1 hP1 _ hS1 => ?_)
  have he : q_cp σ a0 sp.toNatClampNeg a dp.toNatClampNeg n.toNatClampNeg a = va_cpy (σ a0) (σ a) sp.toNatClampNeg dp.toNatClampNeg n.toNatClampNeg := by simp only [q_cp, if_true]
  rw [he] at hset
  rw [hset] at hP1
  exact kk _ rfl H1 locs1 ls hP1 hS1 hl
theorem q_mmax (C : q_C p s m args meth c cc nL Ts own ret E L G A) {index : Nat} {x y : Int32} (hlink : Cond.methodLink own index Lib.Math.max.name ∈ Ts) (hstat : Cond.static Lib.Math.max.name ∈ Ts) (hini : Cond.initialized "java/lang/Math" ∈ Ts) (hcode : Cond.code Lib.Math.max.name Lib.Math.max.code 2 (some .int) ∈ Ts) (hframes : 1 ≤ R.frames) (hlocals : (rest.map fun v => v.category).sum + 13 ≤ R.locals) (hdg : decode cc pc = .ok (.invokestatic index, 3)) (kk : Wd p l e R s m args below meth c E L G A Q nL σ (pc + 3) lv (.int (if x < y then y else x) :: rest)) : Wd p l e R s m args below meth c E L G A Q nL σ pc lv (.int y :: .int x :: rest) := by
  intro H locs ls hP hS hl
  have hs := C.1.2.2.2.2
  exact va_mmax C.1.1 C.1.2.1 (C.1.2.2.1.trans hl.1.symm) C.1.2.2.2.1 (hs _ hlink) (hs _ hstat) (hs _ hini) (hs _ hcode) hframes hlocals (Nat.zero_le _) (Nat.zero_le _) hdg (kk H locs ls hP hS hl)
theorem q_mmin (C : q_C p s m args meth c cc nL Ts own ret E L G A) {index : Nat} {x y : Int32} (hlink : Cond.methodLink own index Lib.Math.min.name ∈ Ts) (hstat : Cond.static Lib.Math.min.name ∈ Ts) (hini : Cond.initialized "java/lang/Math" ∈ Ts) (hcode : Cond.code Lib.Math.min.name Lib.Math.min.code 2 (some .int) ∈ Ts) (hframes : 1 ≤ R.frames) (hlocals : (rest.map fun v => v.category).sum + 13 ≤ R.locals) (hdg : decode cc pc = .ok (.invokestatic index, 3)) (kk : Wd p l e R s m args below meth c E L G A Q nL σ (pc + 3) lv (.int (if y < x then y else x) :: rest)) : Wd p l e R s m args below meth c E L G A Q nL σ pc lv (.int y :: .int x :: rest) := by
  intro H locs ls hP hS hl
  have hs := C.1.2.2.2.2
  exact va_mmin C.1.1 C.1.2.1 (C.1.2.2.1.trans hl.1.symm) C.1.2.2.2.1 (hs _ hlink) (hs _ hstat) (hs _ hini) (hs _ hcode) hframes hlocals (Nat.zero_le _) (Nat.zero_le _) hdg (kk H locs ls hP hS hl)
theorem q_mabs_long (C : q_C p s m args meth c cc nL Ts own ret E L G A) {index : Nat} {x : Int64} (hlink : Cond.methodLink own index Lib.MathLoose.abs_long.x ∈ Ts) (hstat : Cond.static Lib.MathLoose.abs_long.x ∈ Ts) (hini : Cond.initialized "java/lang/Math" ∈ Ts) (hcode : Cond.code Lib.MathLoose.abs_long.x Lib.MathLoose.abs_long.code 2 (some .long) ∈ Ts) (hframes : 1 ≤ R.frames) (hlocals : (rest.map fun v => v.category).sum + 13 ≤ R.locals) (hdg : decode cc pc = .ok (.invokestatic index, 3)) (kk : Wd p l e R s m args below meth c E L G A Q nL σ (pc + 3) lv (.long (if 0 < x then x else -x) :: rest)) : Wd p l e R s m args below meth c E L G A Q nL σ pc lv (.long x :: rest) := by
  intro H locs ls hP hS hl
  have hs := C.1.2.2.2.2
  exact va_mabs_long C.1.1 C.1.2.1 (C.1.2.2.1.trans hl.1.symm) C.1.2.2.2.1 (hs _ hlink) (hs _ hstat) (hs _ hini) (hs _ hcode) hframes hlocals (Nat.zero_le _) (Nat.zero_le _) hdg (kk H locs ls hP hS hl)
theorem q_cVi (C : q_C p s m args meth c cc nL Ts own ret E L G A) {index n maxL : Nat} {b ci : Nat} {fs : List Value} {Cn : String} {T : u_T} {N : Nat} {y : MethodName} {bytes : ByteArray} {rt : Option FieldType} {ws : List Cond} {rm : Room} {As st : List Value} {post : Int32 → qS → Prop} (hM : MtI l E L G y ws rm (.ref b :: As) σ post) (cw : CallW R s args own Cn index y bytes maxL rt ws rm 0 0 n) (hL : b ∈ L) (he : q_cell E G b (σ b) = .inr (ci, fs)) (hc : vwCl[ci]? = some (Cn, T, N)) (hn : As.length = n) (hst : st = As.reverse ++ .ref b :: rest) (hW : (rest.map fun v => v.category).sum ≤ 8) (hdg : decode cc pc = .ok (.invokevirtual index, 3)) (kk : ∀ (r : Int32) (σ' : qS), post r σ' → Wd p l e R s m args below meth c E L G A Q nL σ' (pc + 3) lv (.int r :: rest)) : Wd p l e R s m args below meth c E L G A Q nL σ pc lv st := by
  intro H locs ls hP hS hl
  obtain ⟨q0, h0⟩ := q_at (E := E) (G := G) (σ := σ) hL
  rw [he] at h0
  refine va_calli (va_runV (As := As) (rest := rest) C.1 (hM H.size) cw ⟨fun a U g mk q => by obtain ⟨q0, q1, qP, qK⟩ := q; exact ⟨q0, q1, qP, va_K.moved (u := U) (U := U.calling g mk a) (Vm.Alike.refl U.vm) qK⟩, va_recv C.2.2.2.1 hP hc h0, fun U hU hW => ⟨rfl, by rw [hU], by rw [hU]; exact hP, va_K.moved hW.alike C.2.2.2.1⟩⟩ rfl hn hl.1 hst (lv_room hW) hdg ⟨Nat.zero_le _, Nat.zero_le _⟩) hS (fun q _ h => q_A1 C.2.2.2.2.1 hS q h) (q_A1 C.2.2.2.2.1 hS) (fun r u t H1 locs1 ht hvm hp hB hz hk hS1 => ?_)
  exact kk r u hp H1 locs1 ls (by rw [← ht]; exact hB.1) hS1 hl
theorem q_cSi (C : q_C p s m args meth c cc nL Ts own ret E L G A) {index n maxL : Nat} {y : MethodName} {bytes : ByteArray} {rt : Option FieldType} {ws : List Cond} {rm : Room} {As st : List Value} {post : Int32 → qS → Prop} (hM : MtI l E L G y ws rm As σ post) (cw : CallB R s args own index y bytes maxL rt ws rm 0 0 n ∧ (Cond.static y).before args s = true) (hn : As.length = n) (hst : st = As.reverse ++ rest) (hW : (rest.map fun v => v.category).sum ≤ 8) (hdg : decode cc pc = .ok (.invokestatic index, 3)) (kk : ∀ (r : Int32) (σ' : qS), post r σ' → Wd p l e R s m args below meth c E L G A Q nL σ' (pc + 3) lv (.int r :: rest)) : Wd p l e R s m args below meth c E L G A Q nL σ pc lv st := by
  intro H locs ls hP hS hl
  refine va_calli (va_runS (As := As) (rest := rest) C.1 (hM H.size) cw ⟨fun a U g mk q => by obtain ⟨q0, q1, qP, qK⟩ := q; exact ⟨q0, q1, qP, va_K.moved (u := U) (U := U.calling g mk a) (Vm.Alike.refl U.vm) qK⟩, fun U hU hW => ⟨rfl, by rw [hU], by rw [hU]; exact hP, va_K.moved hW.alike C.2.2.2.1⟩⟩ rfl hn hl.1 hst (lv_room hW) hdg ⟨Nat.zero_le _, Nat.zero_le _⟩) hS (fun q _ h => q_A1 C.2.2.2.2.1 hS q h) (q_A1 C.2.2.2.2.1 hS) (fun r u t H1 locs1 ht hvm hp hB hz hk hS1 => ?_)
  exact kk r u hp H1 locs1 ls (by rw [← ht]; exact hB.1) hS1 hl
theorem q_cVl (C : q_C p s m args meth c cc nL Ts own ret E L G A) {index n maxL : Nat} {b ci : Nat} {fs : List Value} {Cn : String} {T : u_T} {N : Nat} {y : MethodName} {bytes : ByteArray} {rt : Option FieldType} {ws : List Cond} {rm : Room} {As st : List Value} {post : Int64 → qS → Prop} (hM : MtL l E L G y ws rm (.ref b :: As) σ post) (cw : CallW R s args own Cn index y bytes maxL rt ws rm 0 0 n) (hL : b ∈ L) (he : q_cell E G b (σ b) = .inr (ci, fs)) (hc : vwCl[ci]? = some (Cn, T, N)) (hn : As.length = n) (hst : st = As.reverse ++ .ref b :: rest) (hW : (rest.map fun v => v.category).sum ≤ 8) (hdg : decode cc pc = .ok (.invokevirtual index, 3)) (kk : ∀ (r : Int64) (σ' : qS), post r σ' → Wd p l e R s m args below meth c E L G A Q nL σ' (pc + 3) lv (.long r :: rest)) : Wd p l e R s m args below meth c E L G A Q nL σ pc lv st := by
  intro H locs ls hP hS hl
  obtain ⟨q0, h0⟩ := q_at (E := E) (G := G) (σ := σ) hL
  rw [he] at h0
  refine va_calll (va_runV (As := As) (rest := rest) C.1 (hM H.size) cw ⟨fun a U g mk q => by obtain ⟨q0, q1, qP, qK⟩ := q; exact ⟨q0, q1, qP, va_K.moved (u := U) (U := U.calling g mk a) (Vm.Alike.refl U.vm) qK⟩, va_recv C.2.2.2.1 hP hc h0, fun U hU hW => ⟨rfl, by rw [hU], by rw [hU]; exact hP, va_K.moved hW.alike C.2.2.2.1⟩⟩ rfl hn hl.1 hst (lv_room hW) hdg ⟨Nat.zero_le _, Nat.zero_le _⟩) hS (fun q _ h => q_A1 C.2.2.2.2.1 hS q h) (q_A1 C.2.2.2.2.1 hS) (fun r u t H1 locs1 ht hvm hp hB hz hk hS1 => ?_)
  exact kk r u hp H1 locs1 ls (by rw [← ht]; exact hB.1) hS1 hl
theorem q_cSl (C : q_C p s m args meth c cc nL Ts own ret E L G A) {index n maxL : Nat} {y : MethodName} {bytes : ByteArray} {rt : Option FieldType} {ws : List Cond} {rm : Room} {As st : List Value} {post : Int64 → qS → Prop} (hM : MtL l E L G y ws rm As σ post) (cw : CallB R s args own index y bytes maxL rt ws rm 0 0 n ∧ (Cond.static y).before args s = true) (hn : As.length = n) (hst : st = As.reverse ++ rest) (hW : (rest.map fun v => v.category).sum ≤ 8) (hdg : decode cc pc = .ok (.invokestatic index, 3)) (kk : ∀ (r : Int64) (σ' : qS), post r σ' → Wd p l e R s m args below meth c E L G A Q nL σ' (pc + 3) lv (.long r :: rest)) : Wd p l e R s m args below meth c E L G A Q nL σ pc lv st := by
  intro H locs ls hP hS hl
  refine va_calll (va_runS (As := As) (rest := rest) C.1 (hM H.size) cw ⟨fun a U g mk q => by obtain ⟨q0, q1, qP, qK⟩ := q; exact ⟨q0, q1, qP, va_K.moved (u := U) (U := U.calling g mk a) (Vm.Alike.refl U.vm) qK⟩, fun U hU hW => ⟨rfl, by rw [hU], by rw [hU]; exact hP, va_K.moved hW.alike C.2.2.2.1⟩⟩ rfl hn hl.1 hst (lv_room hW) hdg ⟨Nat.zero_le _, Nat.zero_le _⟩) hS (fun q _ h => q_A1 C.2.2.2.2.1 hS q h) (q_A1 C.2.2.2.2.1 hS) (fun r u t H1 locs1 ht hvm hp hB hz hk hS1 => ?_)
  exact kk r u hp H1 locs1 ls (by rw [← ht]; exact hB.1) hS1 hl
theorem q_cVv (C : q_C p s m args meth c cc nL Ts own ret E L G A) {index n maxL : Nat} {b ci : Nat} {fs : List Value} {Cn : String} {T : u_T} {N : Nat} {y : MethodName} {bytes : ByteArray} {rt : Option FieldType} {ws : List Cond} {rm : Room} {As st : List Value} {post : qS → Prop} (hM : MtV l E L G y ws rm (.ref b :: As) σ post) (cw : CallW R s args own Cn index y bytes maxL rt ws rm 0 0 n) (hL : b ∈ L) (he : q_cell E G b (σ b) = .inr (ci, fs)) (hc : vwCl[ci]? = some (Cn, T, N)) (hn : As.length = n) (hst : st = As.reverse ++ .ref b :: rest) (hW : (rest.map fun v => v.category).sum ≤ 8) (hdg : decode cc pc = .ok (.invokevirtual index, 3)) (kk : ∀ (σ' : qS), post σ' → Wd p l e R s m args below meth c E L G A Q nL σ' (pc + 3) lv (rest)) : Wd p l e R s m args below meth c E L G A Q nL σ pc lv st := by
  intro H locs ls hP hS hl
  obtain ⟨q0, h0⟩ := q_at (E := E) (G := G) (σ := σ) hL
  rw [he] at h0
  refine va_callv (va_runV (As := As) (rest := rest) C.1 (hM H.size) cw ⟨fun a U g mk q => by obtain ⟨q0, q1, qP, qK⟩ := q; exact ⟨q0, q1, qP, va_K.moved (u := U) (U := U.calling g mk a) (Vm.Alike.refl U.vm) qK⟩, va_recv C.2.2.2.1 hP hc h0, fun U hU hW => ⟨rfl, by rw [hU], by rw [hU]; exact hP, va_K.moved hW.alike C.2.2.2.1⟩⟩ rfl hn hl.1 hst (lv_room hW) hdg ⟨Nat.zero_le _, Nat.zero_le _⟩) hS (fun q _ h => q_A1 C.2.2.2.2.1 hS q h) (q_A1 C.2.2.2.2.1 hS) (fun u t H1 locs1 ht hvm hp hB hz hk hS1 => ?_)
  exact kk u hp H1 locs1 ls (by rw [← ht]; exact hB.1) hS1 hl
theorem q_cSv (C : q_C p s m args meth c cc nL Ts own ret E L G A) {index n maxL : Nat} {y : MethodName} {bytes : ByteArray} {rt : Option FieldType} {ws : List Cond} {rm : Room} {As st : List Value} {post : qS → Prop} (hM : MtV l E L G y ws rm As σ post) (cw : CallB R s args own index y bytes maxL rt ws rm 0 0 n ∧ (Cond.static y).before args s = true) (hn : As.length = n) (hst : st = As.reverse ++ rest) (hW : (rest.map fun v => v.category).sum ≤ 8) (hdg : decode cc pc = .ok (.invokestatic index, 3)) (kk : ∀ (σ' : qS), post σ' → Wd p l e R s m args below meth c E L G A Q nL σ' (pc + 3) lv (rest)) : Wd p l e R s m args below meth c E L G A Q nL σ pc lv st := by
  intro H locs ls hP hS hl
  refine va_callv (va_runS (As := As) (rest := rest) C.1 (hM H.size) cw ⟨fun a U g mk q => by obtain ⟨q0, q1, qP, qK⟩ := q; exact ⟨q0, q1, qP, va_K.moved (u := U) (U := U.calling g mk a) (Vm.Alike.refl U.vm) qK⟩, fun U hU hW => ⟨rfl, by rw [hU], by rw [hU]; exact hP, va_K.moved hW.alike C.2.2.2.1⟩⟩ rfl hn hl.1 hst (lv_room hW) hdg ⟨Nat.zero_le _, Nat.zero_le _⟩) hS (fun q _ h => q_A1 C.2.2.2.2.1 hS q h) (q_A1 C.2.2.2.2.1 hS) (fun u t H1 locs1 ht hvm hp hB hz hk hS1 => ?_)
  exact kk u hp H1 locs1 ls (by rw [← ht]; exact hB.1) hS1 hl
end QR
section QT
variable {p : Program} {l : Launch} {e : Env} {R : Room} {s : State} {m : MethodId} {args : Array Value} {below : List Frame} {meth : Method} {c : Code} {cc : ByteArray} {pc : Nat} {A : Nat → Prop} {nL : Nat} {Ts : List Cond} {own : String} {E : qE} {L : List Nat} {G : qG} {σ : qS} {lv : List (Nat × Value)}
theorem q_iret {post : Int32 → qS → Prop} {v : Int32} (C : q_C p s m args meth c cc nL Ts own (some .int) E L G A) (hdg : decode cc pc = .ok (.ireturn, 1)) (h : post v σ) : Wd p l e R s m args below meth c E L G A (MQ below (va_Qi post (q_B E L G) A) args s 0 0 A) nL σ pc lv [.int v] := fun H locs ls hP hS hl => W.iret C.1.1 C.1.2.1 C.2.1 (fun t ht hW => ⟨⟨v, σ, rfl, h, by rw [ht]; exact hP, va_K.moved hW.alike C.2.2.2.1⟩, hS.F ht⟩) hS.2.2 hdg C.2.2.1
theorem q_zret {post : Int32 → qS → Prop} {v : Int32} (C : q_C p s m args meth c cc nL Ts own (some .boolean) E L G A) (hdg : decode cc pc = .ok (.ireturn, 1)) (hv : v = 0 ∨ v = 1) (h : post v σ) : Wd p l e R s m args below meth c E L G A (MQ below (va_Qi post (q_B E L G) A) args s 0 0 A) nL σ pc lv [.int v] := fun H locs ls hP hS hl => W.zret C.1.1 C.1.2.1 C.2.1 (by rcases hv with rfl | rfl <;> decide +kernel) (fun t ht hW => ⟨⟨v, σ, rfl, h, by rw [ht]; exact hP, va_K.moved hW.alike C.2.2.2.1⟩, hS.F ht⟩) hS.2.2 hdg C.2.2.1
theorem q_lret {post : Int64 → qS → Prop} {v : Int64} (C : q_C p s m args meth c cc nL Ts own (some .long) E L G A) (hdg : decode cc pc = .ok (.lreturn, 1)) (h : post v σ) : Wd p l e R s m args below meth c E L G A (MQ below (va_Ql post (q_B E L G) A) args s 0 0 A) nL σ pc lv [.long v] := fun H locs ls hP hS hl => W.lret C.1.1 C.1.2.1 C.2.1 (fun t ht hW => ⟨⟨v, σ, rfl, h, by rw [ht]; exact hP, va_K.moved hW.alike C.2.2.2.1⟩, hS.F ht⟩) hS.2.2 hdg C.2.2.1
theorem q_vret {post : qS → Prop} (C : q_C p s m args meth c cc nL Ts own none E L G A) (hdg : decode cc pc = .ok (.return_, 1)) (h : post σ) : Wd p l e R s m args below meth c E L G A (MQ below (va_Qv post (q_B E L G) A) args s 0 0 A) nL σ pc lv [] := fun H locs ls hP hS hl => W.vret C.1.1 C.1.2.1 C.2.1 (fun t ht hW => ⟨⟨σ, rfl, h, by rw [ht]; exact hP, va_K.moved hW.alike C.2.2.2.1⟩, hS.F ht⟩) hS.2.2 hdg C.2.2.1
end QT
/-- a method's contract out of its walk -/
theorem q_met {l : Launch} {y : MethodName} {ws ws' : List Cond} {rm : Room} {Qc : Nat → Array Value → State → Outcome → State → Prop} {cc : ByteArray} {maxL : Nat} {ret : Option FieldType} {E : qE} {L : List Nat} {G : qG} {σ : qS} {av : List Value} {own : String} (hy : plainName y.cls = true) (hw : ws = Cond.code y cc maxL ret :: ws') (ho : y.cls = own) (hlen : (lg_sl av).length ≤ maxL) (hN : L.Nodup) (hG : q_WF G L)
    (body : ∀ (p : Program) (e : Env) (s : State) (m : MethodId) (below : List Frame) (meth : Method) (c : Code), q_C p s m av.toArray meth c cc maxL ws own ret E L G (q_free L s.heap.size) → Wd p l e rm s m av.toArray below meth c E L G (q_free L s.heap.size) (MQ below (Qc s.heap.size) av.toArray s 0 0 (q_free L s.heap.size)) maxL σ 0 (lv_args 0 av) []) :
    ∀ sz : Nat, Met l y ws rm (q_Pc E L G σ sz av) (Qc sz) 0 0 (q_free L sz) := by
  intro sz
  refine Met.ofW (cc := cc) (maxL := maxL) (ret := ret) hy hw ?_
  intro p e s m args below meth c s₁ B hml hv
  obtain ⟨rfl, hsz, hP, hK⟩ := hv
  subst hsz
  subst ho
  have hts := atoms_spec (ws := ws) B.pre
  have hown : s.vm.findClass y.cls = some m.cls := findClass_of_methodNamed B.named
  have hl := lv_entry av (n := maxL) hlen
  rw [lg_entry_eq]
  exact body p e s m below meth c ⟨⟨B.exec, B.bytes, hml, hown, hts⟩, B.returns, B.notSynchronized, hK, rfl, hN, hG⟩ s.heap [] _ hP va_S.rf hl

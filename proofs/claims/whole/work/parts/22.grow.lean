/-! The world where cells are made: L grows, G is written; kc, ks count cells and slots. -/
def q_gs (G : qG) (a k : Nat) (r : Nat → Nat) (n : Nat) : qG := (va_up G.1 a k, va_up G.2.1 a r, va_up G.2.2 a n)
def q_gr (G : qG) (a k r : Nat) : qG := (G.1, va_up G.2.1 a (va_up (G.2.1 a) k r), G.2.2)
def q_like (x y : va_E) : Prop := x = y ∨ ∃ (c : ClassId) (n : Nat) (f g : Nat → Option Nat), x = .inl (c, n, .inr (.inr (.inr (.inr f)))) ∧ y = .inl (c, n, .inr (.inr (.inr (.inr g)))) ∧ ∀ i, i < n → f i = g i
def q_same (L : List Nat) (G G' : qG) : Prop := ∀ (E : qE) (a : Nat) (v : Nat → Int32), a ∈ L → q_like (q_cell E G a v) (q_cell E G' a v)
theorem q_cell_congr {E : qE} {G G' : qG} {b : Nat} {v : Nat → Int32} (h1 : G'.1 b = G.1 b) (h2 : G'.2.1 b = G.2.1 b) (h3 : G'.2.2 b = G.2.2 b) : q_cell E G' b v = q_cell E G b v := by
  unfold q_cell
  rw [h1, h2, h3]
def q_N (p : Program) (s : State) (m : MethodId) (args : Array Value) (meth : Method) (c : Code) (cc : ByteArray) (nL : Nat) (Ts : List Cond) (own : String) (ret : Option FieldType) (nm : String) (E : qE) (A : Nat → Prop) : Prop :=
  CallFix p m c cc nL s args Ts own ∧ meth.sig.returnType = ret ∧ meth.locks = false ∧ va_K E.1 vwCl (q_tys E) s ∧ va_AO "IntFile$Whole" s ∧ meth.name = nm ∧ ∀ q, s.heap.size ≤ q → A q
def Wn (p : Program) (l : Launch) (e : Env) (R : Room) (s : State) (m : MethodId) (args : Array Value) (below : List Frame) (meth : Method) (c : Code) (E : qE) (A : Nat → Prop) (Q : State → Prop) (nL kc ks : Nat) (L : List Nat) (G : qG) (σ : qS) (pc : Nat) (lv : List (Nat × Value)) (st : List Value) : Prop :=
  ∀ (H : Heap) (locs : List Loc) (ls : Array Slot), va_P E.1 vwCl (q_wd E L G σ) H → va_D A (q_wd E L G σ) → va_S A s.heap H locs → lv_has ls nL lv → W p l e R s m args below meth c H locs kc ks Q (F0 m pc ls st)
theorem n_notin {E : qE} {L : List Nat} {G : qG} {σ : qS} {A : Nat → Prop} {q : Nat} {x : va_E} (h : va_D A (q_wd E L G σ ++ [(q, x)])) : q ∉ L := by
  intro hq
  obtain ⟨k, hk⟩ := q_at (E := E) (G := G) (σ := σ) hq
  have hl := (List.getElem?_eq_some_iff.mp hk).1
  have h1 : (q_wd E L G σ ++ [(q, x)])[k]? = some (q, q_cell E G q (σ q)) := by rw [List.getElem?_append_left hl]; exact hk
  have h2 : (q_wd E L G σ ++ [(q, x)])[(q_wd E L G σ).length]? = some (q, x) := by rw [List.getElem?_append_right (Nat.le_refl _), Nat.sub_self]; rfl
  have := h.1 _ _ _ _ h1 h2 rfl
  omega
theorem n_push {E : qE} {L : List Nat} {G G1 : qG} {σ σ1 : qS} {q : Nat} {x : va_E} (hq : q ∉ L) (hx : q_cell E G1 q (σ1 q) = x) (ho : ∀ b, b ≠ q → q_cell E G1 b (σ1 b) = q_cell E G b (σ b)) : q_wd E L G σ ++ [(q, x)] = q_wd E (L ++ [q]) G1 σ1 := by
  unfold q_wd
  rw [va_pl_push hq]
  apply va_pl_congr
  intro b
  by_cases hb : b = q
  · subst hb
    rw [va_up_self, hx]
  · rw [va_up_ne _ _ hb, ho b hb]
theorem n_set {E : qE} {L : List Nat} {G G' : qG} {σ σ' : qS} {A : Nat → Prop} {a k : Nat} {x : va_E} (hD : va_D A (q_wd E L G σ)) (h : a ∈ L) (hk : (q_wd E L G σ)[k]? = some (a, q_cell E G a (σ a))) (hx : q_cell E G' a (σ' a) = x) (ho : ∀ b, b ≠ a → q_cell E G' b (σ' b) = q_cell E G b (σ b)) : (q_wd E L G σ).set k (a, x) = q_wd E L G' σ' := by
  have h1 := va_pl_set (X := []) (f := fun a => q_cell E G a (σ a)) (e := x) hD h hk
  refine h1.trans ?_
  show va_pl L _ = va_pl L _
  apply va_pl_congr
  intro b
  by_cases hb : b = a
  · subst hb
    rw [va_up_self, hx]
  · rw [va_up_ne _ _ hb, ho b hb]
theorem n_gs_ne {G : qG} {a k n b : Nat} {r : Nat → Nat} {E : qE} {v : Nat → Int32} (h : b ≠ a) : q_cell E (q_gs G a k r n) b v = q_cell E G b v := q_cell_congr (va_up_ne _ _ h) (va_up_ne _ _ h) (va_up_ne _ _ h)
theorem n_gr_ne {G : qG} {a k r b : Nat} {E : qE} {v : Nat → Int32} (h : b ≠ a) : q_cell E (q_gr G a k r) b v = q_cell E G b v := q_cell_congr rfl (va_up_ne _ _ h) rfl
theorem n_A1 {L : List Nat} {E : qE} {G : qG} {σ : qS} {s : State} {A : Nat → Prop} {H : Heap} {locs : List Loc} (hA : ∀ q, s.heap.size ≤ q → A q) (hD : va_D A (q_wd E L G σ)) (hS : va_S A s.heap H locs) : ∀ q, q_free L H.size q → A q := by
  intro q h
  rcases h with h | h
  · obtain ⟨k, hk⟩ := q_at (E := E) (G := G) (σ := σ) h
    exact hD.2 k _ hk
  · exact hA q (Nat.le_trans hS.1 h)
def q_rn (k mc ms : Nat) : Room := { frames := 2 * k, cells := mc, slots := ms, locals := 60 * k }
theorem n_room {k k' maxL mc ms mc' ms' : Nat} (h : k + 1 ≤ k') (hm : maxL ≤ 41) : (q_rn k mc ms).frames + 1 ≤ (q_rn k' mc' ms').frames ∧ 8 + (maxL + 11) + (q_rn k mc ms).locals ≤ (q_rn k' mc' ms').locals := by simp only [q_rn]; omega
theorem n_room0 {k k' maxL mc' ms' : Nat} (h : k + 1 ≤ k') (hm : maxL ≤ 41) : (q_rm k).frames + 1 ≤ (q_rn k' mc' ms').frames ∧ 8 + (maxL + 11) + (q_rm k).locals ≤ (q_rn k' mc' ms').locals := by simp only [q_rn, q_rm]; omega
def q_PcN (E : qE) (L : List Nat) (G : qG) (σ : qS) (sz : Nat) (av : List Value) : Array Value → State → Prop := va_Pc av (fun U => U.heap.size = sz ∧ va_P E.1 vwCl (q_wd E L G σ) U.heap ∧ va_K E.1 vwCl (q_tys E) U ∧ va_AO "IntFile$Whole" U ∧ va_D (fun _ => True) (q_wd E L G σ))
def q_BN (E : qE) (A : Nat → Prop) (u : List Nat × qG × qS) (t : State) : Prop := va_P E.1 vwCl (q_wd E u.1 u.2.1 u.2.2) t.heap ∧ va_K E.1 vwCl (q_tys E) t ∧ va_D A (q_wd E u.1 u.2.1 u.2.2)
/-- a constructor's contract -/
def MtN (l : Launch) (E : qE) (y : MethodName) (ws : List Cond) (k mc ms : Nat) (av : List Value) (L : List Nat) (G : qG) (σ : qS) (post : List Nat → qG → qS → Prop) : Prop := ∀ sz : Nat, Met l y ws (q_rn k mc ms) (q_PcN E L G σ sz av) (va_Qv (fun u : List Nat × qG × qS => post u.1 u.2.1 u.2.2) (q_BN E (q_free L sz)) (q_free L sz)) mc ms (q_free L sz)
section NR
variable {p : Program} {l : Launch} {e : Env} {R : Room} {s : State} {m : MethodId} {args : Array Value} {below : List Frame} {meth : Method} {c : Code} {Q : State → Prop} {cc : ByteArray} {pc : Nat} {rest : List Value} {A : Nat → Prop} {nL kc ks : Nat} {Ts : List Cond} {own nm : String} {ret : Option FieldType} {E : qE} {L : List Nat} {G : qG} {σ : qS} {lv : List (Nat × Value)}
theorem n_iconst (C : q_N p s m args meth c cc nL Ts own ret nm E A) {n : Int} {v : Int32} (hdg : decode cc pc = .ok (.iconst n, 1)) (hv : Int32.ofInt n = v) (k : Wn p l e R s m args below meth c E A Q nL kc ks L G σ (pc + 1) lv (.int v :: rest)) : Wn p l e R s m args below meth c E A Q nL kc ks L G σ pc lv (rest) := fun H locs ls hP hD hS hl => lv_iconst C.1.1 C.1.2.1 hdg hv (k H locs ls hP hD hS hl)
theorem n_bipush (C : q_N p s m args meth c cc nL Ts own ret nm E A) {n : Int} {v : Int32} (hdg : decode cc pc = .ok (.bipush n, 2)) (hv : (Int8.ofInt n).toInt32 = v) (k : Wn p l e R s m args below meth c E A Q nL kc ks L G σ (pc + 2) lv (.int v :: rest)) : Wn p l e R s m args below meth c E A Q nL kc ks L G σ pc lv (rest) := fun H locs ls hP hD hS hl => lv_bipush C.1.1 C.1.2.1 hdg hv (k H locs ls hP hD hS hl)
theorem n_sipush (C : q_N p s m args meth c cc nL Ts own ret nm E A) {n : Int} {v : Int32} (hdg : decode cc pc = .ok (.sipush n, 3)) (hv : (Int16.ofInt n).toInt32 = v) (k : Wn p l e R s m args below meth c E A Q nL kc ks L G σ (pc + 3) lv (.int v :: rest)) : Wn p l e R s m args below meth c E A Q nL kc ks L G σ pc lv (rest) := fun H locs ls hP hD hS hl => lv_sipush C.1.1 C.1.2.1 hdg hv (k H locs ls hP hD hS hl)
theorem n_lconst (C : q_N p s m args meth c cc nL Ts own ret nm E A) {n : Fin 2} {v : Int64} (hdg : decode cc pc = .ok (.lconst n, 1)) (hv : Int64.ofNat (n : Nat) = v) (k : Wn p l e R s m args below meth c E A Q nL kc ks L G σ (pc + 1) lv (.long v :: rest)) : Wn p l e R s m args below meth c E A Q nL kc ks L G σ pc lv (rest) := fun H locs ls hP hD hS hl => lv_lconst C.1.1 C.1.2.1 hdg hv (k H locs ls hP hD hS hl)
theorem n_ldc (C : q_N p s m args meth c cc nL Ts own ret nm E A) {n : Nat} {v : Int32} (hdg : decode cc pc = .ok (.ldc n, 2)) (hc : Cond.constant own n v ∈ Ts) (k : Wn p l e R s m args below meth c E A Q nL kc ks L G σ (pc + 2) lv (.int v :: rest)) : Wn p l e R s m args below meth c E A Q nL kc ks L G σ pc lv (rest) := fun H locs ls hP hD hS hl => lv_ldc C.1.1 C.1.2.1 C.1.2.2.2.1 (C.1.2.2.2.2 _ hc) hdg (k H locs ls hP hD hS hl)
theorem n_ldcw (C : q_N p s m args meth c cc nL Ts own ret nm E A) {n : Nat} {v : Int32} (hdg : decode cc pc = .ok (.ldc_w n, 3)) (hc : Cond.constant own n v ∈ Ts) (k : Wn p l e R s m args below meth c E A Q nL kc ks L G σ (pc + 3) lv (.int v :: rest)) : Wn p l e R s m args below meth c E A Q nL kc ks L G σ pc lv (rest) := fun H locs ls hP hD hS hl => lv_ldcw C.1.1 C.1.2.1 C.1.2.2.2.1 (C.1.2.2.2.2 _ hc) hdg (k H locs ls hP hD hS hl)
theorem n_ldc2 (C : q_N p s m args meth c cc nL Ts own ret nm E A) {n : Nat} {v : Int64} (hdg : decode cc pc = .ok (.ldc2_w n, 3)) (hc : Cond.constantLong own n v ∈ Ts) (k : Wn p l e R s m args below meth c E A Q nL kc ks L G σ (pc + 3) lv (.long v :: rest)) : Wn p l e R s m args below meth c E A Q nL kc ks L G σ pc lv (rest) := fun H locs ls hP hD hS hl => lv_ldc2 C.1.1 C.1.2.1 C.1.2.2.2.1 (C.1.2.2.2.2 _ hc) hdg (k H locs ls hP hD hS hl)
theorem n_iload_n (C : q_N p s m args meth c cc nL Ts own ret nm E A) {kf : Fin 4} {i : Nat} {x : Int32} (hdg : decode cc pc = .ok (.iload_n kf, 1)) (hi : (kf : Nat) = i) (j : Nat) (hj : lv[j]? = some (i, .int x)) (k : Wn p l e R s m args below meth c E A Q nL kc ks L G σ (pc + 1) lv (.int x :: rest)) : Wn p l e R s m args below meth c E A Q nL kc ks L G σ pc lv (rest) := fun H locs ls hP hD hS hl => lv_iload_n C.1.1 C.1.2.1 hdg hi (lv_at hl j hj) (k H locs ls hP hD hS hl)
theorem n_iload (C : q_N p s m args meth c cc nL Ts own ret nm E A) {i : Nat} {x : Int32} (hdg : decode cc pc = .ok (.iload i, 2)) (j : Nat) (hj : lv[j]? = some (i, .int x)) (k : Wn p l e R s m args below meth c E A Q nL kc ks L G σ (pc + 2) lv (.int x :: rest)) : Wn p l e R s m args below meth c E A Q nL kc ks L G σ pc lv (rest) := fun H locs ls hP hD hS hl => lv_iload C.1.1 C.1.2.1 hdg (lv_at hl j hj) (k H locs ls hP hD hS hl)
theorem n_istore_n (C : q_N p s m args meth c cc nL Ts own ret nm E A) {kf : Fin 4} {i : Nat} {x : Int32} {lv' : List (Nat × Value)} (hdg : decode cc pc = .ok (.istore_n kf, 1)) (hi : (kf : Nat) = i) (hn : i < nL) (hf : (i, Value.int x) :: lv.filter (fun q => !(q.1 == i) && !(q.1 + 1 == i && q.2.category == 2)) = lv') (k : Wn p l e R s m args below meth c E A Q nL kc ks L G σ (pc + 1) lv' rest) : Wn p l e R s m args below meth c E A Q nL kc ks L G σ pc lv (.int x :: rest) := fun H locs ls hP hD hS hl => lv_istore_n C.1.1 C.1.2.1 hdg hi hl hn hf (fun ls' hl' => k H locs ls' hP hD hS hl')
theorem n_istore (C : q_N p s m args meth c cc nL Ts own ret nm E A) {i : Nat} {x : Int32} {lv' : List (Nat × Value)} (hdg : decode cc pc = .ok (.istore i, 2)) (hn : i < nL) (hf : (i, Value.int x) :: lv.filter (fun q => !(q.1 == i) && !(q.1 + 1 == i && q.2.category == 2)) = lv') (k : Wn p l e R s m args below meth c E A Q nL kc ks L G σ (pc + 2) lv' rest) : Wn p l e R s m args below meth c E A Q nL kc ks L G σ pc lv (.int x :: rest) := fun H locs ls hP hD hS hl => lv_istore C.1.1 C.1.2.1 hdg hl hn hf (fun ls' hl' => k H locs ls' hP hD hS hl')
theorem n_lload_n (C : q_N p s m args meth c cc nL Ts own ret nm E A) {kf : Fin 4} {i : Nat} {x : Int64} (hdg : decode cc pc = .ok (.lload_n kf, 1)) (hi : (kf : Nat) = i) (j : Nat) (hj : lv[j]? = some (i, .long x)) (k : Wn p l e R s m args below meth c E A Q nL kc ks L G σ (pc + 1) lv (.long x :: rest)) : Wn p l e R s m args below meth c E A Q nL kc ks L G σ pc lv (rest) := fun H locs ls hP hD hS hl => lv_lload_n C.1.1 C.1.2.1 hdg hi (lv_at hl j hj) (k H locs ls hP hD hS hl)
theorem n_lload (C : q_N p s m args meth c cc nL Ts own ret nm E A) {i : Nat} {x : Int64} (hdg : decode cc pc = .ok (.lload i, 2)) (j : Nat) (hj : lv[j]? = some (i, .long x)) (k : Wn p l e R s m args below meth c E A Q nL kc ks L G σ (pc + 2) lv (.long x :: rest)) : Wn p l e R s m args below meth c E A Q nL kc ks L G σ pc lv (rest) := fun H locs ls hP hD hS hl => lv_lload C.1.1 C.1.2.1 hdg (lv_at hl j hj) (k H locs ls hP hD hS hl)
theorem n_lstore_n (C : q_N p s m args meth c cc nL Ts own ret nm E A) {kf : Fin 4} {i : Nat} {x : Int64} {lv' : List (Nat × Value)} (hdg : decode cc pc = .ok (.lstore_n kf, 1)) (hi : (kf : Nat) = i) (hn : i + 1 < nL) (hf : (i, Value.long x) :: lv.filter (fun q => !(q.1 == i) && (!(q.1 == i + 1) && !(q.1 + 1 == i && q.2.category == 2))) = lv') (k : Wn p l e R s m args below meth c E A Q nL kc ks L G σ (pc + 1) lv' rest) : Wn p l e R s m args below meth c E A Q nL kc ks L G σ pc lv (.long x :: rest) := fun H locs ls hP hD hS hl => lv_lstore_n C.1.1 C.1.2.1 hdg hi hl hn hf (fun ls' hl' => k H locs ls' hP hD hS hl')
theorem n_lstore (C : q_N p s m args meth c cc nL Ts own ret nm E A) {i : Nat} {x : Int64} {lv' : List (Nat × Value)} (hdg : decode cc pc = .ok (.lstore i, 2)) (hn : i + 1 < nL) (hf : (i, Value.long x) :: lv.filter (fun q => !(q.1 == i) && (!(q.1 == i + 1) && !(q.1 + 1 == i && q.2.category == 2))) = lv') (k : Wn p l e R s m args below meth c E A Q nL kc ks L G σ (pc + 2) lv' rest) : Wn p l e R s m args below meth c E A Q nL kc ks L G σ pc lv (.long x :: rest) := fun H locs ls hP hD hS hl => lv_lstore C.1.1 C.1.2.1 hdg hl hn hf (fun ls' hl' => k H locs ls' hP hD hS hl')
theorem n_aload_n (C : q_N p s m args meth c cc nL Ts own ret nm E A) {kf : Fin 4} {i : Nat} {x : Nat} (hdg : decode cc pc = .ok (.aload_n kf, 1)) (hi : (kf : Nat) = i) (j : Nat) (hj : lv[j]? = some (i, .ref x)) (k : Wn p l e R s m args below meth c E A Q nL kc ks L G σ (pc + 1) lv (.ref x :: rest)) : Wn p l e R s m args below meth c E A Q nL kc ks L G σ pc lv (rest) := fun H locs ls hP hD hS hl => lv_aload_n C.1.1 C.1.2.1 hdg hi (lv_at hl j hj) (k H locs ls hP hD hS hl)
theorem n_aload (C : q_N p s m args meth c cc nL Ts own ret nm E A) {i : Nat} {x : Nat} (hdg : decode cc pc = .ok (.aload i, 2)) (j : Nat) (hj : lv[j]? = some (i, .ref x)) (k : Wn p l e R s m args below meth c E A Q nL kc ks L G σ (pc + 2) lv (.ref x :: rest)) : Wn p l e R s m args below meth c E A Q nL kc ks L G σ pc lv (rest) := fun H locs ls hP hD hS hl => lv_aload C.1.1 C.1.2.1 hdg (lv_at hl j hj) (k H locs ls hP hD hS hl)
theorem n_astore_n (C : q_N p s m args meth c cc nL Ts own ret nm E A) {kf : Fin 4} {i : Nat} {x : Nat} {lv' : List (Nat × Value)} (hdg : decode cc pc = .ok (.astore_n kf, 1)) (hi : (kf : Nat) = i) (hn : i < nL) (hf : (i, Value.ref x) :: lv.filter (fun q => !(q.1 == i) && !(q.1 + 1 == i && q.2.category == 2)) = lv') (k : Wn p l e R s m args below meth c E A Q nL kc ks L G σ (pc + 1) lv' rest) : Wn p l e R s m args below meth c E A Q nL kc ks L G σ pc lv (.ref x :: rest) := fun H locs ls hP hD hS hl => lv_astore_n C.1.1 C.1.2.1 hdg hi hl hn hf (fun ls' hl' => k H locs ls' hP hD hS hl')
theorem n_astore (C : q_N p s m args meth c cc nL Ts own ret nm E A) {i : Nat} {x : Nat} {lv' : List (Nat × Value)} (hdg : decode cc pc = .ok (.astore i, 2)) (hn : i < nL) (hf : (i, Value.ref x) :: lv.filter (fun q => !(q.1 == i) && !(q.1 + 1 == i && q.2.category == 2)) = lv') (k : Wn p l e R s m args below meth c E A Q nL kc ks L G σ (pc + 2) lv' rest) : Wn p l e R s m args below meth c E A Q nL kc ks L G σ pc lv (.ref x :: rest) := fun H locs ls hP hD hS hl => lv_astore C.1.1 C.1.2.1 hdg hl hn hf (fun ls' hl' => k H locs ls' hP hD hS hl')
theorem n_iinc (C : q_N p s m args meth c cc nL Ts own ret nm E A) {i j : Nat} {n : Int} {x v : Int32} {lv' : List (Nat × Value)} (hdg : decode cc pc = .ok (.iinc i n, 3)) (hk : lv[j]? = some (i, .int x)) (hv : v = x + Int32.ofInt n) (hn : i < nL) (hf : (i, Value.int v) :: lv.filter (fun q => !(q.1 == i) && !(q.1 + 1 == i && q.2.category == 2)) = lv') (k : Wn p l e R s m args below meth c E A Q nL kc ks L G σ (pc + 3) lv' rest) : Wn p l e R s m args below meth c E A Q nL kc ks L G σ pc lv rest := fun H locs ls hP hD hS hl => lv_iinc C.1.1 C.1.2.1 hdg hl hk hv.symm hn hf (fun ls' hl' => k H locs ls' hP hD hS hl')
theorem n_iadd (C : q_N p s m args meth c cc nL Ts own ret nm E A) {x y : Int32} (hdg : decode cc pc = .ok (.iadd, 1)) (k : Wn p l e R s m args below meth c E A Q nL kc ks L G σ (pc + 1) lv (.int (x + y) :: rest)) : Wn p l e R s m args below meth c E A Q nL kc ks L G σ pc lv (.int y :: .int x :: rest) := fun H locs ls hP hD hS hl => lv_iadd C.1.1 C.1.2.1 hdg (k H locs ls hP hD hS hl)
theorem n_isub (C : q_N p s m args meth c cc nL Ts own ret nm E A) {x y : Int32} (hdg : decode cc pc = .ok (.isub, 1)) (k : Wn p l e R s m args below meth c E A Q nL kc ks L G σ (pc + 1) lv (.int (x - y) :: rest)) : Wn p l e R s m args below meth c E A Q nL kc ks L G σ pc lv (.int y :: .int x :: rest) := fun H locs ls hP hD hS hl => lv_isub C.1.1 C.1.2.1 hdg (k H locs ls hP hD hS hl)
theorem n_imul (C : q_N p s m args meth c cc nL Ts own ret nm E A) {x y : Int32} (hdg : decode cc pc = .ok (.imul, 1)) (k : Wn p l e R s m args below meth c E A Q nL kc ks L G σ (pc + 1) lv (.int (x * y) :: rest)) : Wn p l e R s m args below meth c E A Q nL kc ks L G σ pc lv (.int y :: .int x :: rest) := fun H locs ls hP hD hS hl => lv_imul C.1.1 C.1.2.1 hdg (k H locs ls hP hD hS hl)
theorem n_iand (C : q_N p s m args meth c cc nL Ts own ret nm E A) {x y : Int32} (hdg : decode cc pc = .ok (.iand, 1)) (k : Wn p l e R s m args below meth c E A Q nL kc ks L G σ (pc + 1) lv (.int (x &&& y) :: rest)) : Wn p l e R s m args below meth c E A Q nL kc ks L G σ pc lv (.int y :: .int x :: rest) := fun H locs ls hP hD hS hl => lv_iand C.1.1 C.1.2.1 hdg (k H locs ls hP hD hS hl)
theorem n_ior (C : q_N p s m args meth c cc nL Ts own ret nm E A) {x y : Int32} (hdg : decode cc pc = .ok (.ior, 1)) (k : Wn p l e R s m args below meth c E A Q nL kc ks L G σ (pc + 1) lv (.int (x ||| y) :: rest)) : Wn p l e R s m args below meth c E A Q nL kc ks L G σ pc lv (.int y :: .int x :: rest) := fun H locs ls hP hD hS hl => lv_ior C.1.1 C.1.2.1 hdg (k H locs ls hP hD hS hl)
theorem n_ixor (C : q_N p s m args meth c cc nL Ts own ret nm E A) {x y : Int32} (hdg : decode cc pc = .ok (.ixor, 1)) (k : Wn p l e R s m args below meth c E A Q nL kc ks L G σ (pc + 1) lv (.int (x ^^^ y) :: rest)) : Wn p l e R s m args below meth c E A Q nL kc ks L G σ pc lv (.int y :: .int x :: rest) := fun H locs ls hP hD hS hl => lv_ixor C.1.1 C.1.2.1 hdg (k H locs ls hP hD hS hl)
theorem n_ishl (C : q_N p s m args meth c cc nL Ts own ret nm E A) {x y : Int32} (hdg : decode cc pc = .ok (.ishl, 1)) (k : Wn p l e R s m args below meth c E A Q nL kc ks L G σ (pc + 1) lv (.int (x <<< (y &&& 31)) :: rest)) : Wn p l e R s m args below meth c E A Q nL kc ks L G σ pc lv (.int y :: .int x :: rest) := fun H locs ls hP hD hS hl => lv_ishl C.1.1 C.1.2.1 hdg (k H locs ls hP hD hS hl)
theorem n_ishr (C : q_N p s m args meth c cc nL Ts own ret nm E A) {x y : Int32} (hdg : decode cc pc = .ok (.ishr, 1)) (k : Wn p l e R s m args below meth c E A Q nL kc ks L G σ (pc + 1) lv (.int (x >>> (y &&& 31)) :: rest)) : Wn p l e R s m args below meth c E A Q nL kc ks L G σ pc lv (.int y :: .int x :: rest) := fun H locs ls hP hD hS hl => lv_ishr C.1.1 C.1.2.1 hdg (k H locs ls hP hD hS hl)
theorem n_ladd (C : q_N p s m args meth c cc nL Ts own ret nm E A) {x y : Int64} (hdg : decode cc pc = .ok (.ladd, 1)) (k : Wn p l e R s m args below meth c E A Q nL kc ks L G σ (pc + 1) lv (.long (x + y) :: rest)) : Wn p l e R s m args below meth c E A Q nL kc ks L G σ pc lv (.long y :: .long x :: rest) := fun H locs ls hP hD hS hl => lv_ladd C.1.1 C.1.2.1 hdg (k H locs ls hP hD hS hl)
theorem n_lsub (C : q_N p s m args meth c cc nL Ts own ret nm E A) {x y : Int64} (hdg : decode cc pc = .ok (.lsub, 1)) (k : Wn p l e R s m args below meth c E A Q nL kc ks L G σ (pc + 1) lv (.long (x - y) :: rest)) : Wn p l e R s m args below meth c E A Q nL kc ks L G σ pc lv (.long y :: .long x :: rest) := fun H locs ls hP hD hS hl => lv_lsub C.1.1 C.1.2.1 hdg (k H locs ls hP hD hS hl)
theorem n_lmul (C : q_N p s m args meth c cc nL Ts own ret nm E A) {x y : Int64} (hdg : decode cc pc = .ok (.lmul, 1)) (k : Wn p l e R s m args below meth c E A Q nL kc ks L G σ (pc + 1) lv (.long (x * y) :: rest)) : Wn p l e R s m args below meth c E A Q nL kc ks L G σ pc lv (.long y :: .long x :: rest) := fun H locs ls hP hD hS hl => lv_lmul C.1.1 C.1.2.1 hdg (k H locs ls hP hD hS hl)
theorem n_land (C : q_N p s m args meth c cc nL Ts own ret nm E A) {x y : Int64} (hdg : decode cc pc = .ok (.land, 1)) (k : Wn p l e R s m args below meth c E A Q nL kc ks L G σ (pc + 1) lv (.long (x &&& y) :: rest)) : Wn p l e R s m args below meth c E A Q nL kc ks L G σ pc lv (.long y :: .long x :: rest) := fun H locs ls hP hD hS hl => lv_land C.1.1 C.1.2.1 hdg (k H locs ls hP hD hS hl)
theorem n_lor (C : q_N p s m args meth c cc nL Ts own ret nm E A) {x y : Int64} (hdg : decode cc pc = .ok (.lor, 1)) (k : Wn p l e R s m args below meth c E A Q nL kc ks L G σ (pc + 1) lv (.long (x ||| y) :: rest)) : Wn p l e R s m args below meth c E A Q nL kc ks L G σ pc lv (.long y :: .long x :: rest) := fun H locs ls hP hD hS hl => lv_lor C.1.1 C.1.2.1 hdg (k H locs ls hP hD hS hl)
theorem n_lxor (C : q_N p s m args meth c cc nL Ts own ret nm E A) {x y : Int64} (hdg : decode cc pc = .ok (.lxor, 1)) (k : Wn p l e R s m args below meth c E A Q nL kc ks L G σ (pc + 1) lv (.long (x ^^^ y) :: rest)) : Wn p l e R s m args below meth c E A Q nL kc ks L G σ pc lv (.long y :: .long x :: rest) := fun H locs ls hP hD hS hl => lv_lxor C.1.1 C.1.2.1 hdg (k H locs ls hP hD hS hl)
theorem n_idiv (C : q_N p s m args meth c cc nL Ts own ret nm E A) {x y : Int32} (hdg : decode cc pc = .ok (.idiv, 1)) (hne : ¬ y = 0) (k : Wn p l e R s m args below meth c E A Q nL kc ks L G σ (pc + 1) lv (.int (x / y) :: rest)) : Wn p l e R s m args below meth c E A Q nL kc ks L G σ pc lv (.int y :: .int x :: rest) := fun H locs ls hP hD hS hl => lv_idiv C.1.1 C.1.2.1 hdg hne (k H locs ls hP hD hS hl)
theorem n_irem (C : q_N p s m args meth c cc nL Ts own ret nm E A) {x y : Int32} (hdg : decode cc pc = .ok (.irem, 1)) (hne : ¬ y = 0) (k : Wn p l e R s m args below meth c E A Q nL kc ks L G σ (pc + 1) lv (.int (x - x / y * y) :: rest)) : Wn p l e R s m args below meth c E A Q nL kc ks L G σ pc lv (.int y :: .int x :: rest) := fun H locs ls hP hD hS hl => lv_irem C.1.1 C.1.2.1 hdg hne (k H locs ls hP hD hS hl)
theorem n_ldiv (C : q_N p s m args meth c cc nL Ts own ret nm E A) {x y : Int64} (hdg : decode cc pc = .ok (.ldiv, 1)) (hne : ¬ y = 0) (k : Wn p l e R s m args below meth c E A Q nL kc ks L G σ (pc + 1) lv (.long (x / y) :: rest)) : Wn p l e R s m args below meth c E A Q nL kc ks L G σ pc lv (.long y :: .long x :: rest) := fun H locs ls hP hD hS hl => lv_ldiv C.1.1 C.1.2.1 hdg hne (k H locs ls hP hD hS hl)
theorem n_lrem (C : q_N p s m args meth c cc nL Ts own ret nm E A) {x y : Int64} (hdg : decode cc pc = .ok (.lrem, 1)) (hne : ¬ y = 0) (k : Wn p l e R s m args below meth c E A Q nL kc ks L G σ (pc + 1) lv (.long (x - x / y * y) :: rest)) : Wn p l e R s m args below meth c E A Q nL kc ks L G σ pc lv (.long y :: .long x :: rest) := fun H locs ls hP hD hS hl => lv_lrem C.1.1 C.1.2.1 hdg hne (k H locs ls hP hD hS hl)
theorem n_ineg (C : q_N p s m args meth c cc nL Ts own ret nm E A) {x : Int32} (hdg : decode cc pc = .ok (.ineg, 1)) (k : Wn p l e R s m args below meth c E A Q nL kc ks L G σ (pc + 1) lv (.int (-x) :: rest)) : Wn p l e R s m args below meth c E A Q nL kc ks L G σ pc lv (.int x :: rest) := fun H locs ls hP hD hS hl => lv_ineg C.1.1 C.1.2.1 hdg (k H locs ls hP hD hS hl)
theorem n_lneg (C : q_N p s m args meth c cc nL Ts own ret nm E A) {x : Int64} (hdg : decode cc pc = .ok (.lneg, 1)) (k : Wn p l e R s m args below meth c E A Q nL kc ks L G σ (pc + 1) lv (.long (-x) :: rest)) : Wn p l e R s m args below meth c E A Q nL kc ks L G σ pc lv (.long x :: rest) := fun H locs ls hP hD hS hl => lv_lneg C.1.1 C.1.2.1 hdg (k H locs ls hP hD hS hl)
theorem n_i2l (C : q_N p s m args meth c cc nL Ts own ret nm E A) {x : Int32} (hdg : decode cc pc = .ok (.i2l, 1)) (k : Wn p l e R s m args below meth c E A Q nL kc ks L G σ (pc + 1) lv (.long x.toInt64 :: rest)) : Wn p l e R s m args below meth c E A Q nL kc ks L G σ pc lv (.int x :: rest) := fun H locs ls hP hD hS hl => lv_i2l C.1.1 C.1.2.1 hdg rfl (k H locs ls hP hD hS hl)
theorem n_l2i (C : q_N p s m args meth c cc nL Ts own ret nm E A) {x : Int64} (hdg : decode cc pc = .ok (.l2i, 1)) (k : Wn p l e R s m args below meth c E A Q nL kc ks L G σ (pc + 1) lv (.int x.toInt32 :: rest)) : Wn p l e R s m args below meth c E A Q nL kc ks L G σ pc lv (.long x :: rest) := fun H locs ls hP hD hS hl => lv_l2i C.1.1 C.1.2.1 hdg rfl (k H locs ls hP hD hS hl)
theorem n_i2b (C : q_N p s m args meth c cc nL Ts own ret nm E A) {x : Int32} (hdg : decode cc pc = .ok (.i2b, 1)) (k : Wn p l e R s m args below meth c E A Q nL kc ks L G σ (pc + 1) lv (.int x.toInt8.toInt32 :: rest)) : Wn p l e R s m args below meth c E A Q nL kc ks L G σ pc lv (.int x :: rest) := fun H locs ls hP hD hS hl => lv_i2b C.1.1 C.1.2.1 hdg rfl (k H locs ls hP hD hS hl)
theorem n_iushr (C : q_N p s m args meth c cc nL Ts own ret nm E A) {x y : Int32} (hdg : decode cc pc = .ok (.iushr, 1)) (k : Wn p l e R s m args below meth c E A Q nL kc ks L G σ (pc + 1) lv (.int (x.toUInt32 >>> (y.toUInt32 &&& Int32.toUInt32 31)).toInt32 :: rest)) : Wn p l e R s m args below meth c E A Q nL kc ks L G σ pc lv (.int y :: .int x :: rest) := fun H locs ls hP hD hS hl => lv_iushr C.1.1 C.1.2.1 hdg rfl (k H locs ls hP hD hS hl)
theorem n_lushr (C : q_N p s m args meth c cc nL Ts own ret nm E A) {x : Int64} {y : Int32} (hdg : decode cc pc = .ok (.lushr, 1)) (k : Wn p l e R s m args below meth c E A Q nL kc ks L G σ (pc + 1) lv (.long (x.toUInt64 >>> (y.toInt64.toUInt64 &&& Int64.toUInt64 63)).toInt64 :: rest)) : Wn p l e R s m args below meth c E A Q nL kc ks L G σ pc lv (.int y :: .long x :: rest) := fun H locs ls hP hD hS hl => lv_lushr C.1.1 C.1.2.1 hdg rfl (k H locs ls hP hD hS hl)
theorem n_lshl (C : q_N p s m args meth c cc nL Ts own ret nm E A) {x : Int64} {y : Int32} (hdg : decode cc pc = .ok (.lshl, 1)) (k : Wn p l e R s m args below meth c E A Q nL kc ks L G σ (pc + 1) lv (.long (x <<< (y.toInt64 &&& 63)) :: rest)) : Wn p l e R s m args below meth c E A Q nL kc ks L G σ pc lv (.int y :: .long x :: rest) := fun H locs ls hP hD hS hl => lv_lshl C.1.1 C.1.2.1 hdg rfl (k H locs ls hP hD hS hl)
theorem n_lshr (C : q_N p s m args meth c cc nL Ts own ret nm E A) {x : Int64} {y : Int32} (hdg : decode cc pc = .ok (.lshr, 1)) (k : Wn p l e R s m args below meth c E A Q nL kc ks L G σ (pc + 1) lv (.long (x >>> (y.toInt64 &&& 63)) :: rest)) : Wn p l e R s m args below meth c E A Q nL kc ks L G σ pc lv (.int y :: .long x :: rest) := fun H locs ls hP hD hS hl => lv_lshr C.1.1 C.1.2.1 hdg rfl (k H locs ls hP hD hS hl)
theorem n_lcmp (C : q_N p s m args meth c cc nL Ts own ret nm E A) {x y : Int64} (hdg : decode cc pc = .ok (.lcmp, 1)) (k : Wn p l e R s m args below meth c E A Q nL kc ks L G σ (pc + 1) lv (.int (lg_cmp x y) :: rest)) : Wn p l e R s m args below meth c E A Q nL kc ks L G σ pc lv (.long y :: .long x :: rest) := fun H locs ls hP hD hS hl => W.lcmp C.1.1 C.1.2.1 hdg (k H locs ls hP hD hS hl)
theorem n_dup (C : q_N p s m args meth c cc nL Ts own ret nm E A) {va : Value} (hdg : decode cc pc = .ok (.dup, 1)) (hva : va.category = 1) (k : Wn p l e R s m args below meth c E A Q nL kc ks L G σ (pc + 1) lv (va :: va :: rest)) : Wn p l e R s m args below meth c E A Q nL kc ks L G σ pc lv (va :: rest) := fun H locs ls hP hD hS hl => lv_dup C.1.1 C.1.2.1 hdg hva (k H locs ls hP hD hS hl)
theorem n_pop (C : q_N p s m args meth c cc nL Ts own ret nm E A) {va : Value} (hdg : decode cc pc = .ok (.pop, 1)) (hva : va.category = 1) (k : Wn p l e R s m args below meth c E A Q nL kc ks L G σ (pc + 1) lv (rest)) : Wn p l e R s m args below meth c E A Q nL kc ks L G σ pc lv (va :: rest) := fun H locs ls hP hD hS hl => lv_pop C.1.1 C.1.2.1 hdg hva (k H locs ls hP hD hS hl)
theorem n_dup2_11 (C : q_N p s m args meth c cc nL Ts own ret nm E A) {va vb : Value} (hdg : decode cc pc = .ok (.dup2, 1)) (hva : va.category = 1) (hvb : vb.category = 1) (k : Wn p l e R s m args below meth c E A Q nL kc ks L G σ (pc + 1) lv (va :: vb :: va :: vb :: rest)) : Wn p l e R s m args below meth c E A Q nL kc ks L G σ pc lv (va :: vb :: rest) := fun H locs ls hP hD hS hl => lv_dup2_11 C.1.1 C.1.2.1 hdg hva hvb (k H locs ls hP hD hS hl)
theorem n_dup2_2 (C : q_N p s m args meth c cc nL Ts own ret nm E A) {va : Value} (hdg : decode cc pc = .ok (.dup2, 1)) (hva : va.category = 2) (k : Wn p l e R s m args below meth c E A Q nL kc ks L G σ (pc + 1) lv (va :: va :: rest)) : Wn p l e R s m args below meth c E A Q nL kc ks L G σ pc lv (va :: rest) := fun H locs ls hP hD hS hl => lv_dup2_2 C.1.1 C.1.2.1 hdg hva (k H locs ls hP hD hS hl)
theorem n_if_eq (C : q_N p s m args meth c cc nL Ts own ret nm E A) {x : Int32} {off : Int} {tgt : Nat} (hdg : decode cc pc = .ok (.ifCond .eq off, 3)) (ht : (pc : Int) + off = (tgt : Int)) (kt : x = 0 → Wn p l e R s m args below meth c E A Q nL kc ks L G σ tgt lv rest) (kf : ¬ x = 0 → Wn p l e R s m args below meth c E A Q nL kc ks L G σ (pc + 3) lv rest) : Wn p l e R s m args below meth c E A Q nL kc ks L G σ pc lv (.int x :: rest) := fun H locs ls hP hD hS hl => lv_if_eq C.1.1 C.1.2.1 hdg ht (fun h => kt h H locs ls hP hD hS hl) (fun h => kf h H locs ls hP hD hS hl)
theorem n_icmp_eq (C : q_N p s m args meth c cc nL Ts own ret nm E A) {x y : Int32} {off : Int} {tgt : Nat} (hdg : decode cc pc = .ok (.if_icmp .eq off, 3)) (ht : (pc : Int) + off = (tgt : Int)) (kt : x = y → Wn p l e R s m args below meth c E A Q nL kc ks L G σ tgt lv rest) (kf : ¬ x = y → Wn p l e R s m args below meth c E A Q nL kc ks L G σ (pc + 3) lv rest) : Wn p l e R s m args below meth c E A Q nL kc ks L G σ pc lv (.int y :: .int x :: rest) := fun H locs ls hP hD hS hl => lv_icmp_eq C.1.1 C.1.2.1 hdg ht (fun h => kt h H locs ls hP hD hS hl) (fun h => kf h H locs ls hP hD hS hl)
theorem n_if_lt (C : q_N p s m args meth c cc nL Ts own ret nm E A) {x : Int32} {off : Int} {tgt : Nat} (hdg : decode cc pc = .ok (.ifCond .lt off, 3)) (ht : (pc : Int) + off = (tgt : Int)) (kt : x < 0 → Wn p l e R s m args below meth c E A Q nL kc ks L G σ tgt lv rest) (kf : ¬ x < 0 → Wn p l e R s m args below meth c E A Q nL kc ks L G σ (pc + 3) lv rest) : Wn p l e R s m args below meth c E A Q nL kc ks L G σ pc lv (.int x :: rest) := fun H locs ls hP hD hS hl => lv_if_lt C.1.1 C.1.2.1 hdg ht (fun h => kt h H locs ls hP hD hS hl) (fun h => kf h H locs ls hP hD hS hl)
theorem n_icmp_lt (C : q_N p s m args meth c cc nL Ts own ret nm E A) {x y : Int32} {off : Int} {tgt : Nat} (hdg : decode cc pc = .ok (.if_icmp .lt off, 3)) (ht : (pc : Int) + off = (tgt : Int)) (kt : x < y → Wn p l e R s m args below meth c E A Q nL kc ks L G σ tgt lv rest) (kf : ¬ x < y → Wn p l e R s m args below meth c E A Q nL kc ks L G σ (pc + 3) lv rest) : Wn p l e R s m args below meth c E A Q nL kc ks L G σ pc lv (.int y :: .int x :: rest) := fun H locs ls hP hD hS hl => lv_icmp_lt C.1.1 C.1.2.1 hdg ht (fun h => kt h H locs ls hP hD hS hl) (fun h => kf h H locs ls hP hD hS hl)
theorem n_if_ge (C : q_N p s m args meth c cc nL Ts own ret nm E A) {x : Int32} {off : Int} {tgt : Nat} (hdg : decode cc pc = .ok (.ifCond .ge off, 3)) (ht : (pc : Int) + off = (tgt : Int)) (kt : 0 ≤ x → Wn p l e R s m args below meth c E A Q nL kc ks L G σ tgt lv rest) (kf : ¬ 0 ≤ x → Wn p l e R s m args below meth c E A Q nL kc ks L G σ (pc + 3) lv rest) : Wn p l e R s m args below meth c E A Q nL kc ks L G σ pc lv (.int x :: rest) := fun H locs ls hP hD hS hl => lv_if_ge C.1.1 C.1.2.1 hdg ht (fun h => kt h H locs ls hP hD hS hl) (fun h => kf h H locs ls hP hD hS hl)
theorem n_icmp_ge (C : q_N p s m args meth c cc nL Ts own ret nm E A) {x y : Int32} {off : Int} {tgt : Nat} (hdg : decode cc pc = .ok (.if_icmp .ge off, 3)) (ht : (pc : Int) + off = (tgt : Int)) (kt : y ≤ x → Wn p l e R s m args below meth c E A Q nL kc ks L G σ tgt lv rest) (kf : ¬ y ≤ x → Wn p l e R s m args below meth c E A Q nL kc ks L G σ (pc + 3) lv rest) : Wn p l e R s m args below meth c E A Q nL kc ks L G σ pc lv (.int y :: .int x :: rest) := fun H locs ls hP hD hS hl => lv_icmp_ge C.1.1 C.1.2.1 hdg ht (fun h => kt h H locs ls hP hD hS hl) (fun h => kf h H locs ls hP hD hS hl)
theorem n_if_gt (C : q_N p s m args meth c cc nL Ts own ret nm E A) {x : Int32} {off : Int} {tgt : Nat} (hdg : decode cc pc = .ok (.ifCond .gt off, 3)) (ht : (pc : Int) + off = (tgt : Int)) (kt : 0 < x → Wn p l e R s m args below meth c E A Q nL kc ks L G σ tgt lv rest) (kf : ¬ 0 < x → Wn p l e R s m args below meth c E A Q nL kc ks L G σ (pc + 3) lv rest) : Wn p l e R s m args below meth c E A Q nL kc ks L G σ pc lv (.int x :: rest) := fun H locs ls hP hD hS hl => lv_if_gt C.1.1 C.1.2.1 hdg ht (fun h => kt h H locs ls hP hD hS hl) (fun h => kf h H locs ls hP hD hS hl)
theorem n_icmp_gt (C : q_N p s m args meth c cc nL Ts own ret nm E A) {x y : Int32} {off : Int} {tgt : Nat} (hdg : decode cc pc = .ok (.if_icmp .gt off, 3)) (ht : (pc : Int) + off = (tgt : Int)) (kt : y < x → Wn p l e R s m args below meth c E A Q nL kc ks L G σ tgt lv rest) (kf : ¬ y < x → Wn p l e R s m args below meth c E A Q nL kc ks L G σ (pc + 3) lv rest) : Wn p l e R s m args below meth c E A Q nL kc ks L G σ pc lv (.int y :: .int x :: rest) := fun H locs ls hP hD hS hl => lv_icmp_gt C.1.1 C.1.2.1 hdg ht (fun h => kt h H locs ls hP hD hS hl) (fun h => kf h H locs ls hP hD hS hl)
theorem n_if_le (C : q_N p s m args meth c cc nL Ts own ret nm E A) {x : Int32} {off : Int} {tgt : Nat} (hdg : decode cc pc = .ok (.ifCond .le off, 3)) (ht : (pc : Int) + off = (tgt : Int)) (kt : x ≤ 0 → Wn p l e R s m args below meth c E A Q nL kc ks L G σ tgt lv rest) (kf : ¬ x ≤ 0 → Wn p l e R s m args below meth c E A Q nL kc ks L G σ (pc + 3) lv rest) : Wn p l e R s m args below meth c E A Q nL kc ks L G σ pc lv (.int x :: rest) := fun H locs ls hP hD hS hl => lv_if_le C.1.1 C.1.2.1 hdg ht (fun h => kt h H locs ls hP hD hS hl) (fun h => kf h H locs ls hP hD hS hl)
theorem n_icmp_le (C : q_N p s m args meth c cc nL Ts own ret nm E A) {x y : Int32} {off : Int} {tgt : Nat} (hdg : decode cc pc = .ok (.if_icmp .le off, 3)) (ht : (pc : Int) + off = (tgt : Int)) (kt : x ≤ y → Wn p l e R s m args below meth c E A Q nL kc ks L G σ tgt lv rest) (kf : ¬ x ≤ y → Wn p l e R s m args below meth c E A Q nL kc ks L G σ (pc + 3) lv rest) : Wn p l e R s m args below meth c E A Q nL kc ks L G σ pc lv (.int y :: .int x :: rest) := fun H locs ls hP hD hS hl => lv_icmp_le C.1.1 C.1.2.1 hdg ht (fun h => kt h H locs ls hP hD hS hl) (fun h => kf h H locs ls hP hD hS hl)
theorem n_if_ne (C : q_N p s m args meth c cc nL Ts own ret nm E A) {x : Int32} {off : Int} {tgt : Nat} (hdg : decode cc pc = .ok (.ifCond .ne off, 3)) (ht : (pc : Int) + off = (tgt : Int)) (kt : ¬ x = 0 → Wn p l e R s m args below meth c E A Q nL kc ks L G σ tgt lv rest) (kf : x = 0 → Wn p l e R s m args below meth c E A Q nL kc ks L G σ (pc + 3) lv rest) : Wn p l e R s m args below meth c E A Q nL kc ks L G σ pc lv (.int x :: rest) := fun H locs ls hP hD hS hl => lv_if_ne C.1.1 C.1.2.1 hdg ht (fun h => kt h H locs ls hP hD hS hl) (fun h => kf h H locs ls hP hD hS hl)
theorem n_icmp_ne (C : q_N p s m args meth c cc nL Ts own ret nm E A) {x y : Int32} {off : Int} {tgt : Nat} (hdg : decode cc pc = .ok (.if_icmp .ne off, 3)) (ht : (pc : Int) + off = (tgt : Int)) (kt : ¬ x = y → Wn p l e R s m args below meth c E A Q nL kc ks L G σ tgt lv rest) (kf : x = y → Wn p l e R s m args below meth c E A Q nL kc ks L G σ (pc + 3) lv rest) : Wn p l e R s m args below meth c E A Q nL kc ks L G σ pc lv (.int y :: .int x :: rest) := fun H locs ls hP hD hS hl => lv_icmp_ne C.1.1 C.1.2.1 hdg ht (fun h => kt h H locs ls hP hD hS hl) (fun h => kf h H locs ls hP hD hS hl)
theorem n_goto (C : q_N p s m args meth c cc nL Ts own ret nm E A) {off : Int} {tgt : Nat} (hdg : decode cc pc = .ok (.goto off, 3)) (ht : (pc : Int) + off = (tgt : Int)) (k : Wn p l e R s m args below meth c E A Q nL kc ks L G σ tgt lv rest) : Wn p l e R s m args below meth c E A Q nL kc ks L G σ pc lv rest := fun H locs ls hP hD hS hl => lv_goto C.1.1 C.1.2.1 hdg ht (k H locs ls hP hD hS hl)
theorem n_topi {x : Int32} (k : ∀ y : Int32, y = x → Wn p l e R s m args below meth c E A Q nL kc ks L G σ pc lv (.int y :: rest)) : Wn p l e R s m args below meth c E A Q nL kc ks L G σ pc lv (.int x :: rest) := k x rfl
theorem n_topl {x : Int64} (k : ∀ y : Int64, y = x → Wn p l e R s m args below meth c E A Q nL kc ks L G σ pc lv (.long y :: rest)) : Wn p l e R s m args below meth c E A Q nL kc ks L G σ pc lv (.long x :: rest) := k x rfl
theorem n_lv {lv' : List (Nat × Value)} (is : List Nat) (hk : lv_pick lv is = lv') (k : Wn p l e R s m args below meth c E A Q nL kc ks L G σ pc lv' rest) : Wn p l e R s m args below meth c E A Q nL kc ks L G σ pc lv rest := fun H locs ls hP hD hS hl => k H locs ls hP hD hS (lv_sub hl is hk)
theorem n_objInit (C : q_N p s m args meth c cc nL Ts own ret nm E A) {idx : Nat} {a : Nat} (hlink : Cond.methodLink own idx objectInit ∈ Ts) (hinst : Cond.instanceMethod objectInit ∈ Ts) (hcode : Cond.code objectInit ⟨#[0xb1]⟩ 1 none ∈ Ts) (hdg : decode cc pc = .ok (.invokespecial idx, 3)) (hframes : 1 ≤ R.frames) (hlocals : 2 * 0 + (rest.map fun v => v.category).sum + 12 ≤ R.locals) (k : Wn p l e R s m args below meth c E A Q nL kc ks L G σ (pc + 3) lv rest) : Wn p l e R s m args below meth c E A Q nL kc ks L G σ pc lv (.ref a :: rest) := fun H locs ls hP hD hS hl => W.objInit C.1.1 C.1.2.1 C.1.2.2.2.1 (C.1.2.2.2.2 _ hlink) (C.1.2.2.2.2 _ hinst) (C.1.2.2.2.2 _ hcode) rfl (by rw [C.1.2.2.1]; exact hl.1) rfl hdg hframes hlocals (k H locs ls hP hD hS hl)
theorem n_g0_0 (C : q_N p s m args meth c cc nL Ts own ret nm E A) {a r index : Nat} (hL : a ∈ L) (hk : G.1 a = 11) (hr : G.2.1 a 0 = r + 1) (hin : ∀ w ∈ wsX00, w ∈ Ts) (hlink : Cond.fieldLink own index "IntFile$Division" "quotient" "LIntFile$Whole;" ∈ Ts) (hdg : decode cc pc = .ok (.getfield index, 3)) (kk : Wn p l e R s m args below meth c E A Q nL kc ks L G σ (pc + 3) lv (.ref r :: rest)) : Wn p l e R s m args below meth c E A Q nL kc ks L G σ pc lv (.ref a :: rest) := by
  intro H locs ls hP hD hS hl
  obtain ⟨q0, h0⟩ := q_at (E := E) (G := G) (σ := σ) hL
  rw [qc11 hk, hr] at h0
  exact va_get (ci := 0) (C := RX0) (T := TX0) (N := 4) C.1.1 C.1.2.1 C.1.2.2.2.2 hin C.1.2.2.2.1 C.2.2.2.1 hP q0 h0 rfl 0 (by decide) (C.1.2.2.2.2 _ hlink) (fun _ h9 => h9) rfl hdg (kk H locs ls hP hD hS hl)
theorem n_p0_0 (C : q_N p s m args meth c cc nL Ts RX0 ret "<init>" E A) {a r index : Nat} (hL : a ∈ L) (hk : G.1 a = 11) (hin : ∀ w ∈ wsX00, w ∈ Ts) (hlink : Cond.fieldLink RX0 index "IntFile$Division" "quotient" "LIntFile$Whole;" ∈ Ts) (hdg : decode cc pc = .ok (.putfield index, 3)) (kk : ∀ G' : qG, G' = q_gr G a 0 (r + 1) → Wn p l e R s m args below meth c E A Q nL kc ks L G' σ (pc + 3) lv rest) : Wn p l e R s m args below meth c E A Q nL kc ks L G σ pc lv (.ref r :: .ref a :: rest) := by
  intro H locs ls hP hD hS hl
  obtain ⟨q0, h0⟩ := q_at (E := E) (G := G) (σ := σ) hL
  have hcell : q_cell E (q_gr G a 0 (r + 1)) a (σ a) = .inr (0, ([qr (G.2.1 a 0), qr (G.2.1 a 1), qr (G.2.1 a 2), qr (G.2.1 a 3)] : List Value).set 0 (.ref r)) := by rw [qc11 (G := q_gr G a 0 (r + 1)) hk]; simp [q_gr, va_up, qr]
  have hset := n_set (G' := q_gr G a 0 (r + 1)) (σ' := σ) hD hL h0 hcell (fun b hb => n_gr_ne hb)
  rw [qc11 hk] at h0
  refine va_putF (ci := 0) (v := .ref r) (ty := (tyX0 0)) (C := RX0) (T := TX0) (N := 4) C.1.1 C.1.2.1 C.1.2.2.2.2 hin tyX0 tyX0_ok nmX0 C.1.2.2.2.1 C.2.2.2.1 hP hD hS q0 h0 rfl 0 (by decide) (C.1.2.2.2.2 _ hlink) (fun _ h9 => h9) rfl C.2.2.2.2.2.1 rfl (by decide +kernel) rfl rfl (Nat.le_of_ble_eq_true rfl) hdg (fun H1 locs1 hP1 hD1 hS1 => ?_)
  rw [hset] at hP1 hD1
  exact kk _ rfl H1 locs1 ls hP1 hD1 hS1 hl
theorem n_g0_1 (C : q_N p s m args meth c cc nL Ts own ret nm E A) {a r index : Nat} (hL : a ∈ L) (hk : G.1 a = 11) (hr : G.2.1 a 1 = r + 1) (hin : ∀ w ∈ wsX00, w ∈ Ts) (hlink : Cond.fieldLink own index "IntFile$Division" "rest" "LIntFile$Whole;" ∈ Ts) (hdg : decode cc pc = .ok (.getfield index, 3)) (kk : Wn p l e R s m args below meth c E A Q nL kc ks L G σ (pc + 3) lv (.ref r :: rest)) : Wn p l e R s m args below meth c E A Q nL kc ks L G σ pc lv (.ref a :: rest) := by
  intro H locs ls hP hD hS hl
  obtain ⟨q0, h0⟩ := q_at (E := E) (G := G) (σ := σ) hL
  rw [qc11 hk, hr] at h0
  exact va_get (ci := 0) (C := RX0) (T := TX0) (N := 4) C.1.1 C.1.2.1 C.1.2.2.2.2 hin C.1.2.2.2.1 C.2.2.2.1 hP q0 h0 rfl 1 (by decide) (C.1.2.2.2.2 _ hlink) (fun _ h9 => h9) rfl hdg (kk H locs ls hP hD hS hl)
theorem n_p0_1 (C : q_N p s m args meth c cc nL Ts RX0 ret "<init>" E A) {a r index : Nat} (hL : a ∈ L) (hk : G.1 a = 11) (hin : ∀ w ∈ wsX00, w ∈ Ts) (hlink : Cond.fieldLink RX0 index "IntFile$Division" "rest" "LIntFile$Whole;" ∈ Ts) (hdg : decode cc pc = .ok (.putfield index, 3)) (kk : ∀ G' : qG, G' = q_gr G a 1 (r + 1) → Wn p l e R s m args below meth c E A Q nL kc ks L G' σ (pc + 3) lv rest) : Wn p l e R s m args below meth c E A Q nL kc ks L G σ pc lv (.ref r :: .ref a :: rest) := by
  intro H locs ls hP hD hS hl
  obtain ⟨q0, h0⟩ := q_at (E := E) (G := G) (σ := σ) hL
  have hcell : q_cell E (q_gr G a 1 (r + 1)) a (σ a) = .inr (0, ([qr (G.2.1 a 0), qr (G.2.1 a 1), qr (G.2.1 a 2), qr (G.2.1 a 3)] : List Value).set 1 (.ref r)) := by rw [qc11 (G := q_gr G a 1 (r + 1)) hk]; simp [q_gr, va_up, qr]
  have hset := n_set (G' := q_gr G a 1 (r + 1)) (σ' := σ) hD hL h0 hcell (fun b hb => n_gr_ne hb)
  rw [qc11 hk] at h0
  refine va_putF (ci := 0) (v := .ref r) (ty := (tyX0 1)) (C := RX0) (T := TX0) (N := 4) C.1.1 C.1.2.1 C.1.2.2.2.2 hin tyX0 tyX0_ok nmX0 C.1.2.2.2.1 C.2.2.2.1 hP hD hS q0 h0 rfl 1 (by decide) (C.1.2.2.2.2 _ hlink) (fun _ h9 => h9) rfl C.2.2.2.2.2.1 rfl (by decide +kernel) rfl rfl (Nat.le_of_ble_eq_true rfl) hdg (fun H1 locs1 hP1 hD1 hS1 => ?_)
  rw [hset] at hP1 hD1
  exact kk _ rfl H1 locs1 ls hP1 hD1 hS1 hl
theorem n_g0_2 (C : q_N p s m args meth c cc nL Ts own ret nm E A) {a r index : Nat} (hL : a ∈ L) (hk : G.1 a = 11) (hr : G.2.1 a 2 = r + 1) (hin : ∀ w ∈ wsX00, w ∈ Ts) (hlink : Cond.fieldLink own index "IntFile$Division" "over" "[I" ∈ Ts) (hdg : decode cc pc = .ok (.getfield index, 3)) (kk : Wn p l e R s m args below meth c E A Q nL kc ks L G σ (pc + 3) lv (.ref r :: rest)) : Wn p l e R s m args below meth c E A Q nL kc ks L G σ pc lv (.ref a :: rest) := by
  intro H locs ls hP hD hS hl
  obtain ⟨q0, h0⟩ := q_at (E := E) (G := G) (σ := σ) hL
  rw [qc11 hk, hr] at h0
  exact va_get (ci := 0) (C := RX0) (T := TX0) (N := 4) C.1.1 C.1.2.1 C.1.2.2.2.2 hin C.1.2.2.2.1 C.2.2.2.1 hP q0 h0 rfl 2 (by decide) (C.1.2.2.2.2 _ hlink) (fun _ h9 => h9) rfl hdg (kk H locs ls hP hD hS hl)
theorem n_p0_2 (C : q_N p s m args meth c cc nL Ts RX0 ret "<init>" E A) {a r index : Nat} (hL : a ∈ L) (hk : G.1 a = 11) (hin : ∀ w ∈ wsX00, w ∈ Ts) (hlink : Cond.fieldLink RX0 index "IntFile$Division" "over" "[I" ∈ Ts) (hdg : decode cc pc = .ok (.putfield index, 3)) (kk : ∀ G' : qG, G' = q_gr G a 2 (r + 1) → Wn p l e R s m args below meth c E A Q nL kc ks L G' σ (pc + 3) lv rest) : Wn p l e R s m args below meth c E A Q nL kc ks L G σ pc lv (.ref r :: .ref a :: rest) := by
  intro H locs ls hP hD hS hl
  obtain ⟨q0, h0⟩ := q_at (E := E) (G := G) (σ := σ) hL
  have hcell : q_cell E (q_gr G a 2 (r + 1)) a (σ a) = .inr (0, ([qr (G.2.1 a 0), qr (G.2.1 a 1), qr (G.2.1 a 2), qr (G.2.1 a 3)] : List Value).set 2 (.ref r)) := by rw [qc11 (G := q_gr G a 2 (r + 1)) hk]; simp [q_gr, va_up, qr]
  have hset := n_set (G' := q_gr G a 2 (r + 1)) (σ' := σ) hD hL h0 hcell (fun b hb => n_gr_ne hb)
  rw [qc11 hk] at h0
  refine va_putF (ci := 0) (v := .ref r) (ty := (tyX0 2)) (C := RX0) (T := TX0) (N := 4) C.1.1 C.1.2.1 C.1.2.2.2.2 hin tyX0 tyX0_ok nmX0 C.1.2.2.2.1 C.2.2.2.1 hP hD hS q0 h0 rfl 2 (by decide) (C.1.2.2.2.2 _ hlink) (fun _ h9 => h9) rfl C.2.2.2.2.2.1 rfl (by decide +kernel) rfl rfl (Nat.le_of_ble_eq_true rfl) hdg (fun H1 locs1 hP1 hD1 hS1 => ?_)
  rw [hset] at hP1 hD1
  exact kk _ rfl H1 locs1 ls hP1 hD1 hS1 hl
theorem n_g0_3 (C : q_N p s m args meth c cc nL Ts own ret nm E A) {a r index : Nat} (hL : a ∈ L) (hk : G.1 a = 11) (hr : G.2.1 a 3 = r + 1) (hin : ∀ w ∈ wsX00, w ∈ Ts) (hlink : Cond.fieldLink own index "IntFile$Division" "under" "[I" ∈ Ts) (hdg : decode cc pc = .ok (.getfield index, 3)) (kk : Wn p l e R s m args below meth c E A Q nL kc ks L G σ (pc + 3) lv (.ref r :: rest)) : Wn p l e R s m args below meth c E A Q nL kc ks L G σ pc lv (.ref a :: rest) := by
  intro H locs ls hP hD hS hl
  obtain ⟨q0, h0⟩ := q_at (E := E) (G := G) (σ := σ) hL
  rw [qc11 hk, hr] at h0
  exact va_get (ci := 0) (C := RX0) (T := TX0) (N := 4) C.1.1 C.1.2.1 C.1.2.2.2.2 hin C.1.2.2.2.1 C.2.2.2.1 hP q0 h0 rfl 3 (by decide) (C.1.2.2.2.2 _ hlink) (fun _ h9 => h9) rfl hdg (kk H locs ls hP hD hS hl)
theorem n_p0_3 (C : q_N p s m args meth c cc nL Ts RX0 ret "<init>" E A) {a r index : Nat} (hL : a ∈ L) (hk : G.1 a = 11) (hin : ∀ w ∈ wsX00, w ∈ Ts) (hlink : Cond.fieldLink RX0 index "IntFile$Division" "under" "[I" ∈ Ts) (hdg : decode cc pc = .ok (.putfield index, 3)) (kk : ∀ G' : qG, G' = q_gr G a 3 (r + 1) → Wn p l e R s m args below meth c E A Q nL kc ks L G' σ (pc + 3) lv rest) : Wn p l e R s m args below meth c E A Q nL kc ks L G σ pc lv (.ref r :: .ref a :: rest) := by
  intro H locs ls hP hD hS hl
  obtain ⟨q0, h0⟩ := q_at (E := E) (G := G) (σ := σ) hL
  have hcell : q_cell E (q_gr G a 3 (r + 1)) a (σ a) = .inr (0, ([qr (G.2.1 a 0), qr (G.2.1 a 1), qr (G.2.1 a 2), qr (G.2.1 a 3)] : List Value).set 3 (.ref r)) := by rw [qc11 (G := q_gr G a 3 (r + 1)) hk]; simp [q_gr, va_up, qr]
  have hset := n_set (G' := q_gr G a 3 (r + 1)) (σ' := σ) hD hL h0 hcell (fun b hb => n_gr_ne hb)
  rw [qc11 hk] at h0
  refine va_putF (ci := 0) (v := .ref r) (ty := (tyX0 3)) (C := RX0) (T := TX0) (N := 4) C.1.1 C.1.2.1 C.1.2.2.2.2 hin tyX0 tyX0_ok nmX0 C.1.2.2.2.1 C.2.2.2.1 hP hD hS q0 h0 rfl 3 (by decide) (C.1.2.2.2.2 _ hlink) (fun _ h9 => h9) rfl C.2.2.2.2.2.1 rfl (by decide +kernel) rfl rfl (Nat.le_of_ble_eq_true rfl) hdg (fun H1 locs1 hP1 hD1 hS1 => ?_)
  rw [hset] at hP1 hD1
  exact kk _ rfl H1 locs1 ls hP1 hD1 hS1 hl
theorem n_new0 (C : q_N p s m args meth c cc nL Ts own ret nm E A) {index : Nat} (hin : ∀ w ∈ wsX00, w ∈ Ts) (hcl : Cond.classLink own index RX0 ∈ Ts) (hinst : Cond.instantiable RX0 4 ∈ Ts) (hini : Cond.initialized RX0 ∈ Ts) (hc : kc + 1 ≤ R.cells) (hs : ks + 4 ≤ R.slots) (hdg : decode cc pc = .ok (.new index, 3)) (kk : ∀ (q : Nat) (L1 : List Nat) (G1 : qG) (σ1 : qS), q ∉ L → L1 = L ++ [q] → G1 = q_gs G q 11 (fun _ => 0) 0 → σ1 = va_up σ q (fun _ => 0) → Wn p l e R s m args below meth c E A Q nL (kc + 1) (ks + 4) L1 G1 σ1 (pc + 3) lv (.ref q :: rest)) : Wn p l e R s m args below meth c E A Q nL kc ks L G σ pc lv rest := by
  intro H locs ls hP hD hS hl
  refine va_new (ci := 0) (fs := [.null, .null, .null, .null]) (C := RX0) (T := TX0) (N := 4) C.1.1 C.1.2.1 C.1.2.2.2.2 hin tyX0 tyX0_ok C.1.2.2.2.1 (C.1.2.2.2.2 _ hcl) (C.1.2.2.2.2 _ hinst) (C.1.2.2.2.2 _ hini) C.2.2.2.1 hP hD hS C.2.2.2.2.2.2 rfl (fun j hj => ?_) hc hs hdg (fun q H1 hP1 hD1 hS1 => ?_)
  · rcases (show j = 0 ∨ j = 1 ∨ j = 2 ∨ j = 3 by omega) with rfl | rfl | rfl | rfl <;> rfl
  · have hq := n_notin hD1
    have hpu := n_push (E := E) (G := G) (σ := σ) (G1 := q_gs G q 11 (fun _ => 0) 0) (σ1 := va_up σ q (fun _ => 0)) hq (qc11 (va_up_self _ _ _) _) (fun b hb => by rw [n_gs_ne hb, va_up_ne _ _ hb])
    simp only [q_gs, va_up_self] at hpu
    have hP1 : va_P E.1 vwCl (q_wd E (L ++ [q]) (q_gs G q 11 (fun _ => 0) 0) (va_up σ q (fun _ => 0))) H1 := hpu ▸ hP1
    have hD1 : va_D A (q_wd E (L ++ [q]) (q_gs G q 11 (fun _ => 0) 0) (va_up σ q (fun _ => 0))) := hpu ▸ hD1
    exact kk q _ _ _ hq rfl rfl rfl H1 locs ls hP1 hD1 hS1 hl
theorem n_g1_0 (C : q_N p s m args meth c cc nL Ts own ret nm E A) {a index : Nat} (hL : a ∈ L) (hk : G.1 a = 12) (hin : ∀ w ∈ wsX10, w ∈ Ts) (hlink : Cond.fieldLink own index "IntFile$Products" "cut" "I" ∈ Ts) (hdg : decode cc pc = .ok (.getfield index, 3)) (kk : Wn p l e R s m args below meth c E A Q nL kc ks L G σ (pc + 3) lv (.int (σ a 0) :: rest)) : Wn p l e R s m args below meth c E A Q nL kc ks L G σ pc lv (.ref a :: rest) := by
  intro H locs ls hP hD hS hl
  obtain ⟨q0, h0⟩ := q_at (E := E) (G := G) (σ := σ) hL
  rw [qc12 hk] at h0
  exact va_get (ci := 1) (C := RX1) (T := TX1) (N := 6) C.1.1 C.1.2.1 C.1.2.2.2.2 hin C.1.2.2.2.1 C.2.2.2.1 hP q0 h0 rfl 0 (by decide) (C.1.2.2.2.2 _ hlink) (fun _ h9 => h9) rfl hdg (kk H locs ls hP hD hS hl)
theorem n_p1_0 (C : q_N p s m args meth c cc nL Ts RX1 ret "<init>" E A) {a index : Nat} {x : Int32} (hL : a ∈ L) (hk : G.1 a = 12) (hin : ∀ w ∈ wsX10, w ∈ Ts) (hlink : Cond.fieldLink RX1 index "IntFile$Products" "cut" "I" ∈ Ts) (hdg : decode cc pc = .ok (.putfield index, 3)) (kk : ∀ σ' : qS, σ' = q_st σ a 0 x → Wn p l e R s m args below meth c E A Q nL kc ks L G σ' (pc + 3) lv rest) : Wn p l e R s m args below meth c E A Q nL kc ks L G σ pc lv (.int x :: .ref a :: rest) := by
  intro H locs ls hP hD hS hl
  obtain ⟨q0, h0⟩ := q_at (E := E) (G := G) (σ := σ) hL
  have hcell : q_cell E G a (q_st σ a 0 x a) = .inr (1, ([.int (σ a 0), qr (G.2.1 a 1), .int (σ a 2), .int (σ a 3), .int (σ a 4), .int (σ a 5)] : List Value).set 0 (.int x)) := by rw [qc12 hk]; simp [q_st]
  have hset := q_set (σ' := q_st σ a 0 x) hD hL h0 hcell (fun b hb => q_st_a σ x hb)
  rw [qc12 hk] at h0
  refine va_putF (ci := 1) (v := .int x) (ty := .int) (C := RX1) (T := TX1) (N := 6) C.1.1 C.1.2.1 C.1.2.2.2.2 hin tyX1 tyX1_ok nmX1 C.1.2.2.2.1 C.2.2.2.1 hP hD hS q0 h0 rfl 0 (by decide) (C.1.2.2.2.2 _ hlink) (fun _ h9 => h9) rfl C.2.2.2.2.2.1 rfl (by decide +kernel) rfl rfl (Nat.le_of_ble_eq_true rfl) hdg (fun H1 locs1 hP1 hD1 hS1 => ?_)
  rw [hset] at hP1 hD1
  exact kk _ rfl H1 locs1 ls hP1 hD1 hS1 hl
theorem n_g1_1 (C : q_N p s m args meth c cc nL Ts own ret nm E A) {a r index : Nat} (hL : a ∈ L) (hk : G.1 a = 12) (hr : G.2.1 a 1 = r + 1) (hin : ∀ w ∈ wsX10, w ∈ Ts) (hlink : Cond.fieldLink own index "IntFile$Products" "row" "[I" ∈ Ts) (hdg : decode cc pc = .ok (.getfield index, 3)) (kk : Wn p l e R s m args below meth c E A Q nL kc ks L G σ (pc + 3) lv (.ref r :: rest)) : Wn p l e R s m args below meth c E A Q nL kc ks L G σ pc lv (.ref a :: rest) := by
  intro H locs ls hP hD hS hl
  obtain ⟨q0, h0⟩ := q_at (E := E) (G := G) (σ := σ) hL
  rw [qc12 hk, hr] at h0
  exact va_get (ci := 1) (C := RX1) (T := TX1) (N := 6) C.1.1 C.1.2.1 C.1.2.2.2.2 hin C.1.2.2.2.1 C.2.2.2.1 hP q0 h0 rfl 1 (by decide) (C.1.2.2.2.2 _ hlink) (fun _ h9 => h9) rfl hdg (kk H locs ls hP hD hS hl)
theorem n_p1_1 (C : q_N p s m args meth c cc nL Ts RX1 ret "<init>" E A) {a r index : Nat} (hL : a ∈ L) (hk : G.1 a = 12) (hin : ∀ w ∈ wsX10, w ∈ Ts) (hlink : Cond.fieldLink RX1 index "IntFile$Products" "row" "[I" ∈ Ts) (hdg : decode cc pc = .ok (.putfield index, 3)) (kk : ∀ G' : qG, G' = q_gr G a 1 (r + 1) → Wn p l e R s m args below meth c E A Q nL kc ks L G' σ (pc + 3) lv rest) : Wn p l e R s m args below meth c E A Q nL kc ks L G σ pc lv (.ref r :: .ref a :: rest) := by
  intro H locs ls hP hD hS hl
  obtain ⟨q0, h0⟩ := q_at (E := E) (G := G) (σ := σ) hL
  have hcell : q_cell E (q_gr G a 1 (r + 1)) a (σ a) = .inr (1, ([.int (σ a 0), qr (G.2.1 a 1), .int (σ a 2), .int (σ a 3), .int (σ a 4), .int (σ a 5)] : List Value).set 1 (.ref r)) := by rw [qc12 (G := q_gr G a 1 (r + 1)) hk]; simp [q_gr, va_up, qr]
  have hset := n_set (G' := q_gr G a 1 (r + 1)) (σ' := σ) hD hL h0 hcell (fun b hb => n_gr_ne hb)
  rw [qc12 hk] at h0
  refine va_putF (ci := 1) (v := .ref r) (ty := (tyX1 1)) (C := RX1) (T := TX1) (N := 6) C.1.1 C.1.2.1 C.1.2.2.2.2 hin tyX1 tyX1_ok nmX1 C.1.2.2.2.1 C.2.2.2.1 hP hD hS q0 h0 rfl 1 (by decide) (C.1.2.2.2.2 _ hlink) (fun _ h9 => h9) rfl C.2.2.2.2.2.1 rfl (by decide +kernel) rfl rfl (Nat.le_of_ble_eq_true rfl) hdg (fun H1 locs1 hP1 hD1 hS1 => ?_)
  rw [hset] at hP1 hD1
  exact kk _ rfl H1 locs1 ls hP1 hD1 hS1 hl
theorem n_g1_2 (C : q_N p s m args meth c cc nL Ts own ret nm E A) {a index : Nat} (hL : a ∈ L) (hk : G.1 a = 12) (hin : ∀ w ∈ wsX10, w ∈ Ts) (hlink : Cond.fieldLink own index "IntFile$Products" "left" "I" ∈ Ts) (hdg : decode cc pc = .ok (.getfield index, 3)) (kk : Wn p l e R s m args below meth c E A Q nL kc ks L G σ (pc + 3) lv (.int (σ a 2) :: rest)) : Wn p l e R s m args below meth c E A Q nL kc ks L G σ pc lv (.ref a :: rest) := by
  intro H locs ls hP hD hS hl
  obtain ⟨q0, h0⟩ := q_at (E := E) (G := G) (σ := σ) hL
  rw [qc12 hk] at h0
  exact va_get (ci := 1) (C := RX1) (T := TX1) (N := 6) C.1.1 C.1.2.1 C.1.2.2.2.2 hin C.1.2.2.2.1 C.2.2.2.1 hP q0 h0 rfl 2 (by decide) (C.1.2.2.2.2 _ hlink) (fun _ h9 => h9) rfl hdg (kk H locs ls hP hD hS hl)
theorem n_p1_2 (C : q_N p s m args meth c cc nL Ts RX1 ret "<init>" E A) {a index : Nat} {x : Int32} (hL : a ∈ L) (hk : G.1 a = 12) (hin : ∀ w ∈ wsX10, w ∈ Ts) (hlink : Cond.fieldLink RX1 index "IntFile$Products" "left" "I" ∈ Ts) (hdg : decode cc pc = .ok (.putfield index, 3)) (kk : ∀ σ' : qS, σ' = q_st σ a 2 x → Wn p l e R s m args below meth c E A Q nL kc ks L G σ' (pc + 3) lv rest) : Wn p l e R s m args below meth c E A Q nL kc ks L G σ pc lv (.int x :: .ref a :: rest) := by
  intro H locs ls hP hD hS hl
  obtain ⟨q0, h0⟩ := q_at (E := E) (G := G) (σ := σ) hL
  have hcell : q_cell E G a (q_st σ a 2 x a) = .inr (1, ([.int (σ a 0), qr (G.2.1 a 1), .int (σ a 2), .int (σ a 3), .int (σ a 4), .int (σ a 5)] : List Value).set 2 (.int x)) := by rw [qc12 hk]; simp [q_st]
  have hset := q_set (σ' := q_st σ a 2 x) hD hL h0 hcell (fun b hb => q_st_a σ x hb)
  rw [qc12 hk] at h0
  refine va_putF (ci := 1) (v := .int x) (ty := .int) (C := RX1) (T := TX1) (N := 6) C.1.1 C.1.2.1 C.1.2.2.2.2 hin tyX1 tyX1_ok nmX1 C.1.2.2.2.1 C.2.2.2.1 hP hD hS q0 h0 rfl 2 (by decide) (C.1.2.2.2.2 _ hlink) (fun _ h9 => h9) rfl C.2.2.2.2.2.1 rfl (by decide +kernel) rfl rfl (Nat.le_of_ble_eq_true rfl) hdg (fun H1 locs1 hP1 hD1 hS1 => ?_)
  rw [hset] at hP1 hD1
  exact kk _ rfl H1 locs1 ls hP1 hD1 hS1 hl
theorem n_g1_3 (C : q_N p s m args meth c cc nL Ts own ret nm E A) {a index : Nat} (hL : a ∈ L) (hk : G.1 a = 12) (hin : ∀ w ∈ wsX10, w ∈ Ts) (hlink : Cond.fieldLink own index "IntFile$Products" "right" "I" ∈ Ts) (hdg : decode cc pc = .ok (.getfield index, 3)) (kk : Wn p l e R s m args below meth c E A Q nL kc ks L G σ (pc + 3) lv (.int (σ a 3) :: rest)) : Wn p l e R s m args below meth c E A Q nL kc ks L G σ pc lv (.ref a :: rest) := by
  intro H locs ls hP hD hS hl
  obtain ⟨q0, h0⟩ := q_at (E := E) (G := G) (σ := σ) hL
  rw [qc12 hk] at h0
  exact va_get (ci := 1) (C := RX1) (T := TX1) (N := 6) C.1.1 C.1.2.1 C.1.2.2.2.2 hin C.1.2.2.2.1 C.2.2.2.1 hP q0 h0 rfl 3 (by decide) (C.1.2.2.2.2 _ hlink) (fun _ h9 => h9) rfl hdg (kk H locs ls hP hD hS hl)
theorem n_p1_3 (C : q_N p s m args meth c cc nL Ts RX1 ret "<init>" E A) {a index : Nat} {x : Int32} (hL : a ∈ L) (hk : G.1 a = 12) (hin : ∀ w ∈ wsX10, w ∈ Ts) (hlink : Cond.fieldLink RX1 index "IntFile$Products" "right" "I" ∈ Ts) (hdg : decode cc pc = .ok (.putfield index, 3)) (kk : ∀ σ' : qS, σ' = q_st σ a 3 x → Wn p l e R s m args below meth c E A Q nL kc ks L G σ' (pc + 3) lv rest) : Wn p l e R s m args below meth c E A Q nL kc ks L G σ pc lv (.int x :: .ref a :: rest) := by
  intro H locs ls hP hD hS hl
  obtain ⟨q0, h0⟩ := q_at (E := E) (G := G) (σ := σ) hL
  have hcell : q_cell E G a (q_st σ a 3 x a) = .inr (1, ([.int (σ a 0), qr (G.2.1 a 1), .int (σ a 2), .int (σ a 3), .int (σ a 4), .int (σ a 5)] : List Value).set 3 (.int x)) := by rw [qc12 hk]; simp [q_st]
  have hset := q_set (σ' := q_st σ a 3 x) hD hL h0 hcell (fun b hb => q_st_a σ x hb)
  rw [qc12 hk] at h0
  refine va_putF (ci := 1) (v := .int x) (ty := .int) (C := RX1) (T := TX1) (N := 6) C.1.1 C.1.2.1 C.1.2.2.2.2 hin tyX1 tyX1_ok nmX1 C.1.2.2.2.1 C.2.2.2.1 hP hD hS q0 h0 rfl 3 (by decide) (C.1.2.2.2.2 _ hlink) (fun _ h9 => h9) rfl C.2.2.2.2.2.1 rfl (by decide +kernel) rfl rfl (Nat.le_of_ble_eq_true rfl) hdg (fun H1 locs1 hP1 hD1 hS1 => ?_)
  rw [hset] at hP1 hD1
  exact kk _ rfl H1 locs1 ls hP1 hD1 hS1 hl
theorem n_g1_4 (C : q_N p s m args meth c cc nL Ts own ret nm E A) {a index : Nat} (hL : a ∈ L) (hk : G.1 a = 12) (hin : ∀ w ∈ wsX10, w ∈ Ts) (hlink : Cond.fieldLink own index "IntFile$Products" "outcome" "I" ∈ Ts) (hdg : decode cc pc = .ok (.getfield index, 3)) (kk : Wn p l e R s m args below meth c E A Q nL kc ks L G σ (pc + 3) lv (.int (σ a 4) :: rest)) : Wn p l e R s m args below meth c E A Q nL kc ks L G σ pc lv (.ref a :: rest) := by
  intro H locs ls hP hD hS hl
  obtain ⟨q0, h0⟩ := q_at (E := E) (G := G) (σ := σ) hL
  rw [qc12 hk] at h0
  exact va_get (ci := 1) (C := RX1) (T := TX1) (N := 6) C.1.1 C.1.2.1 C.1.2.2.2.2 hin C.1.2.2.2.1 C.2.2.2.1 hP q0 h0 rfl 4 (by decide) (C.1.2.2.2.2 _ hlink) (fun _ h9 => h9) rfl hdg (kk H locs ls hP hD hS hl)
theorem n_p1_4 (C : q_N p s m args meth c cc nL Ts RX1 ret "<init>" E A) {a index : Nat} {x : Int32} (hL : a ∈ L) (hk : G.1 a = 12) (hin : ∀ w ∈ wsX10, w ∈ Ts) (hlink : Cond.fieldLink RX1 index "IntFile$Products" "outcome" "I" ∈ Ts) (hdg : decode cc pc = .ok (.putfield index, 3)) (kk : ∀ σ' : qS, σ' = q_st σ a 4 x → Wn p l e R s m args below meth c E A Q nL kc ks L G σ' (pc + 3) lv rest) : Wn p l e R s m args below meth c E A Q nL kc ks L G σ pc lv (.int x :: .ref a :: rest) := by
  intro H locs ls hP hD hS hl
  obtain ⟨q0, h0⟩ := q_at (E := E) (G := G) (σ := σ) hL
  have hcell : q_cell E G a (q_st σ a 4 x a) = .inr (1, ([.int (σ a 0), qr (G.2.1 a 1), .int (σ a 2), .int (σ a 3), .int (σ a 4), .int (σ a 5)] : List Value).set 4 (.int x)) := by rw [qc12 hk]; simp [q_st]
  have hset := q_set (σ' := q_st σ a 4 x) hD hL h0 hcell (fun b hb => q_st_a σ x hb)
  rw [qc12 hk] at h0
  refine va_putF (ci := 1) (v := .int x) (ty := .int) (C := RX1) (T := TX1) (N := 6) C.1.1 C.1.2.1 C.1.2.2.2.2 hin tyX1 tyX1_ok nmX1 C.1.2.2.2.1 C.2.2.2.1 hP hD hS q0 h0 rfl 4 (by decide) (C.1.2.2.2.2 _ hlink) (fun _ h9 => h9) rfl C.2.2.2.2.2.1 rfl (by decide +kernel) rfl rfl (Nat.le_of_ble_eq_true rfl) hdg (fun H1 locs1 hP1 hD1 hS1 => ?_)
  rw [hset] at hP1 hD1
  exact kk _ rfl H1 locs1 ls hP1 hD1 hS1 hl
theorem n_g1_5 (C : q_N p s m args meth c cc nL Ts own ret nm E A) {a index : Nat} (hL : a ∈ L) (hk : G.1 a = 12) (hin : ∀ w ∈ wsX10, w ∈ Ts) (hlink : Cond.fieldLink own index "IntFile$Products" "free" "I" ∈ Ts) (hdg : decode cc pc = .ok (.getfield index, 3)) (kk : Wn p l e R s m args below meth c E A Q nL kc ks L G σ (pc + 3) lv (.int (σ a 5) :: rest)) : Wn p l e R s m args below meth c E A Q nL kc ks L G σ pc lv (.ref a :: rest) := by
  intro H locs ls hP hD hS hl
  obtain ⟨q0, h0⟩ := q_at (E := E) (G := G) (σ := σ) hL
  rw [qc12 hk] at h0
  exact va_get (ci := 1) (C := RX1) (T := TX1) (N := 6) C.1.1 C.1.2.1 C.1.2.2.2.2 hin C.1.2.2.2.1 C.2.2.2.1 hP q0 h0 rfl 5 (by decide) (C.1.2.2.2.2 _ hlink) (fun _ h9 => h9) rfl hdg (kk H locs ls hP hD hS hl)
theorem n_p1_5 (C : q_N p s m args meth c cc nL Ts RX1 ret "<init>" E A) {a index : Nat} {x : Int32} (hL : a ∈ L) (hk : G.1 a = 12) (hin : ∀ w ∈ wsX10, w ∈ Ts) (hlink : Cond.fieldLink RX1 index "IntFile$Products" "free" "I" ∈ Ts) (hdg : decode cc pc = .ok (.putfield index, 3)) (kk : ∀ σ' : qS, σ' = q_st σ a 5 x → Wn p l e R s m args below meth c E A Q nL kc ks L G σ' (pc + 3) lv rest) : Wn p l e R s m args below meth c E A Q nL kc ks L G σ pc lv (.int x :: .ref a :: rest) := by
  intro H locs ls hP hD hS hl
  obtain ⟨q0, h0⟩ := q_at (E := E) (G := G) (σ := σ) hL
  have hcell : q_cell E G a (q_st σ a 5 x a) = .inr (1, ([.int (σ a 0), qr (G.2.1 a 1), .int (σ a 2), .int (σ a 3), .int (σ a 4), .int (σ a 5)] : List Value).set 5 (.int x)) := by rw [qc12 hk]; simp [q_st]
  have hset := q_set (σ' := q_st σ a 5 x) hD hL h0 hcell (fun b hb => q_st_a σ x hb)
  rw [qc12 hk] at h0
  refine va_putF (ci := 1) (v := .int x) (ty := .int) (C := RX1) (T := TX1) (N := 6) C.1.1 C.1.2.1 C.1.2.2.2.2 hin tyX1 tyX1_ok nmX1 C.1.2.2.2.1 C.2.2.2.1 hP hD hS q0 h0 rfl 5 (by decide) (C.1.2.2.2.2 _ hlink) (fun _ h9 => h9) rfl C.2.2.2.2.2.1 rfl (by decide +kernel) rfl rfl (Nat.le_of_ble_eq_true rfl) hdg (fun H1 locs1 hP1 hD1 hS1 => ?_)
  rw [hset] at hP1 hD1
  exact kk _ rfl H1 locs1 ls hP1 hD1 hS1 hl
theorem n_new1 (C : q_N p s m args meth c cc nL Ts own ret nm E A) {index : Nat} (hin : ∀ w ∈ wsX10, w ∈ Ts) (hcl : Cond.classLink own index RX1 ∈ Ts) (hinst : Cond.instantiable RX1 6 ∈ Ts) (hini : Cond.initialized RX1 ∈ Ts) (hc : kc + 1 ≤ R.cells) (hs : ks + 6 ≤ R.slots) (hdg : decode cc pc = .ok (.new index, 3)) (kk : ∀ (q : Nat) (L1 : List Nat) (G1 : qG) (σ1 : qS), q ∉ L → L1 = L ++ [q] → G1 = q_gs G q 12 (fun _ => 0) 0 → σ1 = va_up σ q (fun _ => 0) → Wn p l e R s m args below meth c E A Q nL (kc + 1) (ks + 6) L1 G1 σ1 (pc + 3) lv (.ref q :: rest)) : Wn p l e R s m args below meth c E A Q nL kc ks L G σ pc lv rest := by
  intro H locs ls hP hD hS hl
  refine va_new (ci := 1) (fs := [.int 0, .null, .int 0, .int 0, .int 0, .int 0]) (C := RX1) (T := TX1) (N := 6) C.1.1 C.1.2.1 C.1.2.2.2.2 hin tyX1 tyX1_ok C.1.2.2.2.1 (C.1.2.2.2.2 _ hcl) (C.1.2.2.2.2 _ hinst) (C.1.2.2.2.2 _ hini) C.2.2.2.1 hP hD hS C.2.2.2.2.2.2 rfl (fun j hj => ?_) hc hs hdg (fun q H1 hP1 hD1 hS1 => ?_)
  · rcases (show j = 0 ∨ j = 1 ∨ j = 2 ∨ j = 3 ∨ j = 4 ∨ j = 5 by omega) with rfl | rfl | rfl | rfl | rfl | rfl <;> rfl
  · have hq := n_notin hD1
    have hpu := n_push (E := E) (G := G) (σ := σ) (G1 := q_gs G q 12 (fun _ => 0) 0) (σ1 := va_up σ q (fun _ => 0)) hq (qc12 (va_up_self _ _ _) _) (fun b hb => by rw [n_gs_ne hb, va_up_ne _ _ hb])
    simp only [q_gs, va_up_self] at hpu
    have hP1 : va_P E.1 vwCl (q_wd E (L ++ [q]) (q_gs G q 12 (fun _ => 0) 0) (va_up σ q (fun _ => 0))) H1 := hpu ▸ hP1
    have hD1 : va_D A (q_wd E (L ++ [q]) (q_gs G q 12 (fun _ => 0) 0) (va_up σ q (fun _ => 0))) := hpu ▸ hD1
    exact kk q _ _ _ hq rfl rfl rfl H1 locs ls hP1 hD1 hS1 hl
theorem n_g2_0 (C : q_N p s m args meth c cc nL Ts own ret nm E A) {a r index : Nat} (hL : a ∈ L) (hk : G.1 a = 13) (hr : G.2.1 a 0 = r + 1) (hin : ∀ w ∈ wsX20, w ∈ Ts) (hlink : Cond.fieldLink own index "IntFile$Tape" "bytes" "[B" ∈ Ts) (hdg : decode cc pc = .ok (.getfield index, 3)) (kk : Wn p l e R s m args below meth c E A Q nL kc ks L G σ (pc + 3) lv (.ref r :: rest)) : Wn p l e R s m args below meth c E A Q nL kc ks L G σ pc lv (.ref a :: rest) := by
  intro H locs ls hP hD hS hl
  obtain ⟨q0, h0⟩ := q_at (E := E) (G := G) (σ := σ) hL
  rw [qc13 hk, hr] at h0
  exact va_get (ci := 2) (C := RX2) (T := TX2) (N := 2) C.1.1 C.1.2.1 C.1.2.2.2.2 hin C.1.2.2.2.1 C.2.2.2.1 hP q0 h0 rfl 0 (by decide) (C.1.2.2.2.2 _ hlink) (fun _ h9 => h9) rfl hdg (kk H locs ls hP hD hS hl)
theorem n_p2_0 (C : q_N p s m args meth c cc nL Ts RX2 ret "<init>" E A) {a r index : Nat} (hL : a ∈ L) (hk : G.1 a = 13) (hin : ∀ w ∈ wsX20, w ∈ Ts) (hlink : Cond.fieldLink RX2 index "IntFile$Tape" "bytes" "[B" ∈ Ts) (hdg : decode cc pc = .ok (.putfield index, 3)) (kk : ∀ G' : qG, G' = q_gr G a 0 (r + 1) → Wn p l e R s m args below meth c E A Q nL kc ks L G' σ (pc + 3) lv rest) : Wn p l e R s m args below meth c E A Q nL kc ks L G σ pc lv (.ref r :: .ref a :: rest) := by
  intro H locs ls hP hD hS hl
  obtain ⟨q0, h0⟩ := q_at (E := E) (G := G) (σ := σ) hL
  have hcell : q_cell E (q_gr G a 0 (r + 1)) a (σ a) = .inr (2, ([qr (G.2.1 a 0), .int (σ a 1)] : List Value).set 0 (.ref r)) := by rw [qc13 (G := q_gr G a 0 (r + 1)) hk]; simp [q_gr, va_up, qr]
  have hset := n_set (G' := q_gr G a 0 (r + 1)) (σ' := σ) hD hL h0 hcell (fun b hb => n_gr_ne hb)
  rw [qc13 hk] at h0
  refine va_putF (ci := 2) (v := .ref r) (ty := (tyX2 0)) (C := RX2) (T := TX2) (N := 2) C.1.1 C.1.2.1 C.1.2.2.2.2 hin tyX2 tyX2_ok nmX2 C.1.2.2.2.1 C.2.2.2.1 hP hD hS q0 h0 rfl 0 (by decide) (C.1.2.2.2.2 _ hlink) (fun _ h9 => h9) rfl C.2.2.2.2.2.1 rfl (by decide +kernel) rfl rfl (Nat.le_of_ble_eq_true rfl) hdg (fun H1 locs1 hP1 hD1 hS1 => ?_)
  rw [hset] at hP1 hD1
  exact kk _ rfl H1 locs1 ls hP1 hD1 hS1 hl
theorem n_g2_1 (C : q_N p s m args meth c cc nL Ts own ret nm E A) {a index : Nat} (hL : a ∈ L) (hk : G.1 a = 13) (hin : ∀ w ∈ wsX20, w ∈ Ts) (hlink : Cond.fieldLink own index "IntFile$Tape" "count" "I" ∈ Ts) (hdg : decode cc pc = .ok (.getfield index, 3)) (kk : Wn p l e R s m args below meth c E A Q nL kc ks L G σ (pc + 3) lv (.int (σ a 1) :: rest)) : Wn p l e R s m args below meth c E A Q nL kc ks L G σ pc lv (.ref a :: rest) := by
  intro H locs ls hP hD hS hl
  obtain ⟨q0, h0⟩ := q_at (E := E) (G := G) (σ := σ) hL
  rw [qc13 hk] at h0
  exact va_get (ci := 2) (C := RX2) (T := TX2) (N := 2) C.1.1 C.1.2.1 C.1.2.2.2.2 hin C.1.2.2.2.1 C.2.2.2.1 hP q0 h0 rfl 1 (by decide) (C.1.2.2.2.2 _ hlink) (fun _ h9 => h9) rfl hdg (kk H locs ls hP hD hS hl)
theorem n_p2_1 (C : q_N p s m args meth c cc nL Ts RX2 ret "<init>" E A) {a index : Nat} {x : Int32} (hL : a ∈ L) (hk : G.1 a = 13) (hin : ∀ w ∈ wsX20, w ∈ Ts) (hlink : Cond.fieldLink RX2 index "IntFile$Tape" "count" "I" ∈ Ts) (hdg : decode cc pc = .ok (.putfield index, 3)) (kk : ∀ σ' : qS, σ' = q_st σ a 1 x → Wn p l e R s m args below meth c E A Q nL kc ks L G σ' (pc + 3) lv rest) : Wn p l e R s m args below meth c E A Q nL kc ks L G σ pc lv (.int x :: .ref a :: rest) := by
  intro H locs ls hP hD hS hl
  obtain ⟨q0, h0⟩ := q_at (E := E) (G := G) (σ := σ) hL
  have hcell : q_cell E G a (q_st σ a 1 x a) = .inr (2, ([qr (G.2.1 a 0), .int (σ a 1)] : List Value).set 1 (.int x)) := by rw [qc13 hk]; simp [q_st]
  have hset := q_set (σ' := q_st σ a 1 x) hD hL h0 hcell (fun b hb => q_st_a σ x hb)
  rw [qc13 hk] at h0
  refine va_put (ci := 2) (v := .int x) (ty := .int) (C := RX2) (T := TX2) (N := 2) C.1.1 C.1.2.1 C.1.2.2.2.2 hin tyX2 tyX2_ok nmX2 C.1.2.2.2.1 C.2.2.2.1 hP hD hS q0 h0 rfl 1 (by decide) (C.1.2.2.2.2 _ hlink) (fun _ h9 => h9) rfl (by decide +kernel) rfl rfl (Nat.le_of_ble_eq_true rfl) hdg (fun H1 locs1 hP1 hD1 hS1 => ?_)
  rw [hset] at hP1 hD1
  exact kk _ rfl H1 locs1 ls hP1 hD1 hS1 hl
theorem n_new2 (C : q_N p s m args meth c cc nL Ts own ret nm E A) {index : Nat} (hin : ∀ w ∈ wsX20, w ∈ Ts) (hcl : Cond.classLink own index RX2 ∈ Ts) (hinst : Cond.instantiable RX2 2 ∈ Ts) (hini : Cond.initialized RX2 ∈ Ts) (hc : kc + 1 ≤ R.cells) (hs : ks + 2 ≤ R.slots) (hdg : decode cc pc = .ok (.new index, 3)) (kk : ∀ (q : Nat) (L1 : List Nat) (G1 : qG) (σ1 : qS), q ∉ L → L1 = L ++ [q] → G1 = q_gs G q 13 (fun _ => 0) 0 → σ1 = va_up σ q (fun _ => 0) → Wn p l e R s m args below meth c E A Q nL (kc + 1) (ks + 2) L1 G1 σ1 (pc + 3) lv (.ref q :: rest)) : Wn p l e R s m args below meth c E A Q nL kc ks L G σ pc lv rest := by
  intro H locs ls hP hD hS hl
  refine va_new (ci := 2) (fs := [.null, .int 0]) (C := RX2) (T := TX2) (N := 2) C.1.1 C.1.2.1 C.1.2.2.2.2 hin tyX2 tyX2_ok C.1.2.2.2.1 (C.1.2.2.2.2 _ hcl) (C.1.2.2.2.2 _ hinst) (C.1.2.2.2.2 _ hini) C.2.2.2.1 hP hD hS C.2.2.2.2.2.2 rfl (fun j hj => ?_) hc hs hdg (fun q H1 hP1 hD1 hS1 => ?_)
  · rcases (show j = 0 ∨ j = 1 by omega) with rfl | rfl <;> rfl
  · have hq := n_notin hD1
    have hpu := n_push (E := E) (G := G) (σ := σ) (G1 := q_gs G q 13 (fun _ => 0) 0) (σ1 := va_up σ q (fun _ => 0)) hq (qc13 (va_up_self _ _ _) _) (fun b hb => by rw [n_gs_ne hb, va_up_ne _ _ hb])
    simp only [q_gs, va_up_self] at hpu
    have hP1 : va_P E.1 vwCl (q_wd E (L ++ [q]) (q_gs G q 13 (fun _ => 0) 0) (va_up σ q (fun _ => 0))) H1 := hpu ▸ hP1
    have hD1 : va_D A (q_wd E (L ++ [q]) (q_gs G q 13 (fun _ => 0) 0) (va_up σ q (fun _ => 0))) := hpu ▸ hD1
    exact kk q _ _ _ hq rfl rfl rfl H1 locs ls hP1 hD1 hS1 hl
theorem n_g3_0 (C : q_N p s m args meth c cc nL Ts own ret nm E A) {a r index : Nat} (hL : a ∈ L) (hk : G.1 a = 14) (hr : G.2.1 a 0 = r + 1) (hin : ∀ w ∈ wsX30, w ∈ Ts) (hlink : Cond.fieldLink own index "IntFile$Text" "bytes" "[B" ∈ Ts) (hdg : decode cc pc = .ok (.getfield index, 3)) (kk : Wn p l e R s m args below meth c E A Q nL kc ks L G σ (pc + 3) lv (.ref r :: rest)) : Wn p l e R s m args below meth c E A Q nL kc ks L G σ pc lv (.ref a :: rest) := by
  intro H locs ls hP hD hS hl
  obtain ⟨q0, h0⟩ := q_at (E := E) (G := G) (σ := σ) hL
  rw [qc14 hk, hr] at h0
  exact va_get (ci := 3) (C := RX3) (T := TX3) (N := 2) C.1.1 C.1.2.1 C.1.2.2.2.2 hin C.1.2.2.2.1 C.2.2.2.1 hP q0 h0 rfl 0 (by decide) (C.1.2.2.2.2 _ hlink) (fun _ h9 => h9) rfl hdg (kk H locs ls hP hD hS hl)
theorem n_p3_0 (C : q_N p s m args meth c cc nL Ts RX3 ret "<init>" E A) {a r index : Nat} (hL : a ∈ L) (hk : G.1 a = 14) (hin : ∀ w ∈ wsX30, w ∈ Ts) (hlink : Cond.fieldLink RX3 index "IntFile$Text" "bytes" "[B" ∈ Ts) (hdg : decode cc pc = .ok (.putfield index, 3)) (kk : ∀ G' : qG, G' = q_gr G a 0 (r + 1) → Wn p l e R s m args below meth c E A Q nL kc ks L G' σ (pc + 3) lv rest) : Wn p l e R s m args below meth c E A Q nL kc ks L G σ pc lv (.ref r :: .ref a :: rest) := by
  intro H locs ls hP hD hS hl
  obtain ⟨q0, h0⟩ := q_at (E := E) (G := G) (σ := σ) hL
  have hcell : q_cell E (q_gr G a 0 (r + 1)) a (σ a) = .inr (3, ([qr (G.2.1 a 0), .int (σ a 1)] : List Value).set 0 (.ref r)) := by rw [qc14 (G := q_gr G a 0 (r + 1)) hk]; simp [q_gr, va_up, qr]
  have hset := n_set (G' := q_gr G a 0 (r + 1)) (σ' := σ) hD hL h0 hcell (fun b hb => n_gr_ne hb)
  rw [qc14 hk] at h0
  refine va_putF (ci := 3) (v := .ref r) (ty := (tyX3 0)) (C := RX3) (T := TX3) (N := 2) C.1.1 C.1.2.1 C.1.2.2.2.2 hin tyX3 tyX3_ok nmX3 C.1.2.2.2.1 C.2.2.2.1 hP hD hS q0 h0 rfl 0 (by decide) (C.1.2.2.2.2 _ hlink) (fun _ h9 => h9) rfl C.2.2.2.2.2.1 rfl (by decide +kernel) rfl rfl (Nat.le_of_ble_eq_true rfl) hdg (fun H1 locs1 hP1 hD1 hS1 => ?_)
  rw [hset] at hP1 hD1
  exact kk _ rfl H1 locs1 ls hP1 hD1 hS1 hl
theorem n_g3_1 (C : q_N p s m args meth c cc nL Ts own ret nm E A) {a index : Nat} (hL : a ∈ L) (hk : G.1 a = 14) (hin : ∀ w ∈ wsX30, w ∈ Ts) (hlink : Cond.fieldLink own index "IntFile$Text" "start" "I" ∈ Ts) (hdg : decode cc pc = .ok (.getfield index, 3)) (kk : Wn p l e R s m args below meth c E A Q nL kc ks L G σ (pc + 3) lv (.int (σ a 1) :: rest)) : Wn p l e R s m args below meth c E A Q nL kc ks L G σ pc lv (.ref a :: rest) := by
  intro H locs ls hP hD hS hl
  obtain ⟨q0, h0⟩ := q_at (E := E) (G := G) (σ := σ) hL
  rw [qc14 hk] at h0
  exact va_get (ci := 3) (C := RX3) (T := TX3) (N := 2) C.1.1 C.1.2.1 C.1.2.2.2.2 hin C.1.2.2.2.1 C.2.2.2.1 hP q0 h0 rfl 1 (by decide) (C.1.2.2.2.2 _ hlink) (fun _ h9 => h9) rfl hdg (kk H locs ls hP hD hS hl)
theorem n_p3_1 (C : q_N p s m args meth c cc nL Ts RX3 ret "<init>" E A) {a index : Nat} {x : Int32} (hL : a ∈ L) (hk : G.1 a = 14) (hin : ∀ w ∈ wsX30, w ∈ Ts) (hlink : Cond.fieldLink RX3 index "IntFile$Text" "start" "I" ∈ Ts) (hdg : decode cc pc = .ok (.putfield index, 3)) (kk : ∀ σ' : qS, σ' = q_st σ a 1 x → Wn p l e R s m args below meth c E A Q nL kc ks L G σ' (pc + 3) lv rest) : Wn p l e R s m args below meth c E A Q nL kc ks L G σ pc lv (.int x :: .ref a :: rest) := by
  intro H locs ls hP hD hS hl
  obtain ⟨q0, h0⟩ := q_at (E := E) (G := G) (σ := σ) hL
  have hcell : q_cell E G a (q_st σ a 1 x a) = .inr (3, ([qr (G.2.1 a 0), .int (σ a 1)] : List Value).set 1 (.int x)) := by rw [qc14 hk]; simp [q_st]
  have hset := q_set (σ' := q_st σ a 1 x) hD hL h0 hcell (fun b hb => q_st_a σ x hb)
  rw [qc14 hk] at h0
  refine va_put (ci := 3) (v := .int x) (ty := .int) (C := RX3) (T := TX3) (N := 2) C.1.1 C.1.2.1 C.1.2.2.2.2 hin tyX3 tyX3_ok nmX3 C.1.2.2.2.1 C.2.2.2.1 hP hD hS q0 h0 rfl 1 (by decide) (C.1.2.2.2.2 _ hlink) (fun _ h9 => h9) rfl (by decide +kernel) rfl rfl (Nat.le_of_ble_eq_true rfl) hdg (fun H1 locs1 hP1 hD1 hS1 => ?_)
  rw [hset] at hP1 hD1
  exact kk _ rfl H1 locs1 ls hP1 hD1 hS1 hl
theorem n_new3 (C : q_N p s m args meth c cc nL Ts own ret nm E A) {index : Nat} (hin : ∀ w ∈ wsX30, w ∈ Ts) (hcl : Cond.classLink own index RX3 ∈ Ts) (hinst : Cond.instantiable RX3 2 ∈ Ts) (hini : Cond.initialized RX3 ∈ Ts) (hc : kc + 1 ≤ R.cells) (hs : ks + 2 ≤ R.slots) (hdg : decode cc pc = .ok (.new index, 3)) (kk : ∀ (q : Nat) (L1 : List Nat) (G1 : qG) (σ1 : qS), q ∉ L → L1 = L ++ [q] → G1 = q_gs G q 14 (fun _ => 0) 0 → σ1 = va_up σ q (fun _ => 0) → Wn p l e R s m args below meth c E A Q nL (kc + 1) (ks + 2) L1 G1 σ1 (pc + 3) lv (.ref q :: rest)) : Wn p l e R s m args below meth c E A Q nL kc ks L G σ pc lv rest := by
  intro H locs ls hP hD hS hl
  refine va_new (ci := 3) (fs := [.null, .int 0]) (C := RX3) (T := TX3) (N := 2) C.1.1 C.1.2.1 C.1.2.2.2.2 hin tyX3 tyX3_ok C.1.2.2.2.1 (C.1.2.2.2.2 _ hcl) (C.1.2.2.2.2 _ hinst) (C.1.2.2.2.2 _ hini) C.2.2.2.1 hP hD hS C.2.2.2.2.2.2 rfl (fun j hj => ?_) hc hs hdg (fun q H1 hP1 hD1 hS1 => ?_)
  · rcases (show j = 0 ∨ j = 1 by omega) with rfl | rfl <;> rfl
  · have hq := n_notin hD1
    have hpu := n_push (E := E) (G := G) (σ := σ) (G1 := q_gs G q 14 (fun _ => 0) 0) (σ1 := va_up σ q (fun _ => 0)) hq (qc14 (va_up_self _ _ _) _) (fun b hb => by rw [n_gs_ne hb, va_up_ne _ _ hb])
    simp only [q_gs, va_up_self] at hpu
    have hP1 : va_P E.1 vwCl (q_wd E (L ++ [q]) (q_gs G q 14 (fun _ => 0) 0) (va_up σ q (fun _ => 0))) H1 := hpu ▸ hP1
    have hD1 : va_D A (q_wd E (L ++ [q]) (q_gs G q 14 (fun _ => 0) 0) (va_up σ q (fun _ => 0))) := hpu ▸ hD1
    exact kk q _ _ _ hq rfl rfl rfl H1 locs ls hP1 hD1 hS1 hl
theorem n_g4_0 (C : q_N p s m args meth c cc nL Ts own ret nm E A) {a r index : Nat} (hL : a ∈ L) (hk : G.1 a = 15) (hr : G.2.1 a 0 = r + 1) (hin : ∀ w ∈ wsX40, w ∈ Ts) (hlink : Cond.fieldLink own index "IntFile$Whole" "limbs" "[I" ∈ Ts) (hdg : decode cc pc = .ok (.getfield index, 3)) (kk : Wn p l e R s m args below meth c E A Q nL kc ks L G σ (pc + 3) lv (.ref r :: rest)) : Wn p l e R s m args below meth c E A Q nL kc ks L G σ pc lv (.ref a :: rest) := by
  intro H locs ls hP hD hS hl
  obtain ⟨q0, h0⟩ := q_at (E := E) (G := G) (σ := σ) hL
  rw [qc15 hk, hr] at h0
  exact va_get (ci := 4) (C := RX4) (T := TX4) (N := 3) C.1.1 C.1.2.1 C.1.2.2.2.2 hin C.1.2.2.2.1 C.2.2.2.1 hP q0 h0 rfl 0 (by decide) (C.1.2.2.2.2 _ hlink) (fun _ h9 => h9) rfl hdg (kk H locs ls hP hD hS hl)
theorem n_p4_0 (C : q_N p s m args meth c cc nL Ts RX4 ret "<init>" E A) {a r index : Nat} (hL : a ∈ L) (hk : G.1 a = 15) (hin : ∀ w ∈ wsX40, w ∈ Ts) (hlink : Cond.fieldLink RX4 index "IntFile$Whole" "limbs" "[I" ∈ Ts) (hdg : decode cc pc = .ok (.putfield index, 3)) (kk : ∀ G' : qG, G' = q_gr G a 0 (r + 1) → Wn p l e R s m args below meth c E A Q nL kc ks L G' σ (pc + 3) lv rest) : Wn p l e R s m args below meth c E A Q nL kc ks L G σ pc lv (.ref r :: .ref a :: rest) := by
  intro H locs ls hP hD hS hl
  obtain ⟨q0, h0⟩ := q_at (E := E) (G := G) (σ := σ) hL
  have hcell : q_cell E (q_gr G a 0 (r + 1)) a (σ a) = .inr (4, ([qr (G.2.1 a 0), .int (σ a 1), .int (σ a 2)] : List Value).set 0 (.ref r)) := by rw [qc15 (G := q_gr G a 0 (r + 1)) hk]; simp [q_gr, va_up, qr]
  have hset := n_set (G' := q_gr G a 0 (r + 1)) (σ' := σ) hD hL h0 hcell (fun b hb => n_gr_ne hb)
  rw [qc15 hk] at h0
  refine va_putF (ci := 4) (v := .ref r) (ty := (tyX4 0)) (C := RX4) (T := TX4) (N := 3) C.1.1 C.1.2.1 C.1.2.2.2.2 hin tyX4 tyX4_ok nmX4 C.1.2.2.2.1 C.2.2.2.1 hP hD hS q0 h0 rfl 0 (by decide) (C.1.2.2.2.2 _ hlink) (fun _ h9 => h9) rfl C.2.2.2.2.2.1 rfl (by decide +kernel) rfl rfl (Nat.le_of_ble_eq_true rfl) hdg (fun H1 locs1 hP1 hD1 hS1 => ?_)
  rw [hset] at hP1 hD1
  exact kk _ rfl H1 locs1 ls hP1 hD1 hS1 hl
theorem n_g4_1 (C : q_N p s m args meth c cc nL Ts own ret nm E A) {a index : Nat} (hL : a ∈ L) (hk : G.1 a = 15) (hin : ∀ w ∈ wsX40, w ∈ Ts) (hlink : Cond.fieldLink own index "IntFile$Whole" "count" "I" ∈ Ts) (hdg : decode cc pc = .ok (.getfield index, 3)) (kk : Wn p l e R s m args below meth c E A Q nL kc ks L G σ (pc + 3) lv (.int (σ a 1) :: rest)) : Wn p l e R s m args below meth c E A Q nL kc ks L G σ pc lv (.ref a :: rest) := by
  intro H locs ls hP hD hS hl
  obtain ⟨q0, h0⟩ := q_at (E := E) (G := G) (σ := σ) hL
  rw [qc15 hk] at h0
  exact va_get (ci := 4) (C := RX4) (T := TX4) (N := 3) C.1.1 C.1.2.1 C.1.2.2.2.2 hin C.1.2.2.2.1 C.2.2.2.1 hP q0 h0 rfl 1 (by decide) (C.1.2.2.2.2 _ hlink) (fun _ h9 => h9) rfl hdg (kk H locs ls hP hD hS hl)
theorem n_p4_1 (C : q_N p s m args meth c cc nL Ts RX4 ret "<init>" E A) {a index : Nat} {x : Int32} (hL : a ∈ L) (hk : G.1 a = 15) (hin : ∀ w ∈ wsX40, w ∈ Ts) (hlink : Cond.fieldLink RX4 index "IntFile$Whole" "count" "I" ∈ Ts) (hdg : decode cc pc = .ok (.putfield index, 3)) (kk : ∀ σ' : qS, σ' = q_st σ a 1 x → Wn p l e R s m args below meth c E A Q nL kc ks L G σ' (pc + 3) lv rest) : Wn p l e R s m args below meth c E A Q nL kc ks L G σ pc lv (.int x :: .ref a :: rest) := by
  intro H locs ls hP hD hS hl
  obtain ⟨q0, h0⟩ := q_at (E := E) (G := G) (σ := σ) hL
  have hcell : q_cell E G a (q_st σ a 1 x a) = .inr (4, ([qr (G.2.1 a 0), .int (σ a 1), .int (σ a 2)] : List Value).set 1 (.int x)) := by rw [qc15 hk]; simp [q_st]
  have hset := q_set (σ' := q_st σ a 1 x) hD hL h0 hcell (fun b hb => q_st_a σ x hb)
  rw [qc15 hk] at h0
  refine va_put (ci := 4) (v := .int x) (ty := .int) (C := RX4) (T := TX4) (N := 3) C.1.1 C.1.2.1 C.1.2.2.2.2 hin tyX4 tyX4_ok nmX4 C.1.2.2.2.1 C.2.2.2.1 hP hD hS q0 h0 rfl 1 (by decide) (C.1.2.2.2.2 _ hlink) (fun _ h9 => h9) rfl (by decide +kernel) rfl rfl (Nat.le_of_ble_eq_true rfl) hdg (fun H1 locs1 hP1 hD1 hS1 => ?_)
  rw [hset] at hP1 hD1
  exact kk _ rfl H1 locs1 ls hP1 hD1 hS1 hl
theorem n_g4_2 (C : q_N p s m args meth c cc nL Ts own ret nm E A) {a index : Nat} (hL : a ∈ L) (hk : G.1 a = 15) (hin : ∀ w ∈ wsX40, w ∈ Ts) (hlink : Cond.fieldLink own index "IntFile$Whole" "below" "Z" ∈ Ts) (hdg : decode cc pc = .ok (.getfield index, 3)) (kk : Wn p l e R s m args below meth c E A Q nL kc ks L G σ (pc + 3) lv (.int (σ a 2) :: rest)) : Wn p l e R s m args below meth c E A Q nL kc ks L G σ pc lv (.ref a :: rest) := by
  intro H locs ls hP hD hS hl
  obtain ⟨q0, h0⟩ := q_at (E := E) (G := G) (σ := σ) hL
  rw [qc15 hk] at h0
  exact va_get (ci := 4) (C := RX4) (T := TX4) (N := 3) C.1.1 C.1.2.1 C.1.2.2.2.2 hin C.1.2.2.2.1 C.2.2.2.1 hP q0 h0 rfl 2 (by decide) (C.1.2.2.2.2 _ hlink) (fun _ h9 => h9) rfl hdg (kk H locs ls hP hD hS hl)
theorem n_p4_2 (C : q_N p s m args meth c cc nL Ts RX4 ret "<init>" E A) {a index : Nat} {x : Int32} (hL : a ∈ L) (hk : G.1 a = 15) (hin : ∀ w ∈ wsX40, w ∈ Ts) (hlink : Cond.fieldLink RX4 index "IntFile$Whole" "below" "Z" ∈ Ts) (hz : x = 0 ∨ x = 1) (hdg : decode cc pc = .ok (.putfield index, 3)) (kk : ∀ σ' : qS, σ' = q_st σ a 2 x → Wn p l e R s m args below meth c E A Q nL kc ks L G σ' (pc + 3) lv rest) : Wn p l e R s m args below meth c E A Q nL kc ks L G σ pc lv (.int x :: .ref a :: rest) := by
  intro H locs ls hP hD hS hl
  obtain ⟨q0, h0⟩ := q_at (E := E) (G := G) (σ := σ) hL
  have hcell : q_cell E G a (q_st σ a 2 x a) = .inr (4, ([qr (G.2.1 a 0), .int (σ a 1), .int (σ a 2)] : List Value).set 2 (.int x)) := by rw [qc15 hk]; simp [q_st]
  have hset := q_set (σ' := q_st σ a 2 x) hD hL h0 hcell (fun b hb => q_st_a σ x hb)
  rw [qc15 hk] at h0
  refine va_put (ci := 4) (v := .int x) (ty := .boolean) (C := RX4) (T := TX4) (N := 3) C.1.1 C.1.2.1 C.1.2.2.2.2 hin tyX4 tyX4_ok nmX4 C.1.2.2.2.1 C.2.2.2.1 hP hD hS q0 h0 rfl 2 (by decide) (C.1.2.2.2.2 _ hlink) (fun _ h9 => h9) rfl (by decide +kernel) (by rcases hz with rfl | rfl <;> decide +kernel) (by rcases hz with rfl | rfl <;> decide +kernel) (Nat.le_of_ble_eq_true rfl) hdg (fun H1 locs1 hP1 hD1 hS1 => ?_)
  rw [hset] at hP1 hD1
  exact kk _ rfl H1 locs1 ls hP1 hD1 hS1 hl
theorem n_new4 (C : q_N p s m args meth c cc nL Ts own ret nm E A) {index : Nat} (hin : ∀ w ∈ wsX40, w ∈ Ts) (hcl : Cond.classLink own index RX4 ∈ Ts) (hinst : Cond.instantiable RX4 3 ∈ Ts) (hini : Cond.initialized RX4 ∈ Ts) (hc : kc + 1 ≤ R.cells) (hs : ks + 3 ≤ R.slots) (hdg : decode cc pc = .ok (.new index, 3)) (kk : ∀ (q : Nat) (L1 : List Nat) (G1 : qG) (σ1 : qS), q ∉ L → L1 = L ++ [q] → G1 = q_gs G q 15 (fun _ => 0) 0 → σ1 = va_up σ q (fun _ => 0) → Wn p l e R s m args below meth c E A Q nL (kc + 1) (ks + 3) L1 G1 σ1 (pc + 3) lv (.ref q :: rest)) : Wn p l e R s m args below meth c E A Q nL kc ks L G σ pc lv rest := by
  intro H locs ls hP hD hS hl
  refine va_new (ci := 4) (fs := [.null, .int 0, .int 0]) (C := RX4) (T := TX4) (N := 3) C.1.1 C.1.2.1 C.1.2.2.2.2 hin tyX4 tyX4_ok C.1.2.2.2.1 (C.1.2.2.2.2 _ hcl) (C.1.2.2.2.2 _ hinst) (C.1.2.2.2.2 _ hini) C.2.2.2.1 hP hD hS C.2.2.2.2.2.2 rfl (fun j hj => ?_) hc hs hdg (fun q H1 hP1 hD1 hS1 => ?_)
  · rcases (show j = 0 ∨ j = 1 ∨ j = 2 by omega) with rfl | rfl | rfl <;> rfl
  · have hq := n_notin hD1
    have hpu := n_push (E := E) (G := G) (σ := σ) (G1 := q_gs G q 15 (fun _ => 0) 0) (σ1 := va_up σ q (fun _ => 0)) hq (qc15 (va_up_self _ _ _) _) (fun b hb => by rw [n_gs_ne hb, va_up_ne _ _ hb])
    simp only [q_gs, va_up_self] at hpu
    have hP1 : va_P E.1 vwCl (q_wd E (L ++ [q]) (q_gs G q 15 (fun _ => 0) 0) (va_up σ q (fun _ => 0))) H1 := hpu ▸ hP1
    have hD1 : va_D A (q_wd E (L ++ [q]) (q_gs G q 15 (fun _ => 0) 0) (va_up σ q (fun _ => 0))) := hpu ▸ hD1
    exact kk q _ _ _ hq rfl rfl rfl H1 locs ls hP1 hD1 hS1 hl
theorem n_g5_0 (C : q_N p s m args meth c cc nL Ts own ret nm E A) {a index : Nat} (hL : a ∈ L) (hk : G.1 a = 16) (hin : ∀ w ∈ wsX50, w ∈ Ts) (hlink : Cond.fieldLink own index "IntFile" "width" "I" ∈ Ts) (hdg : decode cc pc = .ok (.getfield index, 3)) (kk : Wn p l e R s m args below meth c E A Q nL kc ks L G σ (pc + 3) lv (.int (σ a 0) :: rest)) : Wn p l e R s m args below meth c E A Q nL kc ks L G σ pc lv (.ref a :: rest) := by
  intro H locs ls hP hD hS hl
  obtain ⟨q0, h0⟩ := q_at (E := E) (G := G) (σ := σ) hL
  rw [qc16 hk] at h0
  exact va_get (ci := 5) (C := RX5) (T := TX5) (N := 9) C.1.1 C.1.2.1 C.1.2.2.2.2 hin C.1.2.2.2.1 C.2.2.2.1 hP q0 h0 rfl 0 (by decide) (C.1.2.2.2.2 _ hlink) (fun _ h9 => h9) rfl hdg (kk H locs ls hP hD hS hl)
theorem n_p5_0 (C : q_N p s m args meth c cc nL Ts RX5 ret "<init>" E A) {a index : Nat} {x : Int32} (hL : a ∈ L) (hk : G.1 a = 16) (hin : ∀ w ∈ wsX50, w ∈ Ts) (hlink : Cond.fieldLink RX5 index "IntFile" "width" "I" ∈ Ts) (hdg : decode cc pc = .ok (.putfield index, 3)) (kk : ∀ σ' : qS, σ' = q_st σ a 0 x → Wn p l e R s m args below meth c E A Q nL kc ks L G σ' (pc + 3) lv rest) : Wn p l e R s m args below meth c E A Q nL kc ks L G σ pc lv (.int x :: .ref a :: rest) := by
  intro H locs ls hP hD hS hl
  obtain ⟨q0, h0⟩ := q_at (E := E) (G := G) (σ := σ) hL
  have hcell : q_cell E G a (q_st σ a 0 x a) = .inr (5, ([.int (σ a 0), qr (G.2.1 a 1), qr (G.2.1 a 2), qr (G.2.1 a 3), qr (G.2.1 a 4), qr (G.2.1 a 5), qr (G.2.1 a 6), qr (G.2.1 a 7), qr (G.2.1 a 8)] : List Value).set 0 (.int x)) := by rw [qc16 hk]; simp [q_st]
  have hset := q_set (σ' := q_st σ a 0 x) hD hL h0 hcell (fun b hb => q_st_a σ x hb)
  rw [qc16 hk] at h0
  refine va_putF (ci := 5) (v := .int x) (ty := .int) (C := RX5) (T := TX5) (N := 9) C.1.1 C.1.2.1 C.1.2.2.2.2 hin tyX5 tyX5_ok nmX5 C.1.2.2.2.1 C.2.2.2.1 hP hD hS q0 h0 rfl 0 (by decide) (C.1.2.2.2.2 _ hlink) (fun _ h9 => h9) rfl C.2.2.2.2.2.1 rfl (by decide +kernel) rfl rfl (Nat.le_of_ble_eq_true rfl) hdg (fun H1 locs1 hP1 hD1 hS1 => ?_)
  rw [hset] at hP1 hD1
  exact kk _ rfl H1 locs1 ls hP1 hD1 hS1 hl
theorem n_g5_1 (C : q_N p s m args meth c cc nL Ts own ret nm E A) {a r index : Nat} (hL : a ∈ L) (hk : G.1 a = 16) (hr : G.2.1 a 1 = r + 1) (hin : ∀ w ∈ wsX50, w ∈ Ts) (hlink : Cond.fieldLink own index "IntFile" "file" "[LIntFile$Whole;" ∈ Ts) (hdg : decode cc pc = .ok (.getfield index, 3)) (kk : Wn p l e R s m args below meth c E A Q nL kc ks L G σ (pc + 3) lv (.ref r :: rest)) : Wn p l e R s m args below meth c E A Q nL kc ks L G σ pc lv (.ref a :: rest) := by
  intro H locs ls hP hD hS hl
  obtain ⟨q0, h0⟩ := q_at (E := E) (G := G) (σ := σ) hL
  rw [qc16 hk, hr] at h0
  exact va_get (ci := 5) (C := RX5) (T := TX5) (N := 9) C.1.1 C.1.2.1 C.1.2.2.2.2 hin C.1.2.2.2.1 C.2.2.2.1 hP q0 h0 rfl 1 (by decide) (C.1.2.2.2.2 _ hlink) (fun _ h9 => h9) rfl hdg (kk H locs ls hP hD hS hl)
theorem n_p5_1 (C : q_N p s m args meth c cc nL Ts RX5 ret "<init>" E A) {a r index : Nat} (hL : a ∈ L) (hk : G.1 a = 16) (hin : ∀ w ∈ wsX50, w ∈ Ts) (hlink : Cond.fieldLink RX5 index "IntFile" "file" "[LIntFile$Whole;" ∈ Ts) (hdg : decode cc pc = .ok (.putfield index, 3)) (kk : ∀ G' : qG, G' = q_gr G a 1 (r + 1) → Wn p l e R s m args below meth c E A Q nL kc ks L G' σ (pc + 3) lv rest) : Wn p l e R s m args below meth c E A Q nL kc ks L G σ pc lv (.ref r :: .ref a :: rest) := by
  intro H locs ls hP hD hS hl
  obtain ⟨q0, h0⟩ := q_at (E := E) (G := G) (σ := σ) hL
  have hcell : q_cell E (q_gr G a 1 (r + 1)) a (σ a) = .inr (5, ([.int (σ a 0), qr (G.2.1 a 1), qr (G.2.1 a 2), qr (G.2.1 a 3), qr (G.2.1 a 4), qr (G.2.1 a 5), qr (G.2.1 a 6), qr (G.2.1 a 7), qr (G.2.1 a 8)] : List Value).set 1 (.ref r)) := by rw [qc16 (G := q_gr G a 1 (r + 1)) hk]; simp [q_gr, va_up, qr]
  have hset := n_set (G' := q_gr G a 1 (r + 1)) (σ' := σ) hD hL h0 hcell (fun b hb => n_gr_ne hb)
  rw [qc16 hk] at h0
  refine va_putF (ci := 5) (v := .ref r) (ty := (tyX5 1)) (C := RX5) (T := TX5) (N := 9) C.1.1 C.1.2.1 C.1.2.2.2.2 hin tyX5 tyX5_ok nmX5 C.1.2.2.2.1 C.2.2.2.1 hP hD hS q0 h0 rfl 1 (by decide) (C.1.2.2.2.2 _ hlink) (fun _ h9 => h9) rfl C.2.2.2.2.2.1 rfl (by decide +kernel) rfl rfl (Nat.le_of_ble_eq_true rfl) hdg (fun H1 locs1 hP1 hD1 hS1 => ?_)
  rw [hset] at hP1 hD1
  exact kk _ rfl H1 locs1 ls hP1 hD1 hS1 hl
theorem n_g5_2 (C : q_N p s m args meth c cc nL Ts own ret nm E A) {a r index : Nat} (hL : a ∈ L) (hk : G.1 a = 16) (hr : G.2.1 a 2 = r + 1) (hin : ∀ w ∈ wsX50, w ∈ Ts) (hlink : Cond.fieldLink own index "IntFile" "result" "LIntFile$Whole;" ∈ Ts) (hdg : decode cc pc = .ok (.getfield index, 3)) (kk : Wn p l e R s m args below meth c E A Q nL kc ks L G σ (pc + 3) lv (.ref r :: rest)) : Wn p l e R s m args below meth c E A Q nL kc ks L G σ pc lv (.ref a :: rest) := by
  intro H locs ls hP hD hS hl
  obtain ⟨q0, h0⟩ := q_at (E := E) (G := G) (σ := σ) hL
  rw [qc16 hk, hr] at h0
  exact va_get (ci := 5) (C := RX5) (T := TX5) (N := 9) C.1.1 C.1.2.1 C.1.2.2.2.2 hin C.1.2.2.2.1 C.2.2.2.1 hP q0 h0 rfl 2 (by decide) (C.1.2.2.2.2 _ hlink) (fun _ h9 => h9) rfl hdg (kk H locs ls hP hD hS hl)
theorem n_p5_2 (C : q_N p s m args meth c cc nL Ts RX5 ret "<init>" E A) {a r index : Nat} (hL : a ∈ L) (hk : G.1 a = 16) (hin : ∀ w ∈ wsX50, w ∈ Ts) (hlink : Cond.fieldLink RX5 index "IntFile" "result" "LIntFile$Whole;" ∈ Ts) (hdg : decode cc pc = .ok (.putfield index, 3)) (kk : ∀ G' : qG, G' = q_gr G a 2 (r + 1) → Wn p l e R s m args below meth c E A Q nL kc ks L G' σ (pc + 3) lv rest) : Wn p l e R s m args below meth c E A Q nL kc ks L G σ pc lv (.ref r :: .ref a :: rest) := by
  intro H locs ls hP hD hS hl
  obtain ⟨q0, h0⟩ := q_at (E := E) (G := G) (σ := σ) hL
  have hcell : q_cell E (q_gr G a 2 (r + 1)) a (σ a) = .inr (5, ([.int (σ a 0), qr (G.2.1 a 1), qr (G.2.1 a 2), qr (G.2.1 a 3), qr (G.2.1 a 4), qr (G.2.1 a 5), qr (G.2.1 a 6), qr (G.2.1 a 7), qr (G.2.1 a 8)] : List Value).set 2 (.ref r)) := by rw [qc16 (G := q_gr G a 2 (r + 1)) hk]; simp [q_gr, va_up, qr]
  have hset := n_set (G' := q_gr G a 2 (r + 1)) (σ' := σ) hD hL h0 hcell (fun b hb => n_gr_ne hb)
  rw [qc16 hk] at h0
  refine va_putF (ci := 5) (v := .ref r) (ty := (tyX5 2)) (C := RX5) (T := TX5) (N := 9) C.1.1 C.1.2.1 C.1.2.2.2.2 hin tyX5 tyX5_ok nmX5 C.1.2.2.2.1 C.2.2.2.1 hP hD hS q0 h0 rfl 2 (by decide) (C.1.2.2.2.2 _ hlink) (fun _ h9 => h9) rfl C.2.2.2.2.2.1 rfl (by decide +kernel) rfl rfl (Nat.le_of_ble_eq_true rfl) hdg (fun H1 locs1 hP1 hD1 hS1 => ?_)
  rw [hset] at hP1 hD1
  exact kk _ rfl H1 locs1 ls hP1 hD1 hS1 hl
theorem n_g5_3 (C : q_N p s m args meth c cc nL Ts own ret nm E A) {a r index : Nat} (hL : a ∈ L) (hk : G.1 a = 16) (hr : G.2.1 a 3 = r + 1) (hin : ∀ w ∈ wsX50, w ∈ Ts) (hlink : Cond.fieldLink own index "IntFile" "first" "LIntFile$Whole;" ∈ Ts) (hdg : decode cc pc = .ok (.getfield index, 3)) (kk : Wn p l e R s m args below meth c E A Q nL kc ks L G σ (pc + 3) lv (.ref r :: rest)) : Wn p l e R s m args below meth c E A Q nL kc ks L G σ pc lv (.ref a :: rest) := by
  intro H locs ls hP hD hS hl
  obtain ⟨q0, h0⟩ := q_at (E := E) (G := G) (σ := σ) hL
  rw [qc16 hk, hr] at h0
  exact va_get (ci := 5) (C := RX5) (T := TX5) (N := 9) C.1.1 C.1.2.1 C.1.2.2.2.2 hin C.1.2.2.2.1 C.2.2.2.1 hP q0 h0 rfl 3 (by decide) (C.1.2.2.2.2 _ hlink) (fun _ h9 => h9) rfl hdg (kk H locs ls hP hD hS hl)
theorem n_p5_3 (C : q_N p s m args meth c cc nL Ts RX5 ret "<init>" E A) {a r index : Nat} (hL : a ∈ L) (hk : G.1 a = 16) (hin : ∀ w ∈ wsX50, w ∈ Ts) (hlink : Cond.fieldLink RX5 index "IntFile" "first" "LIntFile$Whole;" ∈ Ts) (hdg : decode cc pc = .ok (.putfield index, 3)) (kk : ∀ G' : qG, G' = q_gr G a 3 (r + 1) → Wn p l e R s m args below meth c E A Q nL kc ks L G' σ (pc + 3) lv rest) : Wn p l e R s m args below meth c E A Q nL kc ks L G σ pc lv (.ref r :: .ref a :: rest) := by
  intro H locs ls hP hD hS hl
  obtain ⟨q0, h0⟩ := q_at (E := E) (G := G) (σ := σ) hL
  have hcell : q_cell E (q_gr G a 3 (r + 1)) a (σ a) = .inr (5, ([.int (σ a 0), qr (G.2.1 a 1), qr (G.2.1 a 2), qr (G.2.1 a 3), qr (G.2.1 a 4), qr (G.2.1 a 5), qr (G.2.1 a 6), qr (G.2.1 a 7), qr (G.2.1 a 8)] : List Value).set 3 (.ref r)) := by rw [qc16 (G := q_gr G a 3 (r + 1)) hk]; simp [q_gr, va_up, qr]
  have hset := n_set (G' := q_gr G a 3 (r + 1)) (σ' := σ) hD hL h0 hcell (fun b hb => n_gr_ne hb)
  rw [qc16 hk] at h0
  refine va_putF (ci := 5) (v := .ref r) (ty := (tyX5 3)) (C := RX5) (T := TX5) (N := 9) C.1.1 C.1.2.1 C.1.2.2.2.2 hin tyX5 tyX5_ok nmX5 C.1.2.2.2.1 C.2.2.2.1 hP hD hS q0 h0 rfl 3 (by decide) (C.1.2.2.2.2 _ hlink) (fun _ h9 => h9) rfl C.2.2.2.2.2.1 rfl (by decide +kernel) rfl rfl (Nat.le_of_ble_eq_true rfl) hdg (fun H1 locs1 hP1 hD1 hS1 => ?_)
  rw [hset] at hP1 hD1
  exact kk _ rfl H1 locs1 ls hP1 hD1 hS1 hl
theorem n_g5_4 (C : q_N p s m args meth c cc nL Ts own ret nm E A) {a r index : Nat} (hL : a ∈ L) (hk : G.1 a = 16) (hr : G.2.1 a 4 = r + 1) (hin : ∀ w ∈ wsX50, w ∈ Ts) (hlink : Cond.fieldLink own index "IntFile" "second" "LIntFile$Whole;" ∈ Ts) (hdg : decode cc pc = .ok (.getfield index, 3)) (kk : Wn p l e R s m args below meth c E A Q nL kc ks L G σ (pc + 3) lv (.ref r :: rest)) : Wn p l e R s m args below meth c E A Q nL kc ks L G σ pc lv (.ref a :: rest) := by
  intro H locs ls hP hD hS hl
  obtain ⟨q0, h0⟩ := q_at (E := E) (G := G) (σ := σ) hL
  rw [qc16 hk, hr] at h0
  exact va_get (ci := 5) (C := RX5) (T := TX5) (N := 9) C.1.1 C.1.2.1 C.1.2.2.2.2 hin C.1.2.2.2.1 C.2.2.2.1 hP q0 h0 rfl 4 (by decide) (C.1.2.2.2.2 _ hlink) (fun _ h9 => h9) rfl hdg (kk H locs ls hP hD hS hl)
theorem n_p5_4 (C : q_N p s m args meth c cc nL Ts RX5 ret "<init>" E A) {a r index : Nat} (hL : a ∈ L) (hk : G.1 a = 16) (hin : ∀ w ∈ wsX50, w ∈ Ts) (hlink : Cond.fieldLink RX5 index "IntFile" "second" "LIntFile$Whole;" ∈ Ts) (hdg : decode cc pc = .ok (.putfield index, 3)) (kk : ∀ G' : qG, G' = q_gr G a 4 (r + 1) → Wn p l e R s m args below meth c E A Q nL kc ks L G' σ (pc + 3) lv rest) : Wn p l e R s m args below meth c E A Q nL kc ks L G σ pc lv (.ref r :: .ref a :: rest) := by
  intro H locs ls hP hD hS hl
  obtain ⟨q0, h0⟩ := q_at (E := E) (G := G) (σ := σ) hL
  have hcell : q_cell E (q_gr G a 4 (r + 1)) a (σ a) = .inr (5, ([.int (σ a 0), qr (G.2.1 a 1), qr (G.2.1 a 2), qr (G.2.1 a 3), qr (G.2.1 a 4), qr (G.2.1 a 5), qr (G.2.1 a 6), qr (G.2.1 a 7), qr (G.2.1 a 8)] : List Value).set 4 (.ref r)) := by rw [qc16 (G := q_gr G a 4 (r + 1)) hk]; simp [q_gr, va_up, qr]
  have hset := n_set (G' := q_gr G a 4 (r + 1)) (σ' := σ) hD hL h0 hcell (fun b hb => n_gr_ne hb)
  rw [qc16 hk] at h0
  refine va_putF (ci := 5) (v := .ref r) (ty := (tyX5 4)) (C := RX5) (T := TX5) (N := 9) C.1.1 C.1.2.1 C.1.2.2.2.2 hin tyX5 tyX5_ok nmX5 C.1.2.2.2.1 C.2.2.2.1 hP hD hS q0 h0 rfl 4 (by decide) (C.1.2.2.2.2 _ hlink) (fun _ h9 => h9) rfl C.2.2.2.2.2.1 rfl (by decide +kernel) rfl rfl (Nat.le_of_ble_eq_true rfl) hdg (fun H1 locs1 hP1 hD1 hS1 => ?_)
  rw [hset] at hP1 hD1
  exact kk _ rfl H1 locs1 ls hP1 hD1 hS1 hl
theorem n_g5_5 (C : q_N p s m args meth c cc nL Ts own ret nm E A) {a r index : Nat} (hL : a ∈ L) (hk : G.1 a = 16) (hr : G.2.1 a 5 = r + 1) (hin : ∀ w ∈ wsX50, w ∈ Ts) (hlink : Cond.fieldLink own index "IntFile" "products" "LIntFile$Products;" ∈ Ts) (hdg : decode cc pc = .ok (.getfield index, 3)) (kk : Wn p l e R s m args below meth c E A Q nL kc ks L G σ (pc + 3) lv (.ref r :: rest)) : Wn p l e R s m args below meth c E A Q nL kc ks L G σ pc lv (.ref a :: rest) := by
  intro H locs ls hP hD hS hl
  obtain ⟨q0, h0⟩ := q_at (E := E) (G := G) (σ := σ) hL
  rw [qc16 hk, hr] at h0
  exact va_get (ci := 5) (C := RX5) (T := TX5) (N := 9) C.1.1 C.1.2.1 C.1.2.2.2.2 hin C.1.2.2.2.1 C.2.2.2.1 hP q0 h0 rfl 5 (by decide) (C.1.2.2.2.2 _ hlink) (fun _ h9 => h9) rfl hdg (kk H locs ls hP hD hS hl)
theorem n_p5_5 (C : q_N p s m args meth c cc nL Ts RX5 ret "<init>" E A) {a r index : Nat} (hL : a ∈ L) (hk : G.1 a = 16) (hin : ∀ w ∈ wsX50, w ∈ Ts) (hlink : Cond.fieldLink RX5 index "IntFile" "products" "LIntFile$Products;" ∈ Ts) (hdg : decode cc pc = .ok (.putfield index, 3)) (kk : ∀ G' : qG, G' = q_gr G a 5 (r + 1) → Wn p l e R s m args below meth c E A Q nL kc ks L G' σ (pc + 3) lv rest) : Wn p l e R s m args below meth c E A Q nL kc ks L G σ pc lv (.ref r :: .ref a :: rest) := by
  intro H locs ls hP hD hS hl
  obtain ⟨q0, h0⟩ := q_at (E := E) (G := G) (σ := σ) hL
  have hcell : q_cell E (q_gr G a 5 (r + 1)) a (σ a) = .inr (5, ([.int (σ a 0), qr (G.2.1 a 1), qr (G.2.1 a 2), qr (G.2.1 a 3), qr (G.2.1 a 4), qr (G.2.1 a 5), qr (G.2.1 a 6), qr (G.2.1 a 7), qr (G.2.1 a 8)] : List Value).set 5 (.ref r)) := by rw [qc16 (G := q_gr G a 5 (r + 1)) hk]; simp [q_gr, va_up, qr]
  have hset := n_set (G' := q_gr G a 5 (r + 1)) (σ' := σ) hD hL h0 hcell (fun b hb => n_gr_ne hb)
  rw [qc16 hk] at h0
  refine va_putF (ci := 5) (v := .ref r) (ty := (tyX5 5)) (C := RX5) (T := TX5) (N := 9) C.1.1 C.1.2.1 C.1.2.2.2.2 hin tyX5 tyX5_ok nmX5 C.1.2.2.2.1 C.2.2.2.1 hP hD hS q0 h0 rfl 5 (by decide) (C.1.2.2.2.2 _ hlink) (fun _ h9 => h9) rfl C.2.2.2.2.2.1 rfl (by decide +kernel) rfl rfl (Nat.le_of_ble_eq_true rfl) hdg (fun H1 locs1 hP1 hD1 hS1 => ?_)
  rw [hset] at hP1 hD1
  exact kk _ rfl H1 locs1 ls hP1 hD1 hS1 hl
theorem n_g5_6 (C : q_N p s m args meth c cc nL Ts own ret nm E A) {a r index : Nat} (hL : a ∈ L) (hk : G.1 a = 16) (hr : G.2.1 a 6 = r + 1) (hin : ∀ w ∈ wsX50, w ∈ Ts) (hlink : Cond.fieldLink own index "IntFile" "division" "LIntFile$Division;" ∈ Ts) (hdg : decode cc pc = .ok (.getfield index, 3)) (kk : Wn p l e R s m args below meth c E A Q nL kc ks L G σ (pc + 3) lv (.ref r :: rest)) : Wn p l e R s m args below meth c E A Q nL kc ks L G σ pc lv (.ref a :: rest) := by
  intro H locs ls hP hD hS hl
  obtain ⟨q0, h0⟩ := q_at (E := E) (G := G) (σ := σ) hL
  rw [qc16 hk, hr] at h0
  exact va_get (ci := 5) (C := RX5) (T := TX5) (N := 9) C.1.1 C.1.2.1 C.1.2.2.2.2 hin C.1.2.2.2.1 C.2.2.2.1 hP q0 h0 rfl 6 (by decide) (C.1.2.2.2.2 _ hlink) (fun _ h9 => h9) rfl hdg (kk H locs ls hP hD hS hl)
theorem n_p5_6 (C : q_N p s m args meth c cc nL Ts RX5 ret "<init>" E A) {a r index : Nat} (hL : a ∈ L) (hk : G.1 a = 16) (hin : ∀ w ∈ wsX50, w ∈ Ts) (hlink : Cond.fieldLink RX5 index "IntFile" "division" "LIntFile$Division;" ∈ Ts) (hdg : decode cc pc = .ok (.putfield index, 3)) (kk : ∀ G' : qG, G' = q_gr G a 6 (r + 1) → Wn p l e R s m args below meth c E A Q nL kc ks L G' σ (pc + 3) lv rest) : Wn p l e R s m args below meth c E A Q nL kc ks L G σ pc lv (.ref r :: .ref a :: rest) := by
  intro H locs ls hP hD hS hl
  obtain ⟨q0, h0⟩ := q_at (E := E) (G := G) (σ := σ) hL
  have hcell : q_cell E (q_gr G a 6 (r + 1)) a (σ a) = .inr (5, ([.int (σ a 0), qr (G.2.1 a 1), qr (G.2.1 a 2), qr (G.2.1 a 3), qr (G.2.1 a 4), qr (G.2.1 a 5), qr (G.2.1 a 6), qr (G.2.1 a 7), qr (G.2.1 a 8)] : List Value).set 6 (.ref r)) := by rw [qc16 (G := q_gr G a 6 (r + 1)) hk]; simp [q_gr, va_up, qr]
  have hset := n_set (G' := q_gr G a 6 (r + 1)) (σ' := σ) hD hL h0 hcell (fun b hb => n_gr_ne hb)
  rw [qc16 hk] at h0
  refine va_putF (ci := 5) (v := .ref r) (ty := (tyX5 6)) (C := RX5) (T := TX5) (N := 9) C.1.1 C.1.2.1 C.1.2.2.2.2 hin tyX5 tyX5_ok nmX5 C.1.2.2.2.1 C.2.2.2.1 hP hD hS q0 h0 rfl 6 (by decide) (C.1.2.2.2.2 _ hlink) (fun _ h9 => h9) rfl C.2.2.2.2.2.1 rfl (by decide +kernel) rfl rfl (Nat.le_of_ble_eq_true rfl) hdg (fun H1 locs1 hP1 hD1 hS1 => ?_)
  rw [hset] at hP1 hD1
  exact kk _ rfl H1 locs1 ls hP1 hD1 hS1 hl
theorem n_g5_7 (C : q_N p s m args meth c cc nL Ts own ret nm E A) {a r index : Nat} (hL : a ∈ L) (hk : G.1 a = 16) (hr : G.2.1 a 7 = r + 1) (hin : ∀ w ∈ wsX50, w ∈ Ts) (hlink : Cond.fieldLink own index "IntFile" "text" "LIntFile$Text;" ∈ Ts) (hdg : decode cc pc = .ok (.getfield index, 3)) (kk : Wn p l e R s m args below meth c E A Q nL kc ks L G σ (pc + 3) lv (.ref r :: rest)) : Wn p l e R s m args below meth c E A Q nL kc ks L G σ pc lv (.ref a :: rest) := by
  intro H locs ls hP hD hS hl
  obtain ⟨q0, h0⟩ := q_at (E := E) (G := G) (σ := σ) hL
  rw [qc16 hk, hr] at h0
  exact va_get (ci := 5) (C := RX5) (T := TX5) (N := 9) C.1.1 C.1.2.1 C.1.2.2.2.2 hin C.1.2.2.2.1 C.2.2.2.1 hP q0 h0 rfl 7 (by decide) (C.1.2.2.2.2 _ hlink) (fun _ h9 => h9) rfl hdg (kk H locs ls hP hD hS hl)
theorem n_p5_7 (C : q_N p s m args meth c cc nL Ts RX5 ret "<init>" E A) {a r index : Nat} (hL : a ∈ L) (hk : G.1 a = 16) (hin : ∀ w ∈ wsX50, w ∈ Ts) (hlink : Cond.fieldLink RX5 index "IntFile" "text" "LIntFile$Text;" ∈ Ts) (hdg : decode cc pc = .ok (.putfield index, 3)) (kk : ∀ G' : qG, G' = q_gr G a 7 (r + 1) → Wn p l e R s m args below meth c E A Q nL kc ks L G' σ (pc + 3) lv rest) : Wn p l e R s m args below meth c E A Q nL kc ks L G σ pc lv (.ref r :: .ref a :: rest) := by
  intro H locs ls hP hD hS hl
  obtain ⟨q0, h0⟩ := q_at (E := E) (G := G) (σ := σ) hL
  have hcell : q_cell E (q_gr G a 7 (r + 1)) a (σ a) = .inr (5, ([.int (σ a 0), qr (G.2.1 a 1), qr (G.2.1 a 2), qr (G.2.1 a 3), qr (G.2.1 a 4), qr (G.2.1 a 5), qr (G.2.1 a 6), qr (G.2.1 a 7), qr (G.2.1 a 8)] : List Value).set 7 (.ref r)) := by rw [qc16 (G := q_gr G a 7 (r + 1)) hk]; simp [q_gr, va_up, qr]
  have hset := n_set (G' := q_gr G a 7 (r + 1)) (σ' := σ) hD hL h0 hcell (fun b hb => n_gr_ne hb)
  rw [qc16 hk] at h0
  refine va_putF (ci := 5) (v := .ref r) (ty := (tyX5 7)) (C := RX5) (T := TX5) (N := 9) C.1.1 C.1.2.1 C.1.2.2.2.2 hin tyX5 tyX5_ok nmX5 C.1.2.2.2.1 C.2.2.2.1 hP hD hS q0 h0 rfl 7 (by decide) (C.1.2.2.2.2 _ hlink) (fun _ h9 => h9) rfl C.2.2.2.2.2.1 rfl (by decide +kernel) rfl rfl (Nat.le_of_ble_eq_true rfl) hdg (fun H1 locs1 hP1 hD1 hS1 => ?_)
  rw [hset] at hP1 hD1
  exact kk _ rfl H1 locs1 ls hP1 hD1 hS1 hl
theorem n_g5_8 (C : q_N p s m args meth c cc nL Ts own ret nm E A) {a r index : Nat} (hL : a ∈ L) (hk : G.1 a = 16) (hr : G.2.1 a 8 = r + 1) (hin : ∀ w ∈ wsX50, w ∈ Ts) (hlink : Cond.fieldLink own index "IntFile" "tape" "LIntFile$Tape;" ∈ Ts) (hdg : decode cc pc = .ok (.getfield index, 3)) (kk : Wn p l e R s m args below meth c E A Q nL kc ks L G σ (pc + 3) lv (.ref r :: rest)) : Wn p l e R s m args below meth c E A Q nL kc ks L G σ pc lv (.ref a :: rest) := by
  intro H locs ls hP hD hS hl
  obtain ⟨q0, h0⟩ := q_at (E := E) (G := G) (σ := σ) hL
  rw [qc16 hk, hr] at h0
  exact va_get (ci := 5) (C := RX5) (T := TX5) (N := 9) C.1.1 C.1.2.1 C.1.2.2.2.2 hin C.1.2.2.2.1 C.2.2.2.1 hP q0 h0 rfl 8 (by decide) (C.1.2.2.2.2 _ hlink) (fun _ h9 => h9) rfl hdg (kk H locs ls hP hD hS hl)
theorem n_p5_8 (C : q_N p s m args meth c cc nL Ts RX5 ret "<init>" E A) {a r index : Nat} (hL : a ∈ L) (hk : G.1 a = 16) (hin : ∀ w ∈ wsX50, w ∈ Ts) (hlink : Cond.fieldLink RX5 index "IntFile" "tape" "LIntFile$Tape;" ∈ Ts) (hdg : decode cc pc = .ok (.putfield index, 3)) (kk : ∀ G' : qG, G' = q_gr G a 8 (r + 1) → Wn p l e R s m args below meth c E A Q nL kc ks L G' σ (pc + 3) lv rest) : Wn p l e R s m args below meth c E A Q nL kc ks L G σ pc lv (.ref r :: .ref a :: rest) := by
  intro H locs ls hP hD hS hl
  obtain ⟨q0, h0⟩ := q_at (E := E) (G := G) (σ := σ) hL
  have hcell : q_cell E (q_gr G a 8 (r + 1)) a (σ a) = .inr (5, ([.int (σ a 0), qr (G.2.1 a 1), qr (G.2.1 a 2), qr (G.2.1 a 3), qr (G.2.1 a 4), qr (G.2.1 a 5), qr (G.2.1 a 6), qr (G.2.1 a 7), qr (G.2.1 a 8)] : List Value).set 8 (.ref r)) := by rw [qc16 (G := q_gr G a 8 (r + 1)) hk]; simp [q_gr, va_up, qr]
  have hset := n_set (G' := q_gr G a 8 (r + 1)) (σ' := σ) hD hL h0 hcell (fun b hb => n_gr_ne hb)
  rw [qc16 hk] at h0
  refine va_putF (ci := 5) (v := .ref r) (ty := (tyX5 8)) (C := RX5) (T := TX5) (N := 9) C.1.1 C.1.2.1 C.1.2.2.2.2 hin tyX5 tyX5_ok nmX5 C.1.2.2.2.1 C.2.2.2.1 hP hD hS q0 h0 rfl 8 (by decide) (C.1.2.2.2.2 _ hlink) (fun _ h9 => h9) rfl C.2.2.2.2.2.1 rfl (by decide +kernel) rfl rfl (Nat.le_of_ble_eq_true rfl) hdg (fun H1 locs1 hP1 hD1 hS1 => ?_)
  rw [hset] at hP1 hD1
  exact kk _ rfl H1 locs1 ls hP1 hD1 hS1 hl
theorem n_new5 (C : q_N p s m args meth c cc nL Ts own ret nm E A) {index : Nat} (hin : ∀ w ∈ wsX50, w ∈ Ts) (hcl : Cond.classLink own index RX5 ∈ Ts) (hinst : Cond.instantiable RX5 9 ∈ Ts) (hini : Cond.initialized RX5 ∈ Ts) (hc : kc + 1 ≤ R.cells) (hs : ks + 9 ≤ R.slots) (hdg : decode cc pc = .ok (.new index, 3)) (kk : ∀ (q : Nat) (L1 : List Nat) (G1 : qG) (σ1 : qS), q ∉ L → L1 = L ++ [q] → G1 = q_gs G q 16 (fun _ => 0) 0 → σ1 = va_up σ q (fun _ => 0) → Wn p l e R s m args below meth c E A Q nL (kc + 1) (ks + 9) L1 G1 σ1 (pc + 3) lv (.ref q :: rest)) : Wn p l e R s m args below meth c E A Q nL kc ks L G σ pc lv rest := by
  intro H locs ls hP hD hS hl
  refine va_new (ci := 5) (fs := [.int 0, .null, .null, .null, .null, .null, .null, .null, .null]) (C := RX5) (T := TX5) (N := 9) C.1.1 C.1.2.1 C.1.2.2.2.2 hin tyX5 tyX5_ok C.1.2.2.2.1 (C.1.2.2.2.2 _ hcl) (C.1.2.2.2.2 _ hinst) (C.1.2.2.2.2 _ hini) C.2.2.2.1 hP hD hS C.2.2.2.2.2.2 rfl (fun j hj => ?_) hc hs hdg (fun q H1 hP1 hD1 hS1 => ?_)
  · rcases (show j = 0 ∨ j = 1 ∨ j = 2 ∨ j = 3 ∨ j = 4 ∨ j = 5 ∨ j = 6 ∨ j = 7 ∨ j = 8 by omega) with rfl | rfl | rfl | rfl | rfl | rfl | rfl | rfl | rfl <;> rfl
  · have hq := n_notin hD1
    have hpu := n_push (E := E) (G := G) (σ := σ) (G1 := q_gs G q 16 (fun _ => 0) 0) (σ1 := va_up σ q (fun _ => 0)) hq (qc16 (va_up_self _ _ _) _) (fun b hb => by rw [n_gs_ne hb, va_up_ne _ _ hb])
    simp only [q_gs, va_up_self] at hpu
    have hP1 : va_P E.1 vwCl (q_wd E (L ++ [q]) (q_gs G q 16 (fun _ => 0) 0) (va_up σ q (fun _ => 0))) H1 := hpu ▸ hP1
    have hD1 : va_D A (q_wd E (L ++ [q]) (q_gs G q 16 (fun _ => 0) 0) (va_up σ q (fun _ => 0))) := hpu ▸ hD1
    exact kk q _ _ _ hq rfl rfl rfl H1 locs ls hP1 hD1 hS1 hl
theorem n_g6_0 (C : q_N p s m args meth c cc nL Ts own ret nm E A) {a index : Nat} (hL : a ∈ L) (hk : G.1 a = 17) (hin : ∀ w ∈ wsX60, w ∈ Ts) (hlink : Cond.fieldLink own index "IntFileModel" "registers" "I" ∈ Ts) (hdg : decode cc pc = .ok (.getfield index, 3)) (kk : Wn p l e R s m args below meth c E A Q nL kc ks L G σ (pc + 3) lv (.int (σ a 0) :: rest)) : Wn p l e R s m args below meth c E A Q nL kc ks L G σ pc lv (.ref a :: rest) := by
  intro H locs ls hP hD hS hl
  obtain ⟨q0, h0⟩ := q_at (E := E) (G := G) (σ := σ) hL
  rw [qc17 hk] at h0
  exact va_get (ci := 6) (C := RX6) (T := TX6) (N := 9) C.1.1 C.1.2.1 C.1.2.2.2.2 hin C.1.2.2.2.1 C.2.2.2.1 hP q0 h0 rfl 0 (by decide) (C.1.2.2.2.2 _ hlink) (fun _ h9 => h9) rfl hdg (kk H locs ls hP hD hS hl)
theorem n_p6_0 (C : q_N p s m args meth c cc nL Ts RX6 ret "<init>" E A) {a index : Nat} {x : Int32} (hL : a ∈ L) (hk : G.1 a = 17) (hin : ∀ w ∈ wsX60, w ∈ Ts) (hlink : Cond.fieldLink RX6 index "IntFileModel" "registers" "I" ∈ Ts) (hdg : decode cc pc = .ok (.putfield index, 3)) (kk : ∀ σ' : qS, σ' = q_st σ a 0 x → Wn p l e R s m args below meth c E A Q nL kc ks L G σ' (pc + 3) lv rest) : Wn p l e R s m args below meth c E A Q nL kc ks L G σ pc lv (.int x :: .ref a :: rest) := by
  intro H locs ls hP hD hS hl
  obtain ⟨q0, h0⟩ := q_at (E := E) (G := G) (σ := σ) hL
  have hcell : q_cell E G a (q_st σ a 0 x a) = .inr (6, ([.int (σ a 0), .int (σ a 1), qr (G.2.1 a 2), qr (G.2.1 a 3), qr (G.2.1 a 4), qr (G.2.1 a 5), .int (σ a 6), qr (G.2.1 a 7), .int (σ a 8)] : List Value).set 0 (.int x)) := by rw [qc17 hk]; simp [q_st]
  have hset := q_set (σ' := q_st σ a 0 x) hD hL h0 hcell (fun b hb => q_st_a σ x hb)
  rw [qc17 hk] at h0
  refine va_putF (ci := 6) (v := .int x) (ty := .int) (C := RX6) (T := TX6) (N := 9) C.1.1 C.1.2.1 C.1.2.2.2.2 hin tyX6 tyX6_ok nmX6 C.1.2.2.2.1 C.2.2.2.1 hP hD hS q0 h0 rfl 0 (by decide) (C.1.2.2.2.2 _ hlink) (fun _ h9 => h9) rfl C.2.2.2.2.2.1 rfl (by decide +kernel) rfl rfl (Nat.le_of_ble_eq_true rfl) hdg (fun H1 locs1 hP1 hD1 hS1 => ?_)
  rw [hset] at hP1 hD1
  exact kk _ rfl H1 locs1 ls hP1 hD1 hS1 hl
theorem n_g6_1 (C : q_N p s m args meth c cc nL Ts own ret nm E A) {a index : Nat} (hL : a ∈ L) (hk : G.1 a = 17) (hin : ∀ w ∈ wsX60, w ∈ Ts) (hlink : Cond.fieldLink own index "IntFileModel" "most" "I" ∈ Ts) (hdg : decode cc pc = .ok (.getfield index, 3)) (kk : Wn p l e R s m args below meth c E A Q nL kc ks L G σ (pc + 3) lv (.int (σ a 1) :: rest)) : Wn p l e R s m args below meth c E A Q nL kc ks L G σ pc lv (.ref a :: rest) := by
  intro H locs ls hP hD hS hl
  obtain ⟨q0, h0⟩ := q_at (E := E) (G := G) (σ := σ) hL
  rw [qc17 hk] at h0
  exact va_get (ci := 6) (C := RX6) (T := TX6) (N := 9) C.1.1 C.1.2.1 C.1.2.2.2.2 hin C.1.2.2.2.1 C.2.2.2.1 hP q0 h0 rfl 1 (by decide) (C.1.2.2.2.2 _ hlink) (fun _ h9 => h9) rfl hdg (kk H locs ls hP hD hS hl)
theorem n_p6_1 (C : q_N p s m args meth c cc nL Ts RX6 ret "<init>" E A) {a index : Nat} {x : Int32} (hL : a ∈ L) (hk : G.1 a = 17) (hin : ∀ w ∈ wsX60, w ∈ Ts) (hlink : Cond.fieldLink RX6 index "IntFileModel" "most" "I" ∈ Ts) (hdg : decode cc pc = .ok (.putfield index, 3)) (kk : ∀ σ' : qS, σ' = q_st σ a 1 x → Wn p l e R s m args below meth c E A Q nL kc ks L G σ' (pc + 3) lv rest) : Wn p l e R s m args below meth c E A Q nL kc ks L G σ pc lv (.int x :: .ref a :: rest) := by
  intro H locs ls hP hD hS hl
  obtain ⟨q0, h0⟩ := q_at (E := E) (G := G) (σ := σ) hL
  have hcell : q_cell E G a (q_st σ a 1 x a) = .inr (6, ([.int (σ a 0), .int (σ a 1), qr (G.2.1 a 2), qr (G.2.1 a 3), qr (G.2.1 a 4), qr (G.2.1 a 5), .int (σ a 6), qr (G.2.1 a 7), .int (σ a 8)] : List Value).set 1 (.int x)) := by rw [qc17 hk]; simp [q_st]
  have hset := q_set (σ' := q_st σ a 1 x) hD hL h0 hcell (fun b hb => q_st_a σ x hb)
  rw [qc17 hk] at h0
  refine va_putF (ci := 6) (v := .int x) (ty := .int) (C := RX6) (T := TX6) (N := 9) C.1.1 C.1.2.1 C.1.2.2.2.2 hin tyX6 tyX6_ok nmX6 C.1.2.2.2.1 C.2.2.2.1 hP hD hS q0 h0 rfl 1 (by decide) (C.1.2.2.2.2 _ hlink) (fun _ h9 => h9) rfl C.2.2.2.2.2.1 rfl (by decide +kernel) rfl rfl (Nat.le_of_ble_eq_true rfl) hdg (fun H1 locs1 hP1 hD1 hS1 => ?_)
  rw [hset] at hP1 hD1
  exact kk _ rfl H1 locs1 ls hP1 hD1 hS1 hl
theorem n_g6_2 (C : q_N p s m args meth c cc nL Ts own ret nm E A) {a r index : Nat} (hL : a ∈ L) (hk : G.1 a = 17) (hr : G.2.1 a 2 = r + 1) (hin : ∀ w ∈ wsX60, w ∈ Ts) (hlink : Cond.fieldLink own index "IntFileModel" "cells" "[I" ∈ Ts) (hdg : decode cc pc = .ok (.getfield index, 3)) (kk : Wn p l e R s m args below meth c E A Q nL kc ks L G σ (pc + 3) lv (.ref r :: rest)) : Wn p l e R s m args below meth c E A Q nL kc ks L G σ pc lv (.ref a :: rest) := by
  intro H locs ls hP hD hS hl
  obtain ⟨q0, h0⟩ := q_at (E := E) (G := G) (σ := σ) hL
  rw [qc17 hk, hr] at h0
  exact va_get (ci := 6) (C := RX6) (T := TX6) (N := 9) C.1.1 C.1.2.1 C.1.2.2.2.2 hin C.1.2.2.2.1 C.2.2.2.1 hP q0 h0 rfl 2 (by decide) (C.1.2.2.2.2 _ hlink) (fun _ h9 => h9) rfl hdg (kk H locs ls hP hD hS hl)
theorem n_p6_2 (C : q_N p s m args meth c cc nL Ts RX6 ret "<init>" E A) {a r index : Nat} (hL : a ∈ L) (hk : G.1 a = 17) (hin : ∀ w ∈ wsX60, w ∈ Ts) (hlink : Cond.fieldLink RX6 index "IntFileModel" "cells" "[I" ∈ Ts) (hdg : decode cc pc = .ok (.putfield index, 3)) (kk : ∀ G' : qG, G' = q_gr G a 2 (r + 1) → Wn p l e R s m args below meth c E A Q nL kc ks L G' σ (pc + 3) lv rest) : Wn p l e R s m args below meth c E A Q nL kc ks L G σ pc lv (.ref r :: .ref a :: rest) := by
  intro H locs ls hP hD hS hl
  obtain ⟨q0, h0⟩ := q_at (E := E) (G := G) (σ := σ) hL
  have hcell : q_cell E (q_gr G a 2 (r + 1)) a (σ a) = .inr (6, ([.int (σ a 0), .int (σ a 1), qr (G.2.1 a 2), qr (G.2.1 a 3), qr (G.2.1 a 4), qr (G.2.1 a 5), .int (σ a 6), qr (G.2.1 a 7), .int (σ a 8)] : List Value).set 2 (.ref r)) := by rw [qc17 (G := q_gr G a 2 (r + 1)) hk]; simp [q_gr, va_up, qr]
  have hset := n_set (G' := q_gr G a 2 (r + 1)) (σ' := σ) hD hL h0 hcell (fun b hb => n_gr_ne hb)
  rw [qc17 hk] at h0
  refine va_putF (ci := 6) (v := .ref r) (ty := (tyX6 2)) (C := RX6) (T := TX6) (N := 9) C.1.1 C.1.2.1 C.1.2.2.2.2 hin tyX6 tyX6_ok nmX6 C.1.2.2.2.1 C.2.2.2.1 hP hD hS q0 h0 rfl 2 (by decide) (C.1.2.2.2.2 _ hlink) (fun _ h9 => h9) rfl C.2.2.2.2.2.1 rfl (by decide +kernel) rfl rfl (Nat.le_of_ble_eq_true rfl) hdg (fun H1 locs1 hP1 hD1 hS1 => ?_)
  rw [hset] at hP1 hD1
  exact kk _ rfl H1 locs1 ls hP1 hD1 hS1 hl
theorem n_g6_3 (C : q_N p s m args meth c cc nL Ts own ret nm E A) {a r index : Nat} (hL : a ∈ L) (hk : G.1 a = 17) (hr : G.2.1 a 3 = r + 1) (hin : ∀ w ∈ wsX60, w ∈ Ts) (hlink : Cond.fieldLink own index "IntFileModel" "lens" "[I" ∈ Ts) (hdg : decode cc pc = .ok (.getfield index, 3)) (kk : Wn p l e R s m args below meth c E A Q nL kc ks L G σ (pc + 3) lv (.ref r :: rest)) : Wn p l e R s m args below meth c E A Q nL kc ks L G σ pc lv (.ref a :: rest) := by
  intro H locs ls hP hD hS hl
  obtain ⟨q0, h0⟩ := q_at (E := E) (G := G) (σ := σ) hL
  rw [qc17 hk, hr] at h0
  exact va_get (ci := 6) (C := RX6) (T := TX6) (N := 9) C.1.1 C.1.2.1 C.1.2.2.2.2 hin C.1.2.2.2.1 C.2.2.2.1 hP q0 h0 rfl 3 (by decide) (C.1.2.2.2.2 _ hlink) (fun _ h9 => h9) rfl hdg (kk H locs ls hP hD hS hl)
theorem n_p6_3 (C : q_N p s m args meth c cc nL Ts RX6 ret "<init>" E A) {a r index : Nat} (hL : a ∈ L) (hk : G.1 a = 17) (hin : ∀ w ∈ wsX60, w ∈ Ts) (hlink : Cond.fieldLink RX6 index "IntFileModel" "lens" "[I" ∈ Ts) (hdg : decode cc pc = .ok (.putfield index, 3)) (kk : ∀ G' : qG, G' = q_gr G a 3 (r + 1) → Wn p l e R s m args below meth c E A Q nL kc ks L G' σ (pc + 3) lv rest) : Wn p l e R s m args below meth c E A Q nL kc ks L G σ pc lv (.ref r :: .ref a :: rest) := by
  intro H locs ls hP hD hS hl
  obtain ⟨q0, h0⟩ := q_at (E := E) (G := G) (σ := σ) hL
  have hcell : q_cell E (q_gr G a 3 (r + 1)) a (σ a) = .inr (6, ([.int (σ a 0), .int (σ a 1), qr (G.2.1 a 2), qr (G.2.1 a 3), qr (G.2.1 a 4), qr (G.2.1 a 5), .int (σ a 6), qr (G.2.1 a 7), .int (σ a 8)] : List Value).set 3 (.ref r)) := by rw [qc17 (G := q_gr G a 3 (r + 1)) hk]; simp [q_gr, va_up, qr]
  have hset := n_set (G' := q_gr G a 3 (r + 1)) (σ' := σ) hD hL h0 hcell (fun b hb => n_gr_ne hb)
  rw [qc17 hk] at h0
  refine va_putF (ci := 6) (v := .ref r) (ty := (tyX6 3)) (C := RX6) (T := TX6) (N := 9) C.1.1 C.1.2.1 C.1.2.2.2.2 hin tyX6 tyX6_ok nmX6 C.1.2.2.2.1 C.2.2.2.1 hP hD hS q0 h0 rfl 3 (by decide) (C.1.2.2.2.2 _ hlink) (fun _ h9 => h9) rfl C.2.2.2.2.2.1 rfl (by decide +kernel) rfl rfl (Nat.le_of_ble_eq_true rfl) hdg (fun H1 locs1 hP1 hD1 hS1 => ?_)
  rw [hset] at hP1 hD1
  exact kk _ rfl H1 locs1 ls hP1 hD1 hS1 hl
theorem n_g6_4 (C : q_N p s m args meth c cc nL Ts own ret nm E A) {a r index : Nat} (hL : a ∈ L) (hk : G.1 a = 17) (hr : G.2.1 a 4 = r + 1) (hin : ∀ w ∈ wsX60, w ∈ Ts) (hlink : Cond.fieldLink own index "IntFileModel" "below" "[Z" ∈ Ts) (hdg : decode cc pc = .ok (.getfield index, 3)) (kk : Wn p l e R s m args below meth c E A Q nL kc ks L G σ (pc + 3) lv (.ref r :: rest)) : Wn p l e R s m args below meth c E A Q nL kc ks L G σ pc lv (.ref a :: rest) := by
  intro H locs ls hP hD hS hl
  obtain ⟨q0, h0⟩ := q_at (E := E) (G := G) (σ := σ) hL
  rw [qc17 hk, hr] at h0
  exact va_get (ci := 6) (C := RX6) (T := TX6) (N := 9) C.1.1 C.1.2.1 C.1.2.2.2.2 hin C.1.2.2.2.1 C.2.2.2.1 hP q0 h0 rfl 4 (by decide) (C.1.2.2.2.2 _ hlink) (fun _ h9 => h9) rfl hdg (kk H locs ls hP hD hS hl)
theorem n_p6_4 (C : q_N p s m args meth c cc nL Ts RX6 ret "<init>" E A) {a r index : Nat} (hL : a ∈ L) (hk : G.1 a = 17) (hin : ∀ w ∈ wsX60, w ∈ Ts) (hlink : Cond.fieldLink RX6 index "IntFileModel" "below" "[Z" ∈ Ts) (hdg : decode cc pc = .ok (.putfield index, 3)) (kk : ∀ G' : qG, G' = q_gr G a 4 (r + 1) → Wn p l e R s m args below meth c E A Q nL kc ks L G' σ (pc + 3) lv rest) : Wn p l e R s m args below meth c E A Q nL kc ks L G σ pc lv (.ref r :: .ref a :: rest) := by
  intro H locs ls hP hD hS hl
  obtain ⟨q0, h0⟩ := q_at (E := E) (G := G) (σ := σ) hL
  have hcell : q_cell E (q_gr G a 4 (r + 1)) a (σ a) = .inr (6, ([.int (σ a 0), .int (σ a 1), qr (G.2.1 a 2), qr (G.2.1 a 3), qr (G.2.1 a 4), qr (G.2.1 a 5), .int (σ a 6), qr (G.2.1 a 7), .int (σ a 8)] : List Value).set 4 (.ref r)) := by rw [qc17 (G := q_gr G a 4 (r + 1)) hk]; simp [q_gr, va_up, qr]
  have hset := n_set (G' := q_gr G a 4 (r + 1)) (σ' := σ) hD hL h0 hcell (fun b hb => n_gr_ne hb)
  rw [qc17 hk] at h0
  refine va_putF (ci := 6) (v := .ref r) (ty := (tyX6 4)) (C := RX6) (T := TX6) (N := 9) C.1.1 C.1.2.1 C.1.2.2.2.2 hin tyX6 tyX6_ok nmX6 C.1.2.2.2.1 C.2.2.2.1 hP hD hS q0 h0 rfl 4 (by decide) (C.1.2.2.2.2 _ hlink) (fun _ h9 => h9) rfl C.2.2.2.2.2.1 rfl (by decide +kernel) rfl rfl (Nat.le_of_ble_eq_true rfl) hdg (fun H1 locs1 hP1 hD1 hS1 => ?_)
  rw [hset] at hP1 hD1
  exact kk _ rfl H1 locs1 ls hP1 hD1 hS1 hl
theorem n_g6_5 (C : q_N p s m args meth c cc nL Ts own ret nm E A) {a r index : Nat} (hL : a ∈ L) (hk : G.1 a = 17) (hr : G.2.1 a 5 = r + 1) (hin : ∀ w ∈ wsX60, w ∈ Ts) (hlink : Cond.fieldLink own index "IntFileModel" "text" "[I" ∈ Ts) (hdg : decode cc pc = .ok (.getfield index, 3)) (kk : Wn p l e R s m args below meth c E A Q nL kc ks L G σ (pc + 3) lv (.ref r :: rest)) : Wn p l e R s m args below meth c E A Q nL kc ks L G σ pc lv (.ref a :: rest) := by
  intro H locs ls hP hD hS hl
  obtain ⟨q0, h0⟩ := q_at (E := E) (G := G) (σ := σ) hL
  rw [qc17 hk, hr] at h0
  exact va_get (ci := 6) (C := RX6) (T := TX6) (N := 9) C.1.1 C.1.2.1 C.1.2.2.2.2 hin C.1.2.2.2.1 C.2.2.2.1 hP q0 h0 rfl 5 (by decide) (C.1.2.2.2.2 _ hlink) (fun _ h9 => h9) rfl hdg (kk H locs ls hP hD hS hl)
theorem n_p6_5 (C : q_N p s m args meth c cc nL Ts RX6 ret "<init>" E A) {a r index : Nat} (hL : a ∈ L) (hk : G.1 a = 17) (hin : ∀ w ∈ wsX60, w ∈ Ts) (hlink : Cond.fieldLink RX6 index "IntFileModel" "text" "[I" ∈ Ts) (hdg : decode cc pc = .ok (.putfield index, 3)) (kk : ∀ G' : qG, G' = q_gr G a 5 (r + 1) → Wn p l e R s m args below meth c E A Q nL kc ks L G' σ (pc + 3) lv rest) : Wn p l e R s m args below meth c E A Q nL kc ks L G σ pc lv (.ref r :: .ref a :: rest) := by
  intro H locs ls hP hD hS hl
  obtain ⟨q0, h0⟩ := q_at (E := E) (G := G) (σ := σ) hL
  have hcell : q_cell E (q_gr G a 5 (r + 1)) a (σ a) = .inr (6, ([.int (σ a 0), .int (σ a 1), qr (G.2.1 a 2), qr (G.2.1 a 3), qr (G.2.1 a 4), qr (G.2.1 a 5), .int (σ a 6), qr (G.2.1 a 7), .int (σ a 8)] : List Value).set 5 (.ref r)) := by rw [qc17 (G := q_gr G a 5 (r + 1)) hk]; simp [q_gr, va_up, qr]
  have hset := n_set (G' := q_gr G a 5 (r + 1)) (σ' := σ) hD hL h0 hcell (fun b hb => n_gr_ne hb)
  rw [qc17 hk] at h0
  refine va_putF (ci := 6) (v := .ref r) (ty := (tyX6 5)) (C := RX6) (T := TX6) (N := 9) C.1.1 C.1.2.1 C.1.2.2.2.2 hin tyX6 tyX6_ok nmX6 C.1.2.2.2.1 C.2.2.2.1 hP hD hS q0 h0 rfl 5 (by decide) (C.1.2.2.2.2 _ hlink) (fun _ h9 => h9) rfl C.2.2.2.2.2.1 rfl (by decide +kernel) rfl rfl (Nat.le_of_ble_eq_true rfl) hdg (fun H1 locs1 hP1 hD1 hS1 => ?_)
  rw [hset] at hP1 hD1
  exact kk _ rfl H1 locs1 ls hP1 hD1 hS1 hl
theorem n_g6_6 (C : q_N p s m args meth c cc nL Ts own ret nm E A) {a index : Nat} (hL : a ∈ L) (hk : G.1 a = 17) (hin : ∀ w ∈ wsX60, w ∈ Ts) (hlink : Cond.fieldLink own index "IntFileModel" "written" "I" ∈ Ts) (hdg : decode cc pc = .ok (.getfield index, 3)) (kk : Wn p l e R s m args below meth c E A Q nL kc ks L G σ (pc + 3) lv (.int (σ a 6) :: rest)) : Wn p l e R s m args below meth c E A Q nL kc ks L G σ pc lv (.ref a :: rest) := by
  intro H locs ls hP hD hS hl
  obtain ⟨q0, h0⟩ := q_at (E := E) (G := G) (σ := σ) hL
  rw [qc17 hk] at h0
  exact va_get (ci := 6) (C := RX6) (T := TX6) (N := 9) C.1.1 C.1.2.1 C.1.2.2.2.2 hin C.1.2.2.2.1 C.2.2.2.1 hP q0 h0 rfl 6 (by decide) (C.1.2.2.2.2 _ hlink) (fun _ h9 => h9) rfl hdg (kk H locs ls hP hD hS hl)
theorem n_p6_6 (C : q_N p s m args meth c cc nL Ts RX6 ret "<init>" E A) {a index : Nat} {x : Int32} (hL : a ∈ L) (hk : G.1 a = 17) (hin : ∀ w ∈ wsX60, w ∈ Ts) (hlink : Cond.fieldLink RX6 index "IntFileModel" "written" "I" ∈ Ts) (hdg : decode cc pc = .ok (.putfield index, 3)) (kk : ∀ σ' : qS, σ' = q_st σ a 6 x → Wn p l e R s m args below meth c E A Q nL kc ks L G σ' (pc + 3) lv rest) : Wn p l e R s m args below meth c E A Q nL kc ks L G σ pc lv (.int x :: .ref a :: rest) := by
  intro H locs ls hP hD hS hl
  obtain ⟨q0, h0⟩ := q_at (E := E) (G := G) (σ := σ) hL
  have hcell : q_cell E G a (q_st σ a 6 x a) = .inr (6, ([.int (σ a 0), .int (σ a 1), qr (G.2.1 a 2), qr (G.2.1 a 3), qr (G.2.1 a 4), qr (G.2.1 a 5), .int (σ a 6), qr (G.2.1 a 7), .int (σ a 8)] : List Value).set 6 (.int x)) := by rw [qc17 hk]; simp [q_st]
  have hset := q_set (σ' := q_st σ a 6 x) hD hL h0 hcell (fun b hb => q_st_a σ x hb)
  rw [qc17 hk] at h0
  refine va_put (ci := 6) (v := .int x) (ty := .int) (C := RX6) (T := TX6) (N := 9) C.1.1 C.1.2.1 C.1.2.2.2.2 hin tyX6 tyX6_ok nmX6 C.1.2.2.2.1 C.2.2.2.1 hP hD hS q0 h0 rfl 6 (by decide) (C.1.2.2.2.2 _ hlink) (fun _ h9 => h9) rfl (by decide +kernel) rfl rfl (Nat.le_of_ble_eq_true rfl) hdg (fun H1 locs1 hP1 hD1 hS1 => ?_)
  rw [hset] at hP1 hD1
  exact kk _ rfl H1 locs1 ls hP1 hD1 hS1 hl
theorem n_g6_7 (C : q_N p s m args meth c cc nL Ts own ret nm E A) {a r index : Nat} (hL : a ∈ L) (hk : G.1 a = 17) (hr : G.2.1 a 7 = r + 1) (hin : ∀ w ∈ wsX60, w ∈ Ts) (hlink : Cond.fieldLink own index "IntFileModel" "tape" "[I" ∈ Ts) (hdg : decode cc pc = .ok (.getfield index, 3)) (kk : Wn p l e R s m args below meth c E A Q nL kc ks L G σ (pc + 3) lv (.ref r :: rest)) : Wn p l e R s m args below meth c E A Q nL kc ks L G σ pc lv (.ref a :: rest) := by
  intro H locs ls hP hD hS hl
  obtain ⟨q0, h0⟩ := q_at (E := E) (G := G) (σ := σ) hL
  rw [qc17 hk, hr] at h0
  exact va_get (ci := 6) (C := RX6) (T := TX6) (N := 9) C.1.1 C.1.2.1 C.1.2.2.2.2 hin C.1.2.2.2.1 C.2.2.2.1 hP q0 h0 rfl 7 (by decide) (C.1.2.2.2.2 _ hlink) (fun _ h9 => h9) rfl hdg (kk H locs ls hP hD hS hl)
theorem n_p6_7 (C : q_N p s m args meth c cc nL Ts RX6 ret "<init>" E A) {a r index : Nat} (hL : a ∈ L) (hk : G.1 a = 17) (hin : ∀ w ∈ wsX60, w ∈ Ts) (hlink : Cond.fieldLink RX6 index "IntFileModel" "tape" "[I" ∈ Ts) (hdg : decode cc pc = .ok (.putfield index, 3)) (kk : ∀ G' : qG, G' = q_gr G a 7 (r + 1) → Wn p l e R s m args below meth c E A Q nL kc ks L G' σ (pc + 3) lv rest) : Wn p l e R s m args below meth c E A Q nL kc ks L G σ pc lv (.ref r :: .ref a :: rest) := by
  intro H locs ls hP hD hS hl
  obtain ⟨q0, h0⟩ := q_at (E := E) (G := G) (σ := σ) hL
  have hcell : q_cell E (q_gr G a 7 (r + 1)) a (σ a) = .inr (6, ([.int (σ a 0), .int (σ a 1), qr (G.2.1 a 2), qr (G.2.1 a 3), qr (G.2.1 a 4), qr (G.2.1 a 5), .int (σ a 6), qr (G.2.1 a 7), .int (σ a 8)] : List Value).set 7 (.ref r)) := by rw [qc17 (G := q_gr G a 7 (r + 1)) hk]; simp [q_gr, va_up, qr]
  have hset := n_set (G' := q_gr G a 7 (r + 1)) (σ' := σ) hD hL h0 hcell (fun b hb => n_gr_ne hb)
  rw [qc17 hk] at h0
  refine va_putF (ci := 6) (v := .ref r) (ty := (tyX6 7)) (C := RX6) (T := TX6) (N := 9) C.1.1 C.1.2.1 C.1.2.2.2.2 hin tyX6 tyX6_ok nmX6 C.1.2.2.2.1 C.2.2.2.1 hP hD hS q0 h0 rfl 7 (by decide) (C.1.2.2.2.2 _ hlink) (fun _ h9 => h9) rfl C.2.2.2.2.2.1 rfl (by decide +kernel) rfl rfl (Nat.le_of_ble_eq_true rfl) hdg (fun H1 locs1 hP1 hD1 hS1 => ?_)
  rw [hset] at hP1 hD1
  exact kk _ rfl H1 locs1 ls hP1 hD1 hS1 hl
theorem n_g6_8 (C : q_N p s m args meth c cc nL Ts own ret nm E A) {a index : Nat} (hL : a ∈ L) (hk : G.1 a = 17) (hin : ∀ w ∈ wsX60, w ∈ Ts) (hlink : Cond.fieldLink own index "IntFileModel" "typed" "I" ∈ Ts) (hdg : decode cc pc = .ok (.getfield index, 3)) (kk : Wn p l e R s m args below meth c E A Q nL kc ks L G σ (pc + 3) lv (.int (σ a 8) :: rest)) : Wn p l e R s m args below meth c E A Q nL kc ks L G σ pc lv (.ref a :: rest) := by
  intro H locs ls hP hD hS hl
  obtain ⟨q0, h0⟩ := q_at (E := E) (G := G) (σ := σ) hL
  rw [qc17 hk] at h0
  exact va_get (ci := 6) (C := RX6) (T := TX6) (N := 9) C.1.1 C.1.2.1 C.1.2.2.2.2 hin C.1.2.2.2.1 C.2.2.2.1 hP q0 h0 rfl 8 (by decide) (C.1.2.2.2.2 _ hlink) (fun _ h9 => h9) rfl hdg (kk H locs ls hP hD hS hl)
theorem n_p6_8 (C : q_N p s m args meth c cc nL Ts RX6 ret "<init>" E A) {a index : Nat} {x : Int32} (hL : a ∈ L) (hk : G.1 a = 17) (hin : ∀ w ∈ wsX60, w ∈ Ts) (hlink : Cond.fieldLink RX6 index "IntFileModel" "typed" "I" ∈ Ts) (hdg : decode cc pc = .ok (.putfield index, 3)) (kk : ∀ σ' : qS, σ' = q_st σ a 8 x → Wn p l e R s m args below meth c E A Q nL kc ks L G σ' (pc + 3) lv rest) : Wn p l e R s m args below meth c E A Q nL kc ks L G σ pc lv (.int x :: .ref a :: rest) := by
  intro H locs ls hP hD hS hl
  obtain ⟨q0, h0⟩ := q_at (E := E) (G := G) (σ := σ) hL
  have hcell : q_cell E G a (q_st σ a 8 x a) = .inr (6, ([.int (σ a 0), .int (σ a 1), qr (G.2.1 a 2), qr (G.2.1 a 3), qr (G.2.1 a 4), qr (G.2.1 a 5), .int (σ a 6), qr (G.2.1 a 7), .int (σ a 8)] : List Value).set 8 (.int x)) := by rw [qc17 hk]; simp [q_st]
  have hset := q_set (σ' := q_st σ a 8 x) hD hL h0 hcell (fun b hb => q_st_a σ x hb)
  rw [qc17 hk] at h0
  refine va_put (ci := 6) (v := .int x) (ty := .int) (C := RX6) (T := TX6) (N := 9) C.1.1 C.1.2.1 C.1.2.2.2.2 hin tyX6 tyX6_ok nmX6 C.1.2.2.2.1 C.2.2.2.1 hP hD hS q0 h0 rfl 8 (by decide) (C.1.2.2.2.2 _ hlink) (fun _ h9 => h9) rfl (by decide +kernel) rfl rfl (Nat.le_of_ble_eq_true rfl) hdg (fun H1 locs1 hP1 hD1 hS1 => ?_)
  rw [hset] at hP1 hD1
  exact kk _ rfl H1 locs1 ls hP1 hD1 hS1 hl
theorem n_new6 (C : q_N p s m args meth c cc nL Ts own ret nm E A) {index : Nat} (hin : ∀ w ∈ wsX60, w ∈ Ts) (hcl : Cond.classLink own index RX6 ∈ Ts) (hinst : Cond.instantiable RX6 9 ∈ Ts) (hini : Cond.initialized RX6 ∈ Ts) (hc : kc + 1 ≤ R.cells) (hs : ks + 9 ≤ R.slots) (hdg : decode cc pc = .ok (.new index, 3)) (kk : ∀ (q : Nat) (L1 : List Nat) (G1 : qG) (σ1 : qS), q ∉ L → L1 = L ++ [q] → G1 = q_gs G q 17 (fun _ => 0) 0 → σ1 = va_up σ q (fun _ => 0) → Wn p l e R s m args below meth c E A Q nL (kc + 1) (ks + 9) L1 G1 σ1 (pc + 3) lv (.ref q :: rest)) : Wn p l e R s m args below meth c E A Q nL kc ks L G σ pc lv rest := by
  intro H locs ls hP hD hS hl
  refine va_new (ci := 6) (fs := [.int 0, .int 0, .null, .null, .null, .null, .int 0, .null, .int 0]) (C := RX6) (T := TX6) (N := 9) C.1.1 C.1.2.1 C.1.2.2.2.2 hin tyX6 tyX6_ok C.1.2.2.2.1 (C.1.2.2.2.2 _ hcl) (C.1.2.2.2.2 _ hinst) (C.1.2.2.2.2 _ hini) C.2.2.2.1 hP hD hS C.2.2.2.2.2.2 rfl (fun j hj => ?_) hc hs hdg (fun q H1 hP1 hD1 hS1 => ?_)
  · rcases (show j = 0 ∨ j = 1 ∨ j = 2 ∨ j = 3 ∨ j = 4 ∨ j = 5 ∨ j = 6 ∨ j = 7 ∨ j = 8 by omega) with rfl | rfl | rfl | rfl | rfl | rfl | rfl | rfl | rfl <;> rfl
  · have hq := n_notin hD1
    have hpu := n_push (E := E) (G := G) (σ := σ) (G1 := q_gs G q 17 (fun _ => 0) 0) (σ1 := va_up σ q (fun _ => 0)) hq (qc17 (va_up_self _ _ _) _) (fun b hb => by rw [n_gs_ne hb, va_up_ne _ _ hb])
    simp only [q_gs, va_up_self] at hpu
    have hP1 : va_P E.1 vwCl (q_wd E (L ++ [q]) (q_gs G q 17 (fun _ => 0) 0) (va_up σ q (fun _ => 0))) H1 := hpu ▸ hP1
    have hD1 : va_D A (q_wd E (L ++ [q]) (q_gs G q 17 (fun _ => 0) 0) (va_up σ q (fun _ => 0))) := hpu ▸ hD1
    exact kk q _ _ _ hq rfl rfl rfl H1 locs ls hP1 hD1 hS1 hl
theorem n_newa_i (C : q_N p s m args meth c cc nL Ts own ret nm E A) {n : Int32} (harr : Cond.arrayClass .int ∈ Ts) (hn : ¬ n < 0) (hb : n.toNatClampNeg ≤ 100000) (hc : kc + 1 ≤ R.cells) (hs : ks + n.toNatClampNeg ≤ R.slots) (hdg : decode cc pc = .ok (.newarray .int, 2)) (kk : ∀ (q : Nat) (L1 : List Nat) (G1 : qG) (σ1 : qS), q ∉ L → L1 = L ++ [q] → G1 = q_gs G q 7 (fun _ => 0) n.toNatClampNeg → σ1 = va_up σ q (fun _ => 0) → Wn p l e R s m args below meth c E A Q nL (kc + 1) (ks + n.toNatClampNeg) L1 G1 σ1 (pc + 2) lv (.ref q :: rest)) : Wn p l e R s m args below meth c E A Q nL kc ks L G σ pc lv (.int n :: rest) := by
  intro H locs ls hP hD hS hl
  refine va_newa (atype := .int) (ty := .int) (N' := n.toNatClampNeg) (a0 := (n.toNatClampNeg, .inl (fun _ => 0))) C.1.1 C.1.2.1 (C.1.2.2.2.2 _ harr) rfl C.2.2.2.1 hP hD hS C.2.2.2.2.2.2 (fun _ => rfl) hn rfl (Nat.le_trans (Nat.mul_le_mul_right _ hb) (by decide)) hc hs hdg (fun q cA H1 hK1 hP1 hD1 hS1 => ?_)
  have hcA : cA = E.2.1 := by
    have h1 := (hK1.2 4 (cA, .int) rfl).2
    have h2 := (C.2.2.2.1.2 0 (E.2.1, .int) rfl).2
    exact Option.some.inj (h1.symm.trans h2)
  subst hcA
  have hq := n_notin hD1
  have hpu := n_push (E := E) (G := G) (σ := σ) (G1 := q_gs G q 7 (fun _ => 0) n.toNatClampNeg) (σ1 := va_up σ q (fun _ => 0)) hq (qc7 (va_up_self _ _ _) _) (fun b hb => by rw [n_gs_ne hb, va_up_ne _ _ hb])
  simp only [q_gs, va_up_self] at hpu
  have hP1 : va_P E.1 vwCl (q_wd E (L ++ [q]) (q_gs G q 7 (fun _ => 0) n.toNatClampNeg) (va_up σ q (fun _ => 0))) H1 := hpu ▸ hP1
  have hD1 : va_D A (q_wd E (L ++ [q]) (q_gs G q 7 (fun _ => 0) n.toNatClampNeg) (va_up σ q (fun _ => 0))) := hpu ▸ hD1
  exact kk q _ _ _ hq rfl rfl rfl H1 locs ls hP1 hD1 hS1 hl
theorem n_newa_b (C : q_N p s m args meth c cc nL Ts own ret nm E A) {n : Int32} (harr : Cond.arrayClass .byte ∈ Ts) (hn : ¬ n < 0) (hb : n.toNatClampNeg ≤ 100000) (hc : kc + 1 ≤ R.cells) (hs : ks + n.toNatClampNeg ≤ R.slots) (hdg : decode cc pc = .ok (.newarray .byte, 2)) (kk : ∀ (q : Nat) (L1 : List Nat) (G1 : qG) (σ1 : qS), q ∉ L → L1 = L ++ [q] → G1 = q_gs G q 8 (fun _ => 0) n.toNatClampNeg → σ1 = va_up σ q (fun _ => 0) → Wn p l e R s m args below meth c E A Q nL (kc + 1) (ks + n.toNatClampNeg) L1 G1 σ1 (pc + 2) lv (.ref q :: rest)) : Wn p l e R s m args below meth c E A Q nL kc ks L G σ pc lv (.int n :: rest) := by
  intro H locs ls hP hD hS hl
  refine va_newa (atype := .byte) (ty := .byte) (N' := n.toNatClampNeg) (a0 := (n.toNatClampNeg, .inl (fun _ => 0))) C.1.1 C.1.2.1 (C.1.2.2.2.2 _ harr) rfl C.2.2.2.1 hP hD hS C.2.2.2.2.2.2 (fun _ => rfl) hn rfl (Nat.le_trans (Nat.mul_le_mul_right _ hb) (by decide)) hc hs hdg (fun q cA H1 hK1 hP1 hD1 hS1 => ?_)
  have hcA : cA = E.2.2.1 := by
    have h1 := (hK1.2 4 (cA, .byte) rfl).2
    have h2 := (C.2.2.2.1.2 1 (E.2.2.1, .byte) rfl).2
    exact Option.some.inj (h1.symm.trans h2)
  subst hcA
  have hq := n_notin hD1
  have hpu := n_push (E := E) (G := G) (σ := σ) (G1 := q_gs G q 8 (fun _ => 0) n.toNatClampNeg) (σ1 := va_up σ q (fun _ => 0)) hq (qc8 (va_up_self _ _ _) _) (fun b hb => by rw [n_gs_ne hb, va_up_ne _ _ hb])
  simp only [q_gs, va_up_self] at hpu
  have hP1 : va_P E.1 vwCl (q_wd E (L ++ [q]) (q_gs G q 8 (fun _ => 0) n.toNatClampNeg) (va_up σ q (fun _ => 0))) H1 := hpu ▸ hP1
  have hD1 : va_D A (q_wd E (L ++ [q]) (q_gs G q 8 (fun _ => 0) n.toNatClampNeg) (va_up σ q (fun _ => 0))) := hpu ▸ hD1
  exact kk q _ _ _ hq rfl rfl rfl H1 locs ls hP1 hD1 hS1 hl
theorem n_newa_z (C : q_N p s m args meth c cc nL Ts own ret nm E A) {n : Int32} (harr : Cond.arrayClass .boolean ∈ Ts) (hn : ¬ n < 0) (hb : n.toNatClampNeg ≤ 100000) (hc : kc + 1 ≤ R.cells) (hs : ks + n.toNatClampNeg ≤ R.slots) (hdg : decode cc pc = .ok (.newarray .boolean, 2)) (kk : ∀ (q : Nat) (L1 : List Nat) (G1 : qG) (σ1 : qS), q ∉ L → L1 = L ++ [q] → G1 = q_gs G q 9 (fun _ => 0) n.toNatClampNeg → σ1 = va_up σ q (fun _ => 0) → Wn p l e R s m args below meth c E A Q nL (kc + 1) (ks + n.toNatClampNeg) L1 G1 σ1 (pc + 2) lv (.ref q :: rest)) : Wn p l e R s m args below meth c E A Q nL kc ks L G σ pc lv (.int n :: rest) := by
  intro H locs ls hP hD hS hl
  refine va_newa (atype := .boolean) (ty := .boolean) (N' := n.toNatClampNeg) (a0 := (n.toNatClampNeg, .inl (fun _ => 0))) C.1.1 C.1.2.1 (C.1.2.2.2.2 _ harr) rfl C.2.2.2.1 hP hD hS C.2.2.2.2.2.2 (fun _ => rfl) hn rfl (Nat.le_trans (Nat.mul_le_mul_right _ hb) (by decide)) hc hs hdg (fun q cA H1 hK1 hP1 hD1 hS1 => ?_)
  have hcA : cA = E.2.2.2.1 := by
    have h1 := (hK1.2 4 (cA, .boolean) rfl).2
    have h2 := (C.2.2.2.1.2 2 (E.2.2.2.1, .boolean) rfl).2
    exact Option.some.inj (h1.symm.trans h2)
  subst hcA
  have hq := n_notin hD1
  have hpu := n_push (E := E) (G := G) (σ := σ) (G1 := q_gs G q 9 (fun _ => 0) n.toNatClampNeg) (σ1 := va_up σ q (fun _ => 0)) hq (qc9 (va_up_self _ _ _) _) (fun b hb => by rw [n_gs_ne hb, va_up_ne _ _ hb])
  simp only [q_gs, va_up_self] at hpu
  have hP1 : va_P E.1 vwCl (q_wd E (L ++ [q]) (q_gs G q 9 (fun _ => 0) n.toNatClampNeg) (va_up σ q (fun _ => 0))) H1 := hpu ▸ hP1
  have hD1 : va_D A (q_wd E (L ++ [q]) (q_gs G q 9 (fun _ => 0) n.toNatClampNeg) (va_up σ q (fun _ => 0))) := hpu ▸ hD1
  exact kk q _ _ _ hq rfl rfl rfl H1 locs ls hP1 hD1 hS1 hl
theorem n_newq (C : q_N p s m args meth c cc nL Ts own ret nm E A) {index : Nat} {n : Int32} (hcl : Cond.classLink own index "IntFile$Whole" ∈ Ts) (hn : ¬ n < 0) (hb : n.toNatClampNeg ≤ 100000) (hc : kc + 1 ≤ R.cells) (hs : ks + n.toNatClampNeg ≤ R.slots) (hdg : decode cc pc = .ok (.anewarray index, 3)) (kk : ∀ (q : Nat) (L1 : List Nat) (G1 : qG) (σ1 : qS), q ∉ L → L1 = L ++ [q] → G1 = q_gs G q 18 (fun _ => 0) n.toNatClampNeg → σ1 = va_up σ q (fun _ => 0) → Wn p l e R s m args below meth c E A Q nL (kc + 1) (ks + n.toNatClampNeg) L1 G1 σ1 (pc + 3) lv (.ref q :: rest)) : Wn p l e R s m args below meth c E A Q nL kc ks L G σ pc lv (.int n :: rest) := by
  intro H locs ls hP hD hS hl
  refine va_newq (C := "IntFile$Whole") (N' := n.toNatClampNeg) C.1.1 C.1.2.1 C.1.2.2.2.1 (C.1.2.2.2.2 _ hcl) C.2.2.2.2.1 C.2.2.2.1 hP hD hS C.2.2.2.2.2.2 hn rfl (by omega) hc hs hdg (fun q cA H1 hK1 hP1 hD1 hS1 => ?_)
  have hcA : cA = E.2.2.2.2 := by
    obtain ⟨_, _, _, _, _, h1⟩ := (hK1.2 4 (cA, .object "IntFile$Whole") rfl).2
    obtain ⟨_, _, _, _, _, h2⟩ := (C.2.2.2.1.2 3 (E.2.2.2.2, .object "IntFile$Whole") rfl).2
    exact Option.some.inj (h1.symm.trans h2)
  subst hcA
  have hq := n_notin hD1
  have hpu := n_push (E := E) (G := G) (σ := σ) (G1 := q_gs G q 18 (fun _ => 0) n.toNatClampNeg) (σ1 := va_up σ q (fun _ => 0)) hq (qc18 (va_up_self _ _ _) _) (fun b hb => by rw [n_gs_ne hb, va_up_ne _ _ hb])
  simp only [q_gs, va_up_self] at hpu
  have hP1 : va_P E.1 vwCl (q_wd E (L ++ [q]) (q_gs G q 18 (fun _ => 0) n.toNatClampNeg) (va_up σ q (fun _ => 0))) H1 := hpu ▸ hP1
  have hD1 : va_D A (q_wd E (L ++ [q]) (q_gs G q 18 (fun _ => 0) n.toNatClampNeg) (va_up σ q (fun _ => 0))) := hpu ▸ hD1
  exact kk q _ _ _ hq rfl rfl rfl H1 locs ls hP1 hD1 hS1 hl
theorem n_aast (C : q_N p s m args meth c cc nL Ts own ret nm E A) {a r : Nat} {i : Int32} (hL : a ∈ L) (hk : G.1 a = 18) (hr : r ∈ L) (hkr : G.1 r = 4) (hin : vp_in i (G.2.2 a)) (hdg : decode cc pc = .ok (.aastore, 1)) (kk : ∀ G' : qG, G' = q_gr G a i.toNatClampNeg (r + 1) → Wn p l e R s m args below meth c E A Q nL kc ks L G' σ (pc + 1) lv rest) : Wn p l e R s m args below meth c E A Q nL kc ks L G σ pc lv (.ref r :: .int i :: .ref a :: rest) := by
  intro H locs ls hP hD hS hl
  obtain ⟨q0, h0⟩ := q_at (E := E) (G := G) (σ := σ) hL
  obtain ⟨q1, h1⟩ := q_at (E := E) (G := G) (σ := σ) hr
  have hset := n_set (G' := q_gr G a i.toNatClampNeg (r + 1)) (σ' := σ) hD hL h0 (qc18 (G := q_gr G a i.toNatClampNeg (r + 1)) hk _) (fun b hb => n_gr_ne hb)
  rw [qc18 hk] at h0
  rw [qc4 hkr] at h1
  refine va_astq (r := (RX4, TX4, 3)) C.1.1 C.1.2.1 C.2.2.2.1 hP hD hS q0 3 q1 4 h0 rfl h1 rfl hin hdg (fun H1 locs1 hP1 hD1 hS1 => ?_)
  have he : (fun j => qo ((q_gr G a i.toNatClampNeg (r + 1)).2.1 a j)) = va_up (fun j => qo (G.2.1 a j)) i.toNatClampNeg (some r) := by
    funext j
    simp only [q_gr, va_up_self]
    by_cases hj : j = i.toNatClampNeg
    · subst hj; rw [va_up_self, va_up_self]; rfl
    · rw [va_up_ne _ _ hj, va_up_ne _ _ hj]
  rw [he] at hset
  have hP1 : va_P E.1 vwCl (q_wd E L (q_gr G a i.toNatClampNeg (r + 1)) σ) H1 := hset ▸ hP1
  have hD1 : va_D A (q_wd E L (q_gr G a i.toNatClampNeg (r + 1)) σ) := hset ▸ hD1
  exact kk _ rfl H1 locs1 ls hP1 hD1 hS1 hl
theorem n_alen8 (C : q_N p s m args meth c cc nL Ts own ret nm E A) {a : Nat} (hL : a ∈ L) (hk : G.1 a = 8) (hdg : decode cc pc = .ok (.arraylength, 1)) (kk : Wn p l e R s m args below meth c E A Q nL kc ks L G σ (pc + 1) lv (.int (nI (G.2.2 a)) :: rest)) : Wn p l e R s m args below meth c E A Q nL kc ks L G σ pc lv (.ref a :: rest) := by
  intro H locs ls hP hD hS hl
  obtain ⟨q0, h0⟩ := q_at (E := E) (G := G) (σ := σ) hL
  rw [qc8 hk] at h0
  exact va_alen C.1.1 C.1.2.1 C.2.2.2.1 hP q0 1 h0 rfl rfl hdg (kk H locs ls hP hD hS hl)
theorem n_alen18 (C : q_N p s m args meth c cc nL Ts own ret nm E A) {a : Nat} (hL : a ∈ L) (hk : G.1 a = 18) (hdg : decode cc pc = .ok (.arraylength, 1)) (kk : Wn p l e R s m args below meth c E A Q nL kc ks L G σ (pc + 1) lv (.int (nI (G.2.2 a)) :: rest)) : Wn p l e R s m args below meth c E A Q nL kc ks L G σ pc lv (.ref a :: rest) := by
  intro H locs ls hP hD hS hl
  obtain ⟨q0, h0⟩ := q_at (E := E) (G := G) (σ := σ) hL
  rw [qc18 hk] at h0
  exact va_alen C.1.1 C.1.2.1 C.2.2.2.1 hP q0 3 h0 rfl rfl hdg (kk H locs ls hP hD hS hl)
theorem n_cSi (C : q_N p s m args meth c cc nL Ts own ret nm E A) {index n maxL : Nat} {y : MethodName} {bytes : ByteArray} {rt : Option FieldType} {ws : List Cond} {rm : Room} {As st : List Value} {post : Int32 → qS → Prop} {G0 : qG} {σ0 : qS} (hM : MtI l E [] G0 y ws rm As σ0 post) (cw : CallB R s args own index y bytes maxL rt ws rm 0 0 n ∧ (Cond.static y).before args s = true) (hn : As.length = n) (hst : st = As.reverse ++ rest) (hW : (rest.map fun v => v.category).sum ≤ 8) (hc : kc ≤ R.cells) (hs : ks ≤ R.slots) (hdg : decode cc pc = .ok (.invokestatic index, 3)) (kk : ∀ (r : Int32) (σ' : qS), post r σ' → Wn p l e R s m args below meth c E A Q nL kc ks L G σ (pc + 3) lv (.int r :: rest)) : Wn p l e R s m args below meth c E A Q nL kc ks L G σ pc lv st := by
  intro H locs ls hP hD hS hl
  have g1 : ∀ q, q < H.size → q_free [] H.size q → A q := fun q hq h => h.elim (fun z => absurd z List.not_mem_nil) (fun z => absurd hq (Nat.not_lt.mpr z))
  have g2 : ∀ q, q_free [] H.size q → A q := fun q h => h.elim (fun z => absurd z List.not_mem_nil) (fun z => C.2.2.2.2.2.2 q (Nat.le_trans hS.1 z))
  refine va_calli (va_runS (As := As) (rest := rest) C.1 (hM H.size) cw ⟨fun a U g mk q => by obtain ⟨q0, q1, qP, qK⟩ := q; exact ⟨q0, q1, qP, va_K.moved (u := U) (U := U.calling g mk a) (Vm.Alike.refl U.vm) qK⟩, fun U hU hW => ⟨rfl, by rw [hU], fun k q h => by simp [q_wd, va_pl] at h, va_K.moved hW.alike C.2.2.2.1⟩⟩ rfl hn hl.1 hst (lv_room hW) hdg ⟨hc, hs⟩) hS g1 g2 (fun r u t H1 locs1 ht hvm hp hB hz hk hS1 => ?_)
  have hP1 : va_P E.1 vwCl (q_wd E L G σ) H1 := hP.kept (fun k q hq => hk q.1 (hP k q hq).lt (fun h => by
    rcases h with h | h
    · exact absurd h List.not_mem_nil
    · have := (hP k q hq).lt
      omega))
  exact kk r u hp H1 locs1 ls hP1 hD hS1 hl
theorem n_cI (C : q_N p s m args meth c cc nL Ts own ret nm E A) {index n maxL mc ms k2 : Nat} {b : Nat} {y : MethodName} {bytes : ByteArray} {ws : List Cond} {As st : List Value} {post : List Nat → qG → qS → Prop} (hM : MtN l E y ws k2 mc ms (.ref b :: As) L G σ post) (cw : CallB R s args own index y bytes maxL none ws (q_rn k2 mc ms) mc ms n ∧ y.name = "<init>" ∧ (Cond.instanceMethod y).before args s = true) (hn : As.length = n) (hst : st = As.reverse ++ .ref b :: rest) (hW : (rest.map fun v => v.category).sum ≤ 8) (hc : kc + mc ≤ R.cells) (hs : ks + ms ≤ R.slots) (hdg : decode cc pc = .ok (.invokespecial index, 3)) (kk : ∀ (L1 : List Nat) (G1 : qG) (σ1 : qS), post L1 G1 σ1 → Wn p l e R s m args below meth c E A Q nL (kc + mc) (ks + ms) L1 G1 σ1 (pc + 3) lv rest) : Wn p l e R s m args below meth c E A Q nL kc ks L G σ pc lv st := by
  intro H locs ls hP hD hS hl
  refine va_callv (va_runI (As := As) (rest := rest) C.1 (hM H.size) cw ⟨fun a U g mk q => by obtain ⟨q0, q1, qP, qK, qO, qD⟩ := q; exact ⟨q0, q1, qP, va_K.moved (u := U) (U := U.calling g mk a) (Vm.Alike.refl U.vm) qK, va_AO.moved (u := U) (U := U.calling g mk a) (Vm.Alike.refl U.vm) qO, qD⟩, fun U hU hW => ⟨rfl, by rw [hU], by rw [hU]; exact hP, va_K.moved hW.alike C.2.2.2.1, va_AO.moved hW.alike C.2.2.2.2.1, hD.weaken (fun _ _ _ _ => trivial)⟩⟩ rfl hn hl.1 hst (lv_room hW) hdg ⟨hc, hs⟩) hS (fun q _ h => n_A1 C.2.2.2.2.2.2 hD hS q h) (n_A1 C.2.2.2.2.2.2 hD hS) (fun u t H1 locs1 ht hvm hp hB hz hk hS1 => ?_)
  exact kk u.1 u.2.1 u.2.2 hp H1 locs1 ls (by rw [← ht]; exact hB.1) (hB.2.2.weaken (fun _ q _ h => n_A1 C.2.2.2.2.2.2 hD hS q.1 h)) hS1 hl
end NR
theorem n_like {D : va_G} {cl : List vw_C} {a : Nat} {x y : va_E} {H : Heap} (h : q_like x y) (hx : va_at D cl (a, x) H) : va_at D cl (a, y) H := by
  rcases h with rfl | ⟨c, n, f, g, rfl, rfl, hf⟩
  · exact hx
  · have hx' : H[a]? = some (arrV c n (fun j => va_rf (f j))) := hx
    show H[a]? = some (arrV c n (fun j => va_rf (g j)))
    rw [hx']
    have e : (fun j : Fin n => va_rf (f j.val)) = (fun j : Fin n => va_rf (g j.val)) := funext (fun j => by rw [hf j.1 j.2])
    unfold arrV
    rw [e]
theorem n_wdat {E : qE} {L : List Nat} {G : qG} {σ : qS} {k : Nat} {q : Nat × va_E} (h : (q_wd E L G σ)[k]? = some q) : ∃ a, a ∈ L ∧ L[k]? = some a ∧ q = (a, q_cell E G a (σ a)) := by
  unfold q_wd va_pl at h
  rw [List.getElem?_map] at h
  cases hL : L[k]? with
  | none => rw [hL] at h; cases h
  | some a => rw [hL] at h; exact ⟨a, List.mem_of_getElem? hL, rfl, (Option.some.inj h).symm⟩
theorem n_wdof {E : qE} {L : List Nat} {G : qG} {σ : qS} {k a : Nat} (h : L[k]? = some a) : (q_wd E L G σ)[k]? = some (a, q_cell E G a (σ a)) := by
  unfold q_wd va_pl
  rw [List.getElem?_map, h]
  rfl
theorem n_sameP {E : qE} {L : List Nat} {G G' : qG} {σ : qS} {H : Heap} (h : q_same L G G') (hP : va_P E.1 vwCl (q_wd E L G σ) H) : va_P E.1 vwCl (q_wd E L G' σ) H := by
  intro k q hk
  obtain ⟨a, ha, hL, rfl⟩ := n_wdat hk
  exact n_like (h E a (σ a) ha) (hP k _ (n_wdof hL))
theorem n_sameD {E : qE} {L : List Nat} {G G' : qG} {σ : qS} {A : Nat → Prop} (hD : va_D A (q_wd E L G σ)) : va_D A (q_wd E L G' σ) := by
  refine ⟨fun i j p q hp hq e => ?_, fun k q hk => ?_⟩
  · obtain ⟨a, ha, hL, rfl⟩ := n_wdat hp
    obtain ⟨b, hb, hM, rfl⟩ := n_wdat hq
    exact hD.1 i j (a, q_cell E G a (σ a)) (b, q_cell E G b (σ b)) (n_wdof hL) (n_wdof hM) e
  · obtain ⟨a, ha, hL, rfl⟩ := n_wdat hk
    exact hD.2 k (a, q_cell E G a (σ a)) (n_wdof hL)
theorem n_vret {p : Program} {l : Launch} {e : Env} {R : Room} {s : State} {m : MethodId} {args : Array Value} {below : List Frame} {meth : Method} {c : Code} {cc : ByteArray} {pc : Nat} {A : Nat → Prop} {nL kc ks mc ms : Nat} {Ts : List Cond} {own nm : String} {E : qE} {L : List Nat} {G G' : qG} {σ : qS} {lv : List (Nat × Value)} {post : List Nat → qG → qS → Prop} (C : q_N p s m args meth c cc nL Ts own none nm E A) (hdg : decode cc pc = .ok (.return_, 1)) (hc : kc ≤ mc) (hs : ks ≤ ms) (hg : q_same L G G') (h : post L G' σ) : Wn p l e R s m args below meth c E A (MQ below (va_Qv (fun u : List Nat × qG × qS => post u.1 u.2.1 u.2.2) (q_BN E A) A) args s mc ms A) nL kc ks L G σ pc lv [] := by
  intro H locs ls hP hD hS hl
  replace hP := n_sameP hg hP
  replace hD := n_sameD (G' := G') hD
  refine W.widen hc hs ?_
  exact W.vret C.1.1 C.1.2.1 C.2.1 (fun t ht hW => ⟨⟨(L, G', σ), rfl, h, by rw [ht]; exact hP, va_K.moved hW.alike C.2.2.2.1, hD⟩, hS.F ht⟩) hS.2.2 hdg C.2.2.1
theorem n_met {l : Launch} {y : MethodName} {ws ws' : List Cond} {k mc ms : Nat} {post : List Nat → qG → qS → Prop} {cc : ByteArray} {maxL : Nat} {E : qE} {L : List Nat} {G : qG} {σ : qS} {av : List Value} {own : String} (hy : plainName y.cls = true) (hyn : y.name = "<init>") (hw : ws = Cond.code y cc maxL none :: ws') (ho : y.cls = own) (hlen : (lg_sl av).length ≤ maxL)
    (body : ∀ (p : Program) (e : Env) (s : State) (m : MethodId) (below : List Frame) (meth : Method) (c : Code), q_N p s m av.toArray meth c cc maxL ws own none "<init>" E (q_free L s.heap.size) → Wn p l e (q_rn k mc ms) s m av.toArray below meth c E (q_free L s.heap.size) (MQ below (va_Qv (fun u : List Nat × qG × qS => post u.1 u.2.1 u.2.2) (q_BN E (q_free L s.heap.size)) (q_free L s.heap.size)) av.toArray s mc ms (q_free L s.heap.size)) maxL 0 0 L G σ 0 (lv_args 0 av) []) :
    MtN l E y ws k mc ms av L G σ post := by
  intro sz
  refine Met.ofW (cc := cc) (maxL := maxL) (ret := none) hy hw ?_
  intro p e s m args below meth c s₁ B hml hv
  obtain ⟨rfl, hsz, hP, hK, hO, hD0⟩ := hv
  subst hsz
  subst ho
  have hts := atoms_spec (ws := ws) B.pre
  have hown : s.vm.findClass y.cls = some m.cls := findClass_of_methodNamed B.named
  have hl := lv_entry av (n := maxL) hlen
  have hin : meth.name = "<init>" := by rw [← hyn]; exact (name_of_methodNamed B.named B.method).1
  rw [lg_entry_eq]
  refine body p e s m below meth c ⟨⟨B.exec, B.bytes, hml, hown, hts⟩, B.returns, B.notSynchronized, hK, hO, hin, fun q h => Or.inr h⟩ s.heap [] _ hP ⟨hD0.1, fun k q hk => ?_⟩ va_S.rf hl
  unfold q_wd va_pl at hk
  rw [List.getElem?_map] at hk
  cases h1 : L[k]? with
  | none => rw [h1] at hk; cases hk
  | some a =>
    rw [h1] at hk
    cases hk
    exact Or.inl (List.mem_of_getElem? h1)

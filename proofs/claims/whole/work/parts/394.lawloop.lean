def R_law : String := "IntFileLaw"
def lw_P (b : Addr) (xs : List Int32) (args : Array Value) (s : State) : Prop := args = #[.ref b] ∧ s.IntsAt b xs ∧ xs.length ≤ 2563 ∧ (Jvm.Cond.and given_1 narrow_1).before args s = true
def lw_Q (_ : Array Value) (s : State) (o : Outcome) (t : State) : Prop := o = .returned (some (.int 1)) ∧ Framed s o t [] 600000 7302250
def lw_Z (below : List Frame) (a : Array Value) (s : State) : State → Prop := fun t => ∃ o, t.status = .running ∧ Ended t below o ∧ lw_Q a s o t
/-- the law's own end, with 1 on the stack, nothing written that was there before, its room as the claim has it -/
theorem lw_ret {p : Program} {l : Launch} {e : Env} {s : State} {m : MethodId} {below : List Frame} {meth : Method} {c : Code} {b : Nat} (hx : p.tables.exec = Jvm.exec) (hb : c.code = code) (hr : meth.sig.returnType = ret) (hlocks : meth.locks = false) {pc : Nat} {H : Heap} {ls : Array Slot} (hdg : decode code pc = .ok (.ireturn, 1)) : W p l e room_1 s m #[Value.ref b] below meth c H [] 600000 7302250 (lw_Z below #[Value.ref b] s) (F0 m pc ls [.int 1]) := by
  intro T hT X
  obtain ⟨fs, hret, hrun, hended, hW, hframe⟩ := X.leave (v := some (.int 1)) (hlocks := hlocks) (fun h => by rw [hr] at h; cases h)
  have hmeth' : T.vm.method? m = some meth := X.method'
  refine ⟨T.setFrames fs, ?_, .returned (some (.int 1)), hrun, hended, rfl, ⟨_, rfl⟩, hW, hframe⟩
  jvm_step X.here [X.here.top, hx, hb, hdg, hmeth', hr, ret, narrow_b1]
  (try refine ⟨rfl, ?_⟩); (try refine ⟨rfl, ?_⟩)
  first | (intro acts; rw [hret _ acts rfl rfl rfl]) | rw [hret _ _ rfl rfl rfl]
  exact Steps.refl _
/-- what holds at the law's entry: the machine, the code, the tables' words (any of lw_tbl by 'hts w (by decide +kernel)'), the script of L ints xs at the cell b, what the Statement gives of the start (any of its parts by flat_of_before) -/
def lw_At (p : Program) (s : State) (m : MethodId) (meth : Method) (c : Code) (b L : Nat) (xs : Nat → Int32) : Prop :=
  p.tables.exec = Jvm.exec ∧ c.code = code ∧ meth.sig.returnType = ret ∧ c.maxLocals = 4 ∧ s.vm.findClass R_law = some m.cls ∧ (∀ w ∈ lw_tbl, w.before #[Value.ref b] s = true) ∧ va_X b L xs s s.heap ∧ b < s.heap.size ∧ meth.locks = false ∧ (Jvm.Cond.and given_1 narrow_1).before #[Value.ref b] s = true
theorem mwL_law_0 : Cond.constantLong RL 101 (4294967295) ∈ wsL_law := by decide +kernel
/-! the law's own reads: the script lies outside the world -/
section LR
variable {p : Program} {l : Launch} {e : Env} {R : Room} {s : State} {m : MethodId} {args : Array Value} {below : List Frame} {meth : Method} {c : Code} {Q : State → Prop} {cc : ByteArray} {pc : Nat} {rest : List Value} {A : Nat → Prop} {nL kc ks : Nat} {Ts : List Cond} {own nm : String} {ret : Option FieldType} {E : qE} {L : List Nat} {G : qG} {σ : qS} {lv : List (Nat × Value)}
theorem n_sld (C : q_N p s m args meth c cc nL Ts own ret nm E A) {b N : Nat} {xs : Nat → Int32} (hX : va_X b N xs s s.heap) (hbl : b < s.heap.size) (hbA : ¬ A b) {i : Int32} (hin : vp_in i N) (hdg : decode cc pc = .ok (.iaload, 1)) (k : Wn p l e R s m args below meth c E A Q nL kc ks L G σ (pc + 1) lv (.int (xs i.toNatClampNeg) :: rest)) : Wn p l e R s m args below meth c E A Q nL kc ks L G σ pc lv (.int i :: .ref b :: rest) := fun H locs ls hP hD hS hl => va_sld C.1.1 C.1.2.1 hX hbl hbA hS hin hdg (k H locs ls hP hD hS hl)
theorem n_slen (C : q_N p s m args meth c cc nL Ts own ret nm E A) {b N : Nat} {xs : Nat → Int32} (hX : va_X b N xs s s.heap) (hbl : b < s.heap.size) (hbA : ¬ A b) (hdg : decode cc pc = .ok (.arraylength, 1)) (k : Wn p l e R s m args below meth c E A Q nL kc ks L G σ (pc + 1) lv (.int (nI N) :: rest)) : Wn p l e R s m args below meth c E A Q nL kc ks L G σ pc lv (.ref b :: rest) := fun H locs ls hP hD hS hl => va_slen C.1.1 C.1.2.1 hX hbl hbA hS hdg (k H locs ls hP hD hS hl)
theorem n_Dσ {E : qE} {L : List Nat} {G : qG} {σ σ' : qS} {A : Nat → Prop} (h : va_D A (q_wd E L G σ)) : va_D A (q_wd E L G σ') := by
  have key : ∀ (k : Nat) (q : Nat × va_E), (q_wd E L G σ')[k]? = some q → ∃ e, (q_wd E L G σ)[k]? = some (q.1, e) := by
    intro k q hk
    unfold q_wd va_pl at hk ⊢
    rw [List.getElem?_map] at hk ⊢
    cases h1 : L[k]? with
    | none => rw [h1] at hk; cases hk
    | some a => rw [h1] at hk; cases hk; exact ⟨_, rfl⟩
  refine ⟨fun i j x y hx hy hxy => ?_, fun k q hk => ?_⟩
  · obtain ⟨e1, h1⟩ := key i x hx
    obtain ⟨e2, h2⟩ := key j y hy
    exact h.1 i j _ _ h1 h2 hxy
  · obtain ⟨e1, h1⟩ := key k q hk
    exact h.2 k (q.1, e1) h1
theorem n_cVi (C : q_N p s m args meth c cc nL Ts own ret nm E A) {index n maxL : Nat} {b ci : Nat} {fs : List Value} {Cn : String} {T : u_T} {N : Nat} {y : MethodName} {bytes : ByteArray} {rt : Option FieldType} {ws : List Cond} {rm : Room} {As st : List Value} {post : Int32 → qS → Prop} (hM : MtI l E L G y ws rm (.ref b :: As) σ post) (cw : CallW R s args own Cn index y bytes maxL rt ws rm 0 0 n) (hL : b ∈ L) (he : q_cell E G b (σ b) = .inr (ci, fs)) (hc : vwCl[ci]? = some (Cn, T, N)) (hn : As.length = n) (hst : st = As.reverse ++ .ref b :: rest) (hW : (rest.map fun v => v.category).sum ≤ 8) (hkc : kc ≤ R.cells) (hks : ks ≤ R.slots) (hdg : decode cc pc = .ok (.invokevirtual index, 3)) (kk : ∀ (r : Int32) (σ' : qS), post r σ' → Wn p l e R s m args below meth c E A Q nL kc ks L G σ' (pc + 3) lv (.int r :: rest)) : Wn p l e R s m args below meth c E A Q nL kc ks L G σ pc lv st := by
  intro H locs ls hP hD hS hl
  obtain ⟨q0, h0⟩ := q_at (E := E) (G := G) (σ := σ) hL
  rw [he] at h0
  refine va_calli (va_runV (As := As) (rest := rest) C.1 (hM H.size) cw ⟨fun a U g mk q => by obtain ⟨q0, q1, qP, qK⟩ := q; exact ⟨q0, q1, qP, va_K.moved (u := U) (U := U.calling g mk a) (Vm.Alike.refl U.vm) qK⟩, va_recv C.2.2.2.1 hP hc h0, fun U hU hW => ⟨rfl, by rw [hU], by rw [hU]; exact hP, va_K.moved hW.alike C.2.2.2.1⟩⟩ rfl hn hl.1 hst (lv_room hW) hdg ⟨hkc, hks⟩) hS (fun q _ h => n_A1 C.2.2.2.2.2.2 hD hS q h) (n_A1 C.2.2.2.2.2.2 hD hS) (fun r u t H1 locs1 ht hvm hp hB hz hk hS1 => ?_)
  exact kk r u hp H1 locs1 ls (by rw [← ht]; exact hB.1) (n_Dσ hD) hS1 hl
theorem n_tableOut (C : q_N p s m args meth c cc nL Ts own ret nm E A) {dflt lo hi : Int} {offs : Array Int} {len : Nat} {x : Int32} {tgt : Nat} (hdg : decode cc pc = .ok (.tableswitch dflt lo hi offs, len)) (h : x.toInt < lo ∨ hi < x.toInt) (ht : (pc : Int) + dflt = (tgt : Int)) (k : Wn p l e R s m args below meth c E A Q nL kc ks L G σ tgt lv rest) : Wn p l e R s m args below meth c E A Q nL kc ks L G σ pc lv (.int x :: rest) := fun H locs ls hP hD hS hl => lv_tableOut C.1.1 C.1.2.1 hdg h ht (k H locs ls hP hD hS hl)
theorem n_tableIn (C : q_N p s m args meth c cc nL Ts own ret nm E A) {dflt lo hi : Int} {offs : Array Int} {len : Nat} {x : Int32} {off : Int} {tgt : Nat} (hdg : decode cc pc = .ok (.tableswitch dflt lo hi offs, len)) (h1 : ¬ x.toInt < lo) (h2 : ¬ hi < x.toInt) (ho : offs[(x.toInt - lo).toNat]? = some off) (ht : (pc : Int) + off = (tgt : Int)) (k : Wn p l e R s m args below meth c E A Q nL kc ks L G σ tgt lv rest) : Wn p l e R s m args below meth c E A Q nL kc ks L G σ pc lv (.int x :: rest) := fun H locs ls hP hD hS hl => lv_tableIn C.1.1 C.1.2.1 hdg h1 h2 ho ht (k H locs ls hP hD hS hl)
end LR
/-- cell(script, k) -/
def q_cellv (N : Nat) (xs : Nat → Int32) (k : Nat) : Int32 := if k < N then xs k else 0
set_option maxHeartbeats 4000000 in
set_option maxRecDepth 100000 in
theorem c_cell (l : Launch) {b N : Nat} {xs : Nat → Int32} (hN : N < 2 ^ 31) {k : Nat} (hk : k < 2 ^ 31) (sz : Nat) : Met l yL_cell wsL_cell (q_rm 1) (va_Pc [.ref b, .int (nI k)] (fun U => U.heap.size = sz ∧ va_X b N xs U U.heap ∧ b < sz)) (va_Qi (fun (r : Int32) (_ : Unit) => r = q_cellv N xs k) (fun _ _ => True) (fun q => sz ≤ q)) 0 0 (fun q => sz ≤ q) := by
  refine Met.ofW (cc := cL_cell) (maxL := 2) (ret := (some .int)) (by decide) rfl ?_
  intro p e s m args below meth c s₁ B hml hv
  obtain ⟨rfl, hsz, hX, hbl⟩ := hv
  subst hsz
  have hx := B.exec
  have hb := B.bytes
  have hr := B.returns
  have hlocks := B.notSynchronized
  have hbA : ¬ (fun q : Nat => s.heap.size ≤ q) b := Nat.not_le.mpr hbl
  have hS : va_S (fun q : Nat => s.heap.size ≤ q) s.heap s.heap [] := va_S.rf
  have hl := lv_entry ([.ref b, .int (nI k)]) (n := 2) (Nat.le_of_ble_eq_true rfl)
  rw [lg_entry_eq]
  generalize (lg_sl ([.ref b, .int (nI k)]) ++ List.replicate (2 - (lg_sl ([.ref b, .int (nI k)])).length) Slot.unset).toArray = ls at hl ⊢
  have hl : lv_has ls 2 [(0, .ref b), (1, .int (nI k))] := hl
  refine lv_iload_n hx hb dL_cell_0 rfl (lv_at hl 1 rfl) ?_
  refine lv_aload_n hx hb dL_cell_1 rfl (lv_at hl 0 rfl) ?_
  refine va_slen hx hb hX hbl hbA hS dL_cell_2 ?_
  refine lv_icmp_ge (tgt := 12) hx hb dL_cell_3 (by decide) (fun c1 => ?_) (fun c1 => ?_)
  · have hge : ¬ k < N := fun h => nI_ge h hN c1
    refine lv_iconst (v := 0) hx hb dL_cell_12 (by decide) ?_
    exact W.iret (v := 0) hx hb hr (fun t ht hW => ⟨⟨0, (), rfl, by simp [q_cellv, hge], trivial⟩, hS.F ht⟩) hS.2.2 dL_cell_13
  · have hlt : k < N := by
      rcases Nat.lt_or_ge k N with h | h
      · exact h
      · exact absurd (nI_le h hk) c1
    refine lv_aload_n hx hb dL_cell_6 rfl (lv_at hl 0 rfl) ?_
    refine lv_iload_n hx hb dL_cell_7 rfl (lv_at hl 1 rfl) ?_
    refine va_sld hx hb hX hbl hbA hS (vp_in_nI hlt hN) dL_cell_8 ?_
    refine lv_goto (tgt := 13) hx hb dL_cell_9 (by decide) ?_
    exact W.iret (v := xs (nI k).toNatClampNeg) hx hb hr (fun t ht hW => ⟨⟨_, (), rfl, by rw [nI_clamp hk]; simp [q_cellv, hlt], trivial⟩, hS.F ht⟩) hS.2.2 dL_cell_13
section LR2
variable {p : Program} {l : Launch} {e : Env} {R : Room} {s : State} {m : MethodId} {args : Array Value} {below : List Frame} {meth : Method} {c : Code} {Q : State → Prop} {cc : ByteArray} {pc : Nat} {rest : List Value} {A : Nat → Prop} {nL kc ks : Nat} {Ts : List Cond} {own nm : String} {ret : Option FieldType} {E : qE} {L : List Nat} {G : qG} {σ : qS} {lv : List (Nat × Value)}
theorem n_cell (C : q_N p s m args meth c cc nL Ts own ret nm E A) {b N k index : Nat} {xs : Nat → Int32} (hX : va_X b N xs s s.heap) (hbl : b < s.heap.size) (hbA : ¬ A b) (hN : N < 2 ^ 31) (hk : k < 2 ^ 31) (cw : CallB R s args own index yL_cell cL_cell 2 (some .int) wsL_cell (q_rm 1) 0 0 2 ∧ (Cond.static yL_cell).before args s = true) (hW : (rest.map fun v => v.category).sum ≤ 8) (hc : kc ≤ R.cells) (hs : ks ≤ R.slots) (hdg : decode cc pc = .ok (.invokestatic index, 3)) (kk : Wn p l e R s m args below meth c E A Q nL kc ks L G σ (pc + 3) lv (.int (q_cellv N xs k) :: rest)) : Wn p l e R s m args below meth c E A Q nL kc ks L G σ pc lv (.int (nI k) :: .ref b :: rest) := by
  intro H locs ls hP hD hS hl
  have g1 : ∀ q, q < H.size → H.size ≤ q → A q := fun q h1 h2 => absurd h1 (Nat.not_lt.mpr h2)
  have g2 : ∀ q, H.size ≤ q → A q := fun q h => C.2.2.2.2.2.2 q (Nat.le_trans hS.1 h)
  have hXH : va_X b N xs s H := hX.kept (hS.2.1 b hbl hbA)
  refine va_calli (va_runS (As := [.ref b, .int (nI k)]) (rest := rest) C.1 (c_cell l (b := b) (xs := xs) hN hk H.size) cw ⟨fun a U g mk q => by obtain ⟨q0, q1, q2, q3⟩ := q; exact ⟨q0, q1, va_X.moved (u := U) (U := U.calling g mk a) (Vm.Alike.refl U.vm) q2, q3⟩, fun U hU hW => ⟨rfl, by rw [hU], by rw [hU]; exact va_X.moved hW.alike hXH, Nat.lt_of_lt_of_le hbl hS.1⟩⟩ rfl rfl hl.1 rfl (lv_room hW) hdg ⟨hc, hs⟩) hS g1 g2 (fun r u t H1 locs1 ht hvm hp hB hz hk hS1 => ?_)
  have hP1 : va_P E.1 vwCl (q_wd E L G σ) H1 := hP.kept (fun k q hq => hk q.1 (hP k q hq).lt (fun h => absurd (hP k q hq).lt (Nat.not_lt.mpr h)))
  rw [hp]
  exact kk H1 locs1 ls hP1 hD hS1 hl
end LR2
def lc0 (G : qG) (q1 q3 N : Nat) (xs : Nat → Int32) (i : Int32) (kb : qS → Prop) (σ : qS) : Prop := vp_in (i + 1) N ∧ vp_in (i + 2) N ∧ wpX5_set G q1 (xs (i + 1).toNatClampNeg) (xs (i + 2).toNatClampNeg) σ (fun (u3 : Int32) (σ4 : qS) => vp_in (i + 1) N ∧ vp_in (i + 2) N ∧ wpX6_set G q3 (xs (i + 1).toNatClampNeg) (xs (i + 2).toNatClampNeg) σ4 (fun (u7 : Int32) (σ8 : qS) => u3 = u7 ∧ kb σ8))
set_option maxHeartbeats 4000000 in
set_option maxRecDepth 100000 in
theorem slc0 {p : Program} {l : Launch} {e : Env} {s : State} {m : MethodId} {below : List Frame} {meth : Method} {c : Code} {E : qE} {A : Nat → Prop} {b N : Nat} {xs : Nat → Int32} {L : List Nat} {G : qG} {q1 q3 : Nat} (C : q_N p s m #[Value.ref b] meth c code 4 wsL_law RL ret meth.name E A) (hX : va_X b N xs s s.heap) (hbl : b < s.heap.size) (hbA : ¬ A b) (hNd : L.Nodup) (hG : q_WF G L) (L1 : q1 ∈ L) (K1 : G.1 q1 = 5) (L3 : q3 ∈ L) (K3 : G.1 q3 = 6) {i : Int32} {kb : qS → Prop} (Hb : ∀ τ : qS, kb τ → Wn p l e room_1 s m #[Value.ref b] below meth c E A (lw_Z below #[Value.ref b] s) 4 600000 7302250 L G τ 933 [(0, .ref b), (1, .ref q1), (2, .ref q3), (3, .int i)] []) {σ : qS} (h : lc0 G q1 q3 N xs i kb σ) : Wn p l e room_1 s m #[Value.ref b] below meth c E A (lw_Z below #[Value.ref b] s) 4 600000 7302250 L G σ 160 [(0, .ref b), (1, .ref q1), (2, .ref q3), (3, .int i)] [] := by
  unfold lc0 at h
  refine n_aload_n (pc := 160) C dL_law_160 rfl 1 rfl ?_
  refine n_aload_n (pc := 161) C dL_law_161 rfl 0 rfl ?_
  refine n_iload_n (pc := 162) C dL_law_162 rfl 3 rfl ?_
  refine n_iconst (pc := 163) (v := 1) C dL_law_163 (by decide) ?_
  refine n_iadd (pc := 164) C dL_law_164 ?_
  obtain ⟨z1, h⟩ := h
  refine n_sld (pc := 165) C hX hbl hbA z1 dL_law_165 ?_
  refine n_aload_n (pc := 166) C dL_law_166 rfl 0 rfl ?_
  refine n_iload_n (pc := 167) C dL_law_167 rfl 3 rfl ?_
  refine n_iconst (pc := 168) (v := 2) C dL_law_168 (by decide) ?_
  refine n_iadd (pc := 169) C dL_law_169 ?_
  obtain ⟨z2, h⟩ := h
  refine n_sld (pc := 170) C hX hbl hbA z2 dL_law_170 ?_
  refine n_cVi (pc := 171) (As := [.int (xs (i + 1).toNatClampNeg), .int (xs (i + 2).toNatClampNeg)]) (ci := 5) (Cn := RX5) (T := TX5) (N := 9) C (sdX5_set hNd hG L1 K1 h) (cwV 2 C.1.2.2.2.2 gL_law_X5_set rfl rfl rfl (by decide +kernel) ⟨Nat.le_of_ble_eq_true rfl, Nat.le_of_ble_eq_true rfl⟩) L1 (qc5 K1 _) rfl rfl rfl (Nat.le_of_ble_eq_true rfl) (Nat.le_refl _) (Nat.le_refl _) dL_law_171 (fun u3 σ4 h => ?_)
  refine n_aload_n (pc := 174) C dL_law_174 rfl 2 rfl ?_
  refine n_aload_n (pc := 175) C dL_law_175 rfl 0 rfl ?_
  refine n_iload_n (pc := 176) C dL_law_176 rfl 3 rfl ?_
  refine n_iconst (pc := 177) (v := 1) C dL_law_177 (by decide) ?_
  refine n_iadd (pc := 178) C dL_law_178 ?_
  obtain ⟨z5, h⟩ := h
  refine n_sld (pc := 179) C hX hbl hbA z5 dL_law_179 ?_
  refine n_aload_n (pc := 180) C dL_law_180 rfl 0 rfl ?_
  refine n_iload_n (pc := 181) C dL_law_181 rfl 3 rfl ?_
  refine n_iconst (pc := 182) (v := 2) C dL_law_182 (by decide) ?_
  refine n_iadd (pc := 183) C dL_law_183 ?_
  obtain ⟨z6, h⟩ := h
  refine n_sld (pc := 184) C hX hbl hbA z6 dL_law_184 ?_
  refine n_cVi (pc := 185) (As := [.int (xs (i + 1).toNatClampNeg), .int (xs (i + 2).toNatClampNeg)]) (ci := 6) (Cn := RX6) (T := TX6) (N := 9) C (sdX6_set hNd hG L3 K3 h) (cwV 2 C.1.2.2.2.2 gL_law_X6_set rfl rfl rfl (by decide +kernel) ⟨Nat.le_of_ble_eq_true rfl, Nat.le_of_ble_eq_true rfl⟩) L3 (qc6 K3 _) rfl rfl rfl (Nat.le_of_ble_eq_true rfl) (Nat.le_refl _) (Nat.le_refl _) dL_law_185 (fun u7 σ8 h => ?_)
  obtain ⟨zq, h⟩ := h
  refine n_icmp_eq (tgt := 933) (pc := 188) C dL_law_188 (by decide) (fun _ => ?_) (fun cq => absurd zq cq)
  exact Hb σ8 h
def lc1 (G : qG) (q1 q3 N : Nat) (xs : Nat → Int32) (i : Int32) (kb : qS → Prop) (σ : qS) : Prop := vp_in (i + 1) N ∧ vp_in (i + 2) N ∧ wpX5_push G q1 (xs (i + 1).toNatClampNeg) (xs (i + 2).toNatClampNeg) σ (fun (u3 : Int32) (σ4 : qS) => vp_in (i + 1) N ∧ vp_in (i + 2) N ∧ wpX6_push G q3 (xs (i + 1).toNatClampNeg) (xs (i + 2).toNatClampNeg) σ4 (fun (u7 : Int32) (σ8 : qS) => u3 = u7 ∧ kb σ8))
set_option maxHeartbeats 4000000 in
set_option maxRecDepth 100000 in
theorem slc1 {p : Program} {l : Launch} {e : Env} {s : State} {m : MethodId} {below : List Frame} {meth : Method} {c : Code} {E : qE} {A : Nat → Prop} {b N : Nat} {xs : Nat → Int32} {L : List Nat} {G : qG} {q1 q3 : Nat} (C : q_N p s m #[Value.ref b] meth c code 4 wsL_law RL ret meth.name E A) (hX : va_X b N xs s s.heap) (hbl : b < s.heap.size) (hbA : ¬ A b) (hNd : L.Nodup) (hG : q_WF G L) (L1 : q1 ∈ L) (K1 : G.1 q1 = 5) (L3 : q3 ∈ L) (K3 : G.1 q3 = 6) {i : Int32} {kb : qS → Prop} (Hb : ∀ τ : qS, kb τ → Wn p l e room_1 s m #[Value.ref b] below meth c E A (lw_Z below #[Value.ref b] s) 4 600000 7302250 L G τ 933 [(0, .ref b), (1, .ref q1), (2, .ref q3), (3, .int i)] []) {σ : qS} (h : lc1 G q1 q3 N xs i kb σ) : Wn p l e room_1 s m #[Value.ref b] below meth c E A (lw_Z below #[Value.ref b] s) 4 600000 7302250 L G σ 193 [(0, .ref b), (1, .ref q1), (2, .ref q3), (3, .int i)] [] := by
  unfold lc1 at h
  refine n_aload_n (pc := 193) C dL_law_193 rfl 1 rfl ?_
  refine n_aload_n (pc := 194) C dL_law_194 rfl 0 rfl ?_
  refine n_iload_n (pc := 195) C dL_law_195 rfl 3 rfl ?_
  refine n_iconst (pc := 196) (v := 1) C dL_law_196 (by decide) ?_
  refine n_iadd (pc := 197) C dL_law_197 ?_
  obtain ⟨z1, h⟩ := h
  refine n_sld (pc := 198) C hX hbl hbA z1 dL_law_198 ?_
  refine n_aload_n (pc := 199) C dL_law_199 rfl 0 rfl ?_
  refine n_iload_n (pc := 200) C dL_law_200 rfl 3 rfl ?_
  refine n_iconst (pc := 201) (v := 2) C dL_law_201 (by decide) ?_
  refine n_iadd (pc := 202) C dL_law_202 ?_
  obtain ⟨z2, h⟩ := h
  refine n_sld (pc := 203) C hX hbl hbA z2 dL_law_203 ?_
  refine n_cVi (pc := 204) (As := [.int (xs (i + 1).toNatClampNeg), .int (xs (i + 2).toNatClampNeg)]) (ci := 5) (Cn := RX5) (T := TX5) (N := 9) C (sdX5_push hNd hG L1 K1 h) (cwV 2 C.1.2.2.2.2 gL_law_X5_push rfl rfl rfl (by decide +kernel) ⟨Nat.le_of_ble_eq_true rfl, Nat.le_of_ble_eq_true rfl⟩) L1 (qc5 K1 _) rfl rfl rfl (Nat.le_of_ble_eq_true rfl) (Nat.le_refl _) (Nat.le_refl _) dL_law_204 (fun u3 σ4 h => ?_)
  refine n_aload_n (pc := 207) C dL_law_207 rfl 2 rfl ?_
  refine n_aload_n (pc := 208) C dL_law_208 rfl 0 rfl ?_
  refine n_iload_n (pc := 209) C dL_law_209 rfl 3 rfl ?_
  refine n_iconst (pc := 210) (v := 1) C dL_law_210 (by decide) ?_
  refine n_iadd (pc := 211) C dL_law_211 ?_
  obtain ⟨z5, h⟩ := h
  refine n_sld (pc := 212) C hX hbl hbA z5 dL_law_212 ?_
  refine n_aload_n (pc := 213) C dL_law_213 rfl 0 rfl ?_
  refine n_iload_n (pc := 214) C dL_law_214 rfl 3 rfl ?_
  refine n_iconst (pc := 215) (v := 2) C dL_law_215 (by decide) ?_
  refine n_iadd (pc := 216) C dL_law_216 ?_
  obtain ⟨z6, h⟩ := h
  refine n_sld (pc := 217) C hX hbl hbA z6 dL_law_217 ?_
  refine n_cVi (pc := 218) (As := [.int (xs (i + 1).toNatClampNeg), .int (xs (i + 2).toNatClampNeg)]) (ci := 6) (Cn := RX6) (T := TX6) (N := 9) C (sdX6_push hNd hG L3 K3 h) (cwV 2 C.1.2.2.2.2 gL_law_X6_push rfl rfl rfl (by decide +kernel) ⟨Nat.le_of_ble_eq_true rfl, Nat.le_of_ble_eq_true rfl⟩) L3 (qc6 K3 _) rfl rfl rfl (Nat.le_of_ble_eq_true rfl) (Nat.le_refl _) (Nat.le_refl _) dL_law_218 (fun u7 σ8 h => ?_)
  obtain ⟨zq, h⟩ := h
  refine n_icmp_eq (tgt := 933) (pc := 221) C dL_law_221 (by decide) (fun _ => ?_) (fun cq => absurd zq cq)
  exact Hb σ8 h
def lc2 (G : qG) (q1 q3 N : Nat) (xs : Nat → Int32) (i : Int32) (kb : qS → Prop) (σ : qS) : Prop := vp_in (i + 1) N ∧ vp_in (i + 2) N ∧ wpX5_copy G q1 (xs (i + 1).toNatClampNeg) (xs (i + 2).toNatClampNeg) σ (fun (u3 : Int32) (σ4 : qS) => vp_in (i + 1) N ∧ vp_in (i + 2) N ∧ wpX6_copy G q3 (xs (i + 1).toNatClampNeg) (xs (i + 2).toNatClampNeg) σ4 (fun (u7 : Int32) (σ8 : qS) => u3 = u7 ∧ kb σ8))
set_option maxHeartbeats 4000000 in
set_option maxRecDepth 100000 in
theorem slc2 {p : Program} {l : Launch} {e : Env} {s : State} {m : MethodId} {below : List Frame} {meth : Method} {c : Code} {E : qE} {A : Nat → Prop} {b N : Nat} {xs : Nat → Int32} {L : List Nat} {G : qG} {q1 q3 : Nat} (C : q_N p s m #[Value.ref b] meth c code 4 wsL_law RL ret meth.name E A) (hX : va_X b N xs s s.heap) (hbl : b < s.heap.size) (hbA : ¬ A b) (hNd : L.Nodup) (hG : q_WF G L) (L1 : q1 ∈ L) (K1 : G.1 q1 = 5) (L3 : q3 ∈ L) (K3 : G.1 q3 = 6) {i : Int32} {kb : qS → Prop} (Hb : ∀ τ : qS, kb τ → Wn p l e room_1 s m #[Value.ref b] below meth c E A (lw_Z below #[Value.ref b] s) 4 600000 7302250 L G τ 933 [(0, .ref b), (1, .ref q1), (2, .ref q3), (3, .int i)] []) {σ : qS} (h : lc2 G q1 q3 N xs i kb σ) : Wn p l e room_1 s m #[Value.ref b] below meth c E A (lw_Z below #[Value.ref b] s) 4 600000 7302250 L G σ 226 [(0, .ref b), (1, .ref q1), (2, .ref q3), (3, .int i)] [] := by
  unfold lc2 at h
  refine n_aload_n (pc := 226) C dL_law_226 rfl 1 rfl ?_
  refine n_aload_n (pc := 227) C dL_law_227 rfl 0 rfl ?_
  refine n_iload_n (pc := 228) C dL_law_228 rfl 3 rfl ?_
  refine n_iconst (pc := 229) (v := 1) C dL_law_229 (by decide) ?_
  refine n_iadd (pc := 230) C dL_law_230 ?_
  obtain ⟨z1, h⟩ := h
  refine n_sld (pc := 231) C hX hbl hbA z1 dL_law_231 ?_
  refine n_aload_n (pc := 232) C dL_law_232 rfl 0 rfl ?_
  refine n_iload_n (pc := 233) C dL_law_233 rfl 3 rfl ?_
  refine n_iconst (pc := 234) (v := 2) C dL_law_234 (by decide) ?_
  refine n_iadd (pc := 235) C dL_law_235 ?_
  obtain ⟨z2, h⟩ := h
  refine n_sld (pc := 236) C hX hbl hbA z2 dL_law_236 ?_
  refine n_cVi (pc := 237) (As := [.int (xs (i + 1).toNatClampNeg), .int (xs (i + 2).toNatClampNeg)]) (ci := 5) (Cn := RX5) (T := TX5) (N := 9) C (sdX5_copy hNd hG L1 K1 h) (cwV 2 C.1.2.2.2.2 gL_law_X5_copy rfl rfl rfl (by decide +kernel) ⟨Nat.le_of_ble_eq_true rfl, Nat.le_of_ble_eq_true rfl⟩) L1 (qc5 K1 _) rfl rfl rfl (Nat.le_of_ble_eq_true rfl) (Nat.le_refl _) (Nat.le_refl _) dL_law_237 (fun u3 σ4 h => ?_)
  refine n_aload_n (pc := 240) C dL_law_240 rfl 2 rfl ?_
  refine n_aload_n (pc := 241) C dL_law_241 rfl 0 rfl ?_
  refine n_iload_n (pc := 242) C dL_law_242 rfl 3 rfl ?_
  refine n_iconst (pc := 243) (v := 1) C dL_law_243 (by decide) ?_
  refine n_iadd (pc := 244) C dL_law_244 ?_
  obtain ⟨z5, h⟩ := h
  refine n_sld (pc := 245) C hX hbl hbA z5 dL_law_245 ?_
  refine n_aload_n (pc := 246) C dL_law_246 rfl 0 rfl ?_
  refine n_iload_n (pc := 247) C dL_law_247 rfl 3 rfl ?_
  refine n_iconst (pc := 248) (v := 2) C dL_law_248 (by decide) ?_
  refine n_iadd (pc := 249) C dL_law_249 ?_
  obtain ⟨z6, h⟩ := h
  refine n_sld (pc := 250) C hX hbl hbA z6 dL_law_250 ?_
  refine n_cVi (pc := 251) (As := [.int (xs (i + 1).toNatClampNeg), .int (xs (i + 2).toNatClampNeg)]) (ci := 6) (Cn := RX6) (T := TX6) (N := 9) C (sdX6_copy hNd hG L3 K3 h) (cwV 2 C.1.2.2.2.2 gL_law_X6_copy rfl rfl rfl (by decide +kernel) ⟨Nat.le_of_ble_eq_true rfl, Nat.le_of_ble_eq_true rfl⟩) L3 (qc6 K3 _) rfl rfl rfl (Nat.le_of_ble_eq_true rfl) (Nat.le_refl _) (Nat.le_refl _) dL_law_251 (fun u7 σ8 h => ?_)
  obtain ⟨zq, h⟩ := h
  refine n_icmp_eq (tgt := 933) (pc := 254) C dL_law_254 (by decide) (fun _ => ?_) (fun cq => absurd zq cq)
  exact Hb σ8 h
def lc3 (G : qG) (q1 q3 N : Nat) (xs : Nat → Int32) (i : Int32) (kb : qS → Prop) (σ : qS) : Prop := vp_in (i + 1) N ∧ wpX5_neg G q1 (xs (i + 1).toNatClampNeg) σ (fun (u2 : Int32) (σ3 : qS) => vp_in (i + 1) N ∧ wpX6_neg G q3 (xs (i + 1).toNatClampNeg) σ3 (fun (u5 : Int32) (σ6 : qS) => u2 = u5 ∧ kb σ6))
set_option maxHeartbeats 4000000 in
set_option maxRecDepth 100000 in
theorem slc3 {p : Program} {l : Launch} {e : Env} {s : State} {m : MethodId} {below : List Frame} {meth : Method} {c : Code} {E : qE} {A : Nat → Prop} {b N : Nat} {xs : Nat → Int32} {L : List Nat} {G : qG} {q1 q3 : Nat} (C : q_N p s m #[Value.ref b] meth c code 4 wsL_law RL ret meth.name E A) (hX : va_X b N xs s s.heap) (hbl : b < s.heap.size) (hbA : ¬ A b) (hNd : L.Nodup) (hG : q_WF G L) (L1 : q1 ∈ L) (K1 : G.1 q1 = 5) (L3 : q3 ∈ L) (K3 : G.1 q3 = 6) {i : Int32} {kb : qS → Prop} (Hb : ∀ τ : qS, kb τ → Wn p l e room_1 s m #[Value.ref b] below meth c E A (lw_Z below #[Value.ref b] s) 4 600000 7302250 L G τ 933 [(0, .ref b), (1, .ref q1), (2, .ref q3), (3, .int i)] []) {σ : qS} (h : lc3 G q1 q3 N xs i kb σ) : Wn p l e room_1 s m #[Value.ref b] below meth c E A (lw_Z below #[Value.ref b] s) 4 600000 7302250 L G σ 259 [(0, .ref b), (1, .ref q1), (2, .ref q3), (3, .int i)] [] := by
  unfold lc3 at h
  refine n_aload_n (pc := 259) C dL_law_259 rfl 1 rfl ?_
  refine n_aload_n (pc := 260) C dL_law_260 rfl 0 rfl ?_
  refine n_iload_n (pc := 261) C dL_law_261 rfl 3 rfl ?_
  refine n_iconst (pc := 262) (v := 1) C dL_law_262 (by decide) ?_
  refine n_iadd (pc := 263) C dL_law_263 ?_
  obtain ⟨z1, h⟩ := h
  refine n_sld (pc := 264) C hX hbl hbA z1 dL_law_264 ?_
  refine n_cVi (pc := 265) (As := [.int (xs (i + 1).toNatClampNeg)]) (ci := 5) (Cn := RX5) (T := TX5) (N := 9) C (sdX5_neg hNd hG L1 K1 h) (cwV 1 C.1.2.2.2.2 gL_law_X5_neg rfl rfl rfl (by decide +kernel) ⟨Nat.le_of_ble_eq_true rfl, Nat.le_of_ble_eq_true rfl⟩) L1 (qc5 K1 _) rfl rfl rfl (Nat.le_of_ble_eq_true rfl) (Nat.le_refl _) (Nat.le_refl _) dL_law_265 (fun u2 σ3 h => ?_)
  refine n_aload_n (pc := 268) C dL_law_268 rfl 2 rfl ?_
  refine n_aload_n (pc := 269) C dL_law_269 rfl 0 rfl ?_
  refine n_iload_n (pc := 270) C dL_law_270 rfl 3 rfl ?_
  refine n_iconst (pc := 271) (v := 1) C dL_law_271 (by decide) ?_
  refine n_iadd (pc := 272) C dL_law_272 ?_
  obtain ⟨z4, h⟩ := h
  refine n_sld (pc := 273) C hX hbl hbA z4 dL_law_273 ?_
  refine n_cVi (pc := 274) (As := [.int (xs (i + 1).toNatClampNeg)]) (ci := 6) (Cn := RX6) (T := TX6) (N := 9) C (sdX6_neg hNd hG L3 K3 h) (cwV 1 C.1.2.2.2.2 gL_law_X6_neg rfl rfl rfl (by decide +kernel) ⟨Nat.le_of_ble_eq_true rfl, Nat.le_of_ble_eq_true rfl⟩) L3 (qc6 K3 _) rfl rfl rfl (Nat.le_of_ble_eq_true rfl) (Nat.le_refl _) (Nat.le_refl _) dL_law_274 (fun u5 σ6 h => ?_)
  obtain ⟨zq, h⟩ := h
  refine n_icmp_eq (tgt := 933) (pc := 277) C dL_law_277 (by decide) (fun _ => ?_) (fun cq => absurd zq cq)
  exact Hb σ6 h
def lc4 (G : qG) (q1 q3 N : Nat) (xs : Nat → Int32) (i : Int32) (kb : qS → Prop) (σ : qS) : Prop := vp_in (i + 1) N ∧ vp_in (i + 2) N ∧ vp_in (i + 3) N ∧ wpX5_add G q1 (xs (i + 1).toNatClampNeg) (xs (i + 2).toNatClampNeg) (xs (i + 3).toNatClampNeg) σ (fun (u4 : Int32) (σ5 : qS) => vp_in (i + 1) N ∧ vp_in (i + 2) N ∧ vp_in (i + 3) N ∧ wpX6_add G q3 (xs (i + 1).toNatClampNeg) (xs (i + 2).toNatClampNeg) (xs (i + 3).toNatClampNeg) σ5 (fun (u9 : Int32) (σ10 : qS) => u4 = u9 ∧ kb σ10))
set_option maxHeartbeats 4000000 in
set_option maxRecDepth 100000 in
theorem slc4 {p : Program} {l : Launch} {e : Env} {s : State} {m : MethodId} {below : List Frame} {meth : Method} {c : Code} {E : qE} {A : Nat → Prop} {b N : Nat} {xs : Nat → Int32} {L : List Nat} {G : qG} {q1 q3 : Nat} (C : q_N p s m #[Value.ref b] meth c code 4 wsL_law RL ret meth.name E A) (hX : va_X b N xs s s.heap) (hbl : b < s.heap.size) (hbA : ¬ A b) (hNd : L.Nodup) (hG : q_WF G L) (L1 : q1 ∈ L) (K1 : G.1 q1 = 5) (L3 : q3 ∈ L) (K3 : G.1 q3 = 6) {i : Int32} {kb : qS → Prop} (Hb : ∀ τ : qS, kb τ → Wn p l e room_1 s m #[Value.ref b] below meth c E A (lw_Z below #[Value.ref b] s) 4 600000 7302250 L G τ 933 [(0, .ref b), (1, .ref q1), (2, .ref q3), (3, .int i)] []) {σ : qS} (h : lc4 G q1 q3 N xs i kb σ) : Wn p l e room_1 s m #[Value.ref b] below meth c E A (lw_Z below #[Value.ref b] s) 4 600000 7302250 L G σ 282 [(0, .ref b), (1, .ref q1), (2, .ref q3), (3, .int i)] [] := by
  unfold lc4 at h
  refine n_aload_n (pc := 282) C dL_law_282 rfl 1 rfl ?_
  refine n_aload_n (pc := 283) C dL_law_283 rfl 0 rfl ?_
  refine n_iload_n (pc := 284) C dL_law_284 rfl 3 rfl ?_
  refine n_iconst (pc := 285) (v := 1) C dL_law_285 (by decide) ?_
  refine n_iadd (pc := 286) C dL_law_286 ?_
  obtain ⟨z1, h⟩ := h
  refine n_sld (pc := 287) C hX hbl hbA z1 dL_law_287 ?_
  refine n_aload_n (pc := 288) C dL_law_288 rfl 0 rfl ?_
  refine n_iload_n (pc := 289) C dL_law_289 rfl 3 rfl ?_
  refine n_iconst (pc := 290) (v := 2) C dL_law_290 (by decide) ?_
  refine n_iadd (pc := 291) C dL_law_291 ?_
  obtain ⟨z2, h⟩ := h
  refine n_sld (pc := 292) C hX hbl hbA z2 dL_law_292 ?_
  refine n_aload_n (pc := 293) C dL_law_293 rfl 0 rfl ?_
  refine n_iload_n (pc := 294) C dL_law_294 rfl 3 rfl ?_
  refine n_iconst (pc := 295) (v := 3) C dL_law_295 (by decide) ?_
  refine n_iadd (pc := 296) C dL_law_296 ?_
  obtain ⟨z3, h⟩ := h
  refine n_sld (pc := 297) C hX hbl hbA z3 dL_law_297 ?_
  refine n_cVi (pc := 298) (As := [.int (xs (i + 1).toNatClampNeg), .int (xs (i + 2).toNatClampNeg), .int (xs (i + 3).toNatClampNeg)]) (ci := 5) (Cn := RX5) (T := TX5) (N := 9) C (sdX5_add hNd hG L1 K1 h) (cwV 3 C.1.2.2.2.2 gL_law_X5_add rfl rfl rfl (by decide +kernel) ⟨Nat.le_of_ble_eq_true rfl, Nat.le_of_ble_eq_true rfl⟩) L1 (qc5 K1 _) rfl rfl rfl (Nat.le_of_ble_eq_true rfl) (Nat.le_refl _) (Nat.le_refl _) dL_law_298 (fun u4 σ5 h => ?_)
  refine n_aload_n (pc := 301) C dL_law_301 rfl 2 rfl ?_
  refine n_aload_n (pc := 302) C dL_law_302 rfl 0 rfl ?_
  refine n_iload_n (pc := 303) C dL_law_303 rfl 3 rfl ?_
  refine n_iconst (pc := 304) (v := 1) C dL_law_304 (by decide) ?_
  refine n_iadd (pc := 305) C dL_law_305 ?_
  obtain ⟨z6, h⟩ := h
  refine n_sld (pc := 306) C hX hbl hbA z6 dL_law_306 ?_
  refine n_aload_n (pc := 307) C dL_law_307 rfl 0 rfl ?_
  refine n_iload_n (pc := 308) C dL_law_308 rfl 3 rfl ?_
  refine n_iconst (pc := 309) (v := 2) C dL_law_309 (by decide) ?_
  refine n_iadd (pc := 310) C dL_law_310 ?_
  obtain ⟨z7, h⟩ := h
  refine n_sld (pc := 311) C hX hbl hbA z7 dL_law_311 ?_
  refine n_aload_n (pc := 312) C dL_law_312 rfl 0 rfl ?_
  refine n_iload_n (pc := 313) C dL_law_313 rfl 3 rfl ?_
  refine n_iconst (pc := 314) (v := 3) C dL_law_314 (by decide) ?_
  refine n_iadd (pc := 315) C dL_law_315 ?_
  obtain ⟨z8, h⟩ := h
  refine n_sld (pc := 316) C hX hbl hbA z8 dL_law_316 ?_
  refine n_cVi (pc := 317) (As := [.int (xs (i + 1).toNatClampNeg), .int (xs (i + 2).toNatClampNeg), .int (xs (i + 3).toNatClampNeg)]) (ci := 6) (Cn := RX6) (T := TX6) (N := 9) C (sdX6_add hNd hG L3 K3 h) (cwV 3 C.1.2.2.2.2 gL_law_X6_add rfl rfl rfl (by decide +kernel) ⟨Nat.le_of_ble_eq_true rfl, Nat.le_of_ble_eq_true rfl⟩) L3 (qc6 K3 _) rfl rfl rfl (Nat.le_of_ble_eq_true rfl) (Nat.le_refl _) (Nat.le_refl _) dL_law_317 (fun u9 σ10 h => ?_)
  obtain ⟨zq, h⟩ := h
  refine n_icmp_eq (tgt := 933) (pc := 320) C dL_law_320 (by decide) (fun _ => ?_) (fun cq => absurd zq cq)
  exact Hb σ10 h
def lc5 (G : qG) (q1 q3 N : Nat) (xs : Nat → Int32) (i : Int32) (kb : qS → Prop) (σ : qS) : Prop := vp_in (i + 1) N ∧ vp_in (i + 2) N ∧ vp_in (i + 3) N ∧ wpX5_sub G q1 (xs (i + 1).toNatClampNeg) (xs (i + 2).toNatClampNeg) (xs (i + 3).toNatClampNeg) σ (fun (u4 : Int32) (σ5 : qS) => vp_in (i + 1) N ∧ vp_in (i + 2) N ∧ vp_in (i + 3) N ∧ wpX6_sub G q3 (xs (i + 1).toNatClampNeg) (xs (i + 2).toNatClampNeg) (xs (i + 3).toNatClampNeg) σ5 (fun (u9 : Int32) (σ10 : qS) => u4 = u9 ∧ kb σ10))
set_option maxHeartbeats 4000000 in
set_option maxRecDepth 100000 in
theorem slc5 {p : Program} {l : Launch} {e : Env} {s : State} {m : MethodId} {below : List Frame} {meth : Method} {c : Code} {E : qE} {A : Nat → Prop} {b N : Nat} {xs : Nat → Int32} {L : List Nat} {G : qG} {q1 q3 : Nat} (C : q_N p s m #[Value.ref b] meth c code 4 wsL_law RL ret meth.name E A) (hX : va_X b N xs s s.heap) (hbl : b < s.heap.size) (hbA : ¬ A b) (hNd : L.Nodup) (hG : q_WF G L) (L1 : q1 ∈ L) (K1 : G.1 q1 = 5) (L3 : q3 ∈ L) (K3 : G.1 q3 = 6) {i : Int32} {kb : qS → Prop} (Hb : ∀ τ : qS, kb τ → Wn p l e room_1 s m #[Value.ref b] below meth c E A (lw_Z below #[Value.ref b] s) 4 600000 7302250 L G τ 933 [(0, .ref b), (1, .ref q1), (2, .ref q3), (3, .int i)] []) {σ : qS} (h : lc5 G q1 q3 N xs i kb σ) : Wn p l e room_1 s m #[Value.ref b] below meth c E A (lw_Z below #[Value.ref b] s) 4 600000 7302250 L G σ 325 [(0, .ref b), (1, .ref q1), (2, .ref q3), (3, .int i)] [] := by
  unfold lc5 at h
  refine n_aload_n (pc := 325) C dL_law_325 rfl 1 rfl ?_
  refine n_aload_n (pc := 326) C dL_law_326 rfl 0 rfl ?_
  refine n_iload_n (pc := 327) C dL_law_327 rfl 3 rfl ?_
  refine n_iconst (pc := 328) (v := 1) C dL_law_328 (by decide) ?_
  refine n_iadd (pc := 329) C dL_law_329 ?_
  obtain ⟨z1, h⟩ := h
  refine n_sld (pc := 330) C hX hbl hbA z1 dL_law_330 ?_
  refine n_aload_n (pc := 331) C dL_law_331 rfl 0 rfl ?_
  refine n_iload_n (pc := 332) C dL_law_332 rfl 3 rfl ?_
  refine n_iconst (pc := 333) (v := 2) C dL_law_333 (by decide) ?_
  refine n_iadd (pc := 334) C dL_law_334 ?_
  obtain ⟨z2, h⟩ := h
  refine n_sld (pc := 335) C hX hbl hbA z2 dL_law_335 ?_
  refine n_aload_n (pc := 336) C dL_law_336 rfl 0 rfl ?_
  refine n_iload_n (pc := 337) C dL_law_337 rfl 3 rfl ?_
  refine n_iconst (pc := 338) (v := 3) C dL_law_338 (by decide) ?_
  refine n_iadd (pc := 339) C dL_law_339 ?_
  obtain ⟨z3, h⟩ := h
  refine n_sld (pc := 340) C hX hbl hbA z3 dL_law_340 ?_
  refine n_cVi (pc := 341) (As := [.int (xs (i + 1).toNatClampNeg), .int (xs (i + 2).toNatClampNeg), .int (xs (i + 3).toNatClampNeg)]) (ci := 5) (Cn := RX5) (T := TX5) (N := 9) C (sdX5_sub hNd hG L1 K1 h) (cwV 3 C.1.2.2.2.2 gL_law_X5_sub rfl rfl rfl (by decide +kernel) ⟨Nat.le_of_ble_eq_true rfl, Nat.le_of_ble_eq_true rfl⟩) L1 (qc5 K1 _) rfl rfl rfl (Nat.le_of_ble_eq_true rfl) (Nat.le_refl _) (Nat.le_refl _) dL_law_341 (fun u4 σ5 h => ?_)
  refine n_aload_n (pc := 344) C dL_law_344 rfl 2 rfl ?_
  refine n_aload_n (pc := 345) C dL_law_345 rfl 0 rfl ?_
  refine n_iload_n (pc := 346) C dL_law_346 rfl 3 rfl ?_
  refine n_iconst (pc := 347) (v := 1) C dL_law_347 (by decide) ?_
  refine n_iadd (pc := 348) C dL_law_348 ?_
  obtain ⟨z6, h⟩ := h
  refine n_sld (pc := 349) C hX hbl hbA z6 dL_law_349 ?_
  refine n_aload_n (pc := 350) C dL_law_350 rfl 0 rfl ?_
  refine n_iload_n (pc := 351) C dL_law_351 rfl 3 rfl ?_
  refine n_iconst (pc := 352) (v := 2) C dL_law_352 (by decide) ?_
  refine n_iadd (pc := 353) C dL_law_353 ?_
  obtain ⟨z7, h⟩ := h
  refine n_sld (pc := 354) C hX hbl hbA z7 dL_law_354 ?_
  refine n_aload_n (pc := 355) C dL_law_355 rfl 0 rfl ?_
  refine n_iload_n (pc := 356) C dL_law_356 rfl 3 rfl ?_
  refine n_iconst (pc := 357) (v := 3) C dL_law_357 (by decide) ?_
  refine n_iadd (pc := 358) C dL_law_358 ?_
  obtain ⟨z8, h⟩ := h
  refine n_sld (pc := 359) C hX hbl hbA z8 dL_law_359 ?_
  refine n_cVi (pc := 360) (As := [.int (xs (i + 1).toNatClampNeg), .int (xs (i + 2).toNatClampNeg), .int (xs (i + 3).toNatClampNeg)]) (ci := 6) (Cn := RX6) (T := TX6) (N := 9) C (sdX6_sub hNd hG L3 K3 h) (cwV 3 C.1.2.2.2.2 gL_law_X6_sub rfl rfl rfl (by decide +kernel) ⟨Nat.le_of_ble_eq_true rfl, Nat.le_of_ble_eq_true rfl⟩) L3 (qc6 K3 _) rfl rfl rfl (Nat.le_of_ble_eq_true rfl) (Nat.le_refl _) (Nat.le_refl _) dL_law_360 (fun u9 σ10 h => ?_)
  obtain ⟨zq, h⟩ := h
  refine n_icmp_eq (tgt := 933) (pc := 363) C dL_law_363 (by decide) (fun _ => ?_) (fun cq => absurd zq cq)
  exact Hb σ10 h
def lc6 (G : qG) (q1 q3 N : Nat) (xs : Nat → Int32) (i : Int32) (kb : qS → Prop) (σ : qS) : Prop := vp_in (i + 1) N ∧ vp_in (i + 2) N ∧ vp_in (i + 3) N ∧ wpX5_mul G q1 (xs (i + 1).toNatClampNeg) (xs (i + 2).toNatClampNeg) (xs (i + 3).toNatClampNeg) σ (fun (u4 : Int32) (σ5 : qS) => vp_in (i + 1) N ∧ vp_in (i + 2) N ∧ vp_in (i + 3) N ∧ wpX6_mul G q3 (xs (i + 1).toNatClampNeg) (xs (i + 2).toNatClampNeg) (xs (i + 3).toNatClampNeg) σ5 (fun (u9 : Int32) (σ10 : qS) => u4 = u9 ∧ kb σ10))
set_option maxHeartbeats 4000000 in
set_option maxRecDepth 100000 in
theorem slc6 {p : Program} {l : Launch} {e : Env} {s : State} {m : MethodId} {below : List Frame} {meth : Method} {c : Code} {E : qE} {A : Nat → Prop} {b N : Nat} {xs : Nat → Int32} {L : List Nat} {G : qG} {q1 q3 : Nat} (C : q_N p s m #[Value.ref b] meth c code 4 wsL_law RL ret meth.name E A) (hX : va_X b N xs s s.heap) (hbl : b < s.heap.size) (hbA : ¬ A b) (hNd : L.Nodup) (hG : q_WF G L) (L1 : q1 ∈ L) (K1 : G.1 q1 = 5) (L3 : q3 ∈ L) (K3 : G.1 q3 = 6) {i : Int32} {kb : qS → Prop} (Hb : ∀ τ : qS, kb τ → Wn p l e room_1 s m #[Value.ref b] below meth c E A (lw_Z below #[Value.ref b] s) 4 600000 7302250 L G τ 933 [(0, .ref b), (1, .ref q1), (2, .ref q3), (3, .int i)] []) {σ : qS} (h : lc6 G q1 q3 N xs i kb σ) : Wn p l e room_1 s m #[Value.ref b] below meth c E A (lw_Z below #[Value.ref b] s) 4 600000 7302250 L G σ 368 [(0, .ref b), (1, .ref q1), (2, .ref q3), (3, .int i)] [] := by
  unfold lc6 at h
  refine n_aload_n (pc := 368) C dL_law_368 rfl 1 rfl ?_
  refine n_aload_n (pc := 369) C dL_law_369 rfl 0 rfl ?_
  refine n_iload_n (pc := 370) C dL_law_370 rfl 3 rfl ?_
  refine n_iconst (pc := 371) (v := 1) C dL_law_371 (by decide) ?_
  refine n_iadd (pc := 372) C dL_law_372 ?_
  obtain ⟨z1, h⟩ := h
  refine n_sld (pc := 373) C hX hbl hbA z1 dL_law_373 ?_
  refine n_aload_n (pc := 374) C dL_law_374 rfl 0 rfl ?_
  refine n_iload_n (pc := 375) C dL_law_375 rfl 3 rfl ?_
  refine n_iconst (pc := 376) (v := 2) C dL_law_376 (by decide) ?_
  refine n_iadd (pc := 377) C dL_law_377 ?_
  obtain ⟨z2, h⟩ := h
  refine n_sld (pc := 378) C hX hbl hbA z2 dL_law_378 ?_
  refine n_aload_n (pc := 379) C dL_law_379 rfl 0 rfl ?_
  refine n_iload_n (pc := 380) C dL_law_380 rfl 3 rfl ?_
  refine n_iconst (pc := 381) (v := 3) C dL_law_381 (by decide) ?_
  refine n_iadd (pc := 382) C dL_law_382 ?_
  obtain ⟨z3, h⟩ := h
  refine n_sld (pc := 383) C hX hbl hbA z3 dL_law_383 ?_
  refine n_cVi (pc := 384) (As := [.int (xs (i + 1).toNatClampNeg), .int (xs (i + 2).toNatClampNeg), .int (xs (i + 3).toNatClampNeg)]) (ci := 5) (Cn := RX5) (T := TX5) (N := 9) C (sdX5_mul hNd hG L1 K1 h) (cwV 3 C.1.2.2.2.2 gL_law_X5_mul rfl rfl rfl (by decide +kernel) ⟨Nat.le_of_ble_eq_true rfl, Nat.le_of_ble_eq_true rfl⟩) L1 (qc5 K1 _) rfl rfl rfl (Nat.le_of_ble_eq_true rfl) (Nat.le_refl _) (Nat.le_refl _) dL_law_384 (fun u4 σ5 h => ?_)
  refine n_aload_n (pc := 387) C dL_law_387 rfl 2 rfl ?_
  refine n_aload_n (pc := 388) C dL_law_388 rfl 0 rfl ?_
  refine n_iload_n (pc := 389) C dL_law_389 rfl 3 rfl ?_
  refine n_iconst (pc := 390) (v := 1) C dL_law_390 (by decide) ?_
  refine n_iadd (pc := 391) C dL_law_391 ?_
  obtain ⟨z6, h⟩ := h
  refine n_sld (pc := 392) C hX hbl hbA z6 dL_law_392 ?_
  refine n_aload_n (pc := 393) C dL_law_393 rfl 0 rfl ?_
  refine n_iload_n (pc := 394) C dL_law_394 rfl 3 rfl ?_
  refine n_iconst (pc := 395) (v := 2) C dL_law_395 (by decide) ?_
  refine n_iadd (pc := 396) C dL_law_396 ?_
  obtain ⟨z7, h⟩ := h
  refine n_sld (pc := 397) C hX hbl hbA z7 dL_law_397 ?_
  refine n_aload_n (pc := 398) C dL_law_398 rfl 0 rfl ?_
  refine n_iload_n (pc := 399) C dL_law_399 rfl 3 rfl ?_
  refine n_iconst (pc := 400) (v := 3) C dL_law_400 (by decide) ?_
  refine n_iadd (pc := 401) C dL_law_401 ?_
  obtain ⟨z8, h⟩ := h
  refine n_sld (pc := 402) C hX hbl hbA z8 dL_law_402 ?_
  refine n_cVi (pc := 403) (As := [.int (xs (i + 1).toNatClampNeg), .int (xs (i + 2).toNatClampNeg), .int (xs (i + 3).toNatClampNeg)]) (ci := 6) (Cn := RX6) (T := TX6) (N := 9) C (sdX6_mul hNd hG L3 K3 h) (cwV 3 C.1.2.2.2.2 gL_law_X6_mul rfl rfl rfl (by decide +kernel) ⟨Nat.le_of_ble_eq_true rfl, Nat.le_of_ble_eq_true rfl⟩) L3 (qc6 K3 _) rfl rfl rfl (Nat.le_of_ble_eq_true rfl) (Nat.le_refl _) (Nat.le_refl _) dL_law_403 (fun u9 σ10 h => ?_)
  obtain ⟨zq, h⟩ := h
  refine n_icmp_eq (tgt := 933) (pc := 406) C dL_law_406 (by decide) (fun _ => ?_) (fun cq => absurd zq cq)
  exact Hb σ10 h
def lc7 (G : qG) (q1 q3 N : Nat) (xs : Nat → Int32) (i : Int32) (kb : qS → Prop) (σ : qS) : Prop := vp_in (i + 1) N ∧ vp_in (i + 2) N ∧ vp_in (i + 3) N ∧ vp_in (i + 4) N ∧ wpX5_divMod G q1 (xs (i + 1).toNatClampNeg) (xs (i + 2).toNatClampNeg) (xs (i + 3).toNatClampNeg) (xs (i + 4).toNatClampNeg) σ (fun (u5 : Int32) (σ6 : qS) => vp_in (i + 1) N ∧ vp_in (i + 2) N ∧ vp_in (i + 3) N ∧ vp_in (i + 4) N ∧ wpX6_divMod G q3 (xs (i + 1).toNatClampNeg) (xs (i + 2).toNatClampNeg) (xs (i + 3).toNatClampNeg) (xs (i + 4).toNatClampNeg) σ6 (fun (u11 : Int32) (σ12 : qS) => u5 = u11 ∧ kb σ12))
set_option maxHeartbeats 4000000 in
set_option maxRecDepth 100000 in
theorem slc7 {p : Program} {l : Launch} {e : Env} {s : State} {m : MethodId} {below : List Frame} {meth : Method} {c : Code} {E : qE} {A : Nat → Prop} {b N : Nat} {xs : Nat → Int32} {L : List Nat} {G : qG} {q1 q3 : Nat} (C : q_N p s m #[Value.ref b] meth c code 4 wsL_law RL ret meth.name E A) (hX : va_X b N xs s s.heap) (hbl : b < s.heap.size) (hbA : ¬ A b) (hNd : L.Nodup) (hG : q_WF G L) (L1 : q1 ∈ L) (K1 : G.1 q1 = 5) (L3 : q3 ∈ L) (K3 : G.1 q3 = 6) {i : Int32} {kb : qS → Prop} (Hb : ∀ τ : qS, kb τ → Wn p l e room_1 s m #[Value.ref b] below meth c E A (lw_Z below #[Value.ref b] s) 4 600000 7302250 L G τ 933 [(0, .ref b), (1, .ref q1), (2, .ref q3), (3, .int i)] []) {σ : qS} (h : lc7 G q1 q3 N xs i kb σ) : Wn p l e room_1 s m #[Value.ref b] below meth c E A (lw_Z below #[Value.ref b] s) 4 600000 7302250 L G σ 411 [(0, .ref b), (1, .ref q1), (2, .ref q3), (3, .int i)] [] := by
  unfold lc7 at h
  refine n_aload_n (pc := 411) C dL_law_411 rfl 1 rfl ?_
  refine n_aload_n (pc := 412) C dL_law_412 rfl 0 rfl ?_
  refine n_iload_n (pc := 413) C dL_law_413 rfl 3 rfl ?_
  refine n_iconst (pc := 414) (v := 1) C dL_law_414 (by decide) ?_
  refine n_iadd (pc := 415) C dL_law_415 ?_
  obtain ⟨z1, h⟩ := h
  refine n_sld (pc := 416) C hX hbl hbA z1 dL_law_416 ?_
  refine n_aload_n (pc := 417) C dL_law_417 rfl 0 rfl ?_
  refine n_iload_n (pc := 418) C dL_law_418 rfl 3 rfl ?_
  refine n_iconst (pc := 419) (v := 2) C dL_law_419 (by decide) ?_
  refine n_iadd (pc := 420) C dL_law_420 ?_
  obtain ⟨z2, h⟩ := h
  refine n_sld (pc := 421) C hX hbl hbA z2 dL_law_421 ?_
  refine n_aload_n (pc := 422) C dL_law_422 rfl 0 rfl ?_
  refine n_iload_n (pc := 423) C dL_law_423 rfl 3 rfl ?_
  refine n_iconst (pc := 424) (v := 3) C dL_law_424 (by decide) ?_
  refine n_iadd (pc := 425) C dL_law_425 ?_
  obtain ⟨z3, h⟩ := h
  refine n_sld (pc := 426) C hX hbl hbA z3 dL_law_426 ?_
  refine n_aload_n (pc := 427) C dL_law_427 rfl 0 rfl ?_
  refine n_iload_n (pc := 428) C dL_law_428 rfl 3 rfl ?_
  refine n_iconst (pc := 429) (v := 4) C dL_law_429 (by decide) ?_
  refine n_iadd (pc := 430) C dL_law_430 ?_
  obtain ⟨z4, h⟩ := h
  refine n_sld (pc := 431) C hX hbl hbA z4 dL_law_431 ?_
  refine n_cVi (pc := 432) (As := [.int (xs (i + 1).toNatClampNeg), .int (xs (i + 2).toNatClampNeg), .int (xs (i + 3).toNatClampNeg), .int (xs (i + 4).toNatClampNeg)]) (ci := 5) (Cn := RX5) (T := TX5) (N := 9) C (sdX5_divMod hNd hG L1 K1 h) (cwV 4 C.1.2.2.2.2 gL_law_X5_divMod rfl rfl rfl (by decide +kernel) ⟨Nat.le_of_ble_eq_true rfl, Nat.le_of_ble_eq_true rfl⟩) L1 (qc5 K1 _) rfl rfl rfl (Nat.le_of_ble_eq_true rfl) (Nat.le_refl _) (Nat.le_refl _) dL_law_432 (fun u5 σ6 h => ?_)
  refine n_aload_n (pc := 435) C dL_law_435 rfl 2 rfl ?_
  refine n_aload_n (pc := 436) C dL_law_436 rfl 0 rfl ?_
  refine n_iload_n (pc := 437) C dL_law_437 rfl 3 rfl ?_
  refine n_iconst (pc := 438) (v := 1) C dL_law_438 (by decide) ?_
  refine n_iadd (pc := 439) C dL_law_439 ?_
  obtain ⟨z7, h⟩ := h
  refine n_sld (pc := 440) C hX hbl hbA z7 dL_law_440 ?_
  refine n_aload_n (pc := 441) C dL_law_441 rfl 0 rfl ?_
  refine n_iload_n (pc := 442) C dL_law_442 rfl 3 rfl ?_
  refine n_iconst (pc := 443) (v := 2) C dL_law_443 (by decide) ?_
  refine n_iadd (pc := 444) C dL_law_444 ?_
  obtain ⟨z8, h⟩ := h
  refine n_sld (pc := 445) C hX hbl hbA z8 dL_law_445 ?_
  refine n_aload_n (pc := 446) C dL_law_446 rfl 0 rfl ?_
  refine n_iload_n (pc := 447) C dL_law_447 rfl 3 rfl ?_
  refine n_iconst (pc := 448) (v := 3) C dL_law_448 (by decide) ?_
  refine n_iadd (pc := 449) C dL_law_449 ?_
  obtain ⟨z9, h⟩ := h
  refine n_sld (pc := 450) C hX hbl hbA z9 dL_law_450 ?_
  refine n_aload_n (pc := 451) C dL_law_451 rfl 0 rfl ?_
  refine n_iload_n (pc := 452) C dL_law_452 rfl 3 rfl ?_
  refine n_iconst (pc := 453) (v := 4) C dL_law_453 (by decide) ?_
  refine n_iadd (pc := 454) C dL_law_454 ?_
  obtain ⟨z10, h⟩ := h
  refine n_sld (pc := 455) C hX hbl hbA z10 dL_law_455 ?_
  refine n_cVi (pc := 456) (As := [.int (xs (i + 1).toNatClampNeg), .int (xs (i + 2).toNatClampNeg), .int (xs (i + 3).toNatClampNeg), .int (xs (i + 4).toNatClampNeg)]) (ci := 6) (Cn := RX6) (T := TX6) (N := 9) C (sdX6_divMod hNd hG L3 K3 h) (cwV 4 C.1.2.2.2.2 gL_law_X6_divMod rfl rfl rfl (by decide +kernel) ⟨Nat.le_of_ble_eq_true rfl, Nat.le_of_ble_eq_true rfl⟩) L3 (qc6 K3 _) rfl rfl rfl (Nat.le_of_ble_eq_true rfl) (Nat.le_refl _) (Nat.le_refl _) dL_law_456 (fun u11 σ12 h => ?_)
  obtain ⟨zq, h⟩ := h
  refine n_icmp_eq (tgt := 933) (pc := 459) C dL_law_459 (by decide) (fun _ => ?_) (fun cq => absurd zq cq)
  exact Hb σ12 h
def lc8 (G : qG) (q1 q3 N : Nat) (xs : Nat → Int32) (i : Int32) (kb : qS → Prop) (σ : qS) : Prop := vp_in (i + 1) N ∧ vp_in (i + 2) N ∧ vp_in (i + 3) N ∧ wpX5_shl G q1 (xs (i + 1).toNatClampNeg) (xs (i + 2).toNatClampNeg) (xs (i + 3).toNatClampNeg) σ (fun (u4 : Int32) (σ5 : qS) => vp_in (i + 1) N ∧ vp_in (i + 2) N ∧ vp_in (i + 3) N ∧ wpX6_shl G q3 (xs (i + 1).toNatClampNeg) (xs (i + 2).toNatClampNeg) (xs (i + 3).toNatClampNeg) σ5 (fun (u9 : Int32) (σ10 : qS) => u4 = u9 ∧ kb σ10))
set_option maxHeartbeats 4000000 in
set_option maxRecDepth 100000 in
theorem slc8 {p : Program} {l : Launch} {e : Env} {s : State} {m : MethodId} {below : List Frame} {meth : Method} {c : Code} {E : qE} {A : Nat → Prop} {b N : Nat} {xs : Nat → Int32} {L : List Nat} {G : qG} {q1 q3 : Nat} (C : q_N p s m #[Value.ref b] meth c code 4 wsL_law RL ret meth.name E A) (hX : va_X b N xs s s.heap) (hbl : b < s.heap.size) (hbA : ¬ A b) (hNd : L.Nodup) (hG : q_WF G L) (L1 : q1 ∈ L) (K1 : G.1 q1 = 5) (L3 : q3 ∈ L) (K3 : G.1 q3 = 6) {i : Int32} {kb : qS → Prop} (Hb : ∀ τ : qS, kb τ → Wn p l e room_1 s m #[Value.ref b] below meth c E A (lw_Z below #[Value.ref b] s) 4 600000 7302250 L G τ 933 [(0, .ref b), (1, .ref q1), (2, .ref q3), (3, .int i)] []) {σ : qS} (h : lc8 G q1 q3 N xs i kb σ) : Wn p l e room_1 s m #[Value.ref b] below meth c E A (lw_Z below #[Value.ref b] s) 4 600000 7302250 L G σ 464 [(0, .ref b), (1, .ref q1), (2, .ref q3), (3, .int i)] [] := by
  unfold lc8 at h
  refine n_aload_n (pc := 464) C dL_law_464 rfl 1 rfl ?_
  refine n_aload_n (pc := 465) C dL_law_465 rfl 0 rfl ?_
  refine n_iload_n (pc := 466) C dL_law_466 rfl 3 rfl ?_
  refine n_iconst (pc := 467) (v := 1) C dL_law_467 (by decide) ?_
  refine n_iadd (pc := 468) C dL_law_468 ?_
  obtain ⟨z1, h⟩ := h
  refine n_sld (pc := 469) C hX hbl hbA z1 dL_law_469 ?_
  refine n_aload_n (pc := 470) C dL_law_470 rfl 0 rfl ?_
  refine n_iload_n (pc := 471) C dL_law_471 rfl 3 rfl ?_
  refine n_iconst (pc := 472) (v := 2) C dL_law_472 (by decide) ?_
  refine n_iadd (pc := 473) C dL_law_473 ?_
  obtain ⟨z2, h⟩ := h
  refine n_sld (pc := 474) C hX hbl hbA z2 dL_law_474 ?_
  refine n_aload_n (pc := 475) C dL_law_475 rfl 0 rfl ?_
  refine n_iload_n (pc := 476) C dL_law_476 rfl 3 rfl ?_
  refine n_iconst (pc := 477) (v := 3) C dL_law_477 (by decide) ?_
  refine n_iadd (pc := 478) C dL_law_478 ?_
  obtain ⟨z3, h⟩ := h
  refine n_sld (pc := 479) C hX hbl hbA z3 dL_law_479 ?_
  refine n_cVi (pc := 480) (As := [.int (xs (i + 1).toNatClampNeg), .int (xs (i + 2).toNatClampNeg), .int (xs (i + 3).toNatClampNeg)]) (ci := 5) (Cn := RX5) (T := TX5) (N := 9) C (sdX5_shl hNd hG L1 K1 h) (cwV 3 C.1.2.2.2.2 gL_law_X5_shl rfl rfl rfl (by decide +kernel) ⟨Nat.le_of_ble_eq_true rfl, Nat.le_of_ble_eq_true rfl⟩) L1 (qc5 K1 _) rfl rfl rfl (Nat.le_of_ble_eq_true rfl) (Nat.le_refl _) (Nat.le_refl _) dL_law_480 (fun u4 σ5 h => ?_)
  refine n_aload_n (pc := 483) C dL_law_483 rfl 2 rfl ?_
  refine n_aload_n (pc := 484) C dL_law_484 rfl 0 rfl ?_
  refine n_iload_n (pc := 485) C dL_law_485 rfl 3 rfl ?_
  refine n_iconst (pc := 486) (v := 1) C dL_law_486 (by decide) ?_
  refine n_iadd (pc := 487) C dL_law_487 ?_
  obtain ⟨z6, h⟩ := h
  refine n_sld (pc := 488) C hX hbl hbA z6 dL_law_488 ?_
  refine n_aload_n (pc := 489) C dL_law_489 rfl 0 rfl ?_
  refine n_iload_n (pc := 490) C dL_law_490 rfl 3 rfl ?_
  refine n_iconst (pc := 491) (v := 2) C dL_law_491 (by decide) ?_
  refine n_iadd (pc := 492) C dL_law_492 ?_
  obtain ⟨z7, h⟩ := h
  refine n_sld (pc := 493) C hX hbl hbA z7 dL_law_493 ?_
  refine n_aload_n (pc := 494) C dL_law_494 rfl 0 rfl ?_
  refine n_iload_n (pc := 495) C dL_law_495 rfl 3 rfl ?_
  refine n_iconst (pc := 496) (v := 3) C dL_law_496 (by decide) ?_
  refine n_iadd (pc := 497) C dL_law_497 ?_
  obtain ⟨z8, h⟩ := h
  refine n_sld (pc := 498) C hX hbl hbA z8 dL_law_498 ?_
  refine n_cVi (pc := 499) (As := [.int (xs (i + 1).toNatClampNeg), .int (xs (i + 2).toNatClampNeg), .int (xs (i + 3).toNatClampNeg)]) (ci := 6) (Cn := RX6) (T := TX6) (N := 9) C (sdX6_shl hNd hG L3 K3 h) (cwV 3 C.1.2.2.2.2 gL_law_X6_shl rfl rfl rfl (by decide +kernel) ⟨Nat.le_of_ble_eq_true rfl, Nat.le_of_ble_eq_true rfl⟩) L3 (qc6 K3 _) rfl rfl rfl (Nat.le_of_ble_eq_true rfl) (Nat.le_refl _) (Nat.le_refl _) dL_law_499 (fun u9 σ10 h => ?_)
  obtain ⟨zq, h⟩ := h
  refine n_icmp_eq (tgt := 933) (pc := 502) C dL_law_502 (by decide) (fun _ => ?_) (fun cq => absurd zq cq)
  exact Hb σ10 h
def lc9 (G : qG) (q1 q3 N : Nat) (xs : Nat → Int32) (i : Int32) (kb : qS → Prop) (σ : qS) : Prop := vp_in (i + 1) N ∧ vp_in (i + 2) N ∧ vp_in (i + 3) N ∧ wpX5_shr G q1 (xs (i + 1).toNatClampNeg) (xs (i + 2).toNatClampNeg) (xs (i + 3).toNatClampNeg) σ (fun (u4 : Int32) (σ5 : qS) => vp_in (i + 1) N ∧ vp_in (i + 2) N ∧ vp_in (i + 3) N ∧ wpX6_shr G q3 (xs (i + 1).toNatClampNeg) (xs (i + 2).toNatClampNeg) (xs (i + 3).toNatClampNeg) σ5 (fun (u9 : Int32) (σ10 : qS) => u4 = u9 ∧ kb σ10))
set_option maxHeartbeats 4000000 in
set_option maxRecDepth 100000 in
theorem slc9 {p : Program} {l : Launch} {e : Env} {s : State} {m : MethodId} {below : List Frame} {meth : Method} {c : Code} {E : qE} {A : Nat → Prop} {b N : Nat} {xs : Nat → Int32} {L : List Nat} {G : qG} {q1 q3 : Nat} (C : q_N p s m #[Value.ref b] meth c code 4 wsL_law RL ret meth.name E A) (hX : va_X b N xs s s.heap) (hbl : b < s.heap.size) (hbA : ¬ A b) (hNd : L.Nodup) (hG : q_WF G L) (L1 : q1 ∈ L) (K1 : G.1 q1 = 5) (L3 : q3 ∈ L) (K3 : G.1 q3 = 6) {i : Int32} {kb : qS → Prop} (Hb : ∀ τ : qS, kb τ → Wn p l e room_1 s m #[Value.ref b] below meth c E A (lw_Z below #[Value.ref b] s) 4 600000 7302250 L G τ 933 [(0, .ref b), (1, .ref q1), (2, .ref q3), (3, .int i)] []) {σ : qS} (h : lc9 G q1 q3 N xs i kb σ) : Wn p l e room_1 s m #[Value.ref b] below meth c E A (lw_Z below #[Value.ref b] s) 4 600000 7302250 L G σ 507 [(0, .ref b), (1, .ref q1), (2, .ref q3), (3, .int i)] [] := by
  unfold lc9 at h
  refine n_aload_n (pc := 507) C dL_law_507 rfl 1 rfl ?_
  refine n_aload_n (pc := 508) C dL_law_508 rfl 0 rfl ?_
  refine n_iload_n (pc := 509) C dL_law_509 rfl 3 rfl ?_
  refine n_iconst (pc := 510) (v := 1) C dL_law_510 (by decide) ?_
  refine n_iadd (pc := 511) C dL_law_511 ?_
  obtain ⟨z1, h⟩ := h
  refine n_sld (pc := 512) C hX hbl hbA z1 dL_law_512 ?_
  refine n_aload_n (pc := 513) C dL_law_513 rfl 0 rfl ?_
  refine n_iload_n (pc := 514) C dL_law_514 rfl 3 rfl ?_
  refine n_iconst (pc := 515) (v := 2) C dL_law_515 (by decide) ?_
  refine n_iadd (pc := 516) C dL_law_516 ?_
  obtain ⟨z2, h⟩ := h
  refine n_sld (pc := 517) C hX hbl hbA z2 dL_law_517 ?_
  refine n_aload_n (pc := 518) C dL_law_518 rfl 0 rfl ?_
  refine n_iload_n (pc := 519) C dL_law_519 rfl 3 rfl ?_
  refine n_iconst (pc := 520) (v := 3) C dL_law_520 (by decide) ?_
  refine n_iadd (pc := 521) C dL_law_521 ?_
  obtain ⟨z3, h⟩ := h
  refine n_sld (pc := 522) C hX hbl hbA z3 dL_law_522 ?_
  refine n_cVi (pc := 523) (As := [.int (xs (i + 1).toNatClampNeg), .int (xs (i + 2).toNatClampNeg), .int (xs (i + 3).toNatClampNeg)]) (ci := 5) (Cn := RX5) (T := TX5) (N := 9) C (sdX5_shr hNd hG L1 K1 h) (cwV 3 C.1.2.2.2.2 gL_law_X5_shr rfl rfl rfl (by decide +kernel) ⟨Nat.le_of_ble_eq_true rfl, Nat.le_of_ble_eq_true rfl⟩) L1 (qc5 K1 _) rfl rfl rfl (Nat.le_of_ble_eq_true rfl) (Nat.le_refl _) (Nat.le_refl _) dL_law_523 (fun u4 σ5 h => ?_)
  refine n_aload_n (pc := 526) C dL_law_526 rfl 2 rfl ?_
  refine n_aload_n (pc := 527) C dL_law_527 rfl 0 rfl ?_
  refine n_iload_n (pc := 528) C dL_law_528 rfl 3 rfl ?_
  refine n_iconst (pc := 529) (v := 1) C dL_law_529 (by decide) ?_
  refine n_iadd (pc := 530) C dL_law_530 ?_
  obtain ⟨z6, h⟩ := h
  refine n_sld (pc := 531) C hX hbl hbA z6 dL_law_531 ?_
  refine n_aload_n (pc := 532) C dL_law_532 rfl 0 rfl ?_
  refine n_iload_n (pc := 533) C dL_law_533 rfl 3 rfl ?_
  refine n_iconst (pc := 534) (v := 2) C dL_law_534 (by decide) ?_
  refine n_iadd (pc := 535) C dL_law_535 ?_
  obtain ⟨z7, h⟩ := h
  refine n_sld (pc := 536) C hX hbl hbA z7 dL_law_536 ?_
  refine n_aload_n (pc := 537) C dL_law_537 rfl 0 rfl ?_
  refine n_iload_n (pc := 538) C dL_law_538 rfl 3 rfl ?_
  refine n_iconst (pc := 539) (v := 3) C dL_law_539 (by decide) ?_
  refine n_iadd (pc := 540) C dL_law_540 ?_
  obtain ⟨z8, h⟩ := h
  refine n_sld (pc := 541) C hX hbl hbA z8 dL_law_541 ?_
  refine n_cVi (pc := 542) (As := [.int (xs (i + 1).toNatClampNeg), .int (xs (i + 2).toNatClampNeg), .int (xs (i + 3).toNatClampNeg)]) (ci := 6) (Cn := RX6) (T := TX6) (N := 9) C (sdX6_shr hNd hG L3 K3 h) (cwV 3 C.1.2.2.2.2 gL_law_X6_shr rfl rfl rfl (by decide +kernel) ⟨Nat.le_of_ble_eq_true rfl, Nat.le_of_ble_eq_true rfl⟩) L3 (qc6 K3 _) rfl rfl rfl (Nat.le_of_ble_eq_true rfl) (Nat.le_refl _) (Nat.le_refl _) dL_law_542 (fun u9 σ10 h => ?_)
  obtain ⟨zq, h⟩ := h
  refine n_icmp_eq (tgt := 933) (pc := 545) C dL_law_545 (by decide) (fun _ => ?_) (fun cq => absurd zq cq)
  exact Hb σ10 h
def lc10 (G : qG) (q1 q3 N : Nat) (xs : Nat → Int32) (i : Int32) (kb : qS → Prop) (σ : qS) : Prop := vp_in (i + 1) N ∧ vp_in (i + 2) N ∧ vp_in (i + 3) N ∧ wpX5_gcd G q1 (xs (i + 1).toNatClampNeg) (xs (i + 2).toNatClampNeg) (xs (i + 3).toNatClampNeg) σ (fun (u4 : Int32) (σ5 : qS) => vp_in (i + 1) N ∧ vp_in (i + 2) N ∧ vp_in (i + 3) N ∧ wpX6_gcd G q3 (xs (i + 1).toNatClampNeg) (xs (i + 2).toNatClampNeg) (xs (i + 3).toNatClampNeg) σ5 (fun (u9 : Int32) (σ10 : qS) => u4 = u9 ∧ kb σ10))
set_option maxHeartbeats 4000000 in
set_option maxRecDepth 100000 in
theorem slc10 {p : Program} {l : Launch} {e : Env} {s : State} {m : MethodId} {below : List Frame} {meth : Method} {c : Code} {E : qE} {A : Nat → Prop} {b N : Nat} {xs : Nat → Int32} {L : List Nat} {G : qG} {q1 q3 : Nat} (C : q_N p s m #[Value.ref b] meth c code 4 wsL_law RL ret meth.name E A) (hX : va_X b N xs s s.heap) (hbl : b < s.heap.size) (hbA : ¬ A b) (hNd : L.Nodup) (hG : q_WF G L) (L1 : q1 ∈ L) (K1 : G.1 q1 = 5) (L3 : q3 ∈ L) (K3 : G.1 q3 = 6) {i : Int32} {kb : qS → Prop} (Hb : ∀ τ : qS, kb τ → Wn p l e room_1 s m #[Value.ref b] below meth c E A (lw_Z below #[Value.ref b] s) 4 600000 7302250 L G τ 933 [(0, .ref b), (1, .ref q1), (2, .ref q3), (3, .int i)] []) {σ : qS} (h : lc10 G q1 q3 N xs i kb σ) : Wn p l e room_1 s m #[Value.ref b] below meth c E A (lw_Z below #[Value.ref b] s) 4 600000 7302250 L G σ 550 [(0, .ref b), (1, .ref q1), (2, .ref q3), (3, .int i)] [] := by
  unfold lc10 at h
  refine n_aload_n (pc := 550) C dL_law_550 rfl 1 rfl ?_
  refine n_aload_n (pc := 551) C dL_law_551 rfl 0 rfl ?_
  refine n_iload_n (pc := 552) C dL_law_552 rfl 3 rfl ?_
  refine n_iconst (pc := 553) (v := 1) C dL_law_553 (by decide) ?_
  refine n_iadd (pc := 554) C dL_law_554 ?_
  obtain ⟨z1, h⟩ := h
  refine n_sld (pc := 555) C hX hbl hbA z1 dL_law_555 ?_
  refine n_aload_n (pc := 556) C dL_law_556 rfl 0 rfl ?_
  refine n_iload_n (pc := 557) C dL_law_557 rfl 3 rfl ?_
  refine n_iconst (pc := 558) (v := 2) C dL_law_558 (by decide) ?_
  refine n_iadd (pc := 559) C dL_law_559 ?_
  obtain ⟨z2, h⟩ := h
  refine n_sld (pc := 560) C hX hbl hbA z2 dL_law_560 ?_
  refine n_aload_n (pc := 561) C dL_law_561 rfl 0 rfl ?_
  refine n_iload_n (pc := 562) C dL_law_562 rfl 3 rfl ?_
  refine n_iconst (pc := 563) (v := 3) C dL_law_563 (by decide) ?_
  refine n_iadd (pc := 564) C dL_law_564 ?_
  obtain ⟨z3, h⟩ := h
  refine n_sld (pc := 565) C hX hbl hbA z3 dL_law_565 ?_
  refine n_cVi (pc := 566) (As := [.int (xs (i + 1).toNatClampNeg), .int (xs (i + 2).toNatClampNeg), .int (xs (i + 3).toNatClampNeg)]) (ci := 5) (Cn := RX5) (T := TX5) (N := 9) C (sdX5_gcd hNd hG L1 K1 h) (cwV 3 C.1.2.2.2.2 gL_law_X5_gcd rfl rfl rfl (by decide +kernel) ⟨Nat.le_of_ble_eq_true rfl, Nat.le_of_ble_eq_true rfl⟩) L1 (qc5 K1 _) rfl rfl rfl (Nat.le_of_ble_eq_true rfl) (Nat.le_refl _) (Nat.le_refl _) dL_law_566 (fun u4 σ5 h => ?_)
  refine n_aload_n (pc := 569) C dL_law_569 rfl 2 rfl ?_
  refine n_aload_n (pc := 570) C dL_law_570 rfl 0 rfl ?_
  refine n_iload_n (pc := 571) C dL_law_571 rfl 3 rfl ?_
  refine n_iconst (pc := 572) (v := 1) C dL_law_572 (by decide) ?_
  refine n_iadd (pc := 573) C dL_law_573 ?_
  obtain ⟨z6, h⟩ := h
  refine n_sld (pc := 574) C hX hbl hbA z6 dL_law_574 ?_
  refine n_aload_n (pc := 575) C dL_law_575 rfl 0 rfl ?_
  refine n_iload_n (pc := 576) C dL_law_576 rfl 3 rfl ?_
  refine n_iconst (pc := 577) (v := 2) C dL_law_577 (by decide) ?_
  refine n_iadd (pc := 578) C dL_law_578 ?_
  obtain ⟨z7, h⟩ := h
  refine n_sld (pc := 579) C hX hbl hbA z7 dL_law_579 ?_
  refine n_aload_n (pc := 580) C dL_law_580 rfl 0 rfl ?_
  refine n_iload_n (pc := 581) C dL_law_581 rfl 3 rfl ?_
  refine n_iconst (pc := 582) (v := 3) C dL_law_582 (by decide) ?_
  refine n_iadd (pc := 583) C dL_law_583 ?_
  obtain ⟨z8, h⟩ := h
  refine n_sld (pc := 584) C hX hbl hbA z8 dL_law_584 ?_
  refine n_cVi (pc := 585) (As := [.int (xs (i + 1).toNatClampNeg), .int (xs (i + 2).toNatClampNeg), .int (xs (i + 3).toNatClampNeg)]) (ci := 6) (Cn := RX6) (T := TX6) (N := 9) C (sdX6_gcd hNd hG L3 K3 h) (cwV 3 C.1.2.2.2.2 gL_law_X6_gcd rfl rfl rfl (by decide +kernel) ⟨Nat.le_of_ble_eq_true rfl, Nat.le_of_ble_eq_true rfl⟩) L3 (qc6 K3 _) rfl rfl rfl (Nat.le_of_ble_eq_true rfl) (Nat.le_refl _) (Nat.le_refl _) dL_law_585 (fun u9 σ10 h => ?_)
  obtain ⟨zq, h⟩ := h
  refine n_icmp_eq (tgt := 933) (pc := 588) C dL_law_588 (by decide) (fun _ => ?_) (fun cq => absurd zq cq)
  exact Hb σ10 h
def lc11 (G : qG) (q1 q3 N : Nat) (xs : Nat → Int32) (i : Int32) (kb : qS → Prop) (σ : qS) : Prop := vp_in (i + 1) N ∧ vp_in (i + 2) N ∧ vp_in (i + 3) N ∧ vp_in (i + 4) N ∧ wpX5_powMod G q1 (xs (i + 1).toNatClampNeg) (xs (i + 2).toNatClampNeg) (xs (i + 3).toNatClampNeg) (xs (i + 4).toNatClampNeg) σ (fun (u5 : Int32) (σ6 : qS) => vp_in (i + 1) N ∧ vp_in (i + 2) N ∧ vp_in (i + 3) N ∧ vp_in (i + 4) N ∧ wpX6_powMod G q3 (xs (i + 1).toNatClampNeg) (xs (i + 2).toNatClampNeg) (xs (i + 3).toNatClampNeg) (xs (i + 4).toNatClampNeg) σ6 (fun (u11 : Int32) (σ12 : qS) => u5 = u11 ∧ kb σ12))
set_option maxHeartbeats 4000000 in
set_option maxRecDepth 100000 in
theorem slc11 {p : Program} {l : Launch} {e : Env} {s : State} {m : MethodId} {below : List Frame} {meth : Method} {c : Code} {E : qE} {A : Nat → Prop} {b N : Nat} {xs : Nat → Int32} {L : List Nat} {G : qG} {q1 q3 : Nat} (C : q_N p s m #[Value.ref b] meth c code 4 wsL_law RL ret meth.name E A) (hX : va_X b N xs s s.heap) (hbl : b < s.heap.size) (hbA : ¬ A b) (hNd : L.Nodup) (hG : q_WF G L) (L1 : q1 ∈ L) (K1 : G.1 q1 = 5) (L3 : q3 ∈ L) (K3 : G.1 q3 = 6) {i : Int32} {kb : qS → Prop} (Hb : ∀ τ : qS, kb τ → Wn p l e room_1 s m #[Value.ref b] below meth c E A (lw_Z below #[Value.ref b] s) 4 600000 7302250 L G τ 933 [(0, .ref b), (1, .ref q1), (2, .ref q3), (3, .int i)] []) {σ : qS} (h : lc11 G q1 q3 N xs i kb σ) : Wn p l e room_1 s m #[Value.ref b] below meth c E A (lw_Z below #[Value.ref b] s) 4 600000 7302250 L G σ 593 [(0, .ref b), (1, .ref q1), (2, .ref q3), (3, .int i)] [] := by
  unfold lc11 at h
  refine n_aload_n (pc := 593) C dL_law_593 rfl 1 rfl ?_
  refine n_aload_n (pc := 594) C dL_law_594 rfl 0 rfl ?_
  refine n_iload_n (pc := 595) C dL_law_595 rfl 3 rfl ?_
  refine n_iconst (pc := 596) (v := 1) C dL_law_596 (by decide) ?_
  refine n_iadd (pc := 597) C dL_law_597 ?_
  obtain ⟨z1, h⟩ := h
  refine n_sld (pc := 598) C hX hbl hbA z1 dL_law_598 ?_
  refine n_aload_n (pc := 599) C dL_law_599 rfl 0 rfl ?_
  refine n_iload_n (pc := 600) C dL_law_600 rfl 3 rfl ?_
  refine n_iconst (pc := 601) (v := 2) C dL_law_601 (by decide) ?_
  refine n_iadd (pc := 602) C dL_law_602 ?_
  obtain ⟨z2, h⟩ := h
  refine n_sld (pc := 603) C hX hbl hbA z2 dL_law_603 ?_
  refine n_aload_n (pc := 604) C dL_law_604 rfl 0 rfl ?_
  refine n_iload_n (pc := 605) C dL_law_605 rfl 3 rfl ?_
  refine n_iconst (pc := 606) (v := 3) C dL_law_606 (by decide) ?_
  refine n_iadd (pc := 607) C dL_law_607 ?_
  obtain ⟨z3, h⟩ := h
  refine n_sld (pc := 608) C hX hbl hbA z3 dL_law_608 ?_
  refine n_aload_n (pc := 609) C dL_law_609 rfl 0 rfl ?_
  refine n_iload_n (pc := 610) C dL_law_610 rfl 3 rfl ?_
  refine n_iconst (pc := 611) (v := 4) C dL_law_611 (by decide) ?_
  refine n_iadd (pc := 612) C dL_law_612 ?_
  obtain ⟨z4, h⟩ := h
  refine n_sld (pc := 613) C hX hbl hbA z4 dL_law_613 ?_
  refine n_cVi (pc := 614) (As := [.int (xs (i + 1).toNatClampNeg), .int (xs (i + 2).toNatClampNeg), .int (xs (i + 3).toNatClampNeg), .int (xs (i + 4).toNatClampNeg)]) (ci := 5) (Cn := RX5) (T := TX5) (N := 9) C (sdX5_powMod hNd hG L1 K1 h) (cwV 4 C.1.2.2.2.2 gL_law_X5_powMod rfl rfl rfl (by decide +kernel) ⟨Nat.le_of_ble_eq_true rfl, Nat.le_of_ble_eq_true rfl⟩) L1 (qc5 K1 _) rfl rfl rfl (Nat.le_of_ble_eq_true rfl) (Nat.le_refl _) (Nat.le_refl _) dL_law_614 (fun u5 σ6 h => ?_)
  refine n_aload_n (pc := 617) C dL_law_617 rfl 2 rfl ?_
  refine n_aload_n (pc := 618) C dL_law_618 rfl 0 rfl ?_
  refine n_iload_n (pc := 619) C dL_law_619 rfl 3 rfl ?_
  refine n_iconst (pc := 620) (v := 1) C dL_law_620 (by decide) ?_
  refine n_iadd (pc := 621) C dL_law_621 ?_
  obtain ⟨z7, h⟩ := h
  refine n_sld (pc := 622) C hX hbl hbA z7 dL_law_622 ?_
  refine n_aload_n (pc := 623) C dL_law_623 rfl 0 rfl ?_
  refine n_iload_n (pc := 624) C dL_law_624 rfl 3 rfl ?_
  refine n_iconst (pc := 625) (v := 2) C dL_law_625 (by decide) ?_
  refine n_iadd (pc := 626) C dL_law_626 ?_
  obtain ⟨z8, h⟩ := h
  refine n_sld (pc := 627) C hX hbl hbA z8 dL_law_627 ?_
  refine n_aload_n (pc := 628) C dL_law_628 rfl 0 rfl ?_
  refine n_iload_n (pc := 629) C dL_law_629 rfl 3 rfl ?_
  refine n_iconst (pc := 630) (v := 3) C dL_law_630 (by decide) ?_
  refine n_iadd (pc := 631) C dL_law_631 ?_
  obtain ⟨z9, h⟩ := h
  refine n_sld (pc := 632) C hX hbl hbA z9 dL_law_632 ?_
  refine n_aload_n (pc := 633) C dL_law_633 rfl 0 rfl ?_
  refine n_iload_n (pc := 634) C dL_law_634 rfl 3 rfl ?_
  refine n_iconst (pc := 635) (v := 4) C dL_law_635 (by decide) ?_
  refine n_iadd (pc := 636) C dL_law_636 ?_
  obtain ⟨z10, h⟩ := h
  refine n_sld (pc := 637) C hX hbl hbA z10 dL_law_637 ?_
  refine n_cVi (pc := 638) (As := [.int (xs (i + 1).toNatClampNeg), .int (xs (i + 2).toNatClampNeg), .int (xs (i + 3).toNatClampNeg), .int (xs (i + 4).toNatClampNeg)]) (ci := 6) (Cn := RX6) (T := TX6) (N := 9) C (sdX6_powMod hNd hG L3 K3 h) (cwV 4 C.1.2.2.2.2 gL_law_X6_powMod rfl rfl rfl (by decide +kernel) ⟨Nat.le_of_ble_eq_true rfl, Nat.le_of_ble_eq_true rfl⟩) L3 (qc6 K3 _) rfl rfl rfl (Nat.le_of_ble_eq_true rfl) (Nat.le_refl _) (Nat.le_refl _) dL_law_638 (fun u11 σ12 h => ?_)
  obtain ⟨zq, h⟩ := h
  refine n_icmp_eq (tgt := 933) (pc := 641) C dL_law_641 (by decide) (fun _ => ?_) (fun cq => absurd zq cq)
  exact Hb σ12 h
def lc12 (G : qG) (q1 q3 N : Nat) (xs : Nat → Int32) (i : Int32) (kb : qS → Prop) (σ : qS) : Prop := vp_in (i + 1) N ∧ vp_in (i + 2) N ∧ wpX5_root G q1 (xs (i + 1).toNatClampNeg) (xs (i + 2).toNatClampNeg) σ (fun (u3 : Int32) (σ4 : qS) => vp_in (i + 1) N ∧ vp_in (i + 2) N ∧ wpX6_root G q3 (xs (i + 1).toNatClampNeg) (xs (i + 2).toNatClampNeg) σ4 (fun (u7 : Int32) (σ8 : qS) => u3 = u7 ∧ kb σ8))
set_option maxHeartbeats 4000000 in
set_option maxRecDepth 100000 in
theorem slc12 {p : Program} {l : Launch} {e : Env} {s : State} {m : MethodId} {below : List Frame} {meth : Method} {c : Code} {E : qE} {A : Nat → Prop} {b N : Nat} {xs : Nat → Int32} {L : List Nat} {G : qG} {q1 q3 : Nat} (C : q_N p s m #[Value.ref b] meth c code 4 wsL_law RL ret meth.name E A) (hX : va_X b N xs s s.heap) (hbl : b < s.heap.size) (hbA : ¬ A b) (hNd : L.Nodup) (hG : q_WF G L) (L1 : q1 ∈ L) (K1 : G.1 q1 = 5) (L3 : q3 ∈ L) (K3 : G.1 q3 = 6) {i : Int32} {kb : qS → Prop} (Hb : ∀ τ : qS, kb τ → Wn p l e room_1 s m #[Value.ref b] below meth c E A (lw_Z below #[Value.ref b] s) 4 600000 7302250 L G τ 933 [(0, .ref b), (1, .ref q1), (2, .ref q3), (3, .int i)] []) {σ : qS} (h : lc12 G q1 q3 N xs i kb σ) : Wn p l e room_1 s m #[Value.ref b] below meth c E A (lw_Z below #[Value.ref b] s) 4 600000 7302250 L G σ 646 [(0, .ref b), (1, .ref q1), (2, .ref q3), (3, .int i)] [] := by
  unfold lc12 at h
  refine n_aload_n (pc := 646) C dL_law_646 rfl 1 rfl ?_
  refine n_aload_n (pc := 647) C dL_law_647 rfl 0 rfl ?_
  refine n_iload_n (pc := 648) C dL_law_648 rfl 3 rfl ?_
  refine n_iconst (pc := 649) (v := 1) C dL_law_649 (by decide) ?_
  refine n_iadd (pc := 650) C dL_law_650 ?_
  obtain ⟨z1, h⟩ := h
  refine n_sld (pc := 651) C hX hbl hbA z1 dL_law_651 ?_
  refine n_aload_n (pc := 652) C dL_law_652 rfl 0 rfl ?_
  refine n_iload_n (pc := 653) C dL_law_653 rfl 3 rfl ?_
  refine n_iconst (pc := 654) (v := 2) C dL_law_654 (by decide) ?_
  refine n_iadd (pc := 655) C dL_law_655 ?_
  obtain ⟨z2, h⟩ := h
  refine n_sld (pc := 656) C hX hbl hbA z2 dL_law_656 ?_
  refine n_cVi (pc := 657) (As := [.int (xs (i + 1).toNatClampNeg), .int (xs (i + 2).toNatClampNeg)]) (ci := 5) (Cn := RX5) (T := TX5) (N := 9) C (sdX5_root hNd hG L1 K1 h) (cwV 2 C.1.2.2.2.2 gL_law_X5_root rfl rfl rfl (by decide +kernel) ⟨Nat.le_of_ble_eq_true rfl, Nat.le_of_ble_eq_true rfl⟩) L1 (qc5 K1 _) rfl rfl rfl (Nat.le_of_ble_eq_true rfl) (Nat.le_refl _) (Nat.le_refl _) dL_law_657 (fun u3 σ4 h => ?_)
  refine n_aload_n (pc := 660) C dL_law_660 rfl 2 rfl ?_
  refine n_aload_n (pc := 661) C dL_law_661 rfl 0 rfl ?_
  refine n_iload_n (pc := 662) C dL_law_662 rfl 3 rfl ?_
  refine n_iconst (pc := 663) (v := 1) C dL_law_663 (by decide) ?_
  refine n_iadd (pc := 664) C dL_law_664 ?_
  obtain ⟨z5, h⟩ := h
  refine n_sld (pc := 665) C hX hbl hbA z5 dL_law_665 ?_
  refine n_aload_n (pc := 666) C dL_law_666 rfl 0 rfl ?_
  refine n_iload_n (pc := 667) C dL_law_667 rfl 3 rfl ?_
  refine n_iconst (pc := 668) (v := 2) C dL_law_668 (by decide) ?_
  refine n_iadd (pc := 669) C dL_law_669 ?_
  obtain ⟨z6, h⟩ := h
  refine n_sld (pc := 670) C hX hbl hbA z6 dL_law_670 ?_
  refine n_cVi (pc := 671) (As := [.int (xs (i + 1).toNatClampNeg), .int (xs (i + 2).toNatClampNeg)]) (ci := 6) (Cn := RX6) (T := TX6) (N := 9) C (sdX6_root hNd hG L3 K3 h) (cwV 2 C.1.2.2.2.2 gL_law_X6_root rfl rfl rfl (by decide +kernel) ⟨Nat.le_of_ble_eq_true rfl, Nat.le_of_ble_eq_true rfl⟩) L3 (qc6 K3 _) rfl rfl rfl (Nat.le_of_ble_eq_true rfl) (Nat.le_refl _) (Nat.le_refl _) dL_law_671 (fun u7 σ8 h => ?_)
  obtain ⟨zq, h⟩ := h
  refine n_icmp_eq (tgt := 933) (pc := 674) C dL_law_674 (by decide) (fun _ => ?_) (fun cq => absurd zq cq)
  exact Hb σ8 h
def lc13 (G : qG) (q1 q3 N : Nat) (xs : Nat → Int32) (i : Int32) (kb : qS → Prop) (σ : qS) : Prop := vp_in (i + 1) N ∧ vp_in (i + 2) N ∧ wpX5_cmp G q1 (xs (i + 1).toNatClampNeg) (xs (i + 2).toNatClampNeg) σ (fun (u3 : Int32) (σ4 : qS) => vp_in (i + 1) N ∧ vp_in (i + 2) N ∧ wpX6_cmp G q3 (xs (i + 1).toNatClampNeg) (xs (i + 2).toNatClampNeg) σ4 (fun (u7 : Int32) (σ8 : qS) => u3 = u7 ∧ kb σ8))
set_option maxHeartbeats 4000000 in
set_option maxRecDepth 100000 in
theorem slc13 {p : Program} {l : Launch} {e : Env} {s : State} {m : MethodId} {below : List Frame} {meth : Method} {c : Code} {E : qE} {A : Nat → Prop} {b N : Nat} {xs : Nat → Int32} {L : List Nat} {G : qG} {q1 q3 : Nat} (C : q_N p s m #[Value.ref b] meth c code 4 wsL_law RL ret meth.name E A) (hX : va_X b N xs s s.heap) (hbl : b < s.heap.size) (hbA : ¬ A b) (hNd : L.Nodup) (hG : q_WF G L) (L1 : q1 ∈ L) (K1 : G.1 q1 = 5) (L3 : q3 ∈ L) (K3 : G.1 q3 = 6) {i : Int32} {kb : qS → Prop} (Hb : ∀ τ : qS, kb τ → Wn p l e room_1 s m #[Value.ref b] below meth c E A (lw_Z below #[Value.ref b] s) 4 600000 7302250 L G τ 933 [(0, .ref b), (1, .ref q1), (2, .ref q3), (3, .int i)] []) {σ : qS} (h : lc13 G q1 q3 N xs i kb σ) : Wn p l e room_1 s m #[Value.ref b] below meth c E A (lw_Z below #[Value.ref b] s) 4 600000 7302250 L G σ 679 [(0, .ref b), (1, .ref q1), (2, .ref q3), (3, .int i)] [] := by
  unfold lc13 at h
  refine n_aload_n (pc := 679) C dL_law_679 rfl 1 rfl ?_
  refine n_aload_n (pc := 680) C dL_law_680 rfl 0 rfl ?_
  refine n_iload_n (pc := 681) C dL_law_681 rfl 3 rfl ?_
  refine n_iconst (pc := 682) (v := 1) C dL_law_682 (by decide) ?_
  refine n_iadd (pc := 683) C dL_law_683 ?_
  obtain ⟨z1, h⟩ := h
  refine n_sld (pc := 684) C hX hbl hbA z1 dL_law_684 ?_
  refine n_aload_n (pc := 685) C dL_law_685 rfl 0 rfl ?_
  refine n_iload_n (pc := 686) C dL_law_686 rfl 3 rfl ?_
  refine n_iconst (pc := 687) (v := 2) C dL_law_687 (by decide) ?_
  refine n_iadd (pc := 688) C dL_law_688 ?_
  obtain ⟨z2, h⟩ := h
  refine n_sld (pc := 689) C hX hbl hbA z2 dL_law_689 ?_
  refine n_cVi (pc := 690) (As := [.int (xs (i + 1).toNatClampNeg), .int (xs (i + 2).toNatClampNeg)]) (ci := 5) (Cn := RX5) (T := TX5) (N := 9) C (sdX5_cmp hNd hG L1 K1 h) (cwV 2 C.1.2.2.2.2 gL_law_X5_cmp rfl rfl rfl (by decide +kernel) ⟨Nat.le_of_ble_eq_true rfl, Nat.le_of_ble_eq_true rfl⟩) L1 (qc5 K1 _) rfl rfl rfl (Nat.le_of_ble_eq_true rfl) (Nat.le_refl _) (Nat.le_refl _) dL_law_690 (fun u3 σ4 h => ?_)
  refine n_aload_n (pc := 693) C dL_law_693 rfl 2 rfl ?_
  refine n_aload_n (pc := 694) C dL_law_694 rfl 0 rfl ?_
  refine n_iload_n (pc := 695) C dL_law_695 rfl 3 rfl ?_
  refine n_iconst (pc := 696) (v := 1) C dL_law_696 (by decide) ?_
  refine n_iadd (pc := 697) C dL_law_697 ?_
  obtain ⟨z5, h⟩ := h
  refine n_sld (pc := 698) C hX hbl hbA z5 dL_law_698 ?_
  refine n_aload_n (pc := 699) C dL_law_699 rfl 0 rfl ?_
  refine n_iload_n (pc := 700) C dL_law_700 rfl 3 rfl ?_
  refine n_iconst (pc := 701) (v := 2) C dL_law_701 (by decide) ?_
  refine n_iadd (pc := 702) C dL_law_702 ?_
  obtain ⟨z6, h⟩ := h
  refine n_sld (pc := 703) C hX hbl hbA z6 dL_law_703 ?_
  refine n_cVi (pc := 704) (As := [.int (xs (i + 1).toNatClampNeg), .int (xs (i + 2).toNatClampNeg)]) (ci := 6) (Cn := RX6) (T := TX6) (N := 9) C (sdX6_cmp hNd hG L3 K3 h) (cwV 2 C.1.2.2.2.2 gL_law_X6_cmp rfl rfl rfl (by decide +kernel) ⟨Nat.le_of_ble_eq_true rfl, Nat.le_of_ble_eq_true rfl⟩) L3 (qc6 K3 _) rfl rfl rfl (Nat.le_of_ble_eq_true rfl) (Nat.le_refl _) (Nat.le_refl _) dL_law_704 (fun u7 σ8 h => ?_)
  obtain ⟨zq, h⟩ := h
  refine n_icmp_eq (tgt := 933) (pc := 707) C dL_law_707 (by decide) (fun _ => ?_) (fun cq => absurd zq cq)
  exact Hb σ8 h
def lc14 (G : qG) (q1 q3 N : Nat) (xs : Nat → Int32) (i : Int32) (kb : qS → Prop) (σ : qS) : Prop := vp_in (i + 1) N ∧ wpX5_sign G q1 (xs (i + 1).toNatClampNeg) σ (fun (u2 : Int32) (σ3 : qS) => vp_in (i + 1) N ∧ wpX6_sign G q3 (xs (i + 1).toNatClampNeg) σ3 (fun (u5 : Int32) (σ6 : qS) => u2 = u5 ∧ kb σ6))
set_option maxHeartbeats 4000000 in
set_option maxRecDepth 100000 in
theorem slc14 {p : Program} {l : Launch} {e : Env} {s : State} {m : MethodId} {below : List Frame} {meth : Method} {c : Code} {E : qE} {A : Nat → Prop} {b N : Nat} {xs : Nat → Int32} {L : List Nat} {G : qG} {q1 q3 : Nat} (C : q_N p s m #[Value.ref b] meth c code 4 wsL_law RL ret meth.name E A) (hX : va_X b N xs s s.heap) (hbl : b < s.heap.size) (hbA : ¬ A b) (hNd : L.Nodup) (hG : q_WF G L) (L1 : q1 ∈ L) (K1 : G.1 q1 = 5) (L3 : q3 ∈ L) (K3 : G.1 q3 = 6) {i : Int32} {kb : qS → Prop} (Hb : ∀ τ : qS, kb τ → Wn p l e room_1 s m #[Value.ref b] below meth c E A (lw_Z below #[Value.ref b] s) 4 600000 7302250 L G τ 933 [(0, .ref b), (1, .ref q1), (2, .ref q3), (3, .int i)] []) {σ : qS} (h : lc14 G q1 q3 N xs i kb σ) : Wn p l e room_1 s m #[Value.ref b] below meth c E A (lw_Z below #[Value.ref b] s) 4 600000 7302250 L G σ 712 [(0, .ref b), (1, .ref q1), (2, .ref q3), (3, .int i)] [] := by
  unfold lc14 at h
  refine n_aload_n (pc := 712) C dL_law_712 rfl 1 rfl ?_
  refine n_aload_n (pc := 713) C dL_law_713 rfl 0 rfl ?_
  refine n_iload_n (pc := 714) C dL_law_714 rfl 3 rfl ?_
  refine n_iconst (pc := 715) (v := 1) C dL_law_715 (by decide) ?_
  refine n_iadd (pc := 716) C dL_law_716 ?_
  obtain ⟨z1, h⟩ := h
  refine n_sld (pc := 717) C hX hbl hbA z1 dL_law_717 ?_
  refine n_cVi (pc := 718) (As := [.int (xs (i + 1).toNatClampNeg)]) (ci := 5) (Cn := RX5) (T := TX5) (N := 9) C (sdX5_sign hNd hG L1 K1 h) (cwV 1 C.1.2.2.2.2 gL_law_X5_sign rfl rfl rfl (by decide +kernel) ⟨Nat.le_of_ble_eq_true rfl, Nat.le_of_ble_eq_true rfl⟩) L1 (qc5 K1 _) rfl rfl rfl (Nat.le_of_ble_eq_true rfl) (Nat.le_refl _) (Nat.le_refl _) dL_law_718 (fun u2 σ3 h => ?_)
  refine n_aload_n (pc := 721) C dL_law_721 rfl 2 rfl ?_
  refine n_aload_n (pc := 722) C dL_law_722 rfl 0 rfl ?_
  refine n_iload_n (pc := 723) C dL_law_723 rfl 3 rfl ?_
  refine n_iconst (pc := 724) (v := 1) C dL_law_724 (by decide) ?_
  refine n_iadd (pc := 725) C dL_law_725 ?_
  obtain ⟨z4, h⟩ := h
  refine n_sld (pc := 726) C hX hbl hbA z4 dL_law_726 ?_
  refine n_cVi (pc := 727) (As := [.int (xs (i + 1).toNatClampNeg)]) (ci := 6) (Cn := RX6) (T := TX6) (N := 9) C (sdX6_sign hNd hG L3 K3 h) (cwV 1 C.1.2.2.2.2 gL_law_X6_sign rfl rfl rfl (by decide +kernel) ⟨Nat.le_of_ble_eq_true rfl, Nat.le_of_ble_eq_true rfl⟩) L3 (qc6 K3 _) rfl rfl rfl (Nat.le_of_ble_eq_true rfl) (Nat.le_refl _) (Nat.le_refl _) dL_law_727 (fun u5 σ6 h => ?_)
  obtain ⟨zq, h⟩ := h
  refine n_icmp_eq (tgt := 933) (pc := 730) C dL_law_730 (by decide) (fun _ => ?_) (fun cq => absurd zq cq)
  exact Hb σ6 h
def lc15 (G : qG) (q1 q3 N : Nat) (xs : Nat → Int32) (i : Int32) (kb : qS → Prop) (σ : qS) : Prop := vp_in (i + 1) N ∧ vp_in (i + 2) N ∧ wpX5_length G q1 (xs (i + 1).toNatClampNeg) (xs (i + 2).toNatClampNeg) σ (fun (u3 : Int32) (σ4 : qS) => vp_in (i + 1) N ∧ vp_in (i + 2) N ∧ wpX6_length G q3 (xs (i + 1).toNatClampNeg) (xs (i + 2).toNatClampNeg) σ4 (fun (u7 : Int32) (σ8 : qS) => u3 = u7 ∧ kb σ8))
set_option maxHeartbeats 4000000 in
set_option maxRecDepth 100000 in
theorem slc15 {p : Program} {l : Launch} {e : Env} {s : State} {m : MethodId} {below : List Frame} {meth : Method} {c : Code} {E : qE} {A : Nat → Prop} {b N : Nat} {xs : Nat → Int32} {L : List Nat} {G : qG} {q1 q3 : Nat} (C : q_N p s m #[Value.ref b] meth c code 4 wsL_law RL ret meth.name E A) (hX : va_X b N xs s s.heap) (hbl : b < s.heap.size) (hbA : ¬ A b) (hNd : L.Nodup) (hG : q_WF G L) (L1 : q1 ∈ L) (K1 : G.1 q1 = 5) (L3 : q3 ∈ L) (K3 : G.1 q3 = 6) {i : Int32} {kb : qS → Prop} (Hb : ∀ τ : qS, kb τ → Wn p l e room_1 s m #[Value.ref b] below meth c E A (lw_Z below #[Value.ref b] s) 4 600000 7302250 L G τ 933 [(0, .ref b), (1, .ref q1), (2, .ref q3), (3, .int i)] []) {σ : qS} (h : lc15 G q1 q3 N xs i kb σ) : Wn p l e room_1 s m #[Value.ref b] below meth c E A (lw_Z below #[Value.ref b] s) 4 600000 7302250 L G σ 735 [(0, .ref b), (1, .ref q1), (2, .ref q3), (3, .int i)] [] := by
  unfold lc15 at h
  refine n_aload_n (pc := 735) C dL_law_735 rfl 1 rfl ?_
  refine n_aload_n (pc := 736) C dL_law_736 rfl 0 rfl ?_
  refine n_iload_n (pc := 737) C dL_law_737 rfl 3 rfl ?_
  refine n_iconst (pc := 738) (v := 1) C dL_law_738 (by decide) ?_
  refine n_iadd (pc := 739) C dL_law_739 ?_
  obtain ⟨z1, h⟩ := h
  refine n_sld (pc := 740) C hX hbl hbA z1 dL_law_740 ?_
  refine n_aload_n (pc := 741) C dL_law_741 rfl 0 rfl ?_
  refine n_iload_n (pc := 742) C dL_law_742 rfl 3 rfl ?_
  refine n_iconst (pc := 743) (v := 2) C dL_law_743 (by decide) ?_
  refine n_iadd (pc := 744) C dL_law_744 ?_
  obtain ⟨z2, h⟩ := h
  refine n_sld (pc := 745) C hX hbl hbA z2 dL_law_745 ?_
  refine n_cVi (pc := 746) (As := [.int (xs (i + 1).toNatClampNeg), .int (xs (i + 2).toNatClampNeg)]) (ci := 5) (Cn := RX5) (T := TX5) (N := 9) C (sdX5_length hNd hG L1 K1 h) (cwV 2 C.1.2.2.2.2 gL_law_X5_length rfl rfl rfl (by decide +kernel) ⟨Nat.le_of_ble_eq_true rfl, Nat.le_of_ble_eq_true rfl⟩) L1 (qc5 K1 _) rfl rfl rfl (Nat.le_of_ble_eq_true rfl) (Nat.le_refl _) (Nat.le_refl _) dL_law_746 (fun u3 σ4 h => ?_)
  refine n_aload_n (pc := 749) C dL_law_749 rfl 2 rfl ?_
  refine n_aload_n (pc := 750) C dL_law_750 rfl 0 rfl ?_
  refine n_iload_n (pc := 751) C dL_law_751 rfl 3 rfl ?_
  refine n_iconst (pc := 752) (v := 1) C dL_law_752 (by decide) ?_
  refine n_iadd (pc := 753) C dL_law_753 ?_
  obtain ⟨z5, h⟩ := h
  refine n_sld (pc := 754) C hX hbl hbA z5 dL_law_754 ?_
  refine n_aload_n (pc := 755) C dL_law_755 rfl 0 rfl ?_
  refine n_iload_n (pc := 756) C dL_law_756 rfl 3 rfl ?_
  refine n_iconst (pc := 757) (v := 2) C dL_law_757 (by decide) ?_
  refine n_iadd (pc := 758) C dL_law_758 ?_
  obtain ⟨z6, h⟩ := h
  refine n_sld (pc := 759) C hX hbl hbA z6 dL_law_759 ?_
  refine n_cVi (pc := 760) (As := [.int (xs (i + 1).toNatClampNeg), .int (xs (i + 2).toNatClampNeg)]) (ci := 6) (Cn := RX6) (T := TX6) (N := 9) C (sdX6_length hNd hG L3 K3 h) (cwV 2 C.1.2.2.2.2 gL_law_X6_length rfl rfl rfl (by decide +kernel) ⟨Nat.le_of_ble_eq_true rfl, Nat.le_of_ble_eq_true rfl⟩) L3 (qc6 K3 _) rfl rfl rfl (Nat.le_of_ble_eq_true rfl) (Nat.le_refl _) (Nat.le_refl _) dL_law_760 (fun u7 σ8 h => ?_)
  obtain ⟨zq, h⟩ := h
  refine n_icmp_eq (tgt := 933) (pc := 763) C dL_law_763 (by decide) (fun _ => ?_) (fun cq => absurd zq cq)
  exact Hb σ8 h
def lc16 (G : qG) (q1 q3 N : Nat) (xs : Nat → Int32) (i : Int32) (kb : qS → Prop) (σ : qS) : Prop := vp_in (i + 1) N ∧ vp_in (i + 2) N ∧ wpX5_limb G q1 (xs (i + 1).toNatClampNeg) (xs (i + 2).toNatClampNeg) σ (fun (u3 : Int32) (σ4 : qS) => vp_in (i + 1) N ∧ vp_in (i + 2) N ∧ wpX6_limb G q3 (xs (i + 1).toNatClampNeg) (xs (i + 2).toNatClampNeg) σ4 (fun (u7 : Int32) (σ8 : qS) => u3 = u7 ∧ kb σ8))
set_option maxHeartbeats 4000000 in
set_option maxRecDepth 100000 in
theorem slc16 {p : Program} {l : Launch} {e : Env} {s : State} {m : MethodId} {below : List Frame} {meth : Method} {c : Code} {E : qE} {A : Nat → Prop} {b N : Nat} {xs : Nat → Int32} {L : List Nat} {G : qG} {q1 q3 : Nat} (C : q_N p s m #[Value.ref b] meth c code 4 wsL_law RL ret meth.name E A) (hX : va_X b N xs s s.heap) (hbl : b < s.heap.size) (hbA : ¬ A b) (hNd : L.Nodup) (hG : q_WF G L) (L1 : q1 ∈ L) (K1 : G.1 q1 = 5) (L3 : q3 ∈ L) (K3 : G.1 q3 = 6) {i : Int32} {kb : qS → Prop} (Hb : ∀ τ : qS, kb τ → Wn p l e room_1 s m #[Value.ref b] below meth c E A (lw_Z below #[Value.ref b] s) 4 600000 7302250 L G τ 933 [(0, .ref b), (1, .ref q1), (2, .ref q3), (3, .int i)] []) {σ : qS} (h : lc16 G q1 q3 N xs i kb σ) : Wn p l e room_1 s m #[Value.ref b] below meth c E A (lw_Z below #[Value.ref b] s) 4 600000 7302250 L G σ 768 [(0, .ref b), (1, .ref q1), (2, .ref q3), (3, .int i)] [] := by
  unfold lc16 at h
  refine n_aload_n (pc := 768) C dL_law_768 rfl 1 rfl ?_
  refine n_aload_n (pc := 769) C dL_law_769 rfl 0 rfl ?_
  refine n_iload_n (pc := 770) C dL_law_770 rfl 3 rfl ?_
  refine n_iconst (pc := 771) (v := 1) C dL_law_771 (by decide) ?_
  refine n_iadd (pc := 772) C dL_law_772 ?_
  obtain ⟨z1, h⟩ := h
  refine n_sld (pc := 773) C hX hbl hbA z1 dL_law_773 ?_
  refine n_aload_n (pc := 774) C dL_law_774 rfl 0 rfl ?_
  refine n_iload_n (pc := 775) C dL_law_775 rfl 3 rfl ?_
  refine n_iconst (pc := 776) (v := 2) C dL_law_776 (by decide) ?_
  refine n_iadd (pc := 777) C dL_law_777 ?_
  obtain ⟨z2, h⟩ := h
  refine n_sld (pc := 778) C hX hbl hbA z2 dL_law_778 ?_
  refine n_cVi (pc := 779) (As := [.int (xs (i + 1).toNatClampNeg), .int (xs (i + 2).toNatClampNeg)]) (ci := 5) (Cn := RX5) (T := TX5) (N := 9) C (sdX5_limb hNd hG L1 K1 h) (cwV 2 C.1.2.2.2.2 gL_law_X5_limb rfl rfl rfl (by decide +kernel) ⟨Nat.le_of_ble_eq_true rfl, Nat.le_of_ble_eq_true rfl⟩) L1 (qc5 K1 _) rfl rfl rfl (Nat.le_of_ble_eq_true rfl) (Nat.le_refl _) (Nat.le_refl _) dL_law_779 (fun u3 σ4 h => ?_)
  refine n_aload_n (pc := 782) C dL_law_782 rfl 2 rfl ?_
  refine n_aload_n (pc := 783) C dL_law_783 rfl 0 rfl ?_
  refine n_iload_n (pc := 784) C dL_law_784 rfl 3 rfl ?_
  refine n_iconst (pc := 785) (v := 1) C dL_law_785 (by decide) ?_
  refine n_iadd (pc := 786) C dL_law_786 ?_
  obtain ⟨z5, h⟩ := h
  refine n_sld (pc := 787) C hX hbl hbA z5 dL_law_787 ?_
  refine n_aload_n (pc := 788) C dL_law_788 rfl 0 rfl ?_
  refine n_iload_n (pc := 789) C dL_law_789 rfl 3 rfl ?_
  refine n_iconst (pc := 790) (v := 2) C dL_law_790 (by decide) ?_
  refine n_iadd (pc := 791) C dL_law_791 ?_
  obtain ⟨z6, h⟩ := h
  refine n_sld (pc := 792) C hX hbl hbA z6 dL_law_792 ?_
  refine n_cVi (pc := 793) (As := [.int (xs (i + 1).toNatClampNeg), .int (xs (i + 2).toNatClampNeg)]) (ci := 6) (Cn := RX6) (T := TX6) (N := 9) C (sdX6_limb hNd hG L3 K3 h) (cwV 2 C.1.2.2.2.2 gL_law_X6_limb rfl rfl rfl (by decide +kernel) ⟨Nat.le_of_ble_eq_true rfl, Nat.le_of_ble_eq_true rfl⟩) L3 (qc6 K3 _) rfl rfl rfl (Nat.le_of_ble_eq_true rfl) (Nat.le_refl _) (Nat.le_refl _) dL_law_793 (fun u7 σ8 h => ?_)
  obtain ⟨zq, h⟩ := h
  refine n_icmp_eq (tgt := 933) (pc := 796) C dL_law_796 (by decide) (fun _ => ?_) (fun cq => absurd zq cq)
  exact Hb σ8 h
def lc17 (G : qG) (q1 q3 N : Nat) (xs : Nat → Int32) (i : Int32) (kb : qS → Prop) (σ : qS) : Prop := vp_in (i + 1) N ∧ wpX5_write G q1 (xs (i + 1).toNatClampNeg) σ (fun (u2 : Int32) (σ3 : qS) => vp_in (i + 1) N ∧ wpX6_write G q3 (xs (i + 1).toNatClampNeg) σ3 (fun (u5 : Int32) (σ6 : qS) => u2 = u5 ∧ kb σ6))
set_option maxHeartbeats 4000000 in
set_option maxRecDepth 100000 in
theorem slc17 {p : Program} {l : Launch} {e : Env} {s : State} {m : MethodId} {below : List Frame} {meth : Method} {c : Code} {E : qE} {A : Nat → Prop} {b N : Nat} {xs : Nat → Int32} {L : List Nat} {G : qG} {q1 q3 : Nat} (C : q_N p s m #[Value.ref b] meth c code 4 wsL_law RL ret meth.name E A) (hX : va_X b N xs s s.heap) (hbl : b < s.heap.size) (hbA : ¬ A b) (hNd : L.Nodup) (hG : q_WF G L) (L1 : q1 ∈ L) (K1 : G.1 q1 = 5) (L3 : q3 ∈ L) (K3 : G.1 q3 = 6) {i : Int32} {kb : qS → Prop} (Hb : ∀ τ : qS, kb τ → Wn p l e room_1 s m #[Value.ref b] below meth c E A (lw_Z below #[Value.ref b] s) 4 600000 7302250 L G τ 933 [(0, .ref b), (1, .ref q1), (2, .ref q3), (3, .int i)] []) {σ : qS} (h : lc17 G q1 q3 N xs i kb σ) : Wn p l e room_1 s m #[Value.ref b] below meth c E A (lw_Z below #[Value.ref b] s) 4 600000 7302250 L G σ 801 [(0, .ref b), (1, .ref q1), (2, .ref q3), (3, .int i)] [] := by
  unfold lc17 at h
  refine n_aload_n (pc := 801) C dL_law_801 rfl 1 rfl ?_
  refine n_aload_n (pc := 802) C dL_law_802 rfl 0 rfl ?_
  refine n_iload_n (pc := 803) C dL_law_803 rfl 3 rfl ?_
  refine n_iconst (pc := 804) (v := 1) C dL_law_804 (by decide) ?_
  refine n_iadd (pc := 805) C dL_law_805 ?_
  obtain ⟨z1, h⟩ := h
  refine n_sld (pc := 806) C hX hbl hbA z1 dL_law_806 ?_
  refine n_cVi (pc := 807) (As := [.int (xs (i + 1).toNatClampNeg)]) (ci := 5) (Cn := RX5) (T := TX5) (N := 9) C (sdX5_write hNd hG L1 K1 h) (cwV 1 C.1.2.2.2.2 gL_law_X5_write rfl rfl rfl (by decide +kernel) ⟨Nat.le_of_ble_eq_true rfl, Nat.le_of_ble_eq_true rfl⟩) L1 (qc5 K1 _) rfl rfl rfl (Nat.le_of_ble_eq_true rfl) (Nat.le_refl _) (Nat.le_refl _) dL_law_807 (fun u2 σ3 h => ?_)
  refine n_aload_n (pc := 810) C dL_law_810 rfl 2 rfl ?_
  refine n_aload_n (pc := 811) C dL_law_811 rfl 0 rfl ?_
  refine n_iload_n (pc := 812) C dL_law_812 rfl 3 rfl ?_
  refine n_iconst (pc := 813) (v := 1) C dL_law_813 (by decide) ?_
  refine n_iadd (pc := 814) C dL_law_814 ?_
  obtain ⟨z4, h⟩ := h
  refine n_sld (pc := 815) C hX hbl hbA z4 dL_law_815 ?_
  refine n_cVi (pc := 816) (As := [.int (xs (i + 1).toNatClampNeg)]) (ci := 6) (Cn := RX6) (T := TX6) (N := 9) C (sdX6_write hNd hG L3 K3 h) (cwV 1 C.1.2.2.2.2 gL_law_X6_write rfl rfl rfl (by decide +kernel) ⟨Nat.le_of_ble_eq_true rfl, Nat.le_of_ble_eq_true rfl⟩) L3 (qc6 K3 _) rfl rfl rfl (Nat.le_of_ble_eq_true rfl) (Nat.le_refl _) (Nat.le_refl _) dL_law_816 (fun u5 σ6 h => ?_)
  obtain ⟨zq, h⟩ := h
  refine n_icmp_eq (tgt := 933) (pc := 819) C dL_law_819 (by decide) (fun _ => ?_) (fun cq => absurd zq cq)
  exact Hb σ6 h
def lc18 (G : qG) (q1 q3 N : Nat) (xs : Nat → Int32) (i : Int32) (kb : qS → Prop) (σ : qS) : Prop := vp_in (i + 1) N ∧ wpX5_written G q1 (xs (i + 1).toNatClampNeg) σ (fun (u2 : Int32) (σ3 : qS) => vp_in (i + 1) N ∧ wpX6_written G q3 (xs (i + 1).toNatClampNeg) σ3 (fun (u5 : Int32) (σ6 : qS) => u2 = u5 ∧ kb σ6))
set_option maxHeartbeats 4000000 in
set_option maxRecDepth 100000 in
theorem slc18 {p : Program} {l : Launch} {e : Env} {s : State} {m : MethodId} {below : List Frame} {meth : Method} {c : Code} {E : qE} {A : Nat → Prop} {b N : Nat} {xs : Nat → Int32} {L : List Nat} {G : qG} {q1 q3 : Nat} (C : q_N p s m #[Value.ref b] meth c code 4 wsL_law RL ret meth.name E A) (hX : va_X b N xs s s.heap) (hbl : b < s.heap.size) (hbA : ¬ A b) (hNd : L.Nodup) (hG : q_WF G L) (L1 : q1 ∈ L) (K1 : G.1 q1 = 5) (L3 : q3 ∈ L) (K3 : G.1 q3 = 6) {i : Int32} {kb : qS → Prop} (Hb : ∀ τ : qS, kb τ → Wn p l e room_1 s m #[Value.ref b] below meth c E A (lw_Z below #[Value.ref b] s) 4 600000 7302250 L G τ 933 [(0, .ref b), (1, .ref q1), (2, .ref q3), (3, .int i)] []) {σ : qS} (h : lc18 G q1 q3 N xs i kb σ) : Wn p l e room_1 s m #[Value.ref b] below meth c E A (lw_Z below #[Value.ref b] s) 4 600000 7302250 L G σ 824 [(0, .ref b), (1, .ref q1), (2, .ref q3), (3, .int i)] [] := by
  unfold lc18 at h
  refine n_aload_n (pc := 824) C dL_law_824 rfl 1 rfl ?_
  refine n_aload_n (pc := 825) C dL_law_825 rfl 0 rfl ?_
  refine n_iload_n (pc := 826) C dL_law_826 rfl 3 rfl ?_
  refine n_iconst (pc := 827) (v := 1) C dL_law_827 (by decide) ?_
  refine n_iadd (pc := 828) C dL_law_828 ?_
  obtain ⟨z1, h⟩ := h
  refine n_sld (pc := 829) C hX hbl hbA z1 dL_law_829 ?_
  refine n_cVi (pc := 830) (As := [.int (xs (i + 1).toNatClampNeg)]) (ci := 5) (Cn := RX5) (T := TX5) (N := 9) C (sdX5_written hNd hG L1 K1 h) (cwV 1 C.1.2.2.2.2 gL_law_X5_written rfl rfl rfl (by decide +kernel) ⟨Nat.le_of_ble_eq_true rfl, Nat.le_of_ble_eq_true rfl⟩) L1 (qc5 K1 _) rfl rfl rfl (Nat.le_of_ble_eq_true rfl) (Nat.le_refl _) (Nat.le_refl _) dL_law_830 (fun u2 σ3 h => ?_)
  refine n_aload_n (pc := 833) C dL_law_833 rfl 2 rfl ?_
  refine n_aload_n (pc := 834) C dL_law_834 rfl 0 rfl ?_
  refine n_iload_n (pc := 835) C dL_law_835 rfl 3 rfl ?_
  refine n_iconst (pc := 836) (v := 1) C dL_law_836 (by decide) ?_
  refine n_iadd (pc := 837) C dL_law_837 ?_
  obtain ⟨z4, h⟩ := h
  refine n_sld (pc := 838) C hX hbl hbA z4 dL_law_838 ?_
  refine n_cVi (pc := 839) (As := [.int (xs (i + 1).toNatClampNeg)]) (ci := 6) (Cn := RX6) (T := TX6) (N := 9) C (sdX6_written hNd hG L3 K3 h) (cwV 1 C.1.2.2.2.2 gL_law_X6_written rfl rfl rfl (by decide +kernel) ⟨Nat.le_of_ble_eq_true rfl, Nat.le_of_ble_eq_true rfl⟩) L3 (qc6 K3 _) rfl rfl rfl (Nat.le_of_ble_eq_true rfl) (Nat.le_refl _) (Nat.le_refl _) dL_law_839 (fun u5 σ6 h => ?_)
  obtain ⟨zq, h⟩ := h
  refine n_icmp_eq (tgt := 933) (pc := 842) C dL_law_842 (by decide) (fun _ => ?_) (fun cq => absurd zq cq)
  exact Hb σ6 h
def lc19 (G : qG) (q1 q3 N : Nat) (xs : Nat → Int32) (i : Int32) (kb : qS → Prop) (σ : qS) : Prop := vp_in (i + 1) N ∧ vp_in (i + 2) N ∧ vp_in (i + 3) N ∧ wpX5_type G q1 ((((xs (i + 1).toNatClampNeg).toInt64) <<< ((32 : Int32).toInt64 &&& 63)) ||| (((xs (i + 2).toNatClampNeg).toInt64) &&& 4294967295)) (xs (i + 3).toNatClampNeg) σ (fun (u4 : Int32) (σ5 : qS) => vp_in (i + 1) N ∧ vp_in (i + 2) N ∧ vp_in (i + 3) N ∧ wpX6_type G q3 ((((xs (i + 1).toNatClampNeg).toInt64) <<< ((32 : Int32).toInt64 &&& 63)) ||| (((xs (i + 2).toNatClampNeg).toInt64) &&& 4294967295)) (xs (i + 3).toNatClampNeg) σ5 (fun (u9 : Int32) (σ10 : qS) => u4 = u9 ∧ kb σ10))
set_option maxHeartbeats 4000000 in
set_option maxRecDepth 100000 in
theorem slc19 {p : Program} {l : Launch} {e : Env} {s : State} {m : MethodId} {below : List Frame} {meth : Method} {c : Code} {E : qE} {A : Nat → Prop} {b N : Nat} {xs : Nat → Int32} {L : List Nat} {G : qG} {q1 q3 : Nat} (C : q_N p s m #[Value.ref b] meth c code 4 wsL_law RL ret meth.name E A) (hX : va_X b N xs s s.heap) (hbl : b < s.heap.size) (hbA : ¬ A b) (hNd : L.Nodup) (hG : q_WF G L) (L1 : q1 ∈ L) (K1 : G.1 q1 = 5) (L3 : q3 ∈ L) (K3 : G.1 q3 = 6) {i : Int32} {kb : qS → Prop} (Hb : ∀ τ : qS, kb τ → Wn p l e room_1 s m #[Value.ref b] below meth c E A (lw_Z below #[Value.ref b] s) 4 600000 7302250 L G τ 933 [(0, .ref b), (1, .ref q1), (2, .ref q3), (3, .int i)] []) {σ : qS} (h : lc19 G q1 q3 N xs i kb σ) : Wn p l e room_1 s m #[Value.ref b] below meth c E A (lw_Z below #[Value.ref b] s) 4 600000 7302250 L G σ 847 [(0, .ref b), (1, .ref q1), (2, .ref q3), (3, .int i)] [] := by
  unfold lc19 at h
  refine n_aload_n (pc := 847) C dL_law_847 rfl 1 rfl ?_
  refine n_aload_n (pc := 848) C dL_law_848 rfl 0 rfl ?_
  refine n_iload_n (pc := 849) C dL_law_849 rfl 3 rfl ?_
  refine n_iconst (pc := 850) (v := 1) C dL_law_850 (by decide) ?_
  refine n_iadd (pc := 851) C dL_law_851 ?_
  obtain ⟨z1, h⟩ := h
  refine n_sld (pc := 852) C hX hbl hbA z1 dL_law_852 ?_
  refine n_i2l (pc := 853) C dL_law_853 ?_
  refine n_bipush (pc := 854) (v := 32) C dL_law_854 (by decide) ?_
  refine n_lshl (pc := 856) C dL_law_856 ?_
  refine n_aload_n (pc := 857) C dL_law_857 rfl 0 rfl ?_
  refine n_iload_n (pc := 858) C dL_law_858 rfl 3 rfl ?_
  refine n_iconst (pc := 859) (v := 2) C dL_law_859 (by decide) ?_
  refine n_iadd (pc := 860) C dL_law_860 ?_
  obtain ⟨z2, h⟩ := h
  refine n_sld (pc := 861) C hX hbl hbA z2 dL_law_861 ?_
  refine n_i2l (pc := 862) C dL_law_862 ?_
  refine n_ldc2 (pc := 863) (v := 4294967295) C dL_law_863 mwL_law_0 ?_
  refine n_land (pc := 866) C dL_law_866 ?_
  refine n_lor (pc := 867) C dL_law_867 ?_
  refine n_aload_n (pc := 868) C dL_law_868 rfl 0 rfl ?_
  refine n_iload_n (pc := 869) C dL_law_869 rfl 3 rfl ?_
  refine n_iconst (pc := 870) (v := 3) C dL_law_870 (by decide) ?_
  refine n_iadd (pc := 871) C dL_law_871 ?_
  obtain ⟨z3, h⟩ := h
  refine n_sld (pc := 872) C hX hbl hbA z3 dL_law_872 ?_
  refine n_cVi (pc := 873) (As := [.long ((((xs (i + 1).toNatClampNeg).toInt64) <<< ((32 : Int32).toInt64 &&& 63)) ||| (((xs (i + 2).toNatClampNeg).toInt64) &&& 4294967295)), .int (xs (i + 3).toNatClampNeg)]) (ci := 5) (Cn := RX5) (T := TX5) (N := 9) C (sdX5_type hNd hG L1 K1 h) (cwV 2 C.1.2.2.2.2 gL_law_X5_type rfl rfl rfl (by decide +kernel) ⟨Nat.le_of_ble_eq_true rfl, Nat.le_of_ble_eq_true rfl⟩) L1 (qc5 K1 _) rfl rfl rfl (Nat.le_of_ble_eq_true rfl) (Nat.le_refl _) (Nat.le_refl _) dL_law_873 (fun u4 σ5 h => ?_)
  refine n_aload_n (pc := 876) C dL_law_876 rfl 2 rfl ?_
  refine n_aload_n (pc := 877) C dL_law_877 rfl 0 rfl ?_
  refine n_iload_n (pc := 878) C dL_law_878 rfl 3 rfl ?_
  refine n_iconst (pc := 879) (v := 1) C dL_law_879 (by decide) ?_
  refine n_iadd (pc := 880) C dL_law_880 ?_
  obtain ⟨z6, h⟩ := h
  refine n_sld (pc := 881) C hX hbl hbA z6 dL_law_881 ?_
  refine n_i2l (pc := 882) C dL_law_882 ?_
  refine n_bipush (pc := 883) (v := 32) C dL_law_883 (by decide) ?_
  refine n_lshl (pc := 885) C dL_law_885 ?_
  refine n_aload_n (pc := 886) C dL_law_886 rfl 0 rfl ?_
  refine n_iload_n (pc := 887) C dL_law_887 rfl 3 rfl ?_
  refine n_iconst (pc := 888) (v := 2) C dL_law_888 (by decide) ?_
  refine n_iadd (pc := 889) C dL_law_889 ?_
  obtain ⟨z7, h⟩ := h
  refine n_sld (pc := 890) C hX hbl hbA z7 dL_law_890 ?_
  refine n_i2l (pc := 891) C dL_law_891 ?_
  refine n_ldc2 (pc := 892) (v := 4294967295) C dL_law_892 mwL_law_0 ?_
  refine n_land (pc := 895) C dL_law_895 ?_
  refine n_lor (pc := 896) C dL_law_896 ?_
  refine n_aload_n (pc := 897) C dL_law_897 rfl 0 rfl ?_
  refine n_iload_n (pc := 898) C dL_law_898 rfl 3 rfl ?_
  refine n_iconst (pc := 899) (v := 3) C dL_law_899 (by decide) ?_
  refine n_iadd (pc := 900) C dL_law_900 ?_
  obtain ⟨z8, h⟩ := h
  refine n_sld (pc := 901) C hX hbl hbA z8 dL_law_901 ?_
  refine n_cVi (pc := 902) (As := [.long ((((xs (i + 1).toNatClampNeg).toInt64) <<< ((32 : Int32).toInt64 &&& 63)) ||| (((xs (i + 2).toNatClampNeg).toInt64) &&& 4294967295)), .int (xs (i + 3).toNatClampNeg)]) (ci := 6) (Cn := RX6) (T := TX6) (N := 9) C (sdX6_type hNd hG L3 K3 h) (cwV 2 C.1.2.2.2.2 gL_law_X6_type rfl rfl rfl (by decide +kernel) ⟨Nat.le_of_ble_eq_true rfl, Nat.le_of_ble_eq_true rfl⟩) L3 (qc6 K3 _) rfl rfl rfl (Nat.le_of_ble_eq_true rfl) (Nat.le_refl _) (Nat.le_refl _) dL_law_902 (fun u9 σ10 h => ?_)
  obtain ⟨zq, h⟩ := h
  refine n_icmp_eq (tgt := 933) (pc := 905) C dL_law_905 (by decide) (fun _ => ?_) (fun cq => absurd zq cq)
  exact Hb σ10 h
def lc20 (G : qG) (q1 q3 N : Nat) (xs : Nat → Int32) (i : Int32) (kb : qS → Prop) (σ : qS) : Prop := vp_in (i + 1) N ∧ wpX5_read G q1 (xs (i + 1).toNatClampNeg) σ (fun (u2 : Int32) (σ3 : qS) => vp_in (i + 1) N ∧ wpX6_read G q3 (xs (i + 1).toNatClampNeg) σ3 (fun (u5 : Int32) (σ6 : qS) => u2 = u5 ∧ kb σ6))
set_option maxHeartbeats 4000000 in
set_option maxRecDepth 100000 in
theorem slc20 {p : Program} {l : Launch} {e : Env} {s : State} {m : MethodId} {below : List Frame} {meth : Method} {c : Code} {E : qE} {A : Nat → Prop} {b N : Nat} {xs : Nat → Int32} {L : List Nat} {G : qG} {q1 q3 : Nat} (C : q_N p s m #[Value.ref b] meth c code 4 wsL_law RL ret meth.name E A) (hX : va_X b N xs s s.heap) (hbl : b < s.heap.size) (hbA : ¬ A b) (hNd : L.Nodup) (hG : q_WF G L) (L1 : q1 ∈ L) (K1 : G.1 q1 = 5) (L3 : q3 ∈ L) (K3 : G.1 q3 = 6) {i : Int32} {kb : qS → Prop} (Hb : ∀ τ : qS, kb τ → Wn p l e room_1 s m #[Value.ref b] below meth c E A (lw_Z below #[Value.ref b] s) 4 600000 7302250 L G τ 933 [(0, .ref b), (1, .ref q1), (2, .ref q3), (3, .int i)] []) {σ : qS} (h : lc20 G q1 q3 N xs i kb σ) : Wn p l e room_1 s m #[Value.ref b] below meth c E A (lw_Z below #[Value.ref b] s) 4 600000 7302250 L G σ 910 [(0, .ref b), (1, .ref q1), (2, .ref q3), (3, .int i)] [] := by
  unfold lc20 at h
  refine n_aload_n (pc := 910) C dL_law_910 rfl 1 rfl ?_
  refine n_aload_n (pc := 911) C dL_law_911 rfl 0 rfl ?_
  refine n_iload_n (pc := 912) C dL_law_912 rfl 3 rfl ?_
  refine n_iconst (pc := 913) (v := 1) C dL_law_913 (by decide) ?_
  refine n_iadd (pc := 914) C dL_law_914 ?_
  obtain ⟨z1, h⟩ := h
  refine n_sld (pc := 915) C hX hbl hbA z1 dL_law_915 ?_
  refine n_cVi (pc := 916) (As := [.int (xs (i + 1).toNatClampNeg)]) (ci := 5) (Cn := RX5) (T := TX5) (N := 9) C (sdX5_read hNd hG L1 K1 h) (cwV 1 C.1.2.2.2.2 gL_law_X5_read rfl rfl rfl (by decide +kernel) ⟨Nat.le_of_ble_eq_true rfl, Nat.le_of_ble_eq_true rfl⟩) L1 (qc5 K1 _) rfl rfl rfl (Nat.le_of_ble_eq_true rfl) (Nat.le_refl _) (Nat.le_refl _) dL_law_916 (fun u2 σ3 h => ?_)
  refine n_aload_n (pc := 919) C dL_law_919 rfl 2 rfl ?_
  refine n_aload_n (pc := 920) C dL_law_920 rfl 0 rfl ?_
  refine n_iload_n (pc := 921) C dL_law_921 rfl 3 rfl ?_
  refine n_iconst (pc := 922) (v := 1) C dL_law_922 (by decide) ?_
  refine n_iadd (pc := 923) C dL_law_923 ?_
  obtain ⟨z4, h⟩ := h
  refine n_sld (pc := 924) C hX hbl hbA z4 dL_law_924 ?_
  refine n_cVi (pc := 925) (As := [.int (xs (i + 1).toNatClampNeg)]) (ci := 6) (Cn := RX6) (T := TX6) (N := 9) C (sdX6_read hNd hG L3 K3 h) (cwV 1 C.1.2.2.2.2 gL_law_X6_read rfl rfl rfl (by decide +kernel) ⟨Nat.le_of_ble_eq_true rfl, Nat.le_of_ble_eq_true rfl⟩) L3 (qc6 K3 _) rfl rfl rfl (Nat.le_of_ble_eq_true rfl) (Nat.le_refl _) (Nat.le_refl _) dL_law_925 (fun u5 σ6 h => ?_)
  obtain ⟨zq, h⟩ := h
  refine n_icmp_eq (tgt := 933) (pc := 928) C dL_law_928 (by decide) (fun _ => ?_) (fun cq => absurd zq cq)
  exact Hb σ6 h
/-- the law's loop, as a proposition on numbers -/
def lpLaw (G : qG) (q1 q3 N : Nat) (xs : Nat → Int32) : Nat → Int32 → qS → Prop
  | 0, _, _ => False
  | n + 1, i, σ => (¬ nI N - 5 < i → vp_in i N ∧ ∀ o : Int32, o = (xs i.toNatClampNeg &&& 31) → ∀ i2 : Int32, i2 = i + 5 → (o.toInt = 0 → lc0 G q1 q3 N xs i (lpLaw G q1 q3 N xs n i2) σ) ∧ (o.toInt = 1 → lc1 G q1 q3 N xs i (lpLaw G q1 q3 N xs n i2) σ) ∧ (o.toInt = 2 → lc2 G q1 q3 N xs i (lpLaw G q1 q3 N xs n i2) σ) ∧ (o.toInt = 3 → lc3 G q1 q3 N xs i (lpLaw G q1 q3 N xs n i2) σ) ∧ (o.toInt = 4 → lc4 G q1 q3 N xs i (lpLaw G q1 q3 N xs n i2) σ) ∧ (o.toInt = 5 → lc5 G q1 q3 N xs i (lpLaw G q1 q3 N xs n i2) σ) ∧ (o.toInt = 6 → lc6 G q1 q3 N xs i (lpLaw G q1 q3 N xs n i2) σ) ∧ (o.toInt = 7 → lc7 G q1 q3 N xs i (lpLaw G q1 q3 N xs n i2) σ) ∧ (o.toInt = 8 → lc8 G q1 q3 N xs i (lpLaw G q1 q3 N xs n i2) σ) ∧ (o.toInt = 9 → lc9 G q1 q3 N xs i (lpLaw G q1 q3 N xs n i2) σ) ∧ (o.toInt = 10 → lc10 G q1 q3 N xs i (lpLaw G q1 q3 N xs n i2) σ) ∧ (o.toInt = 11 → lc11 G q1 q3 N xs i (lpLaw G q1 q3 N xs n i2) σ) ∧ (o.toInt = 12 → lc12 G q1 q3 N xs i (lpLaw G q1 q3 N xs n i2) σ) ∧ (o.toInt = 13 → lc13 G q1 q3 N xs i (lpLaw G q1 q3 N xs n i2) σ) ∧ (o.toInt = 14 → lc14 G q1 q3 N xs i (lpLaw G q1 q3 N xs n i2) σ) ∧ (o.toInt = 15 → lc15 G q1 q3 N xs i (lpLaw G q1 q3 N xs n i2) σ) ∧ (o.toInt = 16 → lc16 G q1 q3 N xs i (lpLaw G q1 q3 N xs n i2) σ) ∧ (o.toInt = 17 → lc17 G q1 q3 N xs i (lpLaw G q1 q3 N xs n i2) σ) ∧ (o.toInt = 18 → lc18 G q1 q3 N xs i (lpLaw G q1 q3 N xs n i2) σ) ∧ (o.toInt = 19 → lc19 G q1 q3 N xs i (lpLaw G q1 q3 N xs n i2) σ) ∧ (o.toInt = 20 → lc20 G q1 q3 N xs i (lpLaw G q1 q3 N xs n i2) σ) ∧ ((o.toInt < 0 ∨ 20 < o.toInt) → lpLaw G q1 q3 N xs n i2 σ))
set_option maxHeartbeats 4000000 in
set_option maxRecDepth 100000 in
theorem sLaw {p : Program} {l : Launch} {e : Env} {s : State} {m : MethodId} {below : List Frame} {meth : Method} {c : Code} {E : qE} {A : Nat → Prop} {b N : Nat} {xs : Nat → Int32} {L : List Nat} {G : qG} {q1 q3 : Nat} (C : q_N p s m #[Value.ref b] meth c code 4 wsL_law RL ret meth.name E A) (hX : va_X b N xs s s.heap) (hbl : b < s.heap.size) (hbA : ¬ A b) (hNd : L.Nodup) (hG : q_WF G L) (L1 : q1 ∈ L) (K1 : G.1 q1 = 5) (L3 : q3 ∈ L) (K3 : G.1 q3 = 6) (hf : ∀ q, A q → s.heap.size ≤ q) : ∀ (n : Nat) (i : Int32) (σ : qS), lpLaw G q1 q3 N xs n i σ → Wn p l e room_1 s m #[Value.ref b] below meth c E A (lw_Z below #[Value.ref b] s) 4 600000 7302250 L G σ 48 [(0, .ref b), (1, .ref q1), (2, .ref q3), (3, .int i)] [] := by
  intro n
  induction n with
  | zero => intro i σ h; exact h.elim
  | succ n ih =>
    intro i σ h
    unfold lpLaw at h
    refine n_iload_n (pc := 48) C dL_law_48 rfl 3 rfl ?_
    refine n_aload_n (pc := 49) C dL_law_49 rfl 0 rfl ?_
    refine n_slen (pc := 50) C hX hbl hbA dL_law_50 ?_
    refine n_iconst (pc := 51) (v := 5) C dL_law_51 (by decide) ?_
    refine n_isub (pc := 52) C dL_law_52 ?_
    refine n_icmp_gt (tgt := 939) (pc := 53) C dL_law_53 (by decide) (fun c1 => ?_) (fun c1 => ?_)
    · refine n_iconst (pc := 939) (v := 1) C dL_law_939 (by decide) ?_
      intro H locs ls hP hD hS hl
      refine va_forget (fun q hq => hf _ (hS.2.2 q hq)) ?_
      exact lw_ret C.1.1 C.1.2.1 C.2.1 C.2.2.1 dL_law_940
    · obtain ⟨z1, h⟩ := h c1
      refine n_aload_n (pc := 56) C dL_law_56 rfl 0 rfl ?_
      refine n_iload_n (pc := 57) C dL_law_57 rfl 3 rfl ?_
      refine n_sld (pc := 58) C hX hbl hbA z1 dL_law_58 ?_
      refine n_bipush (pc := 59) (v := 31) C dL_law_59 (by decide) ?_
      refine n_iand (pc := 61) C dL_law_61 ?_
      refine n_topi (fun o eo => ?_)
      obtain ⟨i2, e2⟩ : ∃ z : Int32, z = i + 5 := ⟨_, rfl⟩
      replace h := h o eo i2 e2
      have Hb : ∀ τ : qS, lpLaw G q1 q3 N xs n i2 τ → Wn p l e room_1 s m #[Value.ref b] below meth c E A (lw_Z below #[Value.ref b] s) 4 600000 7302250 L G τ 933 [(0, .ref b), (1, .ref q1), (2, .ref q3), (3, .int i)] [] := by
        intro τ ht
        refine n_iinc (pc := 933) (v := i2) (j := 3) (lv' := [(3, .int i2), (0, .ref b), (1, .ref q1), (2, .ref q3)]) C dL_law_933 rfl (by rw [e2]; rfl) (by decide) rfl ?_
        refine n_goto (tgt := 48) (pc := 936) C dL_law_936 (by decide) ?_
        refine n_lv (lv' := [(0, .ref b), (1, .ref q1), (2, .ref q3), (3, .int i2)]) [1, 2, 3, 0] rfl ?_
        exact ih i2 τ ht
      by_cases ho : o.toInt < 0 ∨ 20 < o.toInt
      · exact n_tableOut (tgt := 933) (pc := 62) C dL_law_62 ho (by decide) (Hb σ (h.2.2.2.2.2.2.2.2.2.2.2.2.2.2.2.2.2.2.2.2.2 ho))
      · rcases (show o.toInt = 0 ∨ o.toInt = 1 ∨ o.toInt = 2 ∨ o.toInt = 3 ∨ o.toInt = 4 ∨ o.toInt = 5 ∨ o.toInt = 6 ∨ o.toInt = 7 ∨ o.toInt = 8 ∨ o.toInt = 9 ∨ o.toInt = 10 ∨ o.toInt = 11 ∨ o.toInt = 12 ∨ o.toInt = 13 ∨ o.toInt = 14 ∨ o.toInt = 15 ∨ o.toInt = 16 ∨ o.toInt = 17 ∨ o.toInt = 18 ∨ o.toInt = 19 ∨ o.toInt = 20 by omega) with hj | hj | hj | hj | hj | hj | hj | hj | hj | hj | hj | hj | hj | hj | hj | hj | hj | hj | hj | hj | hj
        · exact n_tableIn (off := 98) (tgt := 160) (pc := 62) C dL_law_62 (by omega) (by omega) (by rw [hj]; rfl) (by decide) (slc0 C hX hbl hbA hNd hG L1 K1 L3 K3 Hb (h.1 hj))
        · exact n_tableIn (off := 131) (tgt := 193) (pc := 62) C dL_law_62 (by omega) (by omega) (by rw [hj]; rfl) (by decide) (slc1 C hX hbl hbA hNd hG L1 K1 L3 K3 Hb (h.2.1 hj))
        · exact n_tableIn (off := 164) (tgt := 226) (pc := 62) C dL_law_62 (by omega) (by omega) (by rw [hj]; rfl) (by decide) (slc2 C hX hbl hbA hNd hG L1 K1 L3 K3 Hb (h.2.2.1 hj))
        · exact n_tableIn (off := 197) (tgt := 259) (pc := 62) C dL_law_62 (by omega) (by omega) (by rw [hj]; rfl) (by decide) (slc3 C hX hbl hbA hNd hG L1 K1 L3 K3 Hb (h.2.2.2.1 hj))
        · exact n_tableIn (off := 220) (tgt := 282) (pc := 62) C dL_law_62 (by omega) (by omega) (by rw [hj]; rfl) (by decide) (slc4 C hX hbl hbA hNd hG L1 K1 L3 K3 Hb (h.2.2.2.2.1 hj))
        · exact n_tableIn (off := 263) (tgt := 325) (pc := 62) C dL_law_62 (by omega) (by omega) (by rw [hj]; rfl) (by decide) (slc5 C hX hbl hbA hNd hG L1 K1 L3 K3 Hb (h.2.2.2.2.2.1 hj))
        · exact n_tableIn (off := 306) (tgt := 368) (pc := 62) C dL_law_62 (by omega) (by omega) (by rw [hj]; rfl) (by decide) (slc6 C hX hbl hbA hNd hG L1 K1 L3 K3 Hb (h.2.2.2.2.2.2.1 hj))
        · exact n_tableIn (off := 349) (tgt := 411) (pc := 62) C dL_law_62 (by omega) (by omega) (by rw [hj]; rfl) (by decide) (slc7 C hX hbl hbA hNd hG L1 K1 L3 K3 Hb (h.2.2.2.2.2.2.2.1 hj))
        · exact n_tableIn (off := 402) (tgt := 464) (pc := 62) C dL_law_62 (by omega) (by omega) (by rw [hj]; rfl) (by decide) (slc8 C hX hbl hbA hNd hG L1 K1 L3 K3 Hb (h.2.2.2.2.2.2.2.2.1 hj))
        · exact n_tableIn (off := 445) (tgt := 507) (pc := 62) C dL_law_62 (by omega) (by omega) (by rw [hj]; rfl) (by decide) (slc9 C hX hbl hbA hNd hG L1 K1 L3 K3 Hb (h.2.2.2.2.2.2.2.2.2.1 hj))
        · exact n_tableIn (off := 488) (tgt := 550) (pc := 62) C dL_law_62 (by omega) (by omega) (by rw [hj]; rfl) (by decide) (slc10 C hX hbl hbA hNd hG L1 K1 L3 K3 Hb (h.2.2.2.2.2.2.2.2.2.2.1 hj))
        · exact n_tableIn (off := 531) (tgt := 593) (pc := 62) C dL_law_62 (by omega) (by omega) (by rw [hj]; rfl) (by decide) (slc11 C hX hbl hbA hNd hG L1 K1 L3 K3 Hb (h.2.2.2.2.2.2.2.2.2.2.2.1 hj))
        · exact n_tableIn (off := 584) (tgt := 646) (pc := 62) C dL_law_62 (by omega) (by omega) (by rw [hj]; rfl) (by decide) (slc12 C hX hbl hbA hNd hG L1 K1 L3 K3 Hb (h.2.2.2.2.2.2.2.2.2.2.2.2.1 hj))
        · exact n_tableIn (off := 617) (tgt := 679) (pc := 62) C dL_law_62 (by omega) (by omega) (by rw [hj]; rfl) (by decide) (slc13 C hX hbl hbA hNd hG L1 K1 L3 K3 Hb (h.2.2.2.2.2.2.2.2.2.2.2.2.2.1 hj))
        · exact n_tableIn (off := 650) (tgt := 712) (pc := 62) C dL_law_62 (by omega) (by omega) (by rw [hj]; rfl) (by decide) (slc14 C hX hbl hbA hNd hG L1 K1 L3 K3 Hb (h.2.2.2.2.2.2.2.2.2.2.2.2.2.2.1 hj))
        · exact n_tableIn (off := 673) (tgt := 735) (pc := 62) C dL_law_62 (by omega) (by omega) (by rw [hj]; rfl) (by decide) (slc15 C hX hbl hbA hNd hG L1 K1 L3 K3 Hb (h.2.2.2.2.2.2.2.2.2.2.2.2.2.2.2.1 hj))
        · exact n_tableIn (off := 706) (tgt := 768) (pc := 62) C dL_law_62 (by omega) (by omega) (by rw [hj]; rfl) (by decide) (slc16 C hX hbl hbA hNd hG L1 K1 L3 K3 Hb (h.2.2.2.2.2.2.2.2.2.2.2.2.2.2.2.2.1 hj))
        · exact n_tableIn (off := 739) (tgt := 801) (pc := 62) C dL_law_62 (by omega) (by omega) (by rw [hj]; rfl) (by decide) (slc17 C hX hbl hbA hNd hG L1 K1 L3 K3 Hb (h.2.2.2.2.2.2.2.2.2.2.2.2.2.2.2.2.2.1 hj))
        · exact n_tableIn (off := 762) (tgt := 824) (pc := 62) C dL_law_62 (by omega) (by omega) (by rw [hj]; rfl) (by decide) (slc18 C hX hbl hbA hNd hG L1 K1 L3 K3 Hb (h.2.2.2.2.2.2.2.2.2.2.2.2.2.2.2.2.2.2.1 hj))
        · exact n_tableIn (off := 785) (tgt := 847) (pc := 62) C dL_law_62 (by omega) (by omega) (by rw [hj]; rfl) (by decide) (slc19 C hX hbl hbA hNd hG L1 K1 L3 K3 Hb (h.2.2.2.2.2.2.2.2.2.2.2.2.2.2.2.2.2.2.2.1 hj))
        · exact n_tableIn (off := 848) (tgt := 910) (pc := 62) C dL_law_62 (by omega) (by omega) (by rw [hj]; rfl) (by decide) (slc20 C hX hbl hbA hNd hG L1 K1 L3 K3 Hb (h.2.2.2.2.2.2.2.2.2.2.2.2.2.2.2.2.2.2.2.2.1 hj))

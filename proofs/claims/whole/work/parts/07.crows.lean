theorem m_nst.same {s U : State} (hv : s.vm = U.vm) (h : m_nst s) : m_nst U := by
  obtain ⟨a1, a2, a3, a4, a5, a6, a7, a8, a9, b1⟩ := h
  exact ⟨a1.same rfl hv, a2.same rfl hv, a3.same rfl hv, a4.same rfl hv, a5.same rfl hv, a6.same rfl hv, a7.same rfl hv, a8.same rfl hv, a9.same rfl hv, b1.same rfl hv⟩
theorem m_alike {s U : State} (hv : s.vm = U.vm) : s.vm.Alike U.vm := hv ▸ Vm.Alike.refl s.vm
theorem m_K.same {w : mW} {s U : State} (hv : s.vm = U.vm) (h : m_K w s) : m_K w U := by
  obtain ⟨h1, h2, h3, h4, h5⟩ := h
  have hvm := m_alike hv
  exact ⟨fun c q hq => u_Kn_moved hvm (h1 c q hq), fun t ty ht => ⟨arrOfT_moved hvm (h2 t ty ht).1, (h2 t ty ht).2.moved hvm⟩, h3.same hv, ⟨h4.1.moved hvm, h4.2.1.moved hvm, h4.2.2.moved hvm⟩, h5.1.moved hvm, h5.2.moved hvm⟩
/-- what a method's run comes to: the answer r, the memory M2; nothing that was there before the base changes -/
def mQ (w : mW) (r : Option Value) (M2 : mM) : State → Outcome → State → Prop := fun st oc t => oc = .returned (r.map (m_v (m_f w))) ∧ m_At w M2 t.heap ∧ va_F (fun q => w.2.2.2.2 ≤ q) st t
/-- a method's contract at given arguments and memory -/
def CT (l : Launch) (y : MethodName) (bytes : ByteArray) (maxL : Nat) (ret : Option FieldType) (fr lo mc ms : Nat) (As : List Value) (M : mM) (r : Option Value) (M2 : mM) : Prop :=
  ∀ w : mW, Met l y (Cond.code y bytes maxL ret :: lw_all) ({ frames := fr, cells := mc, slots := ms, locals := lo }) (va_Pc (As.map (m_v (m_f w))) (m_In w M)) (fun _ => mQ w r M2) mc ms (fun q => w.2.2.2.2 ≤ q)
/-- the frame's room, and what it is to come to -/
def EX (X : mX) (l : Launch) (fr lo mc ms : Nat) (r : Option Value) (M2 : mM) : Prop := X.1.2.1 = l ∧ xR X = { frames := fr, cells := mc, slots := ms, locals := lo } ∧ X.2.2.1 = MQ X.2.1.2.1 (fun _ => mQ (xw X) r M2) X.2.1.1 (xs X) mc ms (xA X)
theorem Met.ofWF {l : Launch} {y : MethodName} {ws ws' : List Cond} {rm : Room} {Pc : Array Value → State → Prop} {Qc : Array Value → State → Outcome → State → Prop} {mc ms : Nat} {free : Addr → Prop} {cc : ByteArray} {maxL : Nat} {ret : Option FieldType}
    (hy : plainFor y = true) (hw : ws = Cond.code y cc maxL ret :: ws')
    (body : ∀ p e s m args below meth c s₁, BodyLoose p l y (headSpec ws rm) cc maxL ret e s m args below meth c s₁ → c.maxLocals = maxL → Pc args s →
      W p l e (headSpec ws rm).room s m args below meth c s.heap [] 0 0 (MQ below Qc args s mc ms free) (entryFrame m args maxL)) : Met l y ws rm Pc Qc mc ms free := by
  refine MetFree.of_bodyRF (code := cc) (maxLocals := maxL) (ret := ret) hy ?_ ?_
  · intro args s m h hn
    obtain ⟨meth, c, h1, h2, h3, h4, h5, h6, -, -⟩ := Cond.code_spec hn (atoms_spec (ws := ws) h _ (by rw [hw]; exact List.mem_cons_self))
    exact ⟨meth, c, h1, h2, h3, h4, h5, h6⟩
  · intro p e s m args below meth c s₁ B hml hP _ hst
    have hh0 : s₁.heap = s.heap := by rw [B.state]; rfl
    obtain ⟨t, a1, o, b1, b2, b3⟩ := body p e s m args below meth c s₁ B hml hP s₁ hh0 (Stand.of_body B)
    exact ⟨t, o, hst.trans a1, b1, b2, ⟨b3.1, b3.2⟩⟩
theorem CT.of {l : Launch} {y : MethodName} {bytes : ByteArray} {maxL : Nat} {ret : Option FieldType} {fr lo mc ms : Nat} {As : List Value} {M : mM} {r : Option Value} {M2 : mM} (hy : plainFor y = true) (hL : (lg_sl As).length ≤ maxL)
    (body : ∀ X : mX, CX X y.cls y.name bytes maxL ret → EX X l fr lo mc ms r M2 → EV X maxL 0 (lv_args 0 As) [] 0 0 M) : CT l y bytes maxL ret fr lo mc ms As M r M2 := by
  intro w
  refine Met.ofWF (cc := bytes) (maxL := maxL) (ret := ret) hy rfl ?_
  intro p e s m args below meth c s₁ B hml hv
  obtain ⟨rfl, hIn⟩ := hv
  have hts := atoms_spec (ws := Cond.code y bytes maxL ret :: lw_all) B.pre
  have hcat : ∀ vs : List Value, (lg_sl (vs.map (m_v (m_f w)))).length = (lg_sl vs).length := by
    intro vs
    induction vs with
    | nil => rfl
    | cons v vs ih =>
      have hc := m_v_cat (m_f w) v
      simp only [lg_sl, List.map_cons, List.flatMap_cons, List.length_append] at ih ⊢
      rw [ih, hc]
      split <;> rfl
  have hargs : ∀ (vs : List Value) (n : Nat), lv_args n (vs.map (m_v (m_f w))) = (lv_args n vs).map (fun q => (q.1, m_v (m_f w) q.2)) := by
    intro vs
    induction vs with
    | nil => intro n; rfl
    | cons v vs ih => intro n; simp [lv_args, ih, m_v_cat]
  have hl := lv_entry (As.map (m_v (m_f w))) (n := maxL) (by rw [hcat]; exact hL)
  have K := body ((p, l, e, (headSpec (Cond.code y bytes maxL ret :: lw_all) ({ frames := fr, cells := mc, slots := ms, locals := lo } : Room)).room, s, m), ((As.map (m_v (m_f w))).toArray, below, meth, c), MQ below (fun _ => mQ w r M2) (As.map (m_v (m_f w))).toArray s mc ms (fun q => w.2.2.2.2 ≤ q), w)
    ⟨B.exec, B.bytes, hml, findClass_of_methodNamed B.named, fun z hz => hts z (List.mem_cons_of_mem _ hz), B.notSynchronized, hIn.1, hIn.2.1, hIn.base, B.returns, (name_of_methodNamed B.named B.method).1⟩ ⟨rfl, rfl, rfl⟩
  rw [lg_entry_eq]
  rw [hargs] at hl
  exact K s.heap [] _ hl hIn.2.2 va_S.rf
theorem m_good {l1 : List Cond} (h : ∀ w ∈ l1, w ∈ lw_all) : GoodIn lw_all l1 := fun w hw => ⟨h w hw, good_of_word (lw_all_good w (h w hw))⟩
theorem m_cat (f : Nat → Nat) (st : List Value) : (st.map (m_v f)).map (fun v => v.category) = st.map (fun v => v.category) := by
  rw [List.map_map]
  exact List.map_congr_left (fun v _ => m_v_cat f v)
section EVC
variable {X : mX} {own nm : String} {cc : ByteArray} {nL pc kc ks : Nat} {ret : Option FieldType} {l l' : List (Nat × Value)} {st : List Value} {M M2 Mf : mM} {L0 : Launch} {fr lo mc ms : Nat} {r rf : Option Value}
-- ends
theorem m_end (C : CX X own nm cc nL ret) {H : Heap} {locs : List Loc} (hM : m_At (xw X) M H) (hS : va_S (xA X) (xs X).heap H locs) (t : State) (ht : t.heap = H) : mQ (xw X) rf M (xs X) (.returned (rf.map (m_v (xf X)))) t := ⟨rfl, by rw [ht]; exact hM, hS.F ht⟩
theorem ev_iret (C : CX X own nm cc nL (some .int)) {v : Int32} (E : EX X L0 fr lo mc ms (some (.int v)) M) (h1 : kc ≤ mc) (h2 : ks ≤ ms) (d : decode cc pc = .ok (.ireturn, 1)) : EV X nL pc l [.int v] kc ks M := by
  intro H locs ls hl hM hS
  unfold WX
  rw [E.2.2]
  exact W.widen h1 h2 (W.iret C.1 C.2.1 C.2.2.2.2.2.2.2.2.2.1 (fun t ht hW => m_end (rf := some (.int v)) C hM hS t ht) hS.2.2 d C.2.2.2.2.2.1)
theorem ev_zret (C : CX X own nm cc nL (some .boolean)) {v : Int32} (hz : v = 0 ∨ v = 1) (E : EX X L0 fr lo mc ms (some (.int v)) M) (h1 : kc ≤ mc) (h2 : ks ≤ ms) (d : decode cc pc = .ok (.ireturn, 1)) : EV X nL pc l [.int v] kc ks M := by
  intro H locs ls hl hM hS
  unfold WX
  rw [E.2.2]
  exact W.widen h1 h2 (W.zret C.1 C.2.1 C.2.2.2.2.2.2.2.2.2.1 (by rcases hz with rfl | rfl <;> rfl) (fun t ht hW => m_end (rf := some (.int v)) C hM hS t ht) hS.2.2 d C.2.2.2.2.2.1)
theorem ev_cret (C : CX X own nm cc nL (some .char)) {v : Int32} (hz : narrow .char (.int v) = .int v) (E : EX X L0 fr lo mc ms (some (.int v)) M) (h1 : kc ≤ mc) (h2 : ks ≤ ms) (d : decode cc pc = .ok (.ireturn, 1)) : EV X nL pc l [.int v] kc ks M := by
  intro H locs ls hl hM hS
  unfold WX
  rw [E.2.2]
  exact W.widen h1 h2 (W.zret C.1 C.2.1 C.2.2.2.2.2.2.2.2.2.1 hz (fun t ht hW => m_end (rf := some (.int v)) C hM hS t ht) hS.2.2 d C.2.2.2.2.2.1)
theorem ev_lret (C : CX X own nm cc nL (some .long)) {v : Int64} (E : EX X L0 fr lo mc ms (some (.long v)) M) (h1 : kc ≤ mc) (h2 : ks ≤ ms) (d : decode cc pc = .ok (.lreturn, 1)) : EV X nL pc l [.long v] kc ks M := by
  intro H locs ls hl hM hS
  unfold WX
  rw [E.2.2]
  exact W.widen h1 h2 (W.lret C.1 C.2.1 C.2.2.2.2.2.2.2.2.2.1 (fun t ht hW => m_end (rf := some (.long v)) C hM hS t ht) hS.2.2 d C.2.2.2.2.2.1)
theorem ev_dret (C : CX X own nm cc nL (some .double)) {v : UInt64} (E : EX X L0 fr lo mc ms (some (.double v)) M) (h1 : kc ≤ mc) (h2 : ks ≤ ms) (d : decode cc pc = .ok (.dreturn, 1)) : EV X nL pc l [.double v] kc ks M := by
  intro H locs ls hl hM hS
  unfold WX
  rw [E.2.2]
  exact W.widen h1 h2 (W.dret C.1 C.2.1 C.2.2.2.2.2.2.2.2.2.1 (fun t ht hW => m_end (rf := some (.double v)) C hM hS t ht) hS.2.2 d C.2.2.2.2.2.1)
theorem ev_fret (C : CX X own nm cc nL (some .float)) {v : UInt32} (E : EX X L0 fr lo mc ms (some (.float v)) M) (h1 : kc ≤ mc) (h2 : ks ≤ ms) (d : decode cc pc = .ok (.freturn, 1)) : EV X nL pc l [.float v] kc ks M := by
  intro H locs ls hl hM hS
  unfold WX
  rw [E.2.2]
  exact W.widen h1 h2 (W.fret C.1 C.2.1 C.2.2.2.2.2.2.2.2.2.1 (fun t ht hW => m_end (rf := some (.float v)) C hM hS t ht) hS.2.2 d C.2.2.2.2.2.1)
theorem ev_aret {rt : FieldType} (C : CX X own nm cc nL (some rt)) {v : Nat} (hrt : (∃ n, rt = .object n) ∨ ∃ t, rt = .array t) (E : EX X L0 fr lo mc ms (some (.ref v)) M) (h1 : kc ≤ mc) (h2 : ks ≤ ms) (d : decode cc pc = .ok (.areturn, 1)) : EV X nL pc l [.ref v] kc ks M := by
  intro H locs ls hl hM hS
  unfold WX
  rw [E.2.2]
  exact W.widen h1 h2 (W.aret (v := .ref (xf X v)) C.1 C.2.1 C.2.2.2.2.2.2.2.2.2.1 hrt (Or.inr ⟨_, rfl⟩) (fun t ht hW => m_end (rf := some (.ref v)) C hM hS t ht) hS.2.2 d C.2.2.2.2.2.1)
theorem ev_vret (C : CX X own nm cc nL none) (E : EX X L0 fr lo mc ms none M) (h1 : kc ≤ mc) (h2 : ks ≤ ms) (d : decode cc pc = .ok (.return_, 1)) : EV X nL pc l [] kc ks M := by
  intro H locs ls hl hM hS
  unfold WX
  rw [E.2.2]
  exact W.widen h1 h2 (W.vret C.1 C.2.1 C.2.2.2.2.2.2.2.2.2.1 (fun t ht hW => m_end (rf := none) C hM hS t ht) hS.2.2 d C.2.2.2.2.2.1)
-- calls
variable {y x : MethodName} {bytes : ByteArray} {maxL n idx : Nat} {ret2 : Option FieldType} {As : List Value} {fr2 lo2 mc2 ms2 : Nat} {r2 : Option Value}
theorem m_ct (hM : CT L0 y bytes maxL ret2 fr lo mc ms As M r M2) (w : mW) : FrameBlind (va_Pc (As.map (m_v (m_f w))) (m_In w M)) := fun a U g mk q => ⟨q.1, q.2.1.same rfl, m_St.on (m_alike rfl) (fun _ _ _ => rfl) q.2.2.1, q.2.2.2⟩
theorem m_pre (C : CX X own nm cc nL ret) {H : Heap} {locs : List Loc} (hM : m_At (xw X) M H) (hS : va_S (xA X) (xs X).heap H locs) (As : List Value) (U : State) (hU : U.heap = H) (hW : (xs X).WarmedH U.vm) : va_Pc (As.map (m_v (xf X))) (m_In (xw X) M) (As.map (m_v (xf X))).toArray U := ⟨rfl, C.K.warm hW, m_St.on hW.alike (fun a h1 h2 => by rw [hU]; exact hS.2.1 a h1 h2) C.S, by rw [hU]; exact hM⟩
theorem m_call {H : Heap} {locs : List Loc} {ls : Array Slot} {st0 : List Value} (hl : lv_has ls nL (l.map fun q => (q.1, m_v (xf X) q.2))) (hS : va_S (xA X) (xs X).heap H locs) (hr : va_Run X.1.1 X.1.2.1 X.1.2.2.1 X.1.2.2.2.1 X.1.2.2.2.2.1 X.1.2.2.2.2.2 X.2.1.1 X.2.1.2.1 X.2.1.2.2.1 X.2.1.2.2.2 H locs kc ks mc ms (F0 (xm X) pc ls st0) (st.map (m_v (xf X))) (mQ (xw X) r M2) (xA X))
    (kk : EV X nL (pc + 3) l (r.toList ++ st) (kc + mc) (ks + ms) M2) : WX X H locs kc ks (F0 (xm X) pc ls st0) := by
  intro T hT Xs
  obtain ⟨v, st₀, t, T', L, h0, X', hL, e1, e2, ⟨hv, hA2, hz, hk⟩, stp⟩ := hr T hT Xs
  have hv2 : v = r.map (m_v (xf X)) := Outcome.returned.inj hv
  subst hv2
  rw [h0] at hz hk
  have k9 := kk T'.heap (locs ++ L) ls hl (by rw [e1]; exact hA2) ⟨Nat.le_trans hS.1 (by rw [e1]; exact hz), fun q h1 h2 => by rw [e1, hk q (Nat.lt_of_lt_of_le h1 hS.1) h2]; exact hS.2.1 q h1 h2, fun q hq => by
    rcases List.mem_append.mp hq with h | h
    · exact hS.2.2 q h
    · exact hL q h⟩
  have e3 : (r.toList ++ st).map (m_v (xf X)) = (r.map (m_v (xf X))).toList ++ st.map (m_v (xf X)) := by cases r <;> rfl
  rw [e3] at k9
  obtain ⟨t2, a1, b1⟩ := k9 T' rfl X'
  exact ⟨t2, stp t2 a1, b1⟩
/-- the room of a frame holds that of its callee -/
def mRoom (X : mX) (maxL fr2 lo2 mc2 ms2 kc ks : Nat) : Prop := fr2 + 1 ≤ (xR X).frames ∧ 8 + (maxL + 11) + lo2 ≤ (xR X).locals ∧ kc + mc2 ≤ (xR X).cells ∧ ks + ms2 ≤ (xR X).slots
theorem mRoom.of (E : EX X L0 fr lo mc ms r M) (h1 : fr2 + 1 ≤ fr) (h2 : 8 + (maxL + 11) + lo2 ≤ lo) (h3 : kc + mc2 ≤ mc) (h4 : ks + ms2 ≤ ms) : mRoom X maxL fr2 lo2 mc2 ms2 kc ks := by
  unfold mRoom
  rw [E.2.1]
  exact ⟨h1, h2, h3, h4⟩
def mOwn (y : MethodName) (n : Nat) : Prop := y.cls ≠ "java/lang/invoke/MethodHandle" ∧ y.cls ≠ "java/lang/invoke/VarHandle" ∧ (parseMethodDescriptor y.desc).map (fun d => d.parameters.length) = some n
theorem ev_callS (C : CX X own nm cc nL ret) (hM : CT X.1.2.1 y bytes maxL ret2 fr2 lo2 mc2 ms2 As M r2 M2) (hy : mOwn y n) (hn : As.length = n) (k1 : Cond.methodLink own idx y ∈ lw_all) (k2 : Cond.static y ∈ lw_all) (k3 : Cond.initialized y.cls ∈ lw_all) (k4 : Cond.code y bytes maxL ret2 ∈ lw_all) (hR : mRoom X maxL fr2 lo2 mc2 ms2 kc ks) (hst : (st.map fun v => v.category).sum ≤ 8) (d : decode cc pc = .ok (.invokestatic idx, 3)) (kk : EV X nL (pc + 3) l (r2.toList ++ st) (kc + mc2) (ks + ms2) M2) : EV X nL pc l (As.reverse ++ st) kc ks M := by
  intro H locs ls hl hMm hS
  refine m_call hl hS (va_runS (As := As.map (m_v (xf X))) ⟨C.1, C.2.1, C.2.2.1, C.own, C.ts⟩ (hM (xw X)) (va_cwS n C.ts (m_good (by
    intro w hw
    rcases List.mem_append.mp hw with h | h
    · simp only [List.mem_cons, List.not_mem_nil, or_false] at h
      rcases h with rfl | rfl | rfl
      · exact k1
      · exact k2
      · exact k3
    · rcases List.mem_cons.mp h with rfl | h
      · exact k4
      · exact h)) rfl rfl rfl hy ⟨hR.1, hR.2.1⟩) ⟨m_ct hM _, fun U hU hW => m_pre C hMm hS As U hU hW⟩ rfl (by rw [List.length_map]; exact hn) hl.1 (by rw [List.map_append, List.map_reverse]) (by show 2 * 0 + _ ≤ 8; rw [m_cat]; omega) d ⟨hR.2.2.1, hR.2.2.2⟩) kk
theorem ev_callV (C : CX X own nm cc nL ret) {a ci N : Nat} {Cn : String} {T : u_T} {fs : List Value} (hc : vwCl[ci]? = some (Cn, T, N)) (ho : M[a]? = some (.inr (ci, fs))) (hM : CT X.1.2.1 y bytes maxL ret2 fr2 lo2 mc2 ms2 (.ref a :: As) M r2 M2) (hyc : y.cls = Cn) (hy : mOwn y n) (hn : As.length = n) (k1 : Cond.methodLink own idx y ∈ lw_all) (k2 : Cond.instanceMethod y ∈ lw_all) (k3 : Cond.initialized Cn ∈ lw_all) (k5 : Cond.selects Cn y y ∈ lw_all) (k4 : Cond.code y bytes maxL ret2 ∈ lw_all) (hR : mRoom X maxL fr2 lo2 mc2 ms2 kc ks) (hst : (st.map fun v => v.category).sum ≤ 8) (d : decode cc pc = .ok (.invokevirtual idx, 3)) (kk : EV X nL (pc + 3) l (r2.toList ++ st) (kc + mc2) (ks + ms2) M2) : EV X nL pc l (As.reverse ++ .ref a :: st) kc ks M := by
  intro H locs ls hl hMm hS
  obtain ⟨h8, cell, q1, q2, q3, q4⟩ := m_obj hMm ho hc
  refine m_call hl hS (va_runV (C := Cn) (b := xf X a) (As := As.map (m_v (xf X))) ⟨C.1, C.2.1, C.2.2.1, C.own, C.ts⟩ (hM (xw X)) (cwV n C.ts (m_good (by
    intro w hw
    rcases List.mem_append.mp hw with h | h
    · simp only [List.mem_cons, List.not_mem_nil, or_false] at h
      rcases h with rfl | rfl | rfl | rfl
      · exact k1
      · exact k2
      · exact k5
      · exact k3
    · rcases List.mem_cons.mp h with rfl | h
      · exact k4
      · exact h)) rfl rfl rfl ⟨hyc, hy⟩ ⟨hR.1, hR.2.1⟩) ⟨m_ct hM _, ⟨cell, q1, by rw [q3]; rfl, by rw [q2]; exact (C.K.1 ci _ hc).2.1⟩, fun U hU hW => m_pre C hMm hS (.ref a :: As) U hU hW⟩ rfl (by rw [List.length_map]; exact hn) hl.1 (by rw [List.map_append, List.map_reverse]; rfl) (by show 2 * 0 + _ ≤ 8; rw [m_cat]; omega) d ⟨hR.2.2.1, hR.2.2.2⟩) kk
/-- a call of an enum constant's method -/
theorem ev_callK (C : CX X own nm cc nL ret) {a : Nat} (ho : a < 4) (hM : CT X.1.2.1 y bytes maxL ret2 fr2 lo2 mc2 ms2 (.ref a :: As) M r2 M2) (hyc : y.cls = "FareLimits$Kind") (hy : mOwn y n) (hn : As.length = n) (k1 : Cond.methodLink own idx y ∈ lw_all) (k2 : Cond.instanceMethod y ∈ lw_all) (k3 : Cond.initialized "FareLimits$Kind" ∈ lw_all) (k5 : Cond.selects "FareLimits$Kind" y y ∈ lw_all) (k4 : Cond.code y bytes maxL ret2 ∈ lw_all) (hR : mRoom X maxL fr2 lo2 mc2 ms2 kc ks) (hst : (st.map fun v => v.category).sum ≤ 8) (d : decode cc pc = .ok (.invokevirtual idx, 3)) (kk : EV X nL (pc + 3) l (r2.toList ++ st) (kc + mc2) (ks + ms2) M2) : EV X nL pc l (As.reverse ++ .ref a :: st) kc ks M := by
  intro H locs ls hl hMm hS
  refine m_call hl hS (va_runV (C := "FareLimits$Kind") (b := xf X a) (As := As.map (m_v (xf X))) ⟨C.1, C.2.1, C.2.2.1, C.own, C.ts⟩ (hM (xw X)) (cwV n C.ts (m_good (by
    intro w hw
    rcases List.mem_append.mp hw with h | h
    · simp only [List.mem_cons, List.not_mem_nil, or_false] at h
      rcases h with rfl | rfl | rfl | rfl
      · exact k1
      · exact k2
      · exact k5
      · exact k3
    · rcases List.mem_cons.mp h with rfl | h
      · exact k4
      · exact h)) rfl rfl rfl ⟨hyc, hy⟩ ⟨hR.1, hR.2.1⟩) ⟨m_ct hM _, (by
        show ∃ cell, H[m_f (xw X) a]? = some cell ∧ _
        rw [m_zf _ (by omega)]
        exact va_recvE C.S.1 (i := a) ho hS), fun U hU hW => m_pre C hMm hS (.ref a :: As) U hU hW⟩ rfl (by rw [List.length_map]; exact hn) hl.1 (by rw [List.map_append, List.map_reverse]; rfl) (by show 2 * 0 + _ ≤ 8; rw [m_cat]; omega) d ⟨hR.2.2.1, hR.2.2.2⟩) kk
theorem ev_callI (C : CX X own nm cc nL ret) {a : Nat} (hM : CT X.1.2.1 y bytes maxL none fr2 lo2 mc2 ms2 (.ref a :: As) M none M2) (hy1 : y.name = "<init>") (hy : mOwn y n) (hn : As.length = n) (k1 : Cond.methodLink own idx y ∈ lw_all) (k2 : Cond.instanceMethod y ∈ lw_all) (k3 : Cond.initialized y.cls ∈ lw_all) (k4 : Cond.code y bytes maxL none ∈ lw_all) (hR : mRoom X maxL fr2 lo2 mc2 ms2 kc ks) (hst : (st.map fun v => v.category).sum ≤ 8) (d : decode cc pc = .ok (.invokespecial idx, 3)) (kk : EV X nL (pc + 3) l st (kc + mc2) (ks + ms2) M2) : EV X nL pc l (As.reverse ++ .ref a :: st) kc ks M := by
  intro H locs ls hl hMm hS
  refine m_call (r := none) hl hS (va_runI (b := xf X a) (As := As.map (m_v (xf X))) ⟨C.1, C.2.1, C.2.2.1, C.own, C.ts⟩ (hM (xw X)) (cwI n C.ts (m_good (by
    intro w hw
    rcases List.mem_cons.mp hw with rfl | h
    · exact k4
    · exact h)) rfl rfl rfl (C.ts _ k3) (C.ts _ k1) (C.ts _ k2) hy1 hy ⟨hR.1, hR.2.1⟩) ⟨m_ct hM _, fun U hU hW => m_pre C hMm hS (.ref a :: As) U hU hW⟩ rfl (by rw [List.length_map]; exact hn) hl.1 (by rw [List.map_append, List.map_reverse]; rfl) (by show 2 * 0 + _ ≤ 8; rw [m_cat]; omega) d ⟨hR.2.2.1, hR.2.2.2⟩) kk
theorem ev_callIN (C : CX X own nm cc nL ret) {a : Nat} {host : String} (hM : CT X.1.2.1 y bytes maxL none fr2 lo2 mc2 ms2 (.ref a :: As) M none M2) (hy1 : y.name = "<init>") (hy : mOwn y n) (hn : As.length = n) (k1 : va_Nw (.methodLinkNest own idx y host) (xs X)) (k2 : Cond.instanceMethod y ∈ lw_all) (k3 : Cond.initialized y.cls ∈ lw_all) (k4 : Cond.code y bytes maxL none ∈ lw_all) (hR : mRoom X maxL fr2 lo2 mc2 ms2 kc ks) (hst : (st.map fun v => v.category).sum ≤ 8) (d : decode cc pc = .ok (.invokespecial idx, 3)) (kk : EV X nL (pc + 3) l st (kc + mc2) (ks + ms2) M2) : EV X nL pc l (As.reverse ++ .ref a :: st) kc ks M := by
  intro H locs ls hl hMm hS
  refine m_call (r := none) hl hS (va_runIN (b := xf X a) (As := As.map (m_v (xf X))) ⟨C.1, C.2.1, C.2.2.1, C.own, C.ts⟩ (hM (xw X)) ⟨va_cnB n C.ts (m_good (by
    intro w hw
    rcases List.mem_cons.mp hw with rfl | h
    · exact k4
    · exact h)) rfl rfl rfl k1 (C.ts _ k3) hy ⟨hR.1, hR.2.1⟩, hy1, C.ts _ k2⟩ ⟨m_ct hM _, fun U hU hW => m_pre C hMm hS (.ref a :: As) U hU hW⟩ rfl (by rw [List.length_map]; exact hn) hl.1 (by rw [List.map_append, List.map_reverse]; rfl) (by show 2 * 0 + _ ≤ 8; rw [m_cat]; omega) d ⟨hR.2.2.1, hR.2.2.2⟩) kk
theorem ev_callSN (C : CX X own nm cc nL ret) {host : String} (hM : CT X.1.2.1 y bytes maxL ret2 fr2 lo2 mc2 ms2 As M r2 M2) (hy : mOwn y n) (hn : As.length = n) (k1 : va_Nw (.methodLinkNest own idx y host) (xs X)) (k2 : Cond.static y ∈ lw_all) (k3 : Cond.initialized y.cls ∈ lw_all) (k4 : Cond.code y bytes maxL ret2 ∈ lw_all) (hR : mRoom X maxL fr2 lo2 mc2 ms2 kc ks) (hst : (st.map fun v => v.category).sum ≤ 8) (d : decode cc pc = .ok (.invokestatic idx, 3)) (kk : EV X nL (pc + 3) l (r2.toList ++ st) (kc + mc2) (ks + ms2) M2) : EV X nL pc l (As.reverse ++ st) kc ks M := by
  intro H locs ls hl hMm hS
  refine m_call hl hS (va_runSN (As := As.map (m_v (xf X))) ⟨C.1, C.2.1, C.2.2.1, C.own, C.ts⟩ (hM (xw X)) ⟨va_cnB n C.ts (m_good (by
    intro w hw
    rcases List.mem_cons.mp hw with rfl | h
    · exact k4
    · exact h)) rfl rfl rfl k1 (C.ts _ k3) hy ⟨hR.1, hR.2.1⟩, C.ts _ k2, trivial⟩ ⟨m_ct hM _, fun U hU hW => m_pre C hMm hS As U hU hW⟩ rfl (by rw [List.length_map]; exact hn) hl.1 (by rw [List.map_append, List.map_reverse]) (by show 2 * 0 + _ ≤ 8; rw [m_cat]; omega) d ⟨hR.2.2.1, hR.2.2.2⟩) kk
theorem ev_objInit (C : CX X own nm cc nL ret) {a : Nat} (k1 : Cond.methodLink own idx Lib.objectInit ∈ lw_all) (k2 : Cond.instanceMethod Lib.objectInit ∈ lw_all) (k3 : Cond.code Lib.objectInit ⟨#[0xb1]⟩ 1 none ∈ lw_all) (hf : 1 ≤ (xR X).frames) (hlo : 20 ≤ (xR X).locals) (hst : (st.map fun v => v.category).sum ≤ 8) (d : decode cc pc = .ok (.invokespecial idx, 3)) (kk : EV X nL (pc + 3) l st kc ks M) : EV X nL pc l (.ref a :: st) kc ks M := by
  intro H locs ls hl hMm hS
  exact W.objInit C.1 C.2.1 C.own (C.ts _ k1) (C.ts _ k2) (C.ts _ k3) rfl (by rw [C.2.2.1]; exact hl.1) rfl d hf (by show 2 * 0 + _ + 12 ≤ (xR X).locals; rw [m_cat]; omega) (kk H locs ls hl hMm hS)

theorem ev_callSU (C : CX X own nm cc nL ret) {a ci N : Nat} {Cn : String} {T : u_T} {fs : List Value} (hc : vwCl[ci]? = some (Cn, T, N)) (ho : M[a]? = some (.inr (ci, fs))) (hM : CT X.1.2.1 y bytes maxL ret2 fr2 lo2 mc2 ms2 (.ref a :: As) M r2 M2) (hy2 : y.name ≠ "<init>") (hy : mOwn y n) (hn : As.length = n) (k1 : Cond.methodLink own idx y ∈ lw_all) (k2 : Cond.sameMethod y.cls y.cls y.name y.desc ∈ lw_all) (k3 : Cond.superclass own y.cls ∈ lw_all) (k5 : Cond.instanceMethod y ∈ lw_all) (k6 : Cond.initialized y.cls ∈ lw_all) (k4 : Cond.code y bytes maxL ret2 ∈ lw_all) (hR : mRoom X maxL fr2 lo2 mc2 ms2 kc ks) (hst : (st.map fun v => v.category).sum ≤ 8) (d : decode cc pc = .ok (.invokespecial idx, 3)) (kk : EV X nL (pc + 3) l (r2.toList ++ st) (kc + mc2) (ks + ms2) M2) : EV X nL pc l (As.reverse ++ .ref a :: st) kc ks M := by
  intro H locs ls hl hMm hS
  obtain ⟨h8, cell, q1, q2, q3, q4⟩ := m_obj hMm ho hc
  refine m_call hl hS (va_runSU (C := Cn) (b := xf X a) (As := As.map (m_v (xf X))) (C.K.1 ci _ hc).2 ⟨C.1, C.2.1, C.2.2.1, C.own, C.ts⟩ (hM (xw X)) (va_cwSU n C.ts (m_good (by
    intro w hw
    rcases List.mem_append.mp hw with h | h
    · simp only [List.mem_cons, List.not_mem_nil, or_false] at h
      rcases h with rfl | rfl | rfl | rfl | rfl
      · exact k1
      · exact k2
      · exact k3
      · exact k5
      · exact k6
    · rcases List.mem_cons.mp h with rfl | h
      · exact k4
      · exact h)) rfl rfl rfl ⟨hy2, hy.2.2⟩ ⟨hR.1, hR.2.1⟩) ⟨m_ct hM _, ⟨cell, q1, by rw [q3]; rfl, by rw [q2]; exact (C.K.1 ci _ hc).2.1⟩, fun U hU hW => m_pre C hMm hS (.ref a :: As) U hU hW⟩ rfl (by rw [List.length_map]; exact hn) hl.1 (by rw [List.map_append, List.map_reverse]; rfl) (by show 2 * 0 + _ ≤ 8; rw [m_cat]; omega) d ⟨hR.2.2.1, hR.2.2.2⟩) kk
theorem ev_callU (C : CX X own nm cc nL ret) {a ci N : Nat} {Cn : String} {T : u_T} {fs : List Value} (hc : vwCl[ci]? = some (Cn, T, N)) (ho : M[a]? = some (.inr (ci, fs))) (hM : CT X.1.2.1 y bytes maxL ret2 fr2 lo2 mc2 ms2 (.ref a :: As) M r2 M2) (hy : mOwn y n) (hn : As.length = n) (k1 : Cond.methodLink own idx y ∈ lw_all) (k2 : Cond.sameMethod y.cls y.cls y.name y.desc ∈ lw_all) (k3 : Cond.selects Cn y y ∈ lw_all) (k5 : Cond.instanceMethod y ∈ lw_all) (k6 : Cond.initialized y.cls ∈ lw_all) (k4 : Cond.code y bytes maxL ret2 ∈ lw_all) (hR : mRoom X maxL fr2 lo2 mc2 ms2 kc ks) (hst : (st.map fun v => v.category).sum ≤ 8) (d : decode cc pc = .ok (.invokevirtual idx, 3)) (kk : EV X nL (pc + 3) l (r2.toList ++ st) (kc + mc2) (ks + ms2) M2) : EV X nL pc l (As.reverse ++ .ref a :: st) kc ks M := by
  intro H locs ls hl hMm hS
  obtain ⟨h8, cell, q1, q2, q3, q4⟩ := m_obj hMm ho hc
  refine m_call hl hS (va_runU (C := Cn) (owner := y.cls) (x := y) (b := xf X a) (As := As.map (m_v (xf X))) ⟨C.1, C.2.1, C.2.2.1, C.own, C.ts⟩ (hM (xw X)) (va_cwU n C.ts (m_good (by
    intro w hw
    rcases List.mem_append.mp hw with h | h
    · simp only [List.mem_cons, List.not_mem_nil, or_false] at h
      rcases h with rfl | rfl | rfl | rfl | rfl
      · exact k1
      · exact k2
      · exact k3
      · exact k5
      · exact k6
    · rcases List.mem_cons.mp h with rfl | h
      · exact k4
      · exact h)) rfl rfl rfl rfl hy ⟨hR.1, hR.2.1⟩) ⟨m_ct hM _, ⟨cell, q1, by rw [q3]; rfl, by rw [q2]; exact (C.K.1 ci _ hc).2.1⟩, fun U hU hW => m_pre C hMm hS (.ref a :: As) U hU hW⟩ rfl (by rw [List.length_map]; exact hn) hl.1 (by rw [List.map_append, List.map_reverse]; rfl) (by show 2 * 0 + _ ≤ 8; rw [m_cat]; omega) d ⟨hR.2.2.1, hR.2.2.2⟩) kk
theorem ev_callS0 (C : CX X own nm cc nL ret) (hM : CT X.1.2.1 y bytes maxL ret2 fr2 lo2 0 0 As M r2 M2) (hy : mOwn y n) (hn : As.length = n) (k1 : Cond.methodLink own idx y ∈ lw_all) (k2 : Cond.static y ∈ lw_all) (k3 : Cond.initialized y.cls ∈ lw_all) (k4 : Cond.code y bytes maxL ret2 ∈ lw_all) (hR : mRoom X maxL fr2 lo2 0 0 kc ks) (hst : (st.map fun v => v.category).sum ≤ 8) (d : decode cc pc = .ok (.invokestatic idx, 3)) (kk : EV X nL (pc + 3) l (r2.toList ++ st) kc ks M2) : EV X nL pc l (As.reverse ++ st) kc ks M := by
  intro H locs ls hl hMm hS
  refine m_call (mc := 0) (ms := 0) hl hS (va_runS (As := As.map (m_v (xf X))) ⟨C.1, C.2.1, C.2.2.1, C.own, C.ts⟩ (hM (xw X)) (va_cwS n C.ts (m_good (by
    intro w hw
    rcases List.mem_append.mp hw with h | h
    · simp only [List.mem_cons, List.not_mem_nil, or_false] at h
      rcases h with rfl | rfl | rfl
      · exact k1
      · exact k2
      · exact k3
    · rcases List.mem_cons.mp h with rfl | h
      · exact k4
      · exact h)) rfl rfl rfl hy ⟨hR.1, hR.2.1⟩) ⟨m_ct hM _, fun U hU hW => m_pre C hMm hS As U hU hW⟩ rfl (by rw [List.length_map]; exact hn) hl.1 (by rw [List.map_append, List.map_reverse]) (by show 2 * 0 + _ ≤ 8; rw [m_cat]; omega) d ⟨hR.2.2.1, hR.2.2.2⟩) kk
theorem ev_callV0 (C : CX X own nm cc nL ret) {a ci N : Nat} {Cn : String} {T : u_T} {fs : List Value} (hc : vwCl[ci]? = some (Cn, T, N)) (ho : M[a]? = some (.inr (ci, fs))) (hM : CT X.1.2.1 y bytes maxL ret2 fr2 lo2 0 0 (.ref a :: As) M r2 M2) (hyc : y.cls = Cn) (hy : mOwn y n) (hn : As.length = n) (k1 : Cond.methodLink own idx y ∈ lw_all) (k2 : Cond.instanceMethod y ∈ lw_all) (k3 : Cond.initialized Cn ∈ lw_all) (k5 : Cond.selects Cn y y ∈ lw_all) (k4 : Cond.code y bytes maxL ret2 ∈ lw_all) (hR : mRoom X maxL fr2 lo2 0 0 kc ks) (hst : (st.map fun v => v.category).sum ≤ 8) (d : decode cc pc = .ok (.invokevirtual idx, 3)) (kk : EV X nL (pc + 3) l (r2.toList ++ st) kc ks M2) : EV X nL pc l (As.reverse ++ .ref a :: st) kc ks M := by
  intro H locs ls hl hMm hS
  obtain ⟨h8, cell, q1, q2, q3, q4⟩ := m_obj hMm ho hc
  refine m_call (mc := 0) (ms := 0) hl hS (va_runV (C := Cn) (b := xf X a) (As := As.map (m_v (xf X))) ⟨C.1, C.2.1, C.2.2.1, C.own, C.ts⟩ (hM (xw X)) (cwV n C.ts (m_good (by
    intro w hw
    rcases List.mem_append.mp hw with h | h
    · simp only [List.mem_cons, List.not_mem_nil, or_false] at h
      rcases h with rfl | rfl | rfl | rfl
      · exact k1
      · exact k2
      · exact k5
      · exact k3
    · rcases List.mem_cons.mp h with rfl | h
      · exact k4
      · exact h)) rfl rfl rfl ⟨hyc, hy⟩ ⟨hR.1, hR.2.1⟩) ⟨m_ct hM _, ⟨cell, q1, by rw [q3]; rfl, by rw [q2]; exact (C.K.1 ci _ hc).2.1⟩, fun U hU hW => m_pre C hMm hS (.ref a :: As) U hU hW⟩ rfl (by rw [List.length_map]; exact hn) hl.1 (by rw [List.map_append, List.map_reverse]; rfl) (by show 2 * 0 + _ ≤ 8; rw [m_cat]; omega) d ⟨hR.2.2.1, hR.2.2.2⟩) kk
theorem ev_callK0 (C : CX X own nm cc nL ret) {a : Nat} (ho : a < 4) (hM : CT X.1.2.1 y bytes maxL ret2 fr2 lo2 0 0 (.ref a :: As) M r2 M2) (hyc : y.cls = "FareLimits$Kind") (hy : mOwn y n) (hn : As.length = n) (k1 : Cond.methodLink own idx y ∈ lw_all) (k2 : Cond.instanceMethod y ∈ lw_all) (k3 : Cond.initialized "FareLimits$Kind" ∈ lw_all) (k5 : Cond.selects "FareLimits$Kind" y y ∈ lw_all) (k4 : Cond.code y bytes maxL ret2 ∈ lw_all) (hR : mRoom X maxL fr2 lo2 0 0 kc ks) (hst : (st.map fun v => v.category).sum ≤ 8) (d : decode cc pc = .ok (.invokevirtual idx, 3)) (kk : EV X nL (pc + 3) l (r2.toList ++ st) kc ks M2) : EV X nL pc l (As.reverse ++ .ref a :: st) kc ks M := by
  intro H locs ls hl hMm hS
  refine m_call (mc := 0) (ms := 0) hl hS (va_runV (C := "FareLimits$Kind") (b := xf X a) (As := As.map (m_v (xf X))) ⟨C.1, C.2.1, C.2.2.1, C.own, C.ts⟩ (hM (xw X)) (cwV n C.ts (m_good (by
    intro w hw
    rcases List.mem_append.mp hw with h | h
    · simp only [List.mem_cons, List.not_mem_nil, or_false] at h
      rcases h with rfl | rfl | rfl | rfl
      · exact k1
      · exact k2
      · exact k5
      · exact k3
    · rcases List.mem_cons.mp h with rfl | h
      · exact k4
      · exact h)) rfl rfl rfl ⟨hyc, hy⟩ ⟨hR.1, hR.2.1⟩) ⟨m_ct hM _, (by
        show ∃ cell, H[m_f (xw X) a]? = some cell ∧ _
        rw [m_zf _ (by omega)]
        exact va_recvE C.S.1 (i := a) ho hS), fun U hU hW => m_pre C hMm hS (.ref a :: As) U hU hW⟩ rfl (by rw [List.length_map]; exact hn) hl.1 (by rw [List.map_append, List.map_reverse]; rfl) (by show 2 * 0 + _ ≤ 8; rw [m_cat]; omega) d ⟨hR.2.2.1, hR.2.2.2⟩) kk
theorem ev_callI0 (C : CX X own nm cc nL ret) {a : Nat} (hM : CT X.1.2.1 y bytes maxL none fr2 lo2 0 0 (.ref a :: As) M none M2) (hy1 : y.name = "<init>") (hy : mOwn y n) (hn : As.length = n) (k1 : Cond.methodLink own idx y ∈ lw_all) (k2 : Cond.instanceMethod y ∈ lw_all) (k3 : Cond.initialized y.cls ∈ lw_all) (k4 : Cond.code y bytes maxL none ∈ lw_all) (hR : mRoom X maxL fr2 lo2 0 0 kc ks) (hst : (st.map fun v => v.category).sum ≤ 8) (d : decode cc pc = .ok (.invokespecial idx, 3)) (kk : EV X nL (pc + 3) l st kc ks M2) : EV X nL pc l (As.reverse ++ .ref a :: st) kc ks M := by
  intro H locs ls hl hMm hS
  refine m_call (mc := 0) (ms := 0) (r := none) hl hS (va_runI (b := xf X a) (As := As.map (m_v (xf X))) ⟨C.1, C.2.1, C.2.2.1, C.own, C.ts⟩ (hM (xw X)) (cwI n C.ts (m_good (by
    intro w hw
    rcases List.mem_cons.mp hw with rfl | h
    · exact k4
    · exact h)) rfl rfl rfl (C.ts _ k3) (C.ts _ k1) (C.ts _ k2) hy1 hy ⟨hR.1, hR.2.1⟩) ⟨m_ct hM _, fun U hU hW => m_pre C hMm hS (.ref a :: As) U hU hW⟩ rfl (by rw [List.length_map]; exact hn) hl.1 (by rw [List.map_append, List.map_reverse]; rfl) (by show 2 * 0 + _ ≤ 8; rw [m_cat]; omega) d ⟨hR.2.2.1, hR.2.2.2⟩) kk
theorem ev_callIN0 (C : CX X own nm cc nL ret) {a : Nat} {host : String} (hM : CT X.1.2.1 y bytes maxL none fr2 lo2 0 0 (.ref a :: As) M none M2) (hy1 : y.name = "<init>") (hy : mOwn y n) (hn : As.length = n) (k1 : va_Nw (.methodLinkNest own idx y host) (xs X)) (k2 : Cond.instanceMethod y ∈ lw_all) (k3 : Cond.initialized y.cls ∈ lw_all) (k4 : Cond.code y bytes maxL none ∈ lw_all) (hR : mRoom X maxL fr2 lo2 0 0 kc ks) (hst : (st.map fun v => v.category).sum ≤ 8) (d : decode cc pc = .ok (.invokespecial idx, 3)) (kk : EV X nL (pc + 3) l st kc ks M2) : EV X nL pc l (As.reverse ++ .ref a :: st) kc ks M := by
  intro H locs ls hl hMm hS
  refine m_call (mc := 0) (ms := 0) (r := none) hl hS (va_runIN (b := xf X a) (As := As.map (m_v (xf X))) ⟨C.1, C.2.1, C.2.2.1, C.own, C.ts⟩ (hM (xw X)) ⟨va_cnB n C.ts (m_good (by
    intro w hw
    rcases List.mem_cons.mp hw with rfl | h
    · exact k4
    · exact h)) rfl rfl rfl k1 (C.ts _ k3) hy ⟨hR.1, hR.2.1⟩, hy1, C.ts _ k2⟩ ⟨m_ct hM _, fun U hU hW => m_pre C hMm hS (.ref a :: As) U hU hW⟩ rfl (by rw [List.length_map]; exact hn) hl.1 (by rw [List.map_append, List.map_reverse]; rfl) (by show 2 * 0 + _ ≤ 8; rw [m_cat]; omega) d ⟨hR.2.2.1, hR.2.2.2⟩) kk
theorem ev_callSN0 (C : CX X own nm cc nL ret) {host : String} (hM : CT X.1.2.1 y bytes maxL ret2 fr2 lo2 0 0 As M r2 M2) (hy : mOwn y n) (hn : As.length = n) (k1 : va_Nw (.methodLinkNest own idx y host) (xs X)) (k2 : Cond.static y ∈ lw_all) (k3 : Cond.initialized y.cls ∈ lw_all) (k4 : Cond.code y bytes maxL ret2 ∈ lw_all) (hR : mRoom X maxL fr2 lo2 0 0 kc ks) (hst : (st.map fun v => v.category).sum ≤ 8) (d : decode cc pc = .ok (.invokestatic idx, 3)) (kk : EV X nL (pc + 3) l (r2.toList ++ st) kc ks M2) : EV X nL pc l (As.reverse ++ st) kc ks M := by
  intro H locs ls hl hMm hS
  refine m_call (mc := 0) (ms := 0) hl hS (va_runSN (As := As.map (m_v (xf X))) ⟨C.1, C.2.1, C.2.2.1, C.own, C.ts⟩ (hM (xw X)) ⟨va_cnB n C.ts (m_good (by
    intro w hw
    rcases List.mem_cons.mp hw with rfl | h
    · exact k4
    · exact h)) rfl rfl rfl k1 (C.ts _ k3) hy ⟨hR.1, hR.2.1⟩, C.ts _ k2, trivial⟩ ⟨m_ct hM _, fun U hU hW => m_pre C hMm hS As U hU hW⟩ rfl (by rw [List.length_map]; exact hn) hl.1 (by rw [List.map_append, List.map_reverse]) (by show 2 * 0 + _ ≤ 8; rw [m_cat]; omega) d ⟨hR.2.2.1, hR.2.2.2⟩) kk
theorem ev_callSU0 (C : CX X own nm cc nL ret) {a ci N : Nat} {Cn : String} {T : u_T} {fs : List Value} (hc : vwCl[ci]? = some (Cn, T, N)) (ho : M[a]? = some (.inr (ci, fs))) (hM : CT X.1.2.1 y bytes maxL ret2 fr2 lo2 0 0 (.ref a :: As) M r2 M2) (hy2 : y.name ≠ "<init>") (hy : mOwn y n) (hn : As.length = n) (k1 : Cond.methodLink own idx y ∈ lw_all) (k2 : Cond.sameMethod y.cls y.cls y.name y.desc ∈ lw_all) (k3 : Cond.superclass own y.cls ∈ lw_all) (k5 : Cond.instanceMethod y ∈ lw_all) (k6 : Cond.initialized y.cls ∈ lw_all) (k4 : Cond.code y bytes maxL ret2 ∈ lw_all) (hR : mRoom X maxL fr2 lo2 0 0 kc ks) (hst : (st.map fun v => v.category).sum ≤ 8) (d : decode cc pc = .ok (.invokespecial idx, 3)) (kk : EV X nL (pc + 3) l (r2.toList ++ st) kc ks M2) : EV X nL pc l (As.reverse ++ .ref a :: st) kc ks M := by
  intro H locs ls hl hMm hS
  obtain ⟨h8, cell, q1, q2, q3, q4⟩ := m_obj hMm ho hc
  refine m_call (mc := 0) (ms := 0) hl hS (va_runSU (C := Cn) (b := xf X a) (As := As.map (m_v (xf X))) (C.K.1 ci _ hc).2 ⟨C.1, C.2.1, C.2.2.1, C.own, C.ts⟩ (hM (xw X)) (va_cwSU n C.ts (m_good (by
    intro w hw
    rcases List.mem_append.mp hw with h | h
    · simp only [List.mem_cons, List.not_mem_nil, or_false] at h
      rcases h with rfl | rfl | rfl | rfl | rfl
      · exact k1
      · exact k2
      · exact k3
      · exact k5
      · exact k6
    · rcases List.mem_cons.mp h with rfl | h
      · exact k4
      · exact h)) rfl rfl rfl ⟨hy2, hy.2.2⟩ ⟨hR.1, hR.2.1⟩) ⟨m_ct hM _, ⟨cell, q1, by rw [q3]; rfl, by rw [q2]; exact (C.K.1 ci _ hc).2.1⟩, fun U hU hW => m_pre C hMm hS (.ref a :: As) U hU hW⟩ rfl (by rw [List.length_map]; exact hn) hl.1 (by rw [List.map_append, List.map_reverse]; rfl) (by show 2 * 0 + _ ≤ 8; rw [m_cat]; omega) d ⟨hR.2.2.1, hR.2.2.2⟩) kk
theorem ev_callU0 (C : CX X own nm cc nL ret) {a ci N : Nat} {Cn : String} {T : u_T} {fs : List Value} (hc : vwCl[ci]? = some (Cn, T, N)) (ho : M[a]? = some (.inr (ci, fs))) (hM : CT X.1.2.1 y bytes maxL ret2 fr2 lo2 0 0 (.ref a :: As) M r2 M2) (hy : mOwn y n) (hn : As.length = n) (k1 : Cond.methodLink own idx y ∈ lw_all) (k2 : Cond.sameMethod y.cls y.cls y.name y.desc ∈ lw_all) (k3 : Cond.selects Cn y y ∈ lw_all) (k5 : Cond.instanceMethod y ∈ lw_all) (k6 : Cond.initialized y.cls ∈ lw_all) (k4 : Cond.code y bytes maxL ret2 ∈ lw_all) (hR : mRoom X maxL fr2 lo2 0 0 kc ks) (hst : (st.map fun v => v.category).sum ≤ 8) (d : decode cc pc = .ok (.invokevirtual idx, 3)) (kk : EV X nL (pc + 3) l (r2.toList ++ st) kc ks M2) : EV X nL pc l (As.reverse ++ .ref a :: st) kc ks M := by
  intro H locs ls hl hMm hS
  obtain ⟨h8, cell, q1, q2, q3, q4⟩ := m_obj hMm ho hc
  refine m_call (mc := 0) (ms := 0) hl hS (va_runU (C := Cn) (owner := y.cls) (x := y) (b := xf X a) (As := As.map (m_v (xf X))) ⟨C.1, C.2.1, C.2.2.1, C.own, C.ts⟩ (hM (xw X)) (va_cwU n C.ts (m_good (by
    intro w hw
    rcases List.mem_append.mp hw with h | h
    · simp only [List.mem_cons, List.not_mem_nil, or_false] at h
      rcases h with rfl | rfl | rfl | rfl | rfl
      · exact k1
      · exact k2
      · exact k3
      · exact k5
      · exact k6
    · rcases List.mem_cons.mp h with rfl | h
      · exact k4
      · exact h)) rfl rfl rfl rfl hy ⟨hR.1, hR.2.1⟩) ⟨m_ct hM _, ⟨cell, q1, by rw [q3]; rfl, by rw [q2]; exact (C.K.1 ci _ hc).2.1⟩, fun U hU hW => m_pre C hMm hS (.ref a :: As) U hU hW⟩ rfl (by rw [List.length_map]; exact hn) hl.1 (by rw [List.map_append, List.map_reverse]; rfl) (by show 2 * 0 + _ ≤ 8; rw [m_cat]; omega) d ⟨hR.2.2.1, hR.2.2.2⟩) kk
end EVC

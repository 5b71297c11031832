theorem CX.K {X : mX} {own nm : String} {cc : ByteArray} {nL : Nat} {ret : Option FieldType} (C : CX X own nm cc nL ret) : m_K (xw X) (xs X) := C.2.2.2.2.2.2.1
theorem CX.S {X : mX} {own nm : String} {cc : ByteArray} {nL : Nat} {ret : Option FieldType} (C : CX X own nm cc nL ret) : m_St (xw X) (xs X) (xs X).heap := C.2.2.2.2.2.2.2.1
theorem CX.B {X : mX} {own nm : String} {cc : ByteArray} {nL : Nat} {ret : Option FieldType} (C : CX X own nm cc nL ret) : (xw X).2.2.2.2 ≤ (xs X).heap.size := C.2.2.2.2.2.2.2.2.1
theorem CX.own {X : mX} {own nm : String} {cc : ByteArray} {nL : Nat} {ret : Option FieldType} (C : CX X own nm cc nL ret) : (xs X).vm.findClass own = some (xm X).cls := C.2.2.2.1
theorem CX.ts {X : mX} {own nm : String} {cc : ByteArray} {nL : Nat} {ret : Option FieldType} (C : CX X own nm cc nL ret) : ∀ w ∈ lw_all, w.before X.2.1.1 (xs X) = true := C.2.2.2.2.1
theorem m_hiA {w : mW} {k : Nat} (h : 10 ≤ k) : w.2.2.2.2 ≤ m_f w k := by rw [m_f_hi h]; omega
/-- what the tables say of a class: its place, its words, its fields' types and names -/
def clOK (Cn : String) (T : u_T) (N ci : Nat) (ty : Nat → FieldType) : Prop := vwCl[ci]? = some (Cn, T, N) ∧ (∀ w ∈ u_ws Cn T N, w ∈ lw_all) ∧ (∀ k, k < N → parseFieldDescriptor (T k).2.2.1 = some (ty k)) ∧ (∀ a, a < N → ∀ b, b < N → a ≠ b → (T a).2.1 ≠ (T b).2.1)
section EVM
variable {X : mX} {own nm : String} {cc : ByteArray} {nL pc kc ks : Nat} {ret : Option FieldType} {l l' : List (Nat × Value)} {st : List Value} {M M2 : mM} {Cn : String} {T : u_T} {N ci : Nat} {ty : Nat → FieldType}
theorem m_obj {w : mW} {H : Heap} {a : Nat} {fs : List Value} (hM : m_At w M H) (h : M[a]? = some (.inr (ci, fs))) (hc : vwCl[ci]? = some (Cn, T, N)) : 10 ≤ a ∧ t_OB (m_f w a) (w.1.1 ci) N (w.1.2 ci) H (vp_V (fs.map (m_v (m_f w)))) := by
  have h8 : 10 ≤ a := hM.hi h (fun e => by
    have e2 : ci = 99 := (Prod.mk.inj (Sum.inr.inj e)).1
    rw [e2] at hc
    cases hc)
  obtain ⟨r, h1, h2⟩ := hM.2.2.2 a _ h8 h
  have hr : r = (Cn, T, N) := Option.some.inj (h1.symm.trans hc)
  rw [hr] at h2
  exact ⟨h8, h2⟩
theorem m_arr {w : mW} {H : Heap} {a t : Nat} {d : vp_A} (hM : m_At w M H) (h : M[a]? = some (.inl (t, d))) : 10 ≤ a ∧ H[m_f w a]? = some (vp_cell (w.2.1 t) (m_d (m_f w) d)) := by
  have h8 : 10 ≤ a := hM.hi h (fun e => by cases e)
  exact ⟨h8, hM.2.2.2 a _ h8 h⟩
theorem ev_get (C : CX X own nm cc nL ret) (K : clOK Cn T N ci ty) {a k idx : Nat} {v : Value} (d : decode cc pc = .ok (.getfield idx, 3)) (hk : k < N) (link : Cond.fieldLink own idx (T k).1 (T k).2.1 (T k).2.2.1 ∈ lw_all) (hv : fV M a ci k = some v) (kk : EV X nL (pc + 3) l (v :: st) kc ks M) : EV X nL pc l (.ref a :: st) kc ks M := by
  intro H locs ls hl hM hS
  obtain ⟨fs, e1, e2⟩ := fV_spec hv
  obtain ⟨h8, cell, q1, q2, q3, q4⟩ := m_obj hM e1 K.1
  obtain ⟨hSl, hfc, kC, hkC, hkind⟩ := C.K.1 ci _ K.1
  obtain ⟨cf, kf, fi, f, hi, hsl⟩ := hSl k hk
  refine W.getf (v := m_v (xf X) v) C.1 C.2.1 C.own (C.ts _ link) hi (u_facts hfc hkC (u_lays C.ts K.2.1 hk) hi).1 q1 (by rw [q3]; exact fun h => by cases h) ?_ rfl rfl d (kk H locs ls hl hM hS)
  rw [hsl, q4 k hk]
  refine congrArg some ?_
  show (fs.map (m_v (xf X))).getD k .null = _
  rw [List.getD_eq_getElem?_getD, List.getElem?_map, e2]
  rfl
theorem m_put (C : CX X own nm cc nL ret) (K : clOK Cn T N ci ty) {a k : Nat} {fs : List Value} {H H1 : Heap} (hM : m_At (xw X) M H) (e1 : M[a]? = some (.inr (ci, fs))) (hk : k < N) (hl : k < fs.length) {v : Value} {cell : Cell} (q2 : cell.cls = (xw X).1.1 ci) (q3 : cell.vm = .none) (q4 : ∀ j, j < N → cell.slots[(xw X).1.2 ci j]? = some (vp_V (fs.map (m_v (xf X))) j)) (g1 : H1[xf X a]? = some (cell.setSlot ((xw X).1.2 ci k) (m_v (xf X) v))) (g2 : H1.size = H.size) (g3 : ∀ q, q ≠ xf X a → H1[q]? = H[q]?) : m_At (xw X) (M.set a (.inr (ci, fs.set k v))) H1 := by
  obtain ⟨h8, -⟩ := m_obj hM e1 K.1
  have hap : ∀ x y, x < N → y < N → x ≠ y → (xw X).1.2 ci x ≠ (xw X).1.2 ci y := by
    intro x y hx hy hne
    obtain ⟨hSl, -⟩ := C.K.1 ci _ K.1
    obtain ⟨_, _, _, fa, hia, ea⟩ := hSl x hx
    obtain ⟨_, _, _, fb, hib, eb⟩ := hSl y hy
    rw [← ea, ← eb]
    refine u_apart (u_lays C.ts K.2.1 hx) (u_lays C.ts K.2.1 hy) hia hib ?_
    rw [(State.fieldFound?_type hia (K.2.2.1 x hx)).1, (State.fieldFound?_type hib (K.2.2.1 y hy)).1]
    exact K.2.2.2 x hx y hy hne
  refine hM.set h8 e1 ⟨_, K.1, t_OB.to (V := updV (vp_V (fs.map (m_v (xf X)))) k (m_v (xf X) v)) ⟨_, g1, q2, q3, t_set q4 hap hk _⟩ (fun j _ => ?_)⟩ g2 g3
  rw [List.map_set]
  exact vp_updV_set (by rw [List.length_map]; exact hl) _ j
theorem ev_put (C : CX X own nm cc nL ret) (K : clOK Cn T N ci ty) {a k idx : Nat} {v : Value} (d : decode cc pc = .ok (.putfield idx, 3)) (hk : k < N) (link : Cond.fieldLink own idx (T k).1 (T k).2.1 (T k).2.2.1 ∈ lw_all) (hfin : (T k).2.2.2 = false) (hf : narrow (ty k) (m_v (xf X) v) = m_v (xf X) v ∧ fits (ty k) (m_v (xf X) v) = true) (hv : sV M a ci k v = some M2) (kk : EV X nL (pc + 3) l st kc ks M2) : EV X nL pc l (v :: .ref a :: st) kc ks M := by
  intro H locs ls hl hM hS
  obtain ⟨fs, e1, e2, rfl⟩ := sV_spec hv
  obtain ⟨h8, cell, q1, q2, q3, q4⟩ := m_obj hM e1 K.1
  obtain ⟨hSl, hfc, kC, hkC, hkind⟩ := C.K.1 ci _ K.1
  obtain ⟨cf, kf, fi, f, hi, hsl⟩ := hSl k hk
  have hlay := C.ts _ (K.2.1 _ (u_in_lay hk))
  unfold u_lay at hlay
  rw [if_neg (by rw [hfin]; decide)] at hlay
  have hst := (u_facts hfc hkC (u_lays C.ts K.2.1 hk) hi).1
  have h6 := u_store hfc hkC hkind hlay hi (K.2.2.1 k hk) hf.1 hf.2
  refine W.putK C.1 C.2.1 (f := f) ⟨C.own, C.ts _ link, ⟨_, _, _, hi⟩, hst⟩ (by rw [q2]; exact h6) q1 q3 (by rw [hsl]; exact k2_hasslot (q4 k hk)) rfl rfl d fun H1 g1 g2 g3 => ?_
  rw [hsl] at g1 ⊢
  exact kk H1 _ ls hl (m_put C K hM e1 hk e2 q2 q3 q4 g1 g2 g3) (hS.put g2 g3 (m_hiA h8))
theorem ev_putF (C : CX X own "<init>" cc nL ret) (K : clOK Cn T N ci ty) {a k idx : Nat} {v : Value} (d : decode cc pc = .ok (.putfield idx, 3)) (hk : k < N) (link : Cond.fieldLink own idx (T k).1 (T k).2.1 (T k).2.2.1 ∈ lw_all) (hfin : (T k).2.2.2 = true) (hdecl : (T k).1 = own) (hf : narrow (ty k) (m_v (xf X) v) = m_v (xf X) v ∧ fits (ty k) (m_v (xf X) v) = true) (hv : sV M a ci k v = some M2) (kk : EV X nL (pc + 3) l st kc ks M2) : EV X nL pc l (v :: .ref a :: st) kc ks M := by
  intro H locs ls hl hM hS
  obtain ⟨fs, e1, e2, rfl⟩ := sV_spec hv
  obtain ⟨h8, cell, q1, q2, q3, q4⟩ := m_obj hM e1 K.1
  obtain ⟨hSl, hfc, kC, hkC, hkind⟩ := C.K.1 ci _ K.1
  obtain ⟨cf, kf, fi, f, hi, hsl⟩ := hSl k hk
  have hlay := C.ts _ (K.2.1 _ (u_in_lay hk))
  unfold u_lay at hlay
  rw [if_pos hfin] at hlay
  have hst := (u_facts hfc hkC (u_lays C.ts K.2.1 hk) hi).1
  have hcf : (xm X).cls = cf := by
    obtain ⟨_, _, c9, _, _, _, -, -, hf9, -, -, -, hown2, -⟩ := Cond.laysFinal_spec hlay
    have e9 : c9 = cf := by have := hi.symm.trans hf9; simp at this; exact this.1.symm
    rw [hdecl] at hown2
    rw [← e9]; exact Option.some.inj (C.own.symm.trans hown2)
  have h6 := u_fits hfc hkC hkind (Or.inr hlay) hi (K.2.2.1 k hk) hf.1 hf.2
  refine W.putFinK C.1 C.2.1 C.own (C.ts _ link) hi hst hcf C.2.2.2.2.2.2.2.2.2.2 (by rw [q2]; exact h6) q1 q3 (by rw [hsl]; exact k2_hasslot (q4 k hk)) rfl rfl d fun H1 g1 g2 g3 => ?_
  rw [hsl] at g1 ⊢
  exact kk H1 _ ls hl (m_put C K hM e1 hk e2 q2 q3 q4 g1 g2 g3) (hS.put g2 g3 (m_hiA h8))
theorem ev_alen (C : CX X own nm cc nL ret) {a t : Nat} {x : Int32} {ty : FieldType} (ht : tyl[t]? = some ty) (d : decode cc pc = .ok (.arraylength, 1)) (hv : aN t M a = some x) (kk : EV X nL (pc + 1) l (.int x :: st) kc ks M) : EV X nL pc l (.ref a :: st) kc ks M := by
  intro H locs ls hl hM hS
  obtain ⟨n, z, e1, rfl⟩ := aN_spec hv
  obtain ⟨h8, q1⟩ := m_arr hM e1
  have hsz : (vp_cell ((xw X).2.1 t) (m_d (m_f (xw X)) (n, z))).slots.size = n ∧ (xs X).isArrayOf (vp_cell ((xw X).2.1 t) (m_d (m_f (xw X)) (n, z))) ty := by
    have hA := (C.K.2.1 t _ ht).1 n
    rcases z with f | f | f | f | f
    · exact ⟨arrV_size _ _ _, hA _⟩
    · exact ⟨arrV_size _ _ _, hA _⟩
    · exact ⟨arrV_size _ _ _, hA _⟩
    · exact ⟨arrV_size _ _ _, hA _⟩
    · exact ⟨arrV_size _ _ _, hA _⟩
  exact W.alen C.1 C.2.1 q1 hsz.2 (by rw [hsz.1]) rfl rfl d (kk H locs ls hl hM hS)
theorem ev_iald (C : CX X own nm cc nL ret) {a : Nat} {i : Int32} {x : Int32} (d : decode cc pc = .ok (.iaload, 1)) (hv : aI 0 M a i = some x) (kk : EV X nL (pc + 1) l (.int x :: st) kc ks M) : EV X nL pc l (.int i :: .ref a :: st) kc ks M := by
  intro H locs ls hl hM hS
  obtain ⟨n, f, e1, e2, rfl⟩ := aI_spec hv
  obtain ⟨h8, q1⟩ := m_arr hM e1
  have hlt : i.toNatClampNeg < n := Nat.not_le.mp fun q => e2 (Or.inr q)
  exact W.iald (v := .int (f i.toNatClampNeg)) C.1 C.2.1 q1 ((C.K.2.1 0 _ rfl).1 n (fun j => .int (f j))) (fun q => by cases q) (by show ¬ (i < 0 ∨ (arrV _ _ _).slots.size ≤ _); rw [arrV_size]; exact e2) (arrV_read _ _ hlt) rfl rfl d (kk H locs ls hl hM hS)
theorem ev_zald (C : CX X own nm cc nL ret) {a : Nat} {i : Int32} {x : Int32} (d : decode cc pc = .ok (.baload, 1)) (hv : aI 3 M a i = some x) (kk : EV X nL (pc + 1) l (.int x :: st) kc ks M) : EV X nL pc l (.int i :: .ref a :: st) kc ks M := by
  intro H locs ls hl hM hS
  obtain ⟨n, f, e1, e2, rfl⟩ := aI_spec hv
  obtain ⟨h8, q1⟩ := m_arr hM e1
  have hlt : i.toNatClampNeg < n := Nat.not_le.mp fun q => e2 (Or.inr q)
  exact W.zald (v := .int (f i.toNatClampNeg)) C.1 C.2.1 q1 ((C.K.2.1 3 _ rfl).1 n (fun j => .int (f j))) (fun q => by cases q) (by show ¬ (i < 0 ∨ (arrV _ _ _).slots.size ≤ _); rw [arrV_size]; exact e2) (arrV_read _ _ hlt) rfl rfl d (kk H locs ls hl hM hS)
theorem ev_bald (C : CX X own nm cc nL ret) {a : Nat} {i : Int32} {x : Int32} (d : decode cc pc = .ok (.baload, 1)) (hv : aI 4 M a i = some x) (kk : EV X nL (pc + 1) l (.int x :: st) kc ks M) : EV X nL pc l (.int i :: .ref a :: st) kc ks M := by
  intro H locs ls hl hM hS
  obtain ⟨n, f, e1, e2, rfl⟩ := aI_spec hv
  obtain ⟨h8, q1⟩ := m_arr hM e1
  have hlt : i.toNatClampNeg < n := Nat.not_le.mp fun q => e2 (Or.inr q)
  exact W.bald (v := .int (f i.toNatClampNeg)) C.1 C.2.1 q1 ((C.K.2.1 4 _ rfl).1 n (fun j => .int (f j))) (fun q => by cases q) (by show ¬ (i < 0 ∨ (arrV _ _ _).slots.size ≤ _); rw [arrV_size]; exact e2) (arrV_read _ _ hlt) rfl rfl d (kk H locs ls hl hM hS)
theorem ev_lald (C : CX X own nm cc nL ret) {a : Nat} {i : Int32} {x : Int64} (d : decode cc pc = .ok (.laload, 1)) (hv : aL M a i = some x) (kk : EV X nL (pc + 1) l (.long x :: st) kc ks M) : EV X nL pc l (.int i :: .ref a :: st) kc ks M := by
  intro H locs ls hl hM hS
  obtain ⟨n, f, e1, e2, rfl⟩ := aL_spec hv
  obtain ⟨h8, q1⟩ := m_arr hM e1
  have hlt : i.toNatClampNeg < n := Nat.not_le.mp fun q => e2 (Or.inr q)
  exact W.lald (v := .long (f i.toNatClampNeg)) C.1 C.2.1 q1 ((C.K.2.1 1 _ rfl).1 n (fun j => .long (f j))) (fun q => by cases q) (by show ¬ (i < 0 ∨ (arrV _ _ _).slots.size ≤ _); rw [arrV_size]; exact e2) (arrV_read _ _ hlt) rfl rfl d (kk H locs ls hl hM hS)
theorem ev_dald (C : CX X own nm cc nL ret) {a : Nat} {i : Int32} {x : UInt64} (d : decode cc pc = .ok (.daload, 1)) (hv : aD M a i = some x) (kk : EV X nL (pc + 1) l (.double x :: st) kc ks M) : EV X nL pc l (.int i :: .ref a :: st) kc ks M := by
  intro H locs ls hl hM hS
  obtain ⟨n, f, e1, e2, rfl⟩ := aD_spec hv
  obtain ⟨h8, q1⟩ := m_arr hM e1
  have hlt : i.toNatClampNeg < n := Nat.not_le.mp fun q => e2 (Or.inr q)
  exact W.dald (v := .double (f i.toNatClampNeg)) C.1 C.2.1 q1 ((C.K.2.1 2 _ rfl).1 n (fun j => .double (f j))) (fun q => by cases q) (by show ¬ (i < 0 ∨ (arrV _ _ _).slots.size ≤ _); rw [arrV_size]; exact e2) (arrV_read _ _ hlt) rfl rfl d (kk H locs ls hl hM hS)
theorem ev_iast (C : CX X own nm cc nL ret) {a : Nat} {i : Int32} {x : Int32} (d : decode cc pc = .ok (.iastore, 1)) (hv : uI 0 .int M a i x = some M2) (kk : EV X nL (pc + 1) l st kc ks M2) : EV X nL pc l (.int x :: .int i :: .ref a :: st) kc ks M := by
  intro H locs ls hl hM hS
  obtain ⟨n, f, e1, e2, rfl⟩ := uI_spec hv
  obtain ⟨h8, q1⟩ := m_arr hM e1
  refine W.iast C.1 C.2.1 q1 ((C.K.2.1 0 _ rfl).1 n (fun j => .int (f j))) (fun q => by cases q) (by show ¬ (i < 0 ∨ (arrV _ _ _).slots.size ≤ _); rw [arrV_size]; exact e2) rfl rfl d fun H1 g1 g2 g3 => ?_
  refine kk H1 _ ls hl (hM.set h8 e1 ?_ g2 g3) (hS.put g2 g3 (m_hiA h8))
  show H1[_]? = some (vp_cell _ (n, .inl (va_up f i.toNatClampNeg (vp_nar .int x))))
  rw [g1]
  show some ((vp_cell _ (n, .inl f)).setSlot _ _) = _
  rw [vp_cell_i, vp_cell_i, arrV_store]
  congr 2
  funext q
  by_cases hq : q = i.toNatClampNeg
  · subst hq
    simp [updV, va_up, vp_nar]
    try rfl
  · simp [updV, va_up, hq]
theorem ev_zast (C : CX X own nm cc nL ret) {a : Nat} {i : Int32} {x : Int32} (d : decode cc pc = .ok (.bastore, 1)) (hv : uI 3 .boolean M a i x = some M2) (kk : EV X nL (pc + 1) l st kc ks M2) : EV X nL pc l (.int x :: .int i :: .ref a :: st) kc ks M := by
  intro H locs ls hl hM hS
  obtain ⟨n, f, e1, e2, rfl⟩ := uI_spec hv
  obtain ⟨h8, q1⟩ := m_arr hM e1
  refine W.zast C.1 C.2.1 q1 ((C.K.2.1 3 _ rfl).1 n (fun j => .int (f j))) (fun q => by cases q) (by show ¬ (i < 0 ∨ (arrV _ _ _).slots.size ≤ _); rw [arrV_size]; exact e2) rfl rfl d fun H1 g1 g2 g3 => ?_
  refine kk H1 _ ls hl (hM.set h8 e1 ?_ g2 g3) (hS.put g2 g3 (m_hiA h8))
  show H1[_]? = some (vp_cell _ (n, .inl (va_up f i.toNatClampNeg (vp_nar .boolean x))))
  rw [g1]
  show some ((vp_cell _ (n, .inl f)).setSlot _ _) = _
  rw [vp_cell_i, vp_cell_i, arrV_store]
  congr 2
  funext q
  by_cases hq : q = i.toNatClampNeg
  · subst hq
    simp [updV, va_up, vp_nar]
    try rfl
  · simp [updV, va_up, hq]
theorem ev_bast (C : CX X own nm cc nL ret) {a : Nat} {i : Int32} {x : Int32} (d : decode cc pc = .ok (.bastore, 1)) (hv : uI 4 .byte M a i x = some M2) (kk : EV X nL (pc + 1) l st kc ks M2) : EV X nL pc l (.int x :: .int i :: .ref a :: st) kc ks M := by
  intro H locs ls hl hM hS
  obtain ⟨n, f, e1, e2, rfl⟩ := uI_spec hv
  obtain ⟨h8, q1⟩ := m_arr hM e1
  refine W.bast C.1 C.2.1 q1 ((C.K.2.1 4 _ rfl).1 n (fun j => .int (f j))) (fun q => by cases q) (by show ¬ (i < 0 ∨ (arrV _ _ _).slots.size ≤ _); rw [arrV_size]; exact e2) rfl rfl d fun H1 g1 g2 g3 => ?_
  refine kk H1 _ ls hl (hM.set h8 e1 ?_ g2 g3) (hS.put g2 g3 (m_hiA h8))
  show H1[_]? = some (vp_cell _ (n, .inl (va_up f i.toNatClampNeg (vp_nar .byte x))))
  rw [g1]
  show some ((vp_cell _ (n, .inl f)).setSlot _ _) = _
  rw [vp_cell_i, vp_cell_i, arrV_store]
  congr 2
  funext q
  by_cases hq : q = i.toNatClampNeg
  · subst hq
    simp [updV, va_up, vp_nar]
    try rfl
  · simp [updV, va_up, hq]
theorem ev_last (C : CX X own nm cc nL ret) {a : Nat} {i : Int32} {x : Int64} (d : decode cc pc = .ok (.lastore, 1)) (hv : uL M a i x = some M2) (kk : EV X nL (pc + 1) l st kc ks M2) : EV X nL pc l (.long x :: .int i :: .ref a :: st) kc ks M := by
  intro H locs ls hl hM hS
  obtain ⟨n, f, e1, e2, rfl⟩ := uL_spec hv
  obtain ⟨h8, q1⟩ := m_arr hM e1
  refine W.last C.1 C.2.1 q1 ((C.K.2.1 1 _ rfl).1 n (fun j => .long (f j))) (fun q => by cases q) (by show ¬ (i < 0 ∨ (arrV _ _ _).slots.size ≤ _); rw [arrV_size]; exact e2) rfl rfl d fun H1 g1 g2 g3 => ?_
  refine kk H1 _ ls hl (hM.set h8 e1 ?_ g2 g3) (hS.put g2 g3 (m_hiA h8))
  show H1[_]? = some (vp_cell _ (n, .inr (.inl (va_up f i.toNatClampNeg x))))
  rw [g1]
  show some ((vp_cell _ (n, .inr (.inl f))).setSlot _ _) = _
  rw [vp_cell_l, vp_cell_l, arrV_store]
  congr 2
  funext q
  by_cases hq : q = i.toNatClampNeg
  · subst hq
    simp [updV, va_up]
    try rfl
  · simp [updV, va_up, hq]
theorem ev_dast (C : CX X own nm cc nL ret) {a : Nat} {i : Int32} {x : UInt64} (d : decode cc pc = .ok (.dastore, 1)) (hv : uD M a i x = some M2) (kk : EV X nL (pc + 1) l st kc ks M2) : EV X nL pc l (.double x :: .int i :: .ref a :: st) kc ks M := by
  intro H locs ls hl hM hS
  obtain ⟨n, f, e1, e2, rfl⟩ := uD_spec hv
  obtain ⟨h8, q1⟩ := m_arr hM e1
  refine W.dast C.1 C.2.1 q1 ((C.K.2.1 2 _ rfl).1 n (fun j => .double (f j))) (fun q => by cases q) (by show ¬ (i < 0 ∨ (arrV _ _ _).slots.size ≤ _); rw [arrV_size]; exact e2) rfl rfl d fun H1 g1 g2 g3 => ?_
  refine kk H1 _ ls hl (hM.set h8 e1 ?_ g2 g3) (hS.put g2 g3 (m_hiA h8))
  show H1[_]? = some (vp_cell _ (n, .inr (.inr (.inr (.inl (va_up f i.toNatClampNeg x))))))
  rw [g1]
  show some ((vp_cell _ (n, .inr (.inr (.inr (.inl f))))).setSlot _ _) = _
  rw [vp_cell_d, vp_cell_d, arrV_store]
  congr 2
  funext q
  by_cases hq : q = i.toNatClampNeg
  · subst hq
    simp [updV, va_up]
    try rfl
  · simp [updV, va_up, hq]
theorem m_rf (f : Nat → Nat) (r : Option Nat) : m_v f (va_rf r) = va_rf (r.map f) := by cases r <;> rfl
theorem ev_aldq (C : CX X own nm cc nL ret) {a t : Nat} {ty : FieldType} (ht : tyl[t]? = some ty) (hty : ty.isReference = true) {i : Int32} {x : Option Nat} (d : decode cc pc = .ok (.aaload, 1)) (hv : aQ t M a i = some x) (kk : EV X nL (pc + 1) l (va_rf x :: st) kc ks M) : EV X nL pc l (.int i :: .ref a :: st) kc ks M := by
  intro H locs ls hl hM hS
  obtain ⟨n, f, e1, e2, rfl⟩ := aQ_spec hv
  obtain ⟨h8, q1⟩ := m_arr hM e1
  have hlt : i.toNatClampNeg < n := Nat.not_le.mp fun q => e2 (Or.inr q)
  have hk := kk H locs ls hl hM hS
  rw [List.map_cons, m_rf] at hk
  exact W.aald (v := va_rf ((f i.toNatClampNeg).map (xf X))) (ty := ty) C.1 C.2.1 q1 ((C.K.2.1 t _ ht).1 n (fun j => va_rf ((f j).map (xf X)))) hty (fun q => by cases q) (by show ¬ (i < 0 ∨ (arrV _ _ _).slots.size ≤ _); rw [arrV_size]; exact e2) (arrV_read _ _ hlt) rfl rfl d hk
theorem ev_aldr (C : CX X own nm cc nL ret) {a t : Nat} {ty : FieldType} (ht : tyl[t]? = some ty) (hty : ty.isReference = true) {i : Int32} {x : Nat} (d : decode cc pc = .ok (.aaload, 1)) (hv : aR t M a i = some x) (kk : EV X nL (pc + 1) l (.ref x :: st) kc ks M) : EV X nL pc l (.int i :: .ref a :: st) kc ks M := ev_aldq C ht hty d (aR_Q hv) kk
theorem ev_astq (C : CX X own nm cc nL ret) {a t ci : Nat} {r : vw_C} (ht : tyl[t]? = some (.object r.1)) (hc : vwCl[ci]? = some r) {i : Int32} {x : Option Nat} (d : decode cc pc = .ok (.aastore, 1)) (hv : uQ t ci M a i x = some M2) (kk : EV X nL (pc + 1) l st kc ks M2) : EV X nL pc l (va_rf x :: .int i :: .ref a :: st) kc ks M := by
  intro H locs ls hl hM hS
  obtain ⟨n, f, e1, e2, rfl, e3⟩ := uQ_spec hv
  obtain ⟨h8, q1⟩ := m_arr hM e1
  have hlt : i.toNatClampNeg < n := Nat.not_le.mp fun q => e2 (Or.inr q)
  have h0 : ¬ i < 0 := fun q => e2 (Or.inl q)
  have fin : ∀ H1 : Heap, H1[xf X a]? = some ((vp_cell ((xw X).2.1 t) (n, .inr (.inr (.inr (.inr (fun j => (f j).map (xf X))))))).setSlot i.toNatClampNeg (va_rf (x.map (xf X)))) → H1.size = H.size → (∀ q, q ≠ xf X a → H1[q]? = H[q]?) → ∀ locs1, va_S (xA X) (xs X).heap H1 locs1 → WX X H1 locs1 kc ks (F0 (xm X) (pc + 1) ls (st.map (m_v (xf X)))) := by
    intro H1 g1 g2 g3 locs1 hS1
    refine kk H1 _ ls hl (hM.set h8 e1 ?_ g2 g3) hS1
    show H1[_]? = some (vp_cell _ (n, .inr (.inr (.inr (.inr (fun j => (va_up f i.toNatClampNeg x j).map (xf X)))))))
    rw [g1, vp_cell_q, vp_cell_q, arrV_store]
    congr 2
    funext q
    by_cases hq : q = i.toNatClampNeg
    · subst hq
      simp [updV, va_up]
    · simp [updV, va_up, hq]
  rcases e3 with rfl | ⟨y, fs, rfl, e4⟩
  · exact va_WaastN (C := r.1) C.1 C.2.1 q1 ((C.K.2.1 t _ ht).1 n (fun j => va_rf ((f j).map (xf X)))) (fun h => by cases h) (by show ¬ (i < 0 ∨ (arrV _ _ _).slots.size ≤ _); rw [arrV_size]; exact e2) rfl rfl d fun H1 g1 g2 g3 => fin H1 g1 g2 g3 _ (hS.put g2 g3 (m_hiA h8))
  · obtain ⟨Cr, Tr, Nr⟩ := r
    obtain ⟨h8y, cellV, p1, p2, p3, -⟩ := m_obj hM e4 hc
    have hcls := (C.K.1 ci _ hc).2
    obtain ⟨kA, comp, k1, k2, k3, -⟩ := (C.K.2.1 t _ ht).2
    have hcomp : comp = (xw X).1.1 ci := Option.some.inj (k3.symm.trans hcls.1)
    subst hcomp
    obtain ⟨kC, hkC, -⟩ := hcls.2
    exact W.aast C.1 C.2.1 q1 (fun q h => by cases h) (fun h => by cases h) k1 k2 rfl hkC ⟨h0, by show _ < (arrV _ _ _).slots.size; rw [arrV_size]; exact hlt⟩ p1 (fun q h => by rw [p3] at h; cases h) (by rw [p2]; exact hkC) (by rw [p2]; exact va_assign hcls) rfl rfl d fun H1 g1 g2 g3 => fin H1 g1 g2 g3 _ (hS.put g2 g3 (m_hiA h8))
theorem ev_astr (C : CX X own nm cc nL ret) {a t ci : Nat} {r : vw_C} (ht : tyl[t]? = some (.object r.1)) (hc : vwCl[ci]? = some r) {i : Int32} {x : Nat} (d : decode cc pc = .ok (.aastore, 1)) (hv : uQ t ci M a i (some x) = some M2) (kk : EV X nL (pc + 1) l st kc ks M2) : EV X nL pc l (.ref x :: .int i :: .ref a :: st) kc ks M := ev_astq C ht hc d hv kk
-- making
theorem m_pushS {w : mW} {H0 H H1 : Heap} {locs : List Loc} (hS : va_S (fun q => w.2.2.2.2 ≤ q) H0 H locs) (z1 : H1.size = H.size + 1) (o1 : ∀ q : Nat, q < H.size → H1[q]? = H[q]?) : va_S (fun q => w.2.2.2.2 ≤ q) H0 H1 locs :=
  ⟨Nat.le_trans hS.1 (by omega), fun x h1 h2 => (o1 x (Nat.lt_of_lt_of_le h1 hS.1)).trans (hS.2.1 x h1 h2), hS.2.2⟩
theorem ev_new (C : CX X own nm cc nL ret) (K : clOK Cn T N ci ty) {idx : Nat} {fs : List Value} (d : decode cc pc = .ok (.new idx, 3)) (h1 : Cond.classLink own idx Cn ∈ lw_all) (h2 : Cond.instantiable Cn N ∈ lw_all) (h3 : Cond.initialized Cn ∈ lw_all) (hfs : ∀ j, j < N → defaultValue (ty j) = vp_V (fs.map (m_v (xf X))) j) (hcells : kc + 1 ≤ (xR X).cells) (hslots : ks + N ≤ (xR X).slots) (kk : EV X nL (pc + 3) l (.ref M.length :: st) (kc + 1) (ks + N) (M ++ [.inr (ci, fs)])) : EV X nL pc l st kc ks M := by
  intro H locs ls hl hM hS
  have hKn := C.K.1 ci _ K.1
  refine W.newcK C.1 C.2.1 C.own (C.ts _ h1) (C.ts _ h2) (C.ts _ h3) rfl d hcells hslots hKn.2.1 rfl fun H1 kC hkC e1 z1 o1 => ?_
  have hnew := hM.new
  have k9 := kk H1 locs ls hl (hM.push ⟨_, K.1, ?_⟩ z1 o1) (m_pushS hS z1 o1)
  · rw [List.map_cons] at k9
    show WX X H1 locs (kc + 1) (ks + N) (F0 (xm X) (pc + 3) ls (.ref H.size :: _))
    rw [← hnew]
    exact k9
  · rw [hnew]
    exact (u_born ty C.ts K.2.1 hKn hkC e1 K.2.2.1).to hfs
theorem ev_newa_i (C : CX X own nm cc nL ret) {n : Int32} {N : Nat} (d : decode cc pc = .ok (.newarray .int, 2)) (h1 : Cond.arrayClass .int ∈ lw_all) (hn : ¬ n < 0) (hN : n.toNatClampNeg = N) (hb : N ≤ 60000000) (hcells : kc + 1 ≤ (xR X).cells) (hslots : ks + N ≤ (xR X).slots) (kk : EV X nL (pc + 2) l (.ref M.length :: st) (kc + 1) (ks + N) (M ++ [.inl (0, N, .inl (fun _ => 0))])) : EV X nL pc l (.int n :: st) kc ks M := by
  intro H locs ls hl hM hS
  refine va_newaK (atype := .int) C.1 C.2.1 (C.ts _ h1) rfl d rfl hn hN (by show N * _ ≤ _; simp only [newarray.typeOf, componentBytes]; omega) hcells hslots rfl fun H1 cA e1 z1 o1 hAr hNm => ?_
  have hnew := hM.new
  have hcA : cA = (xw X).2.1 0 := Option.some.inj (hNm.symm.trans (C.K.2.1 0 _ rfl).2)
  subst hcA
  have k9 := kk H1 locs ls hl (hM.push ?_ z1 o1) (m_pushS hS z1 o1)
  · rw [List.map_cons] at k9
    show WX X H1 locs (kc + 1) (ks + N) (F0 (xm X) (pc + 2) ls (.ref H.size :: _))
    rw [← hnew]
    exact k9
  · show H1[m_f (xw X) M.length]? = some (vp_cell _ _)
    rw [hnew]
    exact e1
theorem ev_newa_j (C : CX X own nm cc nL ret) {n : Int32} {N : Nat} (d : decode cc pc = .ok (.newarray .long, 2)) (h1 : Cond.arrayClass .long ∈ lw_all) (hn : ¬ n < 0) (hN : n.toNatClampNeg = N) (hb : N ≤ 60000000) (hcells : kc + 1 ≤ (xR X).cells) (hslots : ks + N ≤ (xR X).slots) (kk : EV X nL (pc + 2) l (.ref M.length :: st) (kc + 1) (ks + N) (M ++ [.inl (1, N, .inr (.inl (fun _ => 0)))])) : EV X nL pc l (.int n :: st) kc ks M := by
  intro H locs ls hl hM hS
  refine va_newaK (atype := .long) C.1 C.2.1 (C.ts _ h1) rfl d rfl hn hN (by show N * _ ≤ _; simp only [newarray.typeOf, componentBytes]; omega) hcells hslots rfl fun H1 cA e1 z1 o1 hAr hNm => ?_
  have hnew := hM.new
  have hcA : cA = (xw X).2.1 1 := Option.some.inj (hNm.symm.trans (C.K.2.1 1 _ rfl).2)
  subst hcA
  have k9 := kk H1 locs ls hl (hM.push ?_ z1 o1) (m_pushS hS z1 o1)
  · rw [List.map_cons] at k9
    show WX X H1 locs (kc + 1) (ks + N) (F0 (xm X) (pc + 2) ls (.ref H.size :: _))
    rw [← hnew]
    exact k9
  · show H1[m_f (xw X) M.length]? = some (vp_cell _ _)
    rw [hnew]
    exact e1
theorem ev_newa_d (C : CX X own nm cc nL ret) {n : Int32} {N : Nat} (d : decode cc pc = .ok (.newarray .double, 2)) (h1 : Cond.arrayClass .double ∈ lw_all) (hn : ¬ n < 0) (hN : n.toNatClampNeg = N) (hb : N ≤ 60000000) (hcells : kc + 1 ≤ (xR X).cells) (hslots : ks + N ≤ (xR X).slots) (kk : EV X nL (pc + 2) l (.ref M.length :: st) (kc + 1) (ks + N) (M ++ [.inl (2, N, .inr (.inr (.inr (.inl (fun _ => 0)))))])) : EV X nL pc l (.int n :: st) kc ks M := by
  intro H locs ls hl hM hS
  refine va_newaK (atype := .double) C.1 C.2.1 (C.ts _ h1) rfl d rfl hn hN (by show N * _ ≤ _; simp only [newarray.typeOf, componentBytes]; omega) hcells hslots rfl fun H1 cA e1 z1 o1 hAr hNm => ?_
  have hnew := hM.new
  have hcA : cA = (xw X).2.1 2 := Option.some.inj (hNm.symm.trans (C.K.2.1 2 _ rfl).2)
  subst hcA
  have k9 := kk H1 locs ls hl (hM.push ?_ z1 o1) (m_pushS hS z1 o1)
  · rw [List.map_cons] at k9
    show WX X H1 locs (kc + 1) (ks + N) (F0 (xm X) (pc + 2) ls (.ref H.size :: _))
    rw [← hnew]
    exact k9
  · show H1[m_f (xw X) M.length]? = some (vp_cell _ _)
    rw [hnew]
    exact e1
theorem ev_newa_z (C : CX X own nm cc nL ret) {n : Int32} {N : Nat} (d : decode cc pc = .ok (.newarray .boolean, 2)) (h1 : Cond.arrayClass .boolean ∈ lw_all) (hn : ¬ n < 0) (hN : n.toNatClampNeg = N) (hb : N ≤ 60000000) (hcells : kc + 1 ≤ (xR X).cells) (hslots : ks + N ≤ (xR X).slots) (kk : EV X nL (pc + 2) l (.ref M.length :: st) (kc + 1) (ks + N) (M ++ [.inl (3, N, .inl (fun _ => 0))])) : EV X nL pc l (.int n :: st) kc ks M := by
  intro H locs ls hl hM hS
  refine va_newaK (atype := .boolean) C.1 C.2.1 (C.ts _ h1) rfl d rfl hn hN (by show N * _ ≤ _; simp only [newarray.typeOf, componentBytes]; omega) hcells hslots rfl fun H1 cA e1 z1 o1 hAr hNm => ?_
  have hnew := hM.new
  have hcA : cA = (xw X).2.1 3 := Option.some.inj (hNm.symm.trans (C.K.2.1 3 _ rfl).2)
  subst hcA
  have k9 := kk H1 locs ls hl (hM.push ?_ z1 o1) (m_pushS hS z1 o1)
  · rw [List.map_cons] at k9
    show WX X H1 locs (kc + 1) (ks + N) (F0 (xm X) (pc + 2) ls (.ref H.size :: _))
    rw [← hnew]
    exact k9
  · show H1[m_f (xw X) M.length]? = some (vp_cell _ _)
    rw [hnew]
    exact e1
theorem ev_newa_b (C : CX X own nm cc nL ret) {n : Int32} {N : Nat} (d : decode cc pc = .ok (.newarray .byte, 2)) (h1 : Cond.arrayClass .byte ∈ lw_all) (hn : ¬ n < 0) (hN : n.toNatClampNeg = N) (hb : N ≤ 60000000) (hcells : kc + 1 ≤ (xR X).cells) (hslots : ks + N ≤ (xR X).slots) (kk : EV X nL (pc + 2) l (.ref M.length :: st) (kc + 1) (ks + N) (M ++ [.inl (4, N, .inl (fun _ => 0))])) : EV X nL pc l (.int n :: st) kc ks M := by
  intro H locs ls hl hM hS
  refine va_newaK (atype := .byte) C.1 C.2.1 (C.ts _ h1) rfl d rfl hn hN (by show N * _ ≤ _; simp only [newarray.typeOf, componentBytes]; omega) hcells hslots rfl fun H1 cA e1 z1 o1 hAr hNm => ?_
  have hnew := hM.new
  have hcA : cA = (xw X).2.1 4 := Option.some.inj (hNm.symm.trans (C.K.2.1 4 _ rfl).2)
  subst hcA
  have k9 := kk H1 locs ls hl (hM.push ?_ z1 o1) (m_pushS hS z1 o1)
  · rw [List.map_cons] at k9
    show WX X H1 locs (kc + 1) (ks + N) (F0 (xm X) (pc + 2) ls (.ref H.size :: _))
    rw [← hnew]
    exact k9
  · show H1[m_f (xw X) M.length]? = some (vp_cell _ _)
    rw [hnew]
    exact e1
theorem ev_newq (C : CX X own nm cc nL ret) {Cq : String} {n : Int32} {N t idx : Nat} (ht : tyl[t]? = some (.object Cq)) (d : decode cc pc = .ok (.anewarray idx, 3)) (h1 : Cond.classLink own idx Cq ∈ lw_all) (hover : va_AO Cq (xs X)) (hn : ¬ n < 0) (hN : n.toNatClampNeg = N) (hb : N ≤ 60000000) (hcells : kc + 1 ≤ (xR X).cells) (hslots : ks + N ≤ (xR X).slots) (kk : EV X nL (pc + 3) l (.ref M.length :: st) (kc + 1) (ks + N) (M ++ [.inl (t, N, .inr (.inr (.inr (.inr (fun _ => none)))))])) : EV X nL pc l (.int n :: st) kc ks M := by
  intro H locs ls hl hM hS
  subst hN
  refine W.anew C.1 C.2.1 C.own (C.ts _ h1) (va_AO.use hover) rfl d rfl hn (by omega) hcells hslots fun cA kA comp f1 f2 f3 f4 => ?_
  generalize hH1 : H.push ({ cls := cA, slots := Array.replicate n.toNatClampNeg .null, vm := .none } : Cell) = H1
  have z1 : H1.size = H.size + 1 := by rw [← hH1, Array.size_push]
  have e1 : H1[H.size]? = some (arrV cA n.toNatClampNeg (fun _ => .null)) := by rw [← hH1, Array.getElem?_push_size, ← arrV_new]
  have o1 : ∀ q : Nat, q < H.size → H1[q]? = H[q]? := fun q hq => by rw [← hH1, Array.getElem?_push, if_neg (Nat.ne_of_lt hq)]
  have hnew := hM.new
  obtain ⟨kA2, comp2, -, -, -, g4⟩ := (C.K.2.1 t _ ht).2
  have hcA : cA = (xw X).2.1 t := Option.some.inj (f1.symm.trans g4)
  subst hcA
  have k9 := kk H1 locs ls hl (hM.push ?_ z1 o1) (m_pushS hS z1 o1)
  · rw [List.map_cons] at k9
    show WX X H1 locs (kc + 1) (ks + n.toNatClampNeg) (F0 (xm X) (pc + 3) ls (.ref H.size :: _))
    rw [← hnew]
    exact k9
  · show H1[m_f (xw X) M.length]? = some (vp_cell _ _)
    rw [hnew]
    exact e1
theorem ev_null (C : CX X own nm cc nL ret) (d : decode cc pc = .ok (.aconst_null, 1)) (k : EV X nL (pc + 1) l (.null :: st) kc ks M) : EV X nL pc l st kc ks M := fun H locs ls hl hM hS => lv_null C.1 C.2.1 d (k H locs ls hl hM hS)
-- statics
theorem m_zf (w : mW) {k : Nat} (h : k < 10) : m_f w k = w.2.2.1 k := if_pos h
theorem ev_sKinds (C : CX X own nm cc nL ret) {idx : Nat} (h : Cond.fieldLink own idx "FareLimits" "KINDS" "[LFareLimits$Kind;" ∈ lw_all) (d : decode cc pc = .ok (.getstatic idx, 3)) (k : EV X nL (pc + 3) l (.ref 4 :: st) kc ks M) : EV X nL pc l st kc ks M := fun H locs ls hl hM hS => va_gets C.1 C.2.1 C.S.2.1 hS C.own (C.ts _ h) (fun _ h => h) d (k H locs ls hl hM hS)
theorem ev_sKindsN (C : CX X "FareLimits$Kind" nm cc nL ret) (d : decode cc pc = .ok (.getstatic 47, 3)) (k : EV X nL (pc + 3) l (.ref 4 :: st) kc ks M) : EV X nL pc l st kc ks M := fun H locs ls hl hM hS => va_getsN C.1 C.2.1 C.S.2.1 hS C.own C.K.2.2.1.2.2.2.2.2.2.2.2.2 (fun _ h => h) d (k H locs ls hl hM hS)
theorem ev_sMost (C : CX X own nm cc nL ret) {idx : Nat} (h : Cond.fieldLink own idx "FareLimits" "MOST_OF_A_RULE" "[I" ∈ lw_all) (d : decode cc pc = .ok (.getstatic idx, 3)) (k : EV X nL (pc + 3) l (.ref 5 :: st) kc ks M) : EV X nL pc l st kc ks M := fun H locs ls hl hM hS => va_gets C.1 C.2.1 C.S.2.2.2.1 hS C.own (C.ts _ h) (fun _ h => h) d (k H locs ls hl hM hS)
theorem ev_sFare (C : CX X own nm cc nL ret) {idx : Nat} (h : Cond.fieldLink own idx "FareLimits$Kind" "FARE" "LFareLimits$Kind;" ∈ lw_all) (d : decode cc pc = .ok (.getstatic idx, 3)) (k : EV X nL (pc + 3) l (.ref 0 :: st) kc ks M) : EV X nL pc l st kc ks M := fun H locs ls hl hM hS => va_gets C.1 C.2.1 (C.S.1.1 0 (by decide)).1 hS C.own (C.ts _ h) (fun _ h => h) d (k H locs ls hl hM hS)
theorem ev_sCompact (C : CX X own nm cc nL ret) {idx : Nat} (h : Cond.fieldLink own idx "java/lang/String" "COMPACT_STRINGS" "Z" ∈ lw_all) (d : decode cc pc = .ok (.getstatic idx, 3)) (k : EV X nL (pc + 3) l (.int 1 :: st) kc ks M) : EV X nL pc l st kc ks M := fun H locs ls hl hM hS => va_gets C.1 C.2.1 C.S.2.2.2.2.2.1 hS C.own (C.ts _ h) (fun _ h => h) d (k H locs ls hl hM hS)
theorem ev_sDgO (C : CX X own nm cc nL ret) {idx : Nat} (h : Cond.fieldLink own idx "java/lang/Integer" "DigitOnes" "[B" ∈ lw_all) (d : decode cc pc = .ok (.getstatic idx, 3)) (k : EV X nL (pc + 3) l (.ref 6 :: st) kc ks M) : EV X nL pc l st kc ks M := fun H locs ls hl hM hS => va_gets C.1 C.2.1 C.S.2.2.2.2.2.2.1 hS C.own (C.ts _ h) (fun _ h => h) d (k H locs ls hl hM hS)
theorem ev_sDgT (C : CX X own nm cc nL ret) {idx : Nat} (h : Cond.fieldLink own idx "java/lang/Integer" "DigitTens" "[B" ∈ lw_all) (d : decode cc pc = .ok (.getstatic idx, 3)) (k : EV X nL (pc + 3) l (.ref 7 :: st) kc ks M) : EV X nL pc l st kc ks M := fun H locs ls hl hM hS => va_gets C.1 C.2.1 C.S.2.2.2.2.2.2.2.2.1 hS C.own (C.ts _ h) (fun _ h => h) d (k H locs ls hl hM hS)
theorem ev_zlenK (C : CX X own nm cc nL ret) (d : decode cc pc = .ok (.arraylength, 1)) (k : EV X nL (pc + 1) l (.int 4 :: st) kc ks M) : EV X nL pc l (.ref 4 :: st) kc ks M := fun H locs ls hl hM hS => va_tlen C.1 C.2.1 C.S.2.2.1 hS rfl d (k H locs ls hl hM hS)
theorem ev_zKinds (C : CX X own nm cc nL ret) {i : Int32} {x : Nat} (d : decode cc pc = .ok (.aaload, 1)) (hv : zKinds i = some x) (k : EV X nL (pc + 1) l (.ref x :: st) kc ks M) : EV X nL pc l (.int i :: .ref 4 :: st) kc ks M := fun H locs ls hl hM hS => by
  unfold zKinds at hv
  split at hv
  · cases hv
  · next e =>
    cases hv
    have hlt : i.toNatClampNeg < 4 := Nat.not_le.mp fun q => e (Or.inr q)
    have k9 := k H locs ls hl hM hS
    rw [List.map_cons] at k9
    exact vb_tq C.1 C.2.1 C.S.2.2.1 hS e (show _ = m_v (xf X) (.ref i.toNatClampNeg) from congrArg Value.ref (m_zf _ (by omega)).symm) d k9
theorem ev_zMost (C : CX X own nm cc nL ret) {i : Int32} {x : Int32} (d : decode cc pc = .ok (.iaload, 1)) (hv : zMost i = some x) (k : EV X nL (pc + 1) l (.int x :: st) kc ks M) : EV X nL pc l (.int i :: .ref 5 :: st) kc ks M := fun H locs ls hl hM hS => by
  unfold zMost at hv
  split at hv
  · cases hv
  · next e =>
    cases hv
    exact va_ti C.1 C.2.1 C.S.2.2.2.2.1 hS e rfl d (k H locs ls hl hM hS)
theorem ev_zDgO (C : CX X own nm cc nL ret) {i : Int32} {x : Int32} (d : decode cc pc = .ok (.baload, 1)) (hv : zDgO i = some x) (k : EV X nL (pc + 1) l (.int x :: st) kc ks M) : EV X nL pc l (.int i :: .ref 6 :: st) kc ks M := fun H locs ls hl hM hS => by
  unfold zDgO at hv
  split at hv
  · cases hv
  · next e =>
    cases hv
    exact va_tb C.1 C.2.1 C.S.2.2.2.2.2.2.2.1 hS e rfl d (k H locs ls hl hM hS)
theorem ev_zDgT (C : CX X own nm cc nL ret) {i : Int32} {x : Int32} (d : decode cc pc = .ok (.baload, 1)) (hv : zDgT i = some x) (k : EV X nL (pc + 1) l (.int x :: st) kc ks M) : EV X nL pc l (.int i :: .ref 7 :: st) kc ks M := fun H locs ls hl hM hS => by
  unfold zDgT at hv
  split at hv
  · cases hv
  · next e =>
    cases hv
    exact va_tb C.1 C.2.1 C.S.2.2.2.2.2.2.2.2.2.1 hS e rfl d (k H locs ls hl hM hS)
theorem ev_zK0 (C : CX X own nm cc nL ret) {a idx : Nat} {x : Int32} (h : Cond.fieldLink own idx "FareLimits$Kind" "number" "I" ∈ lw_all) (d : decode cc pc = .ok (.getfield idx, 3)) (hv : zK0 a = some x) (k : EV X nL (pc + 3) l (.int x :: st) kc ks M) : EV X nL pc l (.ref a :: st) kc ks M := fun H locs ls hl hM hS => by
  unfold zK0 zK at hv
  split at hv
  · next e =>
    cases hv
    show WX X H locs kc ks (F0 (xm X) pc ls (.ref (m_f (xw X) a) :: _))
    rw [m_zf _ (by omega)]
    exact va_getE C.1 C.2.1 C.S.1 (i := a) e hS C.own (q := kF[0]) (by simp [kF]) (C.ts _ h) (fun _ h => h) d (k H locs ls hl hM hS)
  · cases hv
theorem ev_zK1 (C : CX X own nm cc nL ret) {a idx : Nat} {x : Int32} (h : Cond.fieldLink own idx "FareLimits$Kind" "above" "I" ∈ lw_all) (d : decode cc pc = .ok (.getfield idx, 3)) (hv : zK1 a = some x) (k : EV X nL (pc + 3) l (.int x :: st) kc ks M) : EV X nL pc l (.ref a :: st) kc ks M := fun H locs ls hl hM hS => by
  unfold zK1 zK at hv
  split at hv
  · next e =>
    cases hv
    show WX X H locs kc ks (F0 (xm X) pc ls (.ref (m_f (xw X) a) :: _))
    rw [m_zf _ (by omega)]
    exact va_getE C.1 C.2.1 C.S.1 (i := a) e hS C.own (q := kF[1]) (by simp [kF]) (C.ts _ h) (fun _ h => h) d (k H locs ls hl hM hS)
  · cases hv
theorem ev_zK2 (C : CX X own nm cc nL ret) {a idx : Nat} {x : Int32} (h : Cond.fieldLink own idx "FareLimits$Kind" "quartersKept" "I" ∈ lw_all) (d : decode cc pc = .ok (.getfield idx, 3)) (hv : zK2 a = some x) (k : EV X nL (pc + 3) l (.int x :: st) kc ks M) : EV X nL pc l (.ref a :: st) kc ks M := fun H locs ls hl hM hS => by
  unfold zK2 zK at hv
  split at hv
  · next e =>
    cases hv
    show WX X H locs kc ks (F0 (xm X) pc ls (.ref (m_f (xw X) a) :: _))
    rw [m_zf _ (by omega)]
    exact va_getE C.1 C.2.1 C.S.1 (i := a) e hS C.own (q := kF[2]) (by simp [kF]) (C.ts _ h) (fun _ h => h) d (k H locs ls hl hM hS)
  · cases hv
theorem ev_sFmt (C : CX X own nm cc nL ret) {idx : Nat} (h : Cond.fieldLink own idx "jdk/internal/util/Preconditions" "SIOOBE_FORMATTER" "Ljava/util/function/BiFunction;" ∈ lw_all) (d : decode cc pc = .ok (.getstatic idx, 3)) (k : EV X nL (pc + 3) l (.retAddr 0 :: st) kc ks M) : EV X nL pc l st kc ks M := fun H locs ls hl hM hS => va_gets C.1 C.2.1 C.S.2.2.2.2.2.2.2.2.2.2 hS C.own (C.ts _ h) (fun _ h => h) d (k H locs ls hl hM hS)
end EVM

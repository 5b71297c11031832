section EVN
variable {X : mX} {own nm : String} {cc : ByteArray} {nL pc kc ks : Nat} {ret : Option FieldType} {l : List (Nat × Value)} {st : List Value} {M M2 : mM} {idx : Nat}
theorem ev_d2raw (C : CX X own nm cc nL ret) {b : UInt64} (k1 : Cond.methodLink own idx ⟨"java/lang/Double", "doubleToRawLongBits", "(D)J"⟩ ∈ lw_all) (k2 : Cond.native ⟨"java/lang/Double", "doubleToRawLongBits", "(D)J"⟩ ∈ lw_all) (k3 : Cond.static ⟨"java/lang/Double", "doubleToRawLongBits", "(D)J"⟩ ∈ lw_all) (k4 : Cond.initialized "java/lang/Double" ∈ lw_all) (hf : 1 ≤ (xR X).frames) (hlo : 40 ≤ (xR X).locals) (hst : (st.map fun v => v.category).sum ≤ 8) (d : decode cc pc = .ok (.invokestatic idx, 3)) (kk : EV X nL (pc + 3) l (.long b.toInt64 :: st) kc ks M) : EV X nL pc l (.double b :: st) kc ks M := by
  intro H locs ls hl hM hS
  exact vn_d2l C.1 C.2.1 (by rw [C.2.2.1]; exact hl.1.symm) C.own (C.ts _ k1) (C.ts _ k2) (C.ts _ k3) (C.ts _ k4) hf (by show _ ≤ (xR X).locals; rw [m_cat]; omega) d (kk H locs ls hl hM hS)
theorem ev_f2raw (C : CX X own nm cc nL ret) {b : UInt32} (k1 : Cond.methodLink own idx ⟨"java/lang/Float", "floatToRawIntBits", "(F)I"⟩ ∈ lw_all) (k2 : Cond.native ⟨"java/lang/Float", "floatToRawIntBits", "(F)I"⟩ ∈ lw_all) (k3 : Cond.static ⟨"java/lang/Float", "floatToRawIntBits", "(F)I"⟩ ∈ lw_all) (k4 : Cond.initialized "java/lang/Float" ∈ lw_all) (hf : 1 ≤ (xR X).frames) (hlo : 40 ≤ (xR X).locals) (hst : (st.map fun v => v.category).sum ≤ 8) (d : decode cc pc = .ok (.invokestatic idx, 3)) (kk : EV X nL (pc + 3) l (.int b.toInt32 :: st) kc ks M) : EV X nL pc l (.float b :: st) kc ks M := by
  intro H locs ls hl hM hS
  exact vn_f2i C.1 C.2.1 (by rw [C.2.2.1]; exact hl.1.symm) C.own (C.ts _ k1) (C.ts _ k2) (C.ts _ k3) (C.ts _ k4) hf (by show _ ≤ (xR X).locals; rw [m_cat]; omega) d (kk H locs ls hl hM hS)
/-- a stretch of an array of ints or bytes copied -/
def cpA (t : Nat) (ty : FieldType) (M : mM) (a0 : Nat) (sp : Int32) (a1 : Nat) (dp n : Int32) : Option mM := match M[a0]?, M[a1]? with
  | some (.inl (t0, n0, .inl f)), some (.inl (t1, n1, .inl g)) => if t0 = t ∧ t1 = t ∧ ¬ sp < 0 ∧ ¬ dp < 0 ∧ ¬ n < 0 ∧ sp.toNatClampNeg + n.toNatClampNeg ≤ n0 ∧ dp.toNatClampNeg + n.toNatClampNeg ≤ n1 ∧ (List.range n.toNatClampNeg).all (fun i => fits ty (.int (f (sp.toNatClampNeg + i)))) = true then some (M.set a1 (.inl (t, n1, .inl (va_cpy f g sp.toNatClampNeg dp.toNatClampNeg n.toNatClampNeg)))) else none
  | _, _ => none
def cpI : mM → Nat → Int32 → Nat → Int32 → Int32 → Option mM := cpA 0 .int
def cpB : mM → Nat → Int32 → Nat → Int32 → Int32 → Option mM := cpA 4 .byte
theorem cpA_spec {t : Nat} {ty : FieldType} {a0 a1 : Nat} {sp dp n : Int32} (h : cpA t ty M a0 sp a1 dp n = some M2) : ∃ (n0 n1 : Nat) (f g : Nat → Int32), M[a0]? = some (.inl (t, n0, .inl f)) ∧ M[a1]? = some (.inl (t, n1, .inl g)) ∧ ¬ sp < 0 ∧ ¬ dp < 0 ∧ ¬ n < 0 ∧ sp.toNatClampNeg + n.toNatClampNeg ≤ n0 ∧ dp.toNatClampNeg + n.toNatClampNeg ≤ n1 ∧ (∀ i, i < n.toNatClampNeg → fits ty (.int (f (sp.toNatClampNeg + i))) = true) ∧ M2 = M.set a1 (.inl (t, n1, .inl (va_cpy f g sp.toNatClampNeg dp.toNatClampNeg n.toNatClampNeg))) := by
  unfold cpA at h
  split at h
  · next t0 n0 f t1 n1 g e0 e1 =>
    split at h
    · next e =>
      obtain ⟨rfl, rfl, h1, h2, h3, h4, h5, h6⟩ := e
      exact ⟨n0, n1, f, g, e0, e1, h1, h2, h3, h4, h5, fun i hi => List.all_eq_true.mp h6 i (List.mem_range.mpr hi), (Option.some.inj h).symm⟩
    · cases h
  · cases h
theorem ev_cpA (C : CX X own nm cc nL ret) {t : Nat} {ty : FieldType} {a0 a1 : Nat} {sp dp n : Int32} (ht : tyl[t]? = some ty) (hprim : refKind ty = false) (k1 : Cond.methodLink own idx arraycopyName ∈ lw_all) (k2 : Cond.native arraycopyName ∈ lw_all) (k3 : Cond.static arraycopyName ∈ lw_all) (k4 : Cond.initialized "java/lang/System" ∈ lw_all) (hf : 1 ≤ (xR X).frames) (hlo : 40 ≤ (xR X).locals) (hst : (st.map fun v => v.category).sum ≤ 8) (d : decode cc pc = .ok (.invokestatic idx, 3)) (hv : cpA t ty M a0 sp a1 dp n = some M2) (kk : EV X nL (pc + 3) l st kc ks M2) : EV X nL pc l (.int n :: .int dp :: .ref a1 :: .int sp :: .ref a0 :: st) kc ks M := by
  intro H locs ls hl hM hS
  obtain ⟨n0, n1, f, g, e0, e1, h1, h2, h3, h4, h5, h6, rfl⟩ := cpA_spec hv
  obtain ⟨-, hc0⟩ := m_arr hM e0
  obtain ⟨h8, hc1⟩ := m_arr hM e1
  have nn : ∀ z : Int32, ¬ z < 0 → z.toInt = (z.toNatClampNeg : Int) := by
    intro z hz
    have hz0 : (0 : Int) ≤ z.toInt := by
      have := Int32.not_lt.mp hz
      simpa using Int32.le_iff_toInt_le.mp this
    show z.toInt = ((z.toInt.toNat : Nat) : Int)
    omega
  intro T hT Xs
  obtain ⟨-, k0, hk0, cm0, hkk0⟩ := (C.K.2.1 t _ ht).1 n0 (fun j => .int (f j))
  obtain ⟨-, k9, hk9, cm9, hkk9⟩ := (C.K.2.1 t _ ht).1 n1 (fun j => .int (g j))
  have hw : nativeFrameWords "java/lang/System" "arraycopy" 5 ≤ 21 := by decide
  obtain ⟨vm', X', step⟩ := Xs.arraycopy C.1 C.own (C.ts _ k1) (C.ts _ k2) (C.ts _ k3) (C.ts _ k4) (src := xf X a0) (dst := xf X a1) (cs := vp_cell ((xw X).2.1 t) (n0, .inl f)) (cd := vp_cell ((xw X).2.1 t) (n1, .inl g)) (srcPos := sp) (destPos := dp) (n := n) (by rw [hT]; exact hc0) (by rw [hT]; exact hc1)
    (fun _ h => by cases h) (fun _ h => by cases h) (fun h => by cases h) (fun h => by cases h) hk0 hk9 hkk0 hkk9 (by simp [hprim]) h1 h2 h3
    (by rw [nn sp h1, nn n h3]; show ¬ _ > ((arrV _ n0 (fun j => .int (f j))).slots.size : Int); rw [arrV_size]; omega)
    (by rw [nn dp h2, nn n h3]; show ¬ _ > ((arrV _ n1 (fun j => .int (g j))).slots.size : Int); rw [arrV_size]; omega)
    (fun vm₁ _ i hi => by
      have e : (vp_cell ((xw X).2.1 t) (n0, .inl f)).slots.getD (sp.toNatClampNeg + i) .null = .int (f (sp.toNatClampNeg + i)) := by
        show (arrV _ n0 (fun j => .int (f j))).slots.getD _ _ = _
        rw [Array.getD_eq_getD_getElem?, arrV_read _ _ (by omega)]
        rfl
      refine ⟨?_, ?_⟩
      · rw [e]
        exact h6 i hi
      · rw [e]
        exact trivial)
    (g := F0 (xm X) pc ls (.int n :: .int dp :: .ref (xf X a1) :: .int sp :: .ref (xf X a0) :: st.map (m_v (xf X)))) rfl (by rw [C.2.2.1]; exact hl.1) (rest := st.map (m_v (xf X))) rfl (by rw [C.2.1]; exact d) hf (by show 2 * 0 + _ + _ ≤ (xR X).locals; rw [m_cat]; omega)
  have ecp : copied (vp_cell ((xw X).2.1 t) (n0, .inl f)) (vp_cell ((xw X).2.1 t) (n1, .inl g)) sp dp n = vp_cell ((xw X).2.1 t) (n1, .inl (va_cpy f g sp.toNatClampNeg dp.toNatClampNeg n.toNatClampNeg)) := va_copied (fun z => .int z) _ _ f g h4
  rw [ecp] at X' step
  have hlt : xf X a1 < H.size := (Array.getElem?_eq_some_iff.mp hc1).1
  have hheap : ((T.setVm vm').setCell (xf X a1) (vp_cell ((xw X).2.1 t) (n1, .inl (va_cpy f g sp.toNatClampNeg dp.toNatClampNeg n.toNatClampNeg)))).heap = H.setIfInBounds (xf X a1) (vp_cell ((xw X).2.1 t) (n1, .inl (va_cpy f g sp.toNatClampNeg dp.toNatClampNeg n.toNatClampNeg))) := by rw [← hT]; rfl
  have oq : ∀ q : Nat, q ≠ xf X a1 → (H.setIfInBounds (xf X a1) (vp_cell ((xw X).2.1 t) (n1, .inl (va_cpy f g sp.toNatClampNeg dp.toNatClampNeg n.toNatClampNeg))))[q]? = H[q]? := fun q hq => by simp [Array.getElem?_setIfInBounds, Ne.symm hq]
  obtain ⟨t9, a9, b9⟩ := kk _ _ ls hl (hM.set (H1 := H.setIfInBounds (xf X a1) (vp_cell ((xw X).2.1 t) (n1, .inl (va_cpy f g sp.toNatClampNeg dp.toNatClampNeg n.toNatClampNeg)))) h8 e1 (show (H.setIfInBounds (xf X a1) _)[m_f (xw X) a1]? = some _ by simp [Array.getElem?_setIfInBounds, hlt]; rfl) (by simp) oq) ⟨by simp; exact hS.1, fun q g1 g2 => by
      rw [oq q (fun e => g2 (by rw [e]; exact m_hiA h8))]
      exact hS.2.1 q g1 g2, fun q hq => by
      rcases List.mem_append.mp hq with h | h
      · exact hS.2.2 q h
      · obtain ⟨j, -, rfl⟩ := List.mem_map.mp h
        exact m_hiA h8⟩ _ hheap X'
  exact ⟨t9, step t9 a9, b9⟩
theorem ev_cpI (C : CX X own nm cc nL ret) {a0 a1 : Nat} {sp dp n : Int32} (k1 : Cond.methodLink own idx arraycopyName ∈ lw_all) (k2 : Cond.native arraycopyName ∈ lw_all) (k3 : Cond.static arraycopyName ∈ lw_all) (k4 : Cond.initialized "java/lang/System" ∈ lw_all) (hf : 1 ≤ (xR X).frames) (hlo : 40 ≤ (xR X).locals) (hst : (st.map fun v => v.category).sum ≤ 8) (d : decode cc pc = .ok (.invokestatic idx, 3)) (hv : cpI M a0 sp a1 dp n = some M2) (kk : EV X nL (pc + 3) l st kc ks M2) : EV X nL pc l (.int n :: .int dp :: .ref a1 :: .int sp :: .ref a0 :: st) kc ks M := ev_cpA C (t := 0) rfl rfl k1 k2 k3 k4 hf hlo hst d hv kk
theorem ev_cpB (C : CX X own nm cc nL ret) {a0 a1 : Nat} {sp dp n : Int32} (k1 : Cond.methodLink own idx arraycopyName ∈ lw_all) (k2 : Cond.native arraycopyName ∈ lw_all) (k3 : Cond.static arraycopyName ∈ lw_all) (k4 : Cond.initialized "java/lang/System" ∈ lw_all) (hf : 1 ≤ (xR X).frames) (hlo : 40 ≤ (xR X).locals) (hst : (st.map fun v => v.category).sum ≤ 8) (d : decode cc pc = .ok (.invokestatic idx, 3)) (hv : cpB M a0 sp a1 dp n = some M2) (kk : EV X nL (pc + 3) l st kc ks M2) : EV X nL pc l (.int n :: .int dp :: .ref a1 :: .int sp :: .ref a0 :: st) kc ks M := ev_cpA C (t := 4) rfl rfl k1 k2 k3 k4 hf hlo hst d hv kk
def iMax (x y : Int32) : Int32 := if x < y then y else x
def iMin (x y : Int32) : Int32 := if y < x then y else x
theorem ev_mmax (C : CX X own nm cc nL ret) {x y : Int32} (k1 : Cond.methodLink own idx Lib.Math.max.name ∈ lw_all) (k3 : Cond.static Lib.Math.max.name ∈ lw_all) (k4 : Cond.initialized "java/lang/Math" ∈ lw_all) (k5 : Cond.code Lib.Math.max.name Lib.Math.max.code 2 (some .int) ∈ lw_all) (hf : 1 ≤ (xR X).frames) (hlo : 40 ≤ (xR X).locals) (hc : kc ≤ (xR X).cells) (hs : ks ≤ (xR X).slots) (hst : (st.map fun v => v.category).sum ≤ 8) (d : decode cc pc = .ok (.invokestatic idx, 3)) (kk : EV X nL (pc + 3) l (.int (iMax x y) :: st) kc ks M) : EV X nL pc l (.int y :: .int x :: st) kc ks M := by
  intro H locs ls hl hM hS
  exact va_mmax C.1 C.2.1 (by rw [C.2.2.1]; exact hl.1.symm) C.own (C.ts _ k1) (C.ts _ k3) (C.ts _ k4) (C.ts _ k5) hf (by show _ ≤ (xR X).locals; rw [m_cat]; omega) hc hs d (kk H locs ls hl hM hS)
theorem ev_mmin (C : CX X own nm cc nL ret) {x y : Int32} (k1 : Cond.methodLink own idx Lib.Math.min.name ∈ lw_all) (k3 : Cond.static Lib.Math.min.name ∈ lw_all) (k4 : Cond.initialized "java/lang/Math" ∈ lw_all) (k5 : Cond.code Lib.Math.min.name Lib.Math.min.code 2 (some .int) ∈ lw_all) (hf : 1 ≤ (xR X).frames) (hlo : 40 ≤ (xR X).locals) (hc : kc ≤ (xR X).cells) (hs : ks ≤ (xR X).slots) (hst : (st.map fun v => v.category).sum ≤ 8) (d : decode cc pc = .ok (.invokestatic idx, 3)) (kk : EV X nL (pc + 3) l (.int (iMin x y) :: st) kc ks M) : EV X nL pc l (.int y :: .int x :: st) kc ks M := by
  intro H locs ls hl hM hS
  exact va_mmin C.1 C.2.1 (by rw [C.2.2.1]; exact hl.1.symm) C.own (C.ts _ k1) (C.ts _ k3) (C.ts _ k4) (C.ts _ k5) hf (by show _ ≤ (xR X).locals; rw [m_cat]; omega) hc hs d (kk H locs ls hl hM hS)
end EVN
theorem ok_0 : clOK RJ4 TJ4 4 0 tyJ4 := ⟨rfl, fun w hw => by
  obtain ⟨k, hk, rfl⟩ := List.mem_map.mp hw
  have hk := List.mem_range.mp hk
  match k, hk with
  | 0, _ => exact kw_356
  | 1, _ => exact kw_358
  | 2, _ => exact kw_360
  | 3, _ => exact kw_362
  | k + 4, h => exact absurd h (by omega), tyJ4_ok, nmJ4⟩
theorem newf_0 (f : Nat → Nat) : ∀ j, j < 4 → defaultValue (tyJ4 j) = vp_V (([.null, .int 0, .int 0, .int 0] : List Value).map (m_v f)) j := by
  intro j hj
  match j, hj with
  | 0, _ => rfl
  | 1, _ => rfl
  | 2, _ => rfl
  | 3, _ => rfl
  | k + 4, h => exact absurd h (by omega)
theorem ok_1 : clOK RX0 TX0 2 1 tyX0 := ⟨rfl, fun w hw => by
  obtain ⟨k, hk, rfl⟩ := List.mem_map.mp hw
  have hk := List.mem_range.mp hk
  match k, hk with
  | 0, _ => exact kw_252
  | 1, _ => exact kw_254
  | k + 2, h => exact absurd h (by omega), tyX0_ok, nmX0⟩
theorem newf_1 (f : Nat → Nat) : ∀ j, j < 2 → defaultValue (tyX0 j) = vp_V (([.null, .null] : List Value).map (m_v f)) j := by
  intro j hj
  match j, hj with
  | 0, _ => rfl
  | 1, _ => rfl
  | k + 2, h => exact absurd h (by omega)
theorem ok_2 : clOK RX1 TX1 9 2 tyX1 := ⟨rfl, fun w hw => by
  obtain ⟨k, hk, rfl⟩ := List.mem_map.mp hw
  have hk := List.mem_range.mp hk
  match k, hk with
  | 0, _ => exact kw_315
  | 1, _ => exact kw_317
  | 2, _ => exact kw_319
  | 3, _ => exact kw_321
  | 4, _ => exact kw_323
  | 5, _ => exact kw_325
  | 6, _ => exact kw_327
  | 7, _ => exact kw_329
  | 8, _ => exact kw_331
  | k + 9, h => exact absurd h (by omega), tyX1_ok, nmX1⟩
theorem newf_2 (f : Nat → Nat) : ∀ j, j < 9 → defaultValue (tyX1 j) = vp_V (([.null, .null, .null, .null, .int 0, .int 0, .int 0, .int 0, .int 0] : List Value).map (m_v f)) j := by
  intro j hj
  match j, hj with
  | 0, _ => rfl
  | 1, _ => rfl
  | 2, _ => rfl
  | 3, _ => rfl
  | 4, _ => rfl
  | 5, _ => rfl
  | 6, _ => rfl
  | 7, _ => rfl
  | 8, _ => rfl
  | k + 9, h => exact absurd h (by omega)
theorem ok_3 : clOK RX2 TX2 4 3 tyX2 := ⟨rfl, fun w hw => by
  obtain ⟨k, hk, rfl⟩ := List.mem_map.mp hw
  have hk := List.mem_range.mp hk
  match k, hk with
  | 0, _ => exact kw_167
  | 1, _ => exact kw_169
  | 2, _ => exact kw_171
  | 3, _ => exact kw_173
  | k + 4, h => exact absurd h (by omega), tyX2_ok, nmX2⟩
theorem newf_3 (f : Nat → Nat) : ∀ j, j < 4 → defaultValue (tyX2 j) = vp_V (([.null, .int 0, .int 0, .null] : List Value).map (m_v f)) j := by
  intro j hj
  match j, hj with
  | 0, _ => rfl
  | 1, _ => rfl
  | 2, _ => rfl
  | 3, _ => rfl
  | k + 4, h => exact absurd h (by omega)
theorem ok_4 : clOK RX4 TX4 4 4 tyX4 := ⟨rfl, fun w hw => by
  obtain ⟨k, hk, rfl⟩ := List.mem_map.mp hw
  have hk := List.mem_range.mp hk
  match k, hk with
  | 0, _ => exact kw_131
  | 1, _ => exact kw_133
  | 2, _ => exact kw_135
  | 3, _ => exact kw_137
  | k + 4, h => exact absurd h (by omega), tyX4_ok, nmX4⟩
theorem newf_4 (f : Nat → Nat) : ∀ j, j < 4 → defaultValue (tyX4 j) = vp_V (([.null, .null, .null, .int 0] : List Value).map (m_v f)) j := by
  intro j hj
  match j, hj with
  | 0, _ => rfl
  | 1, _ => rfl
  | 2, _ => rfl
  | 3, _ => rfl
  | k + 4, h => exact absurd h (by omega)
theorem ok_5 : clOK RX5 TX5 5 5 tyX5 := ⟨rfl, fun w hw => by
  obtain ⟨k, hk, rfl⟩ := List.mem_map.mp hw
  have hk := List.mem_range.mp hk
  match k, hk with
  | 0, _ => exact kw_197
  | 1, _ => exact kw_199
  | 2, _ => exact kw_201
  | 3, _ => exact kw_203
  | 4, _ => exact kw_205
  | k + 5, h => exact absurd h (by omega), tyX5_ok, nmX5⟩
theorem newf_5 (f : Nat → Nat) : ∀ j, j < 5 → defaultValue (tyX5 j) = vp_V (([.null, .int 0, .null, .null, .int 0] : List Value).map (m_v f)) j := by
  intro j hj
  match j, hj with
  | 0, _ => rfl
  | 1, _ => rfl
  | 2, _ => rfl
  | 3, _ => rfl
  | 4, _ => rfl
  | k + 5, h => exact absurd h (by omega)
theorem ok_6 : clOK RX6 TX6 4 6 tyX6 := ⟨rfl, fun w hw => by
  obtain ⟨k, hk, rfl⟩ := List.mem_map.mp hw
  have hk := List.mem_range.mp hk
  match k, hk with
  | 0, _ => exact kw_758
  | 1, _ => exact kw_760
  | 2, _ => exact kw_762
  | 3, _ => exact kw_764
  | k + 4, h => exact absurd h (by omega), tyX6_ok, nmX6⟩
theorem newf_6 (f : Nat → Nat) : ∀ j, j < 4 → defaultValue (tyX6 j) = vp_V (([.int 0, .int 0, .int 0, .int 0] : List Value).map (m_v f)) j := by
  intro j hj
  match j, hj with
  | 0, _ => rfl
  | 1, _ => rfl
  | 2, _ => rfl
  | 3, _ => rfl
  | k + 4, h => exact absurd h (by omega)
theorem ok_7 : clOK RX7 TX7 9 7 tyX7 := ⟨rfl, fun w hw => by
  obtain ⟨k, hk, rfl⟩ := List.mem_map.mp hw
  have hk := List.mem_range.mp hk
  match k, hk with
  | 0, _ => exact kw_276
  | 1, _ => exact kw_278
  | 2, _ => exact kw_280
  | 3, _ => exact kw_282
  | 4, _ => exact kw_284
  | 5, _ => exact kw_286
  | 6, _ => exact kw_288
  | 7, _ => exact kw_290
  | 8, _ => exact kw_292
  | k + 9, h => exact absurd h (by omega), tyX7_ok, nmX7⟩
theorem newf_7 (f : Nat → Nat) : ∀ j, j < 9 → defaultValue (tyX7 j) = vp_V (([.null, .int 0, .null, .int 0, .int 0, .int 0, .int 0, .int 0, .int 0] : List Value).map (m_v f)) j := by
  intro j hj
  match j, hj with
  | 0, _ => rfl
  | 1, _ => rfl
  | 2, _ => rfl
  | 3, _ => rfl
  | 4, _ => rfl
  | 5, _ => rfl
  | 6, _ => rfl
  | 7, _ => rfl
  | 8, _ => rfl
  | k + 9, h => exact absurd h (by omega)
theorem ok_8 : clOK RX8 TX8 3 8 tyX8 := ⟨rfl, fun w hw => by
  obtain ⟨k, hk, rfl⟩ := List.mem_map.mp hw
  have hk := List.mem_range.mp hk
  match k, hk with
  | 0, _ => exact kw_380
  | 1, _ => exact kw_382
  | 2, _ => exact kw_384
  | k + 3, h => exact absurd h (by omega), tyX8_ok, nmX8⟩
theorem newf_8 (f : Nat → Nat) : ∀ j, j < 3 → defaultValue (tyX8 j) = vp_V (([.null, .int 0, .null] : List Value).map (m_v f)) j := by
  intro j hj
  match j, hj with
  | 0, _ => rfl
  | 1, _ => rfl
  | 2, _ => rfl
  | k + 3, h => exact absurd h (by omega)
theorem ok_9 : clOK RX9 TX9 2 9 tyX9 := ⟨rfl, fun w hw => by
  obtain ⟨k, hk, rfl⟩ := List.mem_map.mp hw
  have hk := List.mem_range.mp hk
  match k, hk with
  | 0, _ => exact kw_238
  | 1, _ => exact kw_240
  | k + 2, h => exact absurd h (by omega), tyX9_ok, nmX9⟩
theorem newf_9 (f : Nat → Nat) : ∀ j, j < 2 → defaultValue (tyX9 j) = vp_V (([.null, .null] : List Value).map (m_v f)) j := by
  intro j hj
  match j, hj with
  | 0, _ => rfl
  | 1, _ => rfl
  | k + 2, h => exact absurd h (by omega)
theorem ok_10 : clOK RX10 TX10 4 10 tyX10 := ⟨rfl, fun w hw => by
  obtain ⟨k, hk, rfl⟩ := List.mem_map.mp hw
  have hk := List.mem_range.mp hk
  match k, hk with
  | 0, _ => exact kw_220
  | 1, _ => exact kw_222
  | 2, _ => exact kw_224
  | 3, _ => exact kw_226
  | k + 4, h => exact absurd h (by omega), tyX10_ok, nmX10⟩
theorem newf_10 (f : Nat → Nat) : ∀ j, j < 4 → defaultValue (tyX10 j) = vp_V (([.null, .null, .null, .int 0] : List Value).map (m_v f)) j := by
  intro j hj
  match j, hj with
  | 0, _ => rfl
  | 1, _ => rfl
  | 2, _ => rfl
  | 3, _ => rfl
  | k + 4, h => exact absurd h (by omega)
theorem ok_11 : clOK RX11 TX11 12 11 tyX11 := ⟨rfl, fun w hw => by
  obtain ⟨k, hk, rfl⟩ := List.mem_map.mp hw
  have hk := List.mem_range.mp hk
  match k, hk with
  | 0, _ => exact kw_404
  | 1, _ => exact kw_406
  | 2, _ => exact kw_408
  | 3, _ => exact kw_410
  | 4, _ => exact kw_412
  | 5, _ => exact kw_414
  | 6, _ => exact kw_416
  | 7, _ => exact kw_418
  | 8, _ => exact kw_420
  | 9, _ => exact kw_422
  | 10, _ => exact kw_424
  | 11, _ => exact kw_426
  | k + 12, h => exact absurd h (by omega), tyX11_ok, nmX11⟩
theorem newf_11 (f : Nat → Nat) : ∀ j, j < 12 → defaultValue (tyX11 j) = vp_V (([.null, .null, .int 0, .null, .null, .null, .null, .null, .null, .null, .null, .null] : List Value).map (m_v f)) j := by
  intro j hj
  match j, hj with
  | 0, _ => rfl
  | 1, _ => rfl
  | 2, _ => rfl
  | 3, _ => rfl
  | 4, _ => rfl
  | 5, _ => rfl
  | 6, _ => rfl
  | 7, _ => rfl
  | 8, _ => rfl
  | 9, _ => rfl
  | 10, _ => rfl
  | 11, _ => rfl
  | k + 12, h => exact absurd h (by omega)
theorem ok_12 : clOK RX12 TX12 29 12 tyX12 := ⟨rfl, fun w hw => by
  obtain ⟨k, hk, rfl⟩ := List.mem_map.mp hw
  have hk := List.mem_range.mp hk
  match k, hk with
  | 0, _ => exact kw_1188
  | 1, _ => exact kw_1190
  | 2, _ => exact kw_1192
  | 3, _ => exact kw_1194
  | 4, _ => exact kw_1196
  | 5, _ => exact kw_1198
  | 6, _ => exact kw_1200
  | 7, _ => exact kw_1202
  | 8, _ => exact kw_1204
  | 9, _ => exact kw_1206
  | 10, _ => exact kw_1208
  | 11, _ => exact kw_1210
  | 12, _ => exact kw_1212
  | 13, _ => exact kw_1214
  | 14, _ => exact kw_1216
  | 15, _ => exact kw_1218
  | 16, _ => exact kw_1220
  | 17, _ => exact kw_1222
  | 18, _ => exact kw_1224
  | 19, _ => exact kw_1226
  | 20, _ => exact kw_1228
  | 21, _ => exact kw_1230
  | 22, _ => exact kw_1232
  | 23, _ => exact kw_1234
  | 24, _ => exact kw_1236
  | 25, _ => exact kw_1238
  | 26, _ => exact kw_1240
  | 27, _ => exact kw_1242
  | 28, _ => exact kw_1244
  | k + 29, h => exact absurd h (by omega), tyX12_ok, nmX12⟩
theorem newf_12 (f : Nat → Nat) : ∀ j, j < 29 → defaultValue (tyX12 j) = vp_V (([.null, .null, .int 0, .int 0, .null, .int 0, .null, .null, .null, .null, .null, .null, .null, .null, .null, .int 0, .null, .null, .null, .null, .int 0, .int 0, .int 0, .null, .int 0, .int 0, .null, .null, .int 0] : List Value).map (m_v f)) j := by
  intro j hj
  match j, hj with
  | 0, _ => rfl
  | 1, _ => rfl
  | 2, _ => rfl
  | 3, _ => rfl
  | 4, _ => rfl
  | 5, _ => rfl
  | 6, _ => rfl
  | 7, _ => rfl
  | 8, _ => rfl
  | 9, _ => rfl
  | 10, _ => rfl
  | 11, _ => rfl
  | 12, _ => rfl
  | 13, _ => rfl
  | 14, _ => rfl
  | 15, _ => rfl
  | 16, _ => rfl
  | 17, _ => rfl
  | 18, _ => rfl
  | 19, _ => rfl
  | 20, _ => rfl
  | 21, _ => rfl
  | 22, _ => rfl
  | 23, _ => rfl
  | 24, _ => rfl
  | 25, _ => rfl
  | 26, _ => rfl
  | 27, _ => rfl
  | 28, _ => rfl
  | k + 29, h => exact absurd h (by omega)
theorem hd_X0_init : mOwn yX0_init 1 := by unfold mOwn; decide +kernel
theorem hd_X0_ofShowing : mOwn yX0_ofShowing 2 := by unfold mOwn; decide +kernel
theorem hd_X0_ofAsking : mOwn yX0_ofAsking 2 := by unfold mOwn; decide +kernel
theorem hd_X0_begin : mOwn yX0_begin 0 := by unfold mOwn; decide +kernel
theorem hd_X0_oneMore : mOwn yX0_oneMore 3 := by unfold mOwn; decide +kernel
theorem hd_X0_expectedAbove : mOwn yX0_expectedAbove 2 := by unfold mOwn; decide +kernel
theorem hd_X0_takings : mOwn yX0_takings 2 := by unfold mOwn; decide +kernel
theorem hd_X0_bestBooked : mOwn yX0_bestBooked 2 := by unfold mOwn; decide +kernel
theorem hd_X1_init : mOwn yX1_init 2 := by unfold mOwn; decide +kernel
theorem hd_X1_begin : mOwn yX1_begin 0 := by unfold mOwn; decide +kernel
theorem hd_X1_ask : mOwn yX1_ask 4 := by unfold mOwn; decide +kernel
theorem hd_X1_handGives : mOwn yX1_handGives 1 := by unfold mOwn; decide +kernel
theorem hd_X1_draw : mOwn yX1_draw 2 := by unfold mOwn; decide +kernel
theorem hd_X1_fareDrawn : mOwn yX1_fareDrawn 2 := by unfold mOwn; decide +kernel
theorem hd_X1_pricesBehind : mOwn yX1_pricesBehind 0 := by unfold mOwn; decide +kernel
theorem hd_X2_init : mOwn yX2_init 0 := by unfold mOwn; decide +kernel
theorem hd_X2_begin : mOwn yX2_begin 2 := by unfold mOwn; decide +kernel
theorem hd_X2_become : mOwn yX2_become 1 := by unfold mOwn; decide +kernel
theorem hd_X3_isOf : mOwn yX3_isOf 1 := by unfold mOwn; decide +kernel
theorem hd_X4_init : mOwn yX4_init 0 := by unfold mOwn; decide +kernel
theorem hd_X4_become : mOwn yX4_become 1 := by unfold mOwn; decide +kernel
theorem hd_X4_placeOf : mOwn yX4_placeOf 1 := by unfold mOwn; decide +kernel
theorem hd_X4_add : mOwn yX4_add 1 := by unfold mOwn; decide +kernel
theorem hd_X4_remove : mOwn yX4_remove 1 := by unfold mOwn; decide +kernel
theorem hd_X4_partOf : mOwn yX4_partOf 2 := by unfold mOwn; decide +kernel
theorem hd_X4_costOf : mOwn yX4_costOf 1 := by unfold mOwn; decide +kernel
theorem hd_X4_dearestBut : mOwn yX4_dearestBut 2 := by unfold mOwn; decide +kernel
theorem hd_X4_letsIn : mOwn yX4_letsIn 1 := by unfold mOwn; decide +kernel
theorem hd_X4_spellOn : mOwn yX4_spellOn 1 := by unfold mOwn; decide +kernel
theorem hd_X4_spellRoute : mOwn yX4_spellRoute 2 := by unfold mOwn; decide +kernel
theorem hd_X5_init : mOwn yX5_init 0 := by unfold mOwn; decide +kernel
theorem hd_X5_become : mOwn yX5_become 1 := by unfold mOwn; decide +kernel
theorem hd_X5_hasFare : mOwn yX5_hasFare 1 := by unfold mOwn; decide +kernel
theorem hd_X5_oddsTogether : mOwn yX5_oddsTogether 1 := by unfold mOwn; decide +kernel
theorem hd_X5_unlikePrices : mOwn yX5_unlikePrices 0 := by unfold mOwn; decide +kernel
theorem hd_X5_greatestPrice : mOwn yX5_greatestPrice 0 := by unfold mOwn; decide +kernel
theorem hd_X5_showing : mOwn yX5_showing 1 := by unfold mOwn; decide +kernel
theorem hd_X5_netBy : mOwn yX5_netBy 2 := by unfold mOwn; decide +kernel
theorem hd_X6_init : mOwn yX6_init 4 := by unfold mOwn; decide +kernel
theorem hd_X6_withLetter : mOwn yX6_withLetter 3 := by unfold mOwn; decide +kernel
theorem hd_X6_letter : mOwn yX6_letter 1 := by unfold mOwn; decide +kernel
theorem hd_X6_letters : mOwn yX6_letters 0 := by unfold mOwn; decide +kernel
theorem hd_X6_goesOver : mOwn yX6_goesOver 1 := by unfold mOwn; decide +kernel
theorem hd_X7_init : mOwn yX7_init 0 := by unfold mOwn; decide +kernel
theorem hd_X7_takeUp : mOwn yX7_takeUp 1 := by unfold mOwn; decide +kernel
theorem hd_X7_wipe : mOwn yX7_wipe 0 := by unfold mOwn; decide +kernel
theorem hd_X7_byteAt : mOwn yX7_byteAt 1 := by unfold mOwn; decide +kernel
theorem hd_X7_fareAsked : mOwn yX7_fareAsked 1 := by unfold mOwn; decide +kernel
theorem hd_X7_faultAsRequests : mOwn yX7_faultAsRequests 1 := by unfold mOwn; decide +kernel
theorem hd_X7_asName : mOwn yX7_asName 0 := by unfold mOwn; decide +kernel
theorem hd_X7_faultAsBook : mOwn yX7_faultAsBook 1 := by unfold mOwn; decide +kernel
theorem hd_X7_faultOfPart : mOwn yX7_faultOfPart 1 := by unfold mOwn; decide +kernel
theorem hd_X7_faultOfSign : mOwn yX7_faultOfSign 1 := by unfold mOwn; decide +kernel
theorem hd_X7_faultOfName : mOwn yX7_faultOfName 1 := by unfold mOwn; decide +kernel
theorem hd_X7_isRead : mOwn yX7_isRead 1 := by unfold mOwn; decide +kernel
theorem hd_X7_faultOfLegs : mOwn yX7_faultOfLegs 0 := by unfold mOwn; decide +kernel
theorem hd_X7_faultOfPrice : mOwn yX7_faultOfPrice 0 := by unfold mOwn; decide +kernel
theorem hd_X7_faultOfWanted : mOwn yX7_faultOfWanted 0 := by unfold mOwn; decide +kernel
theorem hd_X7_numberOf : mOwn yX7_numberOf 1 := by unfold mOwn; decide +kernel
theorem hd_X8_init : mOwn yX8_init 0 := by unfold mOwn; decide +kernel
theorem hd_X8_begin : mOwn yX8_begin 2 := by unfold mOwn; decide +kernel
theorem hd_X8_become : mOwn yX8_become 1 := by unfold mOwn; decide +kernel
theorem hd_X9_init : mOwn yX9_init 1 := by unfold mOwn; decide +kernel
theorem hd_X9_times : mOwn yX9_times 2 := by unfold mOwn; decide +kernel
theorem hd_X9_plus : mOwn yX9_plus 2 := by unfold mOwn; decide +kernel
theorem hd_X9_power : mOwn yX9_power 2 := by unfold mOwn; decide +kernel
theorem hd_X9_grossOf : mOwn yX9_grossOf 2 := by unfold mOwn; decide +kernel
theorem hd_X9_nextGross : mOwn yX9_nextGross 3 := by unfold mOwn; decide +kernel
theorem hd_X9_waysOf : mOwn yX9_waysOf 3 := by unfold mOwn; decide +kernel
theorem hd_X9_setsOf : mOwn yX9_setsOf 2 := by unfold mOwn; decide +kernel
theorem hd_X9_bitsOfDouble : mOwn yX9_bitsOfDouble 1 := by unfold mOwn; decide +kernel
theorem hd_X9_bitsOfFloat : mOwn yX9_bitsOfFloat 1 := by unfold mOwn; decide +kernel
theorem hd_X10_init : mOwn yX10_init 1 := by unfold mOwn; decide +kernel
theorem hd_X10_forget : mOwn yX10_forget 0 := by unfold mOwn; decide +kernel
theorem hd_X10_row : mOwn yX10_row 1 := by unfold mOwn; decide +kernel
theorem hd_X10_make : mOwn yX10_make 1 := by unfold mOwn; decide +kernel
theorem hd_X10_worthOf : mOwn yX10_worthOf 3 := by unfold mOwn; decide +kernel
theorem hd_X10_takes : mOwn yX10_takes 3 := by unfold mOwn; decide +kernel
theorem hd_X10_keptFrom : mOwn yX10_keptFrom 2 := by unfold mOwn; decide +kernel
theorem hd_X11_init : mOwn yX11_init 0 := by unfold mOwn; decide +kernel
theorem hd_X11_fare : mOwn yX11_fare 2 := by unfold mOwn; decide +kernel
theorem hd_X11_of : mOwn yX11_of 2 := by unfold mOwn; decide +kernel
theorem hd_X11_odds : mOwn yX11_odds 3 := by unfold mOwn; decide +kernel
theorem hd_X11_drop : mOwn yX11_drop 0 := by unfold mOwn; decide +kernel
theorem hd_X11_rule : mOwn yX11_rule 2 := by unfold mOwn; decide +kernel
theorem hd_X11_hand : mOwn yX11_hand 2 := by unfold mOwn; decide +kernel
theorem hd_X11_shows : mOwn yX11_shows 1 := by unfold mOwn; decide +kernel
theorem hd_X11_net : mOwn yX11_net 2 := by unfold mOwn; decide +kernel
theorem hd_X11_netCut : mOwn yX11_netCut 2 := by unfold mOwn; decide +kernel
theorem hd_X11_worth : mOwn yX11_worth 2 := by unfold mOwn; decide +kernel
theorem hd_X11_worthShort : mOwn yX11_worthShort 2 := by unfold mOwn; decide +kernel
theorem hd_X11_gross : mOwn yX11_gross 2 := by unfold mOwn; decide +kernel
theorem hd_X11_taken : mOwn yX11_taken 3 := by unfold mOwn; decide +kernel
theorem hd_X11_kept : mOwn yX11_kept 2 := by unfold mOwn; decide +kernel
theorem hd_X11_limit : mOwn yX11_limit 2 := by unfold mOwn; decide +kernel
theorem hd_X11_chance : mOwn yX11_chance 3 := by unfold mOwn; decide +kernel
theorem hd_X11_turned : mOwn yX11_turned 2 := by unfold mOwn; decide +kernel
theorem hd_X11_had : mOwn yX11_had 3 := by unfold mOwn; decide +kernel
theorem hd_X11_booked : mOwn yX11_booked 2 := by unfold mOwn; decide +kernel
theorem hd_X11_ways : mOwn yX11_ways 3 := by unfold mOwn; decide +kernel
theorem hd_X11_demand : mOwn yX11_demand 3 := by unfold mOwn; decide +kernel
theorem hd_X11_spill : mOwn yX11_spill 3 := by unfold mOwn; decide +kernel
theorem hd_X11_leg : mOwn yX11_leg 3 := by unfold mOwn; decide +kernel
theorem hd_X11_feed : mOwn yX11_feed 1 := by unfold mOwn; decide +kernel
theorem hd_X11_clear : mOwn yX11_clear 0 := by unfold mOwn; decide +kernel
theorem hd_X11_book : mOwn yX11_book 0 := by unfold mOwn; decide +kernel
theorem hd_X11_ends : mOwn yX11_ends 0 := by unfold mOwn; decide +kernel
theorem hd_X11_route : mOwn yX11_route 2 := by unfold mOwn; decide +kernel
theorem hd_X11_part : mOwn yX11_part 2 := by unfold mOwn; decide +kernel
theorem hd_X11_cost : mOwn yX11_cost 1 := by unfold mOwn; decide +kernel
theorem hd_X11_spell : mOwn yX11_spell 0 := by unfold mOwn; decide +kernel
theorem hd_X11_paper : mOwn yX11_paper 1 := by unfold mOwn; decide +kernel
theorem hd_X11_replay : mOwn yX11_replay 1 := by unfold mOwn; decide +kernel
theorem hd_X11_byHand : mOwn yX11_byHand 1 := by unfold mOwn; decide +kernel
theorem hd_X11_answerRequests : mOwn yX11_answerRequests 2 := by unfold mOwn; decide +kernel
theorem hd_X11_drawn : mOwn yX11_drawn 4 := by unfold mOwn; decide +kernel
theorem hd_X11_seed : mOwn yX11_seed 1 := by unfold mOwn; decide +kernel
theorem hd_X11_tray : mOwn yX11_tray 3 := by unfold mOwn; decide +kernel
theorem hd_X11_lays : mOwn yX11_lays 3 := by unfold mOwn; decide +kernel
theorem hd_X11_laid : mOwn yX11_laid 2 := by unfold mOwn; decide +kernel
theorem hd_X11_like : mOwn yX11_like 2 := by unfold mOwn; decide +kernel
theorem hd_X11_list : mOwn yX11_list 2 := by unfold mOwn; decide +kernel
theorem hd_X11_set : mOwn yX11_set 3 := by unfold mOwn; decide +kernel
theorem hd_X11_get : mOwn yX11_get 2 := by unfold mOwn; decide +kernel
theorem hd_X11_judge : mOwn yX11_judge 3 := by unfold mOwn; decide +kernel
theorem hd_X11_told : mOwn yX11_told 1 := by unfold mOwn; decide +kernel
theorem hd_X11_image : mOwn yX11_image 0 := by unfold mOwn; decide +kernel
theorem hd_X11_undo : mOwn yX11_undo 0 := by unfold mOwn; decide +kernel
theorem hd_X11_within : mOwn yX11_within 2 := by unfold mOwn; decide +kernel
theorem hd_X11_isStage : mOwn yX11_isStage 1 := by unfold mOwn; decide +kernel
theorem hd_X11_phaseOf : mOwn yX11_phaseOf 1 := by unfold mOwn; decide +kernel
theorem hd_X12_init : mOwn yX12_init 0 := by unfold mOwn; decide +kernel
theorem hd_X12_in : mOwn yX12_in 3 := by unfold mOwn; decide +kernel
theorem hd_X12_isFare : mOwn yX12_isFare 1 := by unfold mOwn; decide +kernel
theorem hd_X12_isStage : mOwn yX12_isStage 1 := by unfold mOwn; decide +kernel
theorem hd_X12_isSeat : mOwn yX12_isSeat 1 := by unfold mOwn; decide +kernel
theorem hd_X12_price : mOwn yX12_price 1 := by unfold mOwn; decide +kernel
theorem hd_X12_odds : mOwn yX12_odds 2 := by unfold mOwn; decide +kernel
theorem hd_X12_fare : mOwn yX12_fare 2 := by unfold mOwn; decide +kernel
theorem hd_X12_of : mOwn yX12_of 2 := by unfold mOwn; decide +kernel
theorem hd_X12_odds_ : mOwn yX12_odds_ 3 := by unfold mOwn; decide +kernel
theorem hd_X12_drop : mOwn yX12_drop 0 := by unfold mOwn; decide +kernel
theorem hd_X12_rule : mOwn yX12_rule 2 := by unfold mOwn; decide +kernel
theorem hd_X12_showing : mOwn yX12_showing 1 := by unfold mOwn; decide +kernel
theorem hd_X12_keeps : mOwn yX12_keeps 1 := by unfold mOwn; decide +kernel
theorem hd_X12_netOf : mOwn yX12_netOf 2 := by unfold mOwn; decide +kernel
theorem hd_X12_shows : mOwn yX12_shows 1 := by unfold mOwn; decide +kernel
theorem hd_X12_net : mOwn yX12_net 2 := by unfold mOwn; decide +kernel
theorem hd_X12_netCut : mOwn yX12_netCut 2 := by unfold mOwn; decide +kernel
theorem hd_X12_worthOf : mOwn yX12_worthOf 2 := by unfold mOwn; decide +kernel
theorem hd_X12_gain : mOwn yX12_gain 3 := by unfold mOwn; decide +kernel
theorem hd_X12_reckons : mOwn yX12_reckons 1 := by unfold mOwn; decide +kernel
theorem hd_X12_worth : mOwn yX12_worth 2 := by unfold mOwn; decide +kernel
theorem hd_X12_worthShort : mOwn yX12_worthShort 2 := by unfold mOwn; decide +kernel
theorem hd_X12_times : mOwn yX12_times 2 := by unfold mOwn; decide +kernel
theorem hd_X12_plus : mOwn yX12_plus 2 := by unfold mOwn; decide +kernel
theorem hd_X12_power : mOwn yX12_power 2 := by unfold mOwn; decide +kernel
theorem hd_X12_next : mOwn yX12_next 2 := by unfold mOwn; decide +kernel
theorem hd_X12_gross : mOwn yX12_gross 2 := by unfold mOwn; decide +kernel
theorem hd_X12_isTaken : mOwn yX12_isTaken 3 := by unfold mOwn; decide +kernel
theorem hd_X12_isToGo : mOwn yX12_isToGo 1 := by unfold mOwn; decide +kernel
theorem hd_X12_taken : mOwn yX12_taken 3 := by unfold mOwn; decide +kernel
theorem hd_X12_kept : mOwn yX12_kept 2 := by unfold mOwn; decide +kernel
theorem hd_X12_limit : mOwn yX12_limit 2 := by unfold mOwn; decide +kernel
theorem hd_X12_isBooked : mOwn yX12_isBooked 1 := by unfold mOwn; decide +kernel
theorem hd_X12_chances : mOwn yX12_chances 2 := by unfold mOwn; decide +kernel
theorem hd_X12_chance : mOwn yX12_chance 3 := by unfold mOwn; decide +kernel
theorem hd_X12_turnedOf : mOwn yX12_turnedOf 1 := by unfold mOwn; decide +kernel
theorem hd_X12_hadOf : mOwn yX12_hadOf 2 := by unfold mOwn; decide +kernel
theorem hd_X12_turned : mOwn yX12_turned 2 := by unfold mOwn; decide +kernel
theorem hd_X12_had : mOwn yX12_had 3 := by unfold mOwn; decide +kernel
theorem hd_X12_booked : mOwn yX12_booked 2 := by unfold mOwn; decide +kernel
theorem hd_X12_setsOf : mOwn yX12_setsOf 2 := by unfold mOwn; decide +kernel
theorem hd_X12_ways : mOwn yX12_ways 3 := by unfold mOwn; decide +kernel
theorem hd_X12_asks : mOwn yX12_asks 2 := by unfold mOwn; decide +kernel
theorem hd_X12_demand : mOwn yX12_demand 3 := by unfold mOwn; decide +kernel
theorem hd_X12_spill : mOwn yX12_spill 3 := by unfold mOwn; decide +kernel
theorem hd_X12_hand : mOwn yX12_hand 2 := by unfold mOwn; decide +kernel
theorem hd_X12_seed : mOwn yX12_seed 1 := by unfold mOwn; decide +kernel
theorem hd_X12_opens : mOwn yX12_opens 0 := by unfold mOwn; decide +kernel
theorem hd_X12_isByHand : mOwn yX12_isByHand 1 := by unfold mOwn; decide +kernel
theorem hd_X12_has : mOwn yX12_has 3 := by unfold mOwn; decide +kernel
theorem hd_X12_drawnFare : mOwn yX12_drawnFare 1 := by unfold mOwn; decide +kernel
theorem hd_X12_drawn : mOwn yX12_drawn 4 := by unfold mOwn; decide +kernel
theorem hd_X12_isLeg : mOwn yX12_isLeg 1 := by unfold mOwn; decide +kernel
theorem hd_X12_leg : mOwn yX12_leg 3 := by unfold mOwn; decide +kernel
theorem hd_X12_isRoute : mOwn yX12_isRoute 1 := by unfold mOwn; decide +kernel
theorem hd_X12_legs : mOwn yX12_legs 1 := by unfold mOwn; decide +kernel
theorem hd_X12_isOver : mOwn yX12_isOver 2 := by unfold mOwn; decide +kernel
theorem hd_X12_fee : mOwn yX12_fee 1 := by unfold mOwn; decide +kernel
theorem hd_X12_wanted : mOwn yX12_wanted 1 := by unfold mOwn; decide +kernel
theorem hd_X12_partOf : mOwn yX12_partOf 2 := by unfold mOwn; decide +kernel
theorem hd_X12_costOf : mOwn yX12_costOf 1 := by unfold mOwn; decide +kernel
theorem hd_X12_isIn : mOwn yX12_isIn 1 := by unfold mOwn; decide +kernel
theorem hd_X12_part : mOwn yX12_part 2 := by unfold mOwn; decide +kernel
theorem hd_X12_cost : mOwn yX12_cost 1 := by unfold mOwn; decide +kernel
theorem hd_X12_letters : mOwn yX12_letters 1 := by unfold mOwn; decide +kernel
theorem hd_X12_route : mOwn yX12_route 2 := by unfold mOwn; decide +kernel
theorem hd_X12_feed : mOwn yX12_feed 1 := by unfold mOwn; decide +kernel
theorem hd_X12_clear : mOwn yX12_clear 0 := by unfold mOwn; decide +kernel
theorem hd_X12_wrong : mOwn yX12_wrong 1 := by unfold mOwn; decide +kernel
theorem hd_X12_isSign : mOwn yX12_isSign 2 := by unfold mOwn; decide +kernel
theorem hd_X12_takes : mOwn yX12_takes 1 := by unfold mOwn; decide +kernel
theorem hd_X12_number : mOwn yX12_number 2 := by unfold mOwn; decide +kernel
theorem hd_X12_by : mOwn yX12_by 1 := by unfold mOwn; decide +kernel
theorem hd_X12_name : mOwn yX12_name 0 := by unfold mOwn; decide +kernel
theorem hd_X12_needs : mOwn yX12_needs 1 := by unfold mOwn; decide +kernel
theorem hd_X12_comes : mOwn yX12_comes 0 := by unfold mOwn; decide +kernel
theorem hd_X12_readRoute : mOwn yX12_readRoute 0 := by unfold mOwn; decide +kernel
theorem hd_X12_pours : mOwn yX12_pours 2 := by unfold mOwn; decide +kernel
theorem hd_X12_book : mOwn yX12_book 0 := by unfold mOwn; decide +kernel
theorem hd_X12_ends : mOwn yX12_ends 0 := by unfold mOwn; decide +kernel
theorem hd_X12_wrongSign : mOwn yX12_wrongSign 0 := by unfold mOwn; decide +kernel
theorem hd_X12_behind : mOwn yX12_behind 1 := by unfold mOwn; decide +kernel
theorem hd_X12_goes : mOwn yX12_goes 1 := by unfold mOwn; decide +kernel
theorem hd_X12_replay : mOwn yX12_replay 1 := by unfold mOwn; decide +kernel
theorem hd_X12_byHand : mOwn yX12_byHand 1 := by unfold mOwn; decide +kernel
theorem hd_X12_writes : mOwn yX12_writes 1 := by unfold mOwn; decide +kernel
theorem hd_X12_writesNumber : mOwn yX12_writesNumber 1 := by unfold mOwn; decide +kernel
theorem hd_X12_spell : mOwn yX12_spell 0 := by unfold mOwn; decide +kernel
theorem hd_X12_paper : mOwn yX12_paper 1 := by unfold mOwn; decide +kernel
theorem hd_X12_unlike : mOwn yX12_unlike 0 := by unfold mOwn; decide +kernel
theorem hd_X12_greatest : mOwn yX12_greatest 0 := by unfold mOwn; decide +kernel
theorem hd_X12_told : mOwn yX12_told 1 := by unfold mOwn; decide +kernel
theorem hd_X12_isTray : mOwn yX12_isTray 1 := by unfold mOwn; decide +kernel
theorem hd_X12_isUnder : mOwn yX12_isUnder 2 := by unfold mOwn; decide +kernel
theorem hd_X12_tray : mOwn yX12_tray 3 := by unfold mOwn; decide +kernel
theorem hd_X12_whyNot : mOwn yX12_whyNot 2 := by unfold mOwn; decide +kernel
theorem hd_X12_lays : mOwn yX12_lays 3 := by unfold mOwn; decide +kernel
theorem hd_X12_laid : mOwn yX12_laid 2 := by unfold mOwn; decide +kernel
theorem hd_X12_like : mOwn yX12_like 2 := by unfold mOwn; decide +kernel
theorem hd_X12_list : mOwn yX12_list 2 := by unfold mOwn; decide +kernel
theorem hd_X12_set : mOwn yX12_set 3 := by unfold mOwn; decide +kernel
theorem hd_X12_get : mOwn yX12_get 2 := by unfold mOwn; decide +kernel
theorem hd_X12_judge : mOwn yX12_judge 3 := by unfold mOwn; decide +kernel
theorem hd_X12_image : mOwn yX12_image 0 := by unfold mOwn; decide +kernel
theorem hd_X12_undo : mOwn yX12_undo 0 := by unfold mOwn; decide +kernel
theorem hd_J5_init_d00df : mOwn yJ5_init_d00df 1 := by unfold mOwn; decide +kernel
theorem hd_J5_length_8abf5 : mOwn yJ5_length_8abf5 0 := by unfold mOwn; decide +kernel
theorem hd_J5_ensureCapacityInternal_d00df : mOwn yJ5_ensureCapacityInternal_d00df 1 := by unfold mOwn; decide +kernel
theorem hd_J5_newCapacity_0f7a4 : mOwn yJ5_newCapacity_0f7a4 1 := by unfold mOwn; decide +kernel
theorem hd_J5_inflate_da8c8 : mOwn yJ5_inflate_da8c8 0 := by unfold mOwn; decide +kernel
theorem hd_J5_setLength_d00df : mOwn yJ5_setLength_d00df 1 := by unfold mOwn; decide +kernel
theorem hd_J5_charAt_5068e : mOwn yJ5_charAt_5068e 1 := by unfold mOwn; decide +kernel
theorem hd_J5_append_3fe6f : mOwn yJ5_append_3fe6f 1 := by unfold mOwn; decide +kernel
theorem hd_J5_append_c97b9 : mOwn yJ5_append_c97b9 1 := by unfold mOwn; decide +kernel
theorem hd_J5_isLatin1_aae02 : mOwn yJ5_isLatin1_aae02 0 := by unfold mOwn; decide +kernel
theorem hd_Jxe99ae_isNaN_b9ae7 : mOwn yJxe99ae_isNaN_b9ae7 1 := by unfold mOwn; decide +kernel
theorem hd_Jxe99ae_doubleToLongBits_ccdee : mOwn yJxe99ae_doubleToLongBits_ccdee 1 := by unfold mOwn; decide +kernel
theorem hd_Jxf58ca_isNaN_12338 : mOwn yJxf58ca_isNaN_12338 1 := by unfold mOwn; decide +kernel
theorem hd_Jxf58ca_floatToIntBits_5c35a : mOwn yJxf58ca_floatToIntBits_5c35a 1 := by unfold mOwn; decide +kernel
theorem hd_J6_getChars_ba4f3 : mOwn yJ6_getChars_ba4f3 3 := by unfold mOwn; decide +kernel
theorem hd_J6_stringSize_0f7a4 : mOwn yJ6_stringSize_0f7a4 1 := by unfold mOwn; decide +kernel
theorem hd_J9_max_7cf53 : mOwn yJ9_max_7cf53 2 := by unfold mOwn; decide +kernel
theorem hd_J9_min_7cf53 : mOwn yJ9_min_7cf53 2 := by unfold mOwn; decide +kernel
theorem hd_J0_checkIndex_df160 : mOwn yJ0_checkIndex_df160 2 := by unfold mOwn; decide +kernel
theorem hd_J0_checkBoundsOffCount_cabcc : mOwn yJ0_checkBoundsOffCount_cabcc 3 := by unfold mOwn; decide +kernel
theorem hd_J0_checkBoundsBeginEnd_23922 : mOwn yJ0_checkBoundsBeginEnd_23922 3 := by unfold mOwn; decide +kernel
theorem hd_J4_init_da8c8 : mOwn yJ4_init_da8c8 0 := by unfold mOwn; decide +kernel
theorem hd_J4_append_cf468 : mOwn yJ4_append_cf468 1 := by unfold mOwn; decide +kernel
theorem hd_J4_append_bf812 : mOwn yJ4_append_bf812 1 := by unfold mOwn; decide +kernel
theorem hd_J4_charAt_5068e : mOwn yJ4_charAt_5068e 1 := by unfold mOwn; decide +kernel
theorem hd_J4_setLength_d00df : mOwn yJ4_setLength_d00df 1 := by unfold mOwn; decide +kernel
theorem hd_J4_length_8abf5 : mOwn yJ4_length_8abf5 0 := by unfold mOwn; decide +kernel
theorem hd_J1_canEncode_fc78d : mOwn yJ1_canEncode_fc78d 1 := by unfold mOwn; decide +kernel
theorem hd_J1_fillNull_b72d1 : mOwn yJ1_fillNull_b72d1 3 := by unfold mOwn; decide +kernel
theorem hd_J1_inflate_0e8fd : mOwn yJ1_inflate_0e8fd 5 := by unfold mOwn; decide +kernel
theorem hd_J2_newBytesFor_77867 : mOwn yJ2_newBytesFor_77867 1 := by unfold mOwn; decide +kernel
theorem hd_J2_newBytesLength_0f7a4 : mOwn yJ2_newBytesLength_0f7a4 1 := by unfold mOwn; decide +kernel
theorem hd_J2_putChar_b72d1 : mOwn yJ2_putChar_b72d1 3 := by unfold mOwn; decide +kernel
theorem hd_J2_getChar_3b067 : mOwn yJ2_getChar_3b067 2 := by unfold mOwn; decide +kernel
theorem hd_J2_length_9d52b : mOwn yJ2_length_9d52b 1 := by unfold mOwn; decide +kernel
theorem hd_J2_fillNull_b72d1 : mOwn yJ2_fillNull_b72d1 3 := by unfold mOwn; decide +kernel
theorem hd_J2_putCharSB_b72d1 : mOwn yJ2_putCharSB_b72d1 3 := by unfold mOwn; decide +kernel
theorem hd_J2_getChars_46870 : mOwn yJ2_getChars_46870 4 := by unfold mOwn; decide +kernel
theorem hd_J2_inflate_0e8fd : mOwn yJ2_inflate_0e8fd 5 := by unfold mOwn; decide +kernel
theorem hd_J2_getChars_ba4f3 : mOwn yJ2_getChars_ba4f3 3 := by unfold mOwn; decide +kernel
theorem hd_J2_checkIndex_2214a : mOwn yJ2_checkIndex_2214a 2 := by unfold mOwn; decide +kernel
theorem hd_J2_checkBoundsBeginEnd_d044e : mOwn yJ2_checkBoundsBeginEnd_d044e 3 := by unfold mOwn; decide +kernel
theorem hd_J2_checkBoundsOffCount_d044e : mOwn yJ2_checkBoundsOffCount_d044e 3 := by unfold mOwn; decide +kernel
theorem hd_J7_rangeCheck_23922 : mOwn yJ7_rangeCheck_23922 3 := by unfold mOwn; decide +kernel
theorem hd_J7_fill_d0a16 : mOwn yJ7_fill_d0a16 2 := by unfold mOwn; decide +kernel
theorem hd_J7_fill_53178 : mOwn yJ7_fill_53178 2 := by unfold mOwn; decide +kernel
theorem hd_J7_fill_eb02e : mOwn yJ7_fill_eb02e 4 := by unfold mOwn; decide +kernel
theorem hd_J7_fill_7f8df : mOwn yJ7_fill_7f8df 2 := by unfold mOwn; decide +kernel
theorem hd_J7_copyOf_9075b : mOwn yJ7_copyOf_9075b 2 := by unfold mOwn; decide +kernel
theorem hd_J8_newLength_cabcc : mOwn yJ8_newLength_cabcc 3 := by unfold mOwn; decide +kernel
theorem hd_J8_hugeLength_7cf53 : mOwn yJ8_hugeLength_7cf53 2 := by unfold mOwn; decide +kernel
theorem hd_J3_checkIndex_8e157 : mOwn yJ3_checkIndex_8e157 3 := by unfold mOwn; decide +kernel
theorem hd_J3_checkFromToIndex_8c36e : mOwn yJ3_checkFromToIndex_8c36e 4 := by unfold mOwn; decide +kernel
theorem hd_J3_checkFromIndexSize_8c36e : mOwn yJ3_checkFromIndexSize_8c36e 4 := by unfold mOwn; decide +kernel

theorem kp_ens : (Cond.privateMethod ⟨"java/lang/AbstractStringBuilder", "ensureCapacityInternal", "(I)V"⟩) ∈ lw_tbl := lw_s4 (List.mem_of_getElem? (i := 54) (by decide +kernel))
theorem kp_new : (Cond.privateMethod ⟨"java/lang/AbstractStringBuilder", "newCapacity", "(I)I"⟩) ∈ lw_tbl := lw_s4 (List.mem_of_getElem? (i := 58) (by decide +kernel))
theorem st_all {s : State} {A : Array Value} (h0 : ∀ w ∈ lw_tbl, w.before A s = true) : ∀ w ∈ lw_all, w.before A s = true := by
  intro w hw
  rcases List.mem_append.mp hw with h | h
  · exact h0 w (List.mem_filter.mp h).1
  · have hz : (Cond.selects "java/lang/StringBuilder" ⟨"java/lang/AbstractStringBuilder", "isLatin1", "()Z"⟩ ⟨"java/lang/AbstractStringBuilder", "isLatin1", "()Z"⟩).before A s = true := h0 _ ((lw_all_tbl kw_876).elim id (fun h => by simp [lw_ext] at h))
    have i1 : (Cond.instanceMethod ⟨"java/lang/AbstractStringBuilder", "ensureCapacityInternal", "(I)V"⟩).before A s = true := h0 _ ((lw_all_tbl kw_844).elim id (fun h => by simp [lw_ext] at h))
    have i2 : (Cond.instanceMethod ⟨"java/lang/AbstractStringBuilder", "newCapacity", "(I)I"⟩).before A s = true := h0 _ ((lw_all_tbl kw_848).elim id (fun h => by simp [lw_ext] at h))
    simp only [lw_ext, List.mem_cons, List.not_mem_nil, or_false] at h
    rcases h with rfl | rfl
    · exact m_selPriv (z := ⟨"java/lang/AbstractStringBuilder", "isLatin1", "()Z"⟩) rfl ⟨by decide, by decide⟩ hz (h0 _ kp_ens) i1
    · exact m_selPriv (z := ⟨"java/lang/AbstractStringBuilder", "isLatin1", "()Z"⟩) rfl ⟨by decide, by decide⟩ hz (h0 _ kp_new) i2
theorem st_cls {s : State} {A : Array Value} (hts : ∀ w ∈ lw_all, w.before A s = true) (c : Nat) : ∃ (cC : ClassId) (iS : Nat → Nat), ∀ q : vw_C, vwCl[c]? = some q → u_Kn s q.1 q.2.1 q.2.2 cC iS := match c with
  | 0 => by
    obtain ⟨c, iS, h⟩ := u_known (C := RJ4) (T := TJ4) (N := 4) (n := 4) hts ok_0.2.1 (hts _ kw_335)
    exact ⟨c, iS, fun q hq => by cases hq; exact h⟩
  | 1 => by
    obtain ⟨c, iS, h⟩ := u_known (C := RX0) (T := TX0) (N := 2) (n := 2) hts ok_1.2.1 (hts _ kw_245)
    exact ⟨c, iS, fun q hq => by cases hq; exact h⟩
  | 2 => by
    obtain ⟨c, iS, h⟩ := u_known (C := RX1) (T := TX1) (N := 9) (n := 9) hts ok_2.2.1 (hts _ kw_296)
    exact ⟨c, iS, fun q hq => by cases hq; exact h⟩
  | 3 => by
    obtain ⟨c, iS, h⟩ := u_known (C := RX2) (T := TX2) (N := 4) (n := 4) hts ok_3.2.1 (hts _ kw_141)
    exact ⟨c, iS, fun q hq => by cases hq; exact h⟩
  | 4 => by
    obtain ⟨c, iS, h⟩ := u_known (C := RX4) (T := TX4) (N := 4) (n := 4) hts ok_4.2.1 (hts _ kw_115)
    exact ⟨c, iS, fun q hq => by cases hq; exact h⟩
  | 5 => by
    obtain ⟨c, iS, h⟩ := u_known (C := RX5) (T := TX5) (N := 5) (n := 5) hts ok_5.2.1 (hts _ kw_107)
    exact ⟨c, iS, fun q hq => by cases hq; exact h⟩
  | 6 => by
    obtain ⟨c, iS, h⟩ := u_known (C := RX6) (T := TX6) (N := 4) (n := 4) hts ok_6.2.1 (hts _ kw_742)
    exact ⟨c, iS, fun q hq => by cases hq; exact h⟩
  | 7 => by
    obtain ⟨c, iS, h⟩ := u_known (C := RX7) (T := TX7) (N := 9) (n := 9) hts ok_7.2.1 (hts _ kw_258)
    exact ⟨c, iS, fun q hq => by cases hq; exact h⟩
  | 8 => by
    obtain ⟨c, iS, h⟩ := u_known (C := RX8) (T := TX8) (N := 3) (n := 3) hts ok_8.2.1 (hts _ kw_368)
    exact ⟨c, iS, fun q hq => by cases hq; exact h⟩
  | 9 => by
    obtain ⟨c, iS, h⟩ := u_known (C := RX9) (T := TX9) (N := 2) (n := 2) hts ok_9.2.1 (hts _ kw_231)
    exact ⟨c, iS, fun q hq => by cases hq; exact h⟩
  | 10 => by
    obtain ⟨c, iS, h⟩ := u_known (C := RX10) (T := TX10) (N := 4) (n := 4) hts ok_10.2.1 (hts _ kw_209)
    exact ⟨c, iS, fun q hq => by cases hq; exact h⟩
  | 11 => by
    obtain ⟨c, iS, h⟩ := u_known (C := RX11) (T := TX11) (N := 12) (n := 12) hts ok_11.2.1 (hts _ kw_99)
    exact ⟨c, iS, fun q hq => by cases hq; exact h⟩
  | 12 => by
    obtain ⟨c, iS, h⟩ := u_known (C := RX12) (T := TX12) (N := 29) (n := 29) hts ok_12.2.1 (hts _ kw_1154)
    exact ⟨c, iS, fun q hq => by cases hq; exact h⟩
  | k + 13 => by
    obtain ⟨c, iS, h⟩ := u_known (C := RJ4) (T := TJ4) (N := 4) (n := 4) hts ok_0.2.1 (hts _ kw_335)
    exact ⟨c, iS, fun q hq => by simp [vwCl] at hq⟩
theorem st_arr {s : State} {A : Array Value} (hts : ∀ w ∈ lw_all, w.before A s = true) (h0 : ∀ w ∈ lw_tbl, w.before A s = true) (t : Nat) : ∃ cA : ClassId, ∀ ty : FieldType, tyl[t]? = some ty → ArrOfT s cA ty ∧ va_RA s cA ty := match t with
  | 0 => by
    obtain ⟨c, k, comp, h1, h2, h3⟩ := Cond.arrayClass_spec (hts _ kw_140)
    exact ⟨c, fun ty hty => by cases hty; exact ⟨fun n z => ⟨fun q h => (by cases h), k, h2, comp, h3⟩, h1⟩⟩
  | 1 => by
    obtain ⟨c, k, comp, h1, h2, h3⟩ := Cond.arrayClass_spec (hts _ kw_243)
    exact ⟨c, fun ty hty => by cases hty; exact ⟨fun n z => ⟨fun q h => (by cases h), k, h2, comp, h3⟩, h1⟩⟩
  | 2 => by
    obtain ⟨c, k, comp, h1, h2, h3⟩ := Cond.arrayClass_spec (hts _ kw_229)
    exact ⟨c, fun ty hty => by cases hty; exact ⟨fun n z => ⟨fun q h => (by cases h), k, h2, comp, h3⟩, h1⟩⟩
  | 3 => by
    obtain ⟨c, k, comp, h1, h2, h3⟩ := Cond.arrayClass_spec (hts _ kw_1247)
    exact ⟨c, fun ty hty => by cases hty; exact ⟨fun n z => ⟨fun q h => (by cases h), k, h2, comp, h3⟩, h1⟩⟩
  | 4 => by
    obtain ⟨c, k, comp, h1, h2, h3⟩ := Cond.arrayClass_spec (hts _ kw_365)
    exact ⟨c, fun ty hty => by cases hty; exact ⟨fun n z => ⟨fun q h => (by cases h), k, h2, comp, h3⟩, h1⟩⟩
  | 5 => by
    obtain ⟨comp, c, k, h1, h2, h3, h4, h5⟩ := Cond.arrayOver_spec (h0 _ kt_113)
    exact ⟨c, fun ty hty => by cases hty; exact ⟨fun n z => ⟨fun q h => (by cases h), k, h3, comp, h4⟩, k, comp, h3, h4, h1, h5⟩⟩
  | 6 => by
    obtain ⟨comp, c, k, h1, h2, h3, h4, h5⟩ := Cond.arrayOver_spec (h0 _ kt_121)
    exact ⟨c, fun ty hty => by cases hty; exact ⟨fun n z => ⟨fun q h => (by cases h), k, h3, comp, h4⟩, k, comp, h3, h4, h1, h5⟩⟩
  | 7 => by
    obtain ⟨comp, c, k, h1, h2, h3, h4, h5⟩ := Cond.arrayOver_spec (h0 _ kt_367)
    exact ⟨c, fun ty hty => by cases hty; exact ⟨fun n z => ⟨fun q h => (by cases h), k, h3, comp, h4⟩, k, comp, h3, h4, h1, h5⟩⟩
  | 8 => by
    obtain ⟨comp, c, k, h1, h2, h3, h4, h5⟩ := arrayOverA_spec (h0 _ kt_215)
    exact ⟨c, fun ty hty => by cases hty; exact ⟨fun n z => ⟨fun q h => (by cases h), k, h3, comp, h4⟩, h5⟩⟩
  | 9 => by
    obtain ⟨comp, c, k, h1, h2, h3, h4, h5⟩ := arrayOverA_spec (h0 _ kt_388)
    exact ⟨c, fun ty hty => by cases hty; exact ⟨fun n z => ⟨fun q h => (by cases h), k, h3, comp, h4⟩, h5⟩⟩
  | k + 10 => ⟨0, fun ty hty => by simp [tyl] at hty⟩
theorem st_nst {s : State} {A : Array Value} (h0 : ∀ w ∈ lw_tbl, w.before A s = true) : m_nst s := ⟨va_Nw.of rfl (h0 _ kt_116), va_Nw.of rfl (h0 _ kt_142), va_Nw.of rfl (h0 _ kt_259), va_Nw.of rfl (h0 _ kt_369), va_Nw.of rfl (h0 _ kt_521), va_Nw.of rfl (h0 _ kt_554), va_Nw.of rfl (h0 _ kt_665), va_Nw.of rfl (h0 _ kt_1025), va_Nw.of rfl (h0 _ kt_1059), va_Nw.of rfl (h0 _ kt_1086)⟩
theorem st_rng4 {p : Nat → Prop} (h0 : p 0) (h1 : p 1) (h2 : p 2) (h3 : p 3) : ∀ i, i < 4 → p i := by
  intro i hi
  match i, hi with
  | 0, _ => exact h0
  | 1, _ => exact h1
  | 2, _ => exact h2
  | 3, _ => exact h3
  | k + 4, h => exact absurd h (by omega)
set_option maxRecDepth 100000 in
theorem st_en {s : State} {A : Array Value} (hts : ∀ w ∈ lw_all, w.before A s = true) (h0 : ∀ w ∈ lw_tbl, w.before A s = true) (hgv : (Jvm.Cond.and given_1 narrow_1).before A s = true) : ∃ ad : Nat → Nat, va_En "FareLimits$Kind" "LFareLimits$Kind;" kNm kF ad (fun q => s.heap.size ≤ q) s s.heap ∧ ∀ i, i < 4 → (Term.static "FareLimits$Kind" (kNm.getD i "") "LFareLimits$Kind;").eval A s none [] s = some (.ref (ad i)) := by
  have hs := flat_of_before _ hgv
  refine va_Enof2 (nm := kNm) (F := kF) (A := fun q => s.heap.size ≤ q) (st_rng4 (h0 _ kt_147) (h0 _ kt_1715) (h0 _ kt_1716) (h0 _ kt_1717)) (hts _ kw_75) (st_rng4 (hs _ (by decide +kernel)) (hs _ (by decide +kernel)) (hs _ (by decide +kernel)) (hs _ (by decide +kernel))) ?_ ?_ (fun a h => Nat.not_le.mpr h)
  · intro q hq
    simp only [kF, List.mem_cons, List.not_mem_nil, or_false] at hq
    rcases hq with rfl | rfl | rfl
    · exact st_rng4 (hs _ (by decide +kernel)) (hs _ (by decide +kernel)) (hs _ (by decide +kernel)) (hs _ (by decide +kernel))
    · exact st_rng4 (hs _ (by decide +kernel)) (hs _ (by decide +kernel)) (hs _ (by decide +kernel)) (hs _ (by decide +kernel))
    · exact st_rng4 (hs _ (by decide +kernel)) (hs _ (by decide +kernel)) (hs _ (by decide +kernel)) (hs _ (by decide +kernel))
  · have key : ∀ i, i < 4 → ∀ j, j < 4 → i < j → (Cond.not (.eq (.static "FareLimits$Kind" (kNm.getD i "") "LFareLimits$Kind;") (.static "FareLimits$Kind" (kNm.getD j "") "LFareLimits$Kind;"))).before A s = true := by
      intro i hi j hj hij
      rcases (show (i = 0 ∧ j = 1) ∨ (i = 0 ∧ j = 2) ∨ (i = 0 ∧ j = 3) ∨ (i = 1 ∧ j = 2) ∨ (i = 1 ∧ j = 3) ∨ (i = 2 ∧ j = 3) by omega) with ⟨rfl, rfl⟩ | ⟨rfl, rfl⟩ | ⟨rfl, rfl⟩ | ⟨rfl, rfl⟩ | ⟨rfl, rfl⟩ | ⟨rfl, rfl⟩ <;> exact hs _ (by decide +kernel)
    intro i j hi hj hne
    rcases Nat.lt_or_gt_of_ne hne with h | h
    · exact Or.inl (key i hi j hj h)
    · exact Or.inr (key j hj i hi h)
set_option maxRecDepth 100000 in
theorem st_most {s : State} {A : Array Value} (hts : ∀ w ∈ lw_all, w.before A s = true) (h0 : ∀ w ∈ lw_tbl, w.before A s = true) (hgv : (Jvm.Cond.and given_1 narrow_1).before A s = true) : ∃ t : Nat, va_Z "FareLimits" "MOST_OF_A_RULE" "[I" (.ref t) (fun q => s.heap.size ≤ q) s s.heap ∧ va_T .int t 4 (fun j => .int (mostF j)) (fun q => s.heap.size ≤ q) s s.heap := by
  have hs := flat_of_before _ hgv
  have hel : ∀ j, j < 4 → (Term.elem (.static "FareLimits" "MOST_OF_A_RULE" "[I") (.int (Int32.ofNat j))).eval A s none [] s = some (.int (mostF j)) := fun j hj => va_eqt (hs _ ((by decide +kernel : ∀ j, j < 4 → Cond.eq (.elem (.static "FareLimits" "MOST_OF_A_RULE" "[I") (.int (Int32.ofNat j))) (.int (mostF j)) ∈ _) j hj))
  obtain ⟨t, h1, h2⟩ := va_Tof (tm := .static "FareLimits" "MOST_OF_A_RULE" "[I") (ty := .int) (N := 4) (f := fun j => .int (mostF j)) (A := fun q => s.heap.size ≤ q) (by decide) (hs _ (by decide +kernel)) (va_eqt (hs _ (by decide +kernel))) hel (fun a h => Nat.not_le.mpr h)
  exact ⟨t, va_Zref (h0 _ kt_472) (hts _ kw_70) h1 (fun a h => Nat.not_le.mpr h), h2⟩
set_option maxRecDepth 100000 in
theorem st_dgO {s : State} {A : Array Value} (hts : ∀ w ∈ lw_all, w.before A s = true) (h0 : ∀ w ∈ lw_tbl, w.before A s = true) (hgv : (Jvm.Cond.and given_1 narrow_1).before A s = true) : ∃ t : Nat, va_Z "java/lang/Integer" "DigitOnes" "[B" (.ref t) (fun q => s.heap.size ≤ q) s s.heap ∧ va_T .byte t 100 (fun j => .int (dgO j)) (fun q => s.heap.size ≤ q) s s.heap := by
  have hs := flat_of_before _ hgv
  have hel : ∀ j, j < 100 → (Term.elem (.static "java/lang/Integer" "DigitOnes" "[B") (.int (Int32.ofNat j))).eval A s none [] s = some (.int (dgO j)) := fun j hj => va_eqt (hs _ (List.mem_of_getElem? ((by decide +kernel : ∀ j, j < 100 → (flatC (Jvm.Cond.and given_1 narrow_1))[33 + j]? = some (Cond.eq (.elem (.static "java/lang/Integer" "DigitOnes" "[B") (.int (Int32.ofNat j))) (.int (dgO j)))) j hj)))
  obtain ⟨t, h1, h2⟩ := va_Tof (tm := .static "java/lang/Integer" "DigitOnes" "[B") (ty := .byte) (N := 100) (f := fun j => .int (dgO j)) (A := fun q => s.heap.size ≤ q) (by decide) (hs _ (by decide +kernel)) (va_eqt (hs _ (by decide +kernel))) hel (fun a h => Nat.not_le.mpr h)
  exact ⟨t, va_Zref (h0 _ kt_966) (hts _ kw_97) h1 (fun a h => Nat.not_le.mpr h), h2⟩
set_option maxRecDepth 100000 in
theorem st_dgT {s : State} {A : Array Value} (hts : ∀ w ∈ lw_all, w.before A s = true) (h0 : ∀ w ∈ lw_tbl, w.before A s = true) (hgv : (Jvm.Cond.and given_1 narrow_1).before A s = true) : ∃ t : Nat, va_Z "java/lang/Integer" "DigitTens" "[B" (.ref t) (fun q => s.heap.size ≤ q) s s.heap ∧ va_T .byte t 100 (fun j => .int (dgT j)) (fun q => s.heap.size ≤ q) s s.heap := by
  have hs := flat_of_before _ hgv
  have hel : ∀ j, j < 100 → (Term.elem (.static "java/lang/Integer" "DigitTens" "[B") (.int (Int32.ofNat j))).eval A s none [] s = some (.int (dgT j)) := fun j hj => va_eqt (hs _ (List.mem_of_getElem? ((by decide +kernel : ∀ j, j < 100 → (flatC (Jvm.Cond.and given_1 narrow_1))[136 + j]? = some (Cond.eq (.elem (.static "java/lang/Integer" "DigitTens" "[B") (.int (Int32.ofNat j))) (.int (dgT j)))) j hj)))
  obtain ⟨t, h1, h2⟩ := va_Tof (tm := .static "java/lang/Integer" "DigitTens" "[B") (ty := .byte) (N := 100) (f := fun j => .int (dgT j)) (A := fun q => s.heap.size ≤ q) (by decide) (hs _ (by decide +kernel)) (va_eqt (hs _ (by decide +kernel))) hel (fun a h => Nat.not_le.mpr h)
  exact ⟨t, va_Zref (h0 _ kt_968) (hts _ kw_97) h1 (fun a h => Nat.not_le.mpr h), h2⟩
set_option maxRecDepth 100000 in
theorem st_kinds {s : State} {A : Array Value} {ad : Nat → Nat} (hts : ∀ w ∈ lw_all, w.before A s = true) (h0 : ∀ w ∈ lw_tbl, w.before A s = true) (hgv : (Jvm.Cond.and given_1 narrow_1).before A s = true) (had : ∀ i, i < 4 → (Term.static "FareLimits$Kind" (kNm.getD i "") "LFareLimits$Kind;").eval A s none [] s = some (.ref (ad i))) : ∃ t : Nat, va_Z "FareLimits" "KINDS" "[LFareLimits$Kind;" (.ref t) (fun q => s.heap.size ≤ q) s s.heap ∧ va_T (.object "FareLimits$Kind") t 4 (fun j => .ref (ad j)) (fun q => s.heap.size ≤ q) s s.heap := by
  have hs := flat_of_before _ hgv
  have hel : ∀ j, j < 4 → (Term.elem (.static "FareLimits" "KINDS" "[LFareLimits$Kind;") (.int (Int32.ofNat j))).eval A s none [] s = some (.ref (ad j)) := fun j hj => va_eqv (hs _ ((by decide +kernel : ∀ j, j < 4 → Cond.eq (.elem (.static "FareLimits" "KINDS" "[LFareLimits$Kind;") (.int (Int32.ofNat j))) (.static "FareLimits$Kind" (kNm.getD j "") "LFareLimits$Kind;") ∈ _) j hj)) (had j hj)
  obtain ⟨t, h1, h2⟩ := va_Tof (tm := .static "FareLimits" "KINDS" "[LFareLimits$Kind;") (ty := .object "FareLimits$Kind") (N := 4) (f := fun j => .ref (ad j)) (A := fun q => s.heap.size ≤ q) (by decide) (hs _ (by decide +kernel)) (va_eqt (hs _ (by decide +kernel))) hel (fun a h => Nat.not_le.mpr h)
  exact ⟨t, va_Zref (h0 _ kt_434) (hts _ kw_70) h1 (fun a h => Nat.not_le.mpr h), h2⟩
def M00 : mM := List.replicate 10 m_no
/-- the law from its entry, out of what its function answers -/
theorem st_law {p : Program} {e : Env} {s : State} {m : MethodId} {below : List Frame} {meth : Method} {c : Code} (l : Launch) {b L : Nat} {xs : Nat → Int32} (C0 : lw_At p s m meth c b L xs) {N : Nat} (hf : m_L_law xs L N 600000 7302250 M00 = some ()) : W p l e room_1 s m #[Value.ref b] below meth c s.heap [] 0 0 (lw_Z below #[Value.ref b] s) (entryFrame m ([Value.ref b] : List Value).toArray 4) := by
  obtain ⟨hx, hb, hr, hml, hown, h0, hX, hbl, hlocks, hgv⟩ := id C0
  have hts := st_all h0
  have hA : ∀ a : Nat, a < s.heap.size → ¬ (fun q => s.heap.size ≤ q) a := fun a h => Nat.not_le.mpr h
  obtain ⟨ad, hE, had⟩ := st_en hts h0 hgv
  obtain ⟨t4, z4, a4⟩ := st_kinds hts h0 hgv had
  obtain ⟨t5, z5, a5⟩ := st_most hts h0 hgv
  obtain ⟨t6, z6, a6⟩ := st_dgO hts h0 hgv
  obtain ⟨t7, z7, a7⟩ := st_dgT hts h0 hgv
  have hs := flat_of_before _ hgv
  have zc : va_Z "java/lang/String" "COMPACT_STRINGS" "Z" (.int 1) (fun q => s.heap.size ≤ q) s s.heap := va_Zof (h0 _ kt_344) (hts _ kw_83) (va_eqi (hs _ (by decide +kernel))) hA
  have zf : va_Zq "jdk/internal/util/Preconditions" "SIOOBE_FORMATTER" "Ljava/util/function/BiFunction;" (fun q => s.heap.size ≤ q) s s.heap := va_Zqof (h0 _ kt_921) (hts _ kw_96) (hs _ (by decide +kernel)) hA
  obtain ⟨t8, z8⟩ : ∃ t8 : Nat, va_Z "jdk/internal/util/Preconditions" "SIOOBE_FORMATTER" "Ljava/util/function/BiFunction;" (if t8 = 0 then .null else .ref (t8 - 1)) (fun q => s.heap.size ≤ q) s s.heap := by
    rcases zf with h | ⟨t, h⟩
    · exact ⟨0, h⟩
    · exact ⟨t + 1, h⟩
  let ks : Nat → Nat := fun k => if k < 4 then ad k else if k = 4 then t4 else if k = 5 then t5 else if k = 6 then t6 else if k = 7 then t7 else if k = 8 then t8 else b
  let w : mW := (((fun c => (st_cls hts c).choose), (fun c => (st_cls hts c).choose_spec.choose)), (fun t => (st_arr hts h0 t).choose), ks, .null, s.heap.size)
  have hks : ∀ i, i < 4 → ks i = ad i := fun i hi => if_pos hi
  have hK : m_K w s := ⟨fun c q hq => (st_cls hts c).choose_spec.choose_spec q hq, fun t ty ht => (st_arr hts h0 t).choose_spec ty ht, st_nst h0, ⟨va_AO.of (h0 _ kt_113), va_AO.of (h0 _ kt_121), va_AO.of (h0 _ kt_367)⟩, m_AOA.of (h0 _ kt_215), m_AOA.of (h0 _ kt_388)⟩
  have hSt : m_St w s s.heap := by
    refine ⟨⟨fun i hi => ?_, fun i j hi hj h => ?_⟩, z4, ?_, z5, a5, zc, z6, a6, z7, a7, z8⟩
    · have h := hE.1 i hi
      rw [← hks i hi] at h
      exact h
    · exact hE.2 i j hi hj (by rw [← hks i hi, ← hks j hj]; exact h)
    · obtain ⟨cell, h1, h2, h3, h4, h5, h6, h7⟩ := a4
      exact ⟨cell, h1, h2, h3, h4, h5, fun j hj => by rw [h6 j hj]; exact congrArg (fun z => some (Value.ref z)) (hks j hj).symm, h7⟩
  have hl := lv_entry ([.ref b]) (n := 4) (Nat.le_of_ble_eq_true rfl)
  rw [lg_entry_eq]
  have hM0 : m_At w M00 s.heap := by
    refine ⟨by unfold M00; rw [List.length_replicate], by unfold M00; rw [List.length_replicate]; exact Nat.le_refl _, fun k hk => by unfold M00; rw [List.getElem?_replicate, if_pos hk], fun k c hk hc => ?_⟩
    unfold M00 at hc
    rw [List.getElem?_replicate, if_neg (by omega)] at hc
    cases hc
  exact t_L_law (X := ((p, l, e, room_1, s, m), (#[Value.ref b], below, meth, c), lw_Z below #[Value.ref b] s, w)) (L0 := l) ⟨hx, hb, hml, hown, hts, hlocks, hK, hSt, Nat.le_refl _, hr, rfl⟩ ⟨rfl, rfl, rfl, rfl, rfl, b, rfl, rfl⟩ ⟨hX, hbl, Nat.not_le.mpr hbl⟩ hf s.heap [] _ hl hM0 va_S.rf

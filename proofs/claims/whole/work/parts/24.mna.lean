def mnaD (n k : Nat) (M : mM) : mM := M ++ ((.inl (8, n, .inr (.inr (.inr (.inr (fun i => if i < n then some (M.length + 1 + i) else none))))) : mC) :: List.replicate n (.inl (2, k, .inr (.inr (.inr (.inl (fun _ => 0)))))))
def mnaJ (n k : Nat) (M : mM) : mM := M ++ ((.inl (9, n, .inr (.inr (.inr (.inr (fun i => if i < n then some (M.length + 1 + i) else none))))) : mC) :: List.replicate n (.inl (1, k, .inr (.inl (fun _ => 0)))))
theorem m_outer (c : ClassId) (N h0 : Nat) : ∀ i : Nat, Jvm.Free.Multi.outerC c N h0 i = arrV c N (fun j => va_rf (if j < i then some (h0 + 1 + j) else none))
  | 0 => by
    show ({ cls := c, slots := Array.replicate N .null, vm := .none } : Cell) = _
    rw [arrV_new]
    exact congrArg (arrV c N) (funext fun j => by simp [va_rf])
  | i + 1 => by
    show (Jvm.Free.Multi.outerC c N h0 i).setSlot i (.ref (h0 + 1 + i)) = _
    rw [m_outer c N h0 i, arrV_store]
    refine congrArg (arrV c N) (funext fun j => ?_)
    by_cases e : j = i
    · subst e
      simp [updV, va_rf]
    · by_cases h : j < i
      · simp [updV, e, h, Nat.lt_succ_of_lt h]
      · simp [updV, e, h, show ¬ j < i + 1 by omega]
theorem ev_mna_D {X : mX} {own nm : String} {cc : ByteArray} {nL pc kc ks : Nat} {ret : Option FieldType} {l : List (Nat × Value)} {st : List Value} {M : mM} {n k idx : Nat} (C : CX X own nm cc nL ret) (d : decode cc pc = .ok (.multianewarray idx 2, 4)) (h1 : Cond.classLink own idx "[[D" ∈ lw_all) (h2 : Cond.arrayClass .double ∈ lw_all) (hn : n ≤ 1000) (hk : k ≤ 1000) (hcells : kc + (1 + n) ≤ (xR X).cells) (hslots : ks + (n + n * k) ≤ (xR X).slots) (kk : EV X nL (pc + 4) l (.ref M.length :: st) (kc + (1 + n)) (ks + (n + n * k)) (mnaD n k M)) : EV X nL pc l (.int (nI k) :: .int (nI n) :: st) kc ks M := by
  intro H locs ls hl hM hS
  intro T hT Xs
  have cn : (nI n).toNatClampNeg = n := nI_clamp (by omega)
  have ck : (nI k).toNatClampNeg = k := nI_clamp (by omega)
  obtain ⟨vm₁, cA, comp, -, fA, fC, -, -, X', step⟩ := Xs.multianewarray2F (ty := .double) C.1 C.own (C.ts _ h1) (m_AOA.use C.K.2.2.2.2.1) (C.ts _ h2) (g := F0 (xm X) pc ls (.int (nI k) :: .int (nI n) :: st.map (m_v (xf X)))) rfl (by rw [C.2.1]; exact d) rfl (nI_pos (by omega)) (nI_pos (by omega)) (by rw [cn]; omega) (by rw [ck]; simp only [componentBytes]; omega) (by rw [ck]; omega) rfl rfl (by rw [cn]; exact hcells) (by rw [cn, ck]; exact hslots)
  rw [cn, ck] at X' step
  have hTh : (T.setVm vm₁).heap = H := hT
  have hA : cA = (xw X).2.1 8 := Option.some.inj (fA.symm.trans (C.K.2.1 8 _ rfl).2)
  have hC : comp = (xw X).2.1 2 := Option.some.inj (fC.symm.trans (C.K.2.1 2 _ rfl).2)
  subst hA hC
  generalize hF : Jvm.Free.Multi.fill (T.setVm vm₁) ((xw X).2.1 8) ((xw X).2.1 2) n k (defaultValue .double) n = F at X' step
  obtain ⟨f1, f2, -, -⟩ := Jvm.Free.Multi.fill_facts (T.setVm vm₁) ((xw X).2.1 8) ((xw X).2.1 2) n k (defaultValue .double) n
  rw [hF, hTh] at f1 f2
  have hold : ∀ x : Nat, x < H.size → F.heap[x]? = H[x]? := fun x hx => by
    have := Jvm.Free.Multi.fill_old (T.setVm vm₁) ((xw X).2.1 8) ((xw X).2.1 2) n k (defaultValue .double) (a := x) (by rw [hTh]; exact hx) n
    rw [hF, hTh] at this
    exact this
  have hrow : ∀ j : Nat, j < n → F.heap[H.size + 1 + j]? = some (vp_cell ((xw X).2.1 2) (k, .inr (.inr (.inr (.inl (fun _ => 0)))))) := fun j hj => by
    have := Jvm.Free.Multi.fill_inner (T.setVm vm₁) ((xw X).2.1 8) ((xw X).2.1 2) n k (defaultValue .double) n j hj
    rw [hF, hTh] at this
    rw [this]
    refine congrArg some ?_
    show ({ cls := (xw X).2.1 2, slots := Array.replicate k (defaultValue .double), vm := .none } : Cell) = _
    rw [arrV_new]
    rfl
  rw [m_outer] at f2
  have h10 := hM.2.1
  have hsz := hM.1
  have hfM : ∀ i : Nat, m_f (xw X) (M.length + i) = H.size + i := fun i => by
    rw [m_f_hi (by omega)]
    omega
  have hnew : m_At (xw X) (mnaD n k M) F.heap := by
    refine ⟨by unfold mnaD; rw [f1]; simp only [List.length_append, List.length_cons, List.length_replicate]; omega, by unfold mnaD; simp only [List.length_append]; omega, fun j hj => ?_, fun j c hj hc => ?_⟩
    · unfold mnaD
      rw [List.getElem?_append_left (by omega)]
      exact hM.2.2.1 j hj
    · unfold mnaD at hc
      rcases Nat.lt_or_ge j M.length with q | q
      · rw [List.getElem?_append_left q] at hc
        exact (hM.2.2.2 j c hj hc).kept (hold _ (hM.lt hj hc))
      · rw [List.getElem?_append_right q] at hc
        obtain ⟨i, rfl⟩ : ∃ i, j = M.length + i := ⟨j - M.length, by omega⟩
        rw [Nat.add_sub_cancel_left] at hc
        cases i with
        | zero =>
          cases hc
          show F.heap[m_f (xw X) (M.length + 0)]? = some (vp_cell _ _)
          rw [hfM]
          refine f2.trans (congrArg some ?_)
          show _ = arrV _ n (fun j => va_rf ((if j < n then some (M.length + 1 + j) else none : Option Nat).map (m_f (xw X))))
          refine congrArg (arrV _ n) (funext fun j => ?_)
          by_cases hjn : j < n
          · simp only [hjn, if_true, Option.map_some]
            rw [Nat.add_assoc M.length 1 j, hfM]
            rw [Nat.add_assoc]
          · simp only [hjn, if_false, Option.map_none]
        | succ i =>
          rw [List.getElem?_cons_succ] at hc
          have hi : i < n := by
            have := (List.getElem?_eq_some_iff.mp hc).1
            rw [List.length_replicate] at this
            exact this
          rw [List.getElem?_replicate, if_pos hi] at hc
          cases hc
          show F.heap[m_f (xw X) (M.length + (i + 1))]? = some (vp_cell _ _)
          rw [hfM, show H.size + (i + 1) = H.size + 1 + i by omega]
          exact hrow i hi
  have k9 := kk F.heap locs ls hl hnew ⟨Nat.le_trans hS.1 (by omega), fun x h1 h2 => (hold x (Nat.lt_of_lt_of_le h1 hS.1)).trans (hS.2.1 x h1 h2), hS.2.2⟩
  rw [List.map_cons] at k9
  have e0 : T.heap.size = H.size := by rw [hT]
  obtain ⟨t9, a9, b9⟩ := k9 F rfl (by
    have := X'
    rw [show kc + 1 + n = kc + (1 + n) by omega, show ks + n + n * k = ks + (n + n * k) by omega] at this
    exact this)
  refine ⟨t9, step t9 ?_, b9⟩
  have e2 : m_v (xf X) (.ref M.length) = .ref T.heap.size := by
    rw [e0]
    exact congrArg Value.ref (hfM 0)
  rw [e2] at a9
  exact a9
theorem ev_mna_J {X : mX} {own nm : String} {cc : ByteArray} {nL pc kc ks : Nat} {ret : Option FieldType} {l : List (Nat × Value)} {st : List Value} {M : mM} {n k idx : Nat} (C : CX X own nm cc nL ret) (d : decode cc pc = .ok (.multianewarray idx 2, 4)) (h1 : Cond.classLink own idx "[[J" ∈ lw_all) (h2 : Cond.arrayClass .long ∈ lw_all) (hn : n ≤ 1000) (hk : k ≤ 1000) (hcells : kc + (1 + n) ≤ (xR X).cells) (hslots : ks + (n + n * k) ≤ (xR X).slots) (kk : EV X nL (pc + 4) l (.ref M.length :: st) (kc + (1 + n)) (ks + (n + n * k)) (mnaJ n k M)) : EV X nL pc l (.int (nI k) :: .int (nI n) :: st) kc ks M := by
  intro H locs ls hl hM hS
  intro T hT Xs
  have cn : (nI n).toNatClampNeg = n := nI_clamp (by omega)
  have ck : (nI k).toNatClampNeg = k := nI_clamp (by omega)
  obtain ⟨vm₁, cA, comp, -, fA, fC, -, -, X', step⟩ := Xs.multianewarray2F (ty := .long) C.1 C.own (C.ts _ h1) (m_AOA.use C.K.2.2.2.2.2) (C.ts _ h2) (g := F0 (xm X) pc ls (.int (nI k) :: .int (nI n) :: st.map (m_v (xf X)))) rfl (by rw [C.2.1]; exact d) rfl (nI_pos (by omega)) (nI_pos (by omega)) (by rw [cn]; omega) (by rw [ck]; simp only [componentBytes]; omega) (by rw [ck]; omega) rfl rfl (by rw [cn]; exact hcells) (by rw [cn, ck]; exact hslots)
  rw [cn, ck] at X' step
  have hTh : (T.setVm vm₁).heap = H := hT
  have hA : cA = (xw X).2.1 9 := Option.some.inj (fA.symm.trans (C.K.2.1 9 _ rfl).2)
  have hC : comp = (xw X).2.1 1 := Option.some.inj (fC.symm.trans (C.K.2.1 1 _ rfl).2)
  subst hA hC
  generalize hF : Jvm.Free.Multi.fill (T.setVm vm₁) ((xw X).2.1 9) ((xw X).2.1 1) n k (defaultValue .long) n = F at X' step
  obtain ⟨f1, f2, -, -⟩ := Jvm.Free.Multi.fill_facts (T.setVm vm₁) ((xw X).2.1 9) ((xw X).2.1 1) n k (defaultValue .long) n
  rw [hF, hTh] at f1 f2
  have hold : ∀ x : Nat, x < H.size → F.heap[x]? = H[x]? := fun x hx => by
    have := Jvm.Free.Multi.fill_old (T.setVm vm₁) ((xw X).2.1 9) ((xw X).2.1 1) n k (defaultValue .long) (a := x) (by rw [hTh]; exact hx) n
    rw [hF, hTh] at this
    exact this
  have hrow : ∀ j : Nat, j < n → F.heap[H.size + 1 + j]? = some (vp_cell ((xw X).2.1 1) (k, .inr (.inl (fun _ => 0)))) := fun j hj => by
    have := Jvm.Free.Multi.fill_inner (T.setVm vm₁) ((xw X).2.1 9) ((xw X).2.1 1) n k (defaultValue .long) n j hj
    rw [hF, hTh] at this
    rw [this]
    refine congrArg some ?_
    show ({ cls := (xw X).2.1 1, slots := Array.replicate k (defaultValue .long), vm := .none } : Cell) = _
    rw [arrV_new]
    rfl
  rw [m_outer] at f2
  have h10 := hM.2.1
  have hsz := hM.1
  have hfM : ∀ i : Nat, m_f (xw X) (M.length + i) = H.size + i := fun i => by
    rw [m_f_hi (by omega)]
    omega
  have hnew : m_At (xw X) (mnaJ n k M) F.heap := by
    refine ⟨by unfold mnaJ; rw [f1]; simp only [List.length_append, List.length_cons, List.length_replicate]; omega, by unfold mnaJ; simp only [List.length_append]; omega, fun j hj => ?_, fun j c hj hc => ?_⟩
    · unfold mnaJ
      rw [List.getElem?_append_left (by omega)]
      exact hM.2.2.1 j hj
    · unfold mnaJ at hc
      rcases Nat.lt_or_ge j M.length with q | q
      · rw [List.getElem?_append_left q] at hc
        exact (hM.2.2.2 j c hj hc).kept (hold _ (hM.lt hj hc))
      · rw [List.getElem?_append_right q] at hc
        obtain ⟨i, rfl⟩ : ∃ i, j = M.length + i := ⟨j - M.length, by omega⟩
        rw [Nat.add_sub_cancel_left] at hc
        cases i with
        | zero =>
          cases hc
          show F.heap[m_f (xw X) (M.length + 0)]? = some (vp_cell _ _)
          rw [hfM]
          refine f2.trans (congrArg some ?_)
          show _ = arrV _ n (fun j => va_rf ((if j < n then some (M.length + 1 + j) else none : Option Nat).map (m_f (xw X))))
          refine congrArg (arrV _ n) (funext fun j => ?_)
          by_cases hjn : j < n
          · simp only [hjn, if_true, Option.map_some]
            rw [Nat.add_assoc M.length 1 j, hfM]
            rw [Nat.add_assoc]
          · simp only [hjn, if_false, Option.map_none]
        | succ i =>
          rw [List.getElem?_cons_succ] at hc
          have hi : i < n := by
            have := (List.getElem?_eq_some_iff.mp hc).1
            rw [List.length_replicate] at this
            exact this
          rw [List.getElem?_replicate, if_pos hi] at hc
          cases hc
          show F.heap[m_f (xw X) (M.length + (i + 1))]? = some (vp_cell _ _)
          rw [hfM, show H.size + (i + 1) = H.size + 1 + i by omega]
          exact hrow i hi
  have k9 := kk F.heap locs ls hl hnew ⟨Nat.le_trans hS.1 (by omega), fun x h1 h2 => (hold x (Nat.lt_of_lt_of_le h1 hS.1)).trans (hS.2.1 x h1 h2), hS.2.2⟩
  rw [List.map_cons] at k9
  have e0 : T.heap.size = H.size := by rw [hT]
  obtain ⟨t9, a9, b9⟩ := k9 F rfl (by
    have := X'
    rw [show kc + 1 + n = kc + (1 + n) by omega, show ks + n + n * k = ks + (n + n * k) by omega] at this
    exact this)
  refine ⟨t9, step t9 ?_, b9⟩
  have e2 : m_v (xf X) (.ref M.length) = .ref T.heap.size := by
    rw [e0]
    exact congrArg Value.ref (hfM 0)
  rw [e2] at a9
  exact a9

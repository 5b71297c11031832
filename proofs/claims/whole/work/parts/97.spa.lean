-- the paper: the class's text
def DO (D D2 : mM) : Prop := ∀ (j : Nat) (o : Nat × List Value), D[j]? = some (.inr o) → D2[j]? = some (.inr o)
theorem DO.refl {D : mM} : DO D D := fun _ _ h => h
theorem DO.trans {A B C : mM} (h : DO A B) (h2 : DO B C) : DO A C := fun j o e => h2 j o (h j o e)
theorem DO.app {D E : mM} : DO D (D ++ E) := fun j _ h => DX.app j _ h
theorem DO.rt {D D2 : mM} (h : DO D D2) {j nm lg pr wt : Nat} (e : D[j]? = some (cRt nm lg pr wt)) : D2[j]? = some (cRt nm lg pr wt) := h j _ e
theorem RO.exo {P : PL} {now : Nat → Int32} {D D2 : mM} (h : RO P now D) (e : DO D D2) : RO P now D2 := by
  refine ⟨fun i hi => ?_, fun i hi => ?_, h.2.2⟩
  · rcases h.1 i hi with h | ⟨j, nm, lg, pr, wt, h1, h2⟩
    · exact Or.inl h
    · exact Or.inr ⟨j, nm, lg, pr, wt, h1, e.rt h2⟩
  · obtain ⟨j, l0, l1, l2, lg, pr, wt, h1, h2, h3⟩ := h.2.1 i hi
    exact ⟨j, l0, l1, l2, lg, pr, wt, h1, e.rt h2, h3⟩
theorem IM.exo {c : CS} {d : MS} {D D2 : mM} (h : IM c d D) (e : DO D D2) : IM c d D2 := by
  rcases h with h | ⟨h1, h2, h3, h4⟩
  · exact Or.inl h
  · exact Or.inr ⟨h1, h2, h3, h4.exo e⟩
def nS (n : Nat) : Prop := n = 16 ∨ n = 34 ∨ n = 70 ∨ n = 142 ∨ n = 286
def grow (n m : Nat) : Nat := if m ≤ n then n else 2 * n + 2
theorem nS.le {n : Nat} (h : nS n) : 16 ≤ n ∧ n ≤ 286 := by
  unfold nS at h
  omega
-- numbers of the text's room
theorem need_f : ∀ n, n ∈ [16, 34, 70, 142, 286] → ∀ m, m < 260 → ((nI m - (nI n >>> ((0 : Int32) &&& 31)) ≤ 0) ↔ m ≤ n) := by decide +kernel
theorem cap_f : ∀ n, n ∈ [16, 34, 70, 142] → ∀ m, m < 260 → n < m → m ≤ 2 * n + 2 → m_J8_newLength_cabcc (nI n) ((nI m <<< ((0 : Int32) &&& 31)) - nI n) (nI n + ((2 : Int32) <<< ((0 : Int32) &&& 31))) = some (nI (2 * n + 2)) := by decide +kernel
theorem cap_g : ∀ n, n ∈ [16, 34, 70, 142] → ¬ nI (2 * n + 2) = 2147483647 ∧ nI (2 * n + 2) >>> ((0 : Int32) &&& 31) = nI (2 * n + 2) ∧ nI (2 * n + 2) <<< ((0 : Int32) &&& 31) = nI (2 * n + 2) ∧ ¬ nI (2 * n + 2) = nI n ∧ ¬ nI (2 * n + 2) < 0 := by decide +kernel
theorem nS.mem {n : Nat} (h : nS n) : n ∈ [16, 34, 70, 142, 286] := by
  unfold nS at h
  rcases h with rfl | rfl | rfl | rfl | rfl <;> decide
theorem nS.mem4 {n : Nat} (h : nS n) (h2 : n < 260) : n ∈ [16, 34, 70, 142] := by
  unfold nS at h
  rcases h with rfl | rfl | rfl | rfl | rfl
  · decide
  · decide
  · decide
  · decide
  · omega
theorem nS.grow {n m : Nat} (h : nS n) (h2 : m < 260) : nS (grow n m) := by
  unfold nS Jvm.Pilot.CFareLimitsLaw_law_r1110_43f9b1.grow at *
  split <;> omega
theorem byte_f : ∀ b, b < 128 → vp_nar .byte (nI b) = nI b ∧ (nI b).toInt8.toInt32 = nI b ∧ fits .byte (.int (nI b)) = true ∧ ((nI b).toUInt32 % 65536).toInt32 = nI b := by decide +kernel
section
variable {c : CS} {d : MS} {D : mM} {N k : Nat} {a : Int32} {P : PL}
theorem pa_get {n : Nat} {f : Nat → Int32} (h : PA c D n f) : (mk c d D)[c.pgv]? = some (.inl (4, n, .inl f)) := by
  rcases h with ⟨h1, h2, h3⟩ | ⟨j, h1, h2⟩
  · rw [h1, h2, h3]
    rfl
  · rw [h1, mkD]
    exact h2
theorem PA.app {n : Nat} {f : Nat → Int32} {E : mM} (h : PA c D n f) : PA c (D ++ E) n f := by
  rcases h with h | ⟨j, h1, h2⟩
  · exact Or.inl h
  · exact Or.inr ⟨j, h1, DX.app _ _ h2⟩
/-- a byte put into the text's array -/
theorem pa_u {n i b : Nat} {f : Nat → Int32} (h : PA c D n f) (hi : i < n) (hn : n < 2 ^ 31) (hb : b ≤ 127) : ∃ g D2, uI 4 .byte (mk c d D) c.pgv (nI i) (nI b) = some (mk (c.s_pg0 g) d D2) ∧ PA (c.s_pg0 g) D2 n (va_up f i (nI b)) ∧ DO D D2 := by
  have e0 := (byte_f b (by omega)).1
  rcases h with ⟨h1, h2, h3⟩ | ⟨j, h1, h2⟩
  · refine ⟨va_up c.pg0 i (nI b), D, ?_, Or.inl ⟨h1, h2, by rw [h3]; rfl⟩, DO.refl⟩
    rw [h1, yu_84 (by omega), e0]
  · have hj : j < D.length := (List.getElem?_eq_some_iff.mp h2).1
    refine ⟨c.pg0, D.set j (.inl (4, n, .inl (va_up f i (nI b)))), ?_, Or.inr ⟨j, h1, List.getElem?_set_self hj⟩, fun q o hq => ?_⟩
    · rw [h1]
      unfold uI
      rw [mkD, h2]
      simp only [if_true]
      rw [if_neg (vp_in_nI hi hn), nI_clamp (by omega), e0]
      rfl
    · by_cases e : j = q
      · subst e
        rw [h2] at hq
        cases hq
      · rw [List.getElem?_set_ne e]
        exact hq
theorem set_new {x y : mC} : (mk c d (D ++ [x])).set (D.length + 120) y = mk c d (D ++ [y]) := by
  have : (D ++ [x]).set D.length y = D ++ [y] := by
    rw [List.set_append_right _ _ (Nat.le_refl _), Nat.sub_self]
    rfl
  show mk c d ((D ++ [x]).set D.length y) = _
  rw [this]
/-- a new array, twice as long and two more -/
theorem xcopy {n mc ms : Nat} {f : Nat → Int32} (h : PA c D n f) (hb : ∀ i, i < n → ∃ b, b ≤ 127 ∧ f i = nI b) (hn : nS n) (hn2 : n < 260) (h1 : 1 ≤ mc) (h2 : 2 * n + 2 ≤ ms) : m_J7_copyOf_9075b mc ms c.pgv (nI (2 * n + 2)) (mk c d D) = some (D.length + 120, mk c d (D ++ [.inl (4, 2 * n + 2, .inl (va_cpy f (fun _ => 0) 0 0 n))])) := by
  obtain ⟨g1, g2, g3, g4, g5⟩ := cap_g n (hn.mem4 hn2)
  have g6 : (nI (2 * n + 2)).toNatClampNeg = 2 * n + 2 := nI_clamp (by omega)
  have g7 : (nI n).toNatClampNeg = n := nI_clamp (by omega)
  have o1 : oif (¬ nI (2 * n + 2) < 0 ∧ 2 * n + 2 ≤ 60000000) = some () := if_pos ⟨g5, by omega⟩
  have o2 : oif (0 + 1 ≤ mc ∧ 0 + (2 * n + 2) ≤ ms) = some () := if_pos ⟨by omega, by omega⟩
  have m0 : iMin (nI n) (nI (2 * n + 2)) = nI n := by rw [iMin_nI (by omega) (by omega), Nat.min_eq_left (by omega)]
  have hg : (mk c d (D ++ [.inl (4, 2 * n + 2, .inl (fun _ => (0 : Int32)))]))[D.length + 120]? = some (.inl (4, 2 * n + 2, .inl (fun _ => (0 : Int32)))) := by
    rw [mkD, List.getElem?_append_right (Nat.le_refl _), Nat.sub_self]
    rfl
  have hall : (List.range n).all (fun i => fits .byte (.int (f (0 + i)))) = true := by
    rw [List.all_eq_true]
    intro i hi
    obtain ⟨b, b1, b2⟩ := hb i (List.mem_range.mp hi)
    rw [Nat.zero_add, b2]
    exact (byte_f b (by omega)).2.2.1
  unfold m_J7_copyOf_9075b
  rw [pa_n h, Option.bind_some, if_neg g4, g6, o1, Option.bind_some, o2, Option.bind_some, mk_app, pa_n h.app, Option.bind_some, m0, mk_len]
  unfold cpB cpA
  rw [pa_get h.app, hg]
  simp only
  rw [if_pos ⟨trivial, trivial, by decide, by decide, by rw [show (0 : Int32) = nI 0 from rfl, nI_ltI (by omega) (by omega)]; omega, by rw [g7]; show 0 + n ≤ n; omega, by rw [g7]; show 0 + n ≤ 2 * n + 2; omega, by rw [g7]; exact hall⟩, Option.bind_some, g7, set_new]
  rfl
/-- room for m signs -/
theorem xroom {n m : Nat} {f : Nat → Int32} {mc ms : Nat} (hcd : c.pgcd = 0) (h : PA c D n f) (hb : ∀ i, i < n → ∃ b, b ≤ 127 ∧ f i = nI b) (hn : nS n) (hm : m < 260) (h2 : m ≤ 2 * n + 2) (hc : (if m ≤ n then 0 else 1) ≤ mc) (hs : (if m ≤ n then 0 else 2 * n + 2) ≤ ms) : ∃ v D2 f2, m_J5_ensureCapacityInternal_d00df mc ms 83 (nI m) (mk c d D) = some (mk (c.s_pgv v) d D2) ∧ PA (c.s_pgv v) D2 (grow n m) f2 ∧ (∀ i, i < grow n m → ∃ b, b ≤ 127 ∧ f2 i = nI b) ∧ (∀ i, i < n → f2 i = f i) ∧ DO D D2 := by
  have e1 := need_f n hn.mem m hm
  have hnl := hn.le
  unfold m_J5_ensureCapacityInternal_d00df grow
  rw [yr_83_0, Option.bind_some, pa_n h, Option.bind_some, yr_83_1, Option.bind_some, hcd]
  by_cases z : m ≤ n
  · rw [if_pos (e1.mpr z), if_pos z]
    exact ⟨c.pgv, D, f, rfl, h, hb, fun i hi => rfl, DO.refl⟩
  · rw [if_neg (fun y => z (e1.mp y)), if_neg z]
    rw [if_neg z] at hc hs
    obtain ⟨g1, g2, g3, g4, g5⟩ := cap_g n (hn.mem4 (by omega))
    have cf := cap_f n (hn.mem4 (by omega)) m hm (by omega) h2
    have o : oif (0 + mc ≤ mc ∧ 0 + ms ≤ ms) = some () := if_pos ⟨by omega, by omega⟩
    have nc : m_J5_newCapacity_0f7a4 83 (nI m) (mk c d D) = some (nI (2 * n + 2)) := by
      unfold m_J5_newCapacity_0f7a4
      rw [yr_83_0, Option.bind_some, pa_n h, Option.bind_some, yr_83_1, Option.bind_some, Option.bind_some, hcd, cf, Option.bind_some, if_neg g1, Option.bind_some, g2]
    have new : (D ++ [(.inl (4, 2 * n + 2, .inl (va_cpy f (fun _ => 0) 0 0 n)) : mC)])[D.length]? = some (.inl (4, 2 * n + 2, .inl (va_cpy f (fun _ => 0) 0 0 n))) := by
      rw [List.getElem?_append_right (Nat.le_refl _), Nat.sub_self]
      rfl
    refine ⟨D.length + 120, D ++ [.inl (4, 2 * n + 2, .inl (va_cpy f (fun _ => 0) 0 0 n))], va_cpy f (fun _ => 0) 0 0 n, ?_, Or.inr ⟨D.length, rfl, new⟩, fun i hi => ?_, fun i hi => ?_, DO.app⟩
    · rw [Option.bind_some, yo_83, Option.bind_some, nc, Option.bind_some, Option.bind_some, o, Option.bind_some, g3, xcopy h hb hn (by omega) hc hs, Option.bind_some, yw_83_0, Option.bind_some]
    · unfold va_cpy
      split
      · next hh =>
        obtain ⟨b, b1, b2⟩ := hb i (by omega)
        exact ⟨b, b1, by rw [Nat.zero_add, Nat.sub_zero]; exact b2⟩
      · exact ⟨0, by omega, rfl⟩
    · unfold va_cpy
      rw [if_pos ⟨Nat.zero_le _, by omega⟩, Nat.zero_add, Nat.sub_zero]
theorem bNo_n {n m k : Nat} {f : Nat → Int32} (h : PA c D n f) (hn : nS n) (hc : c.pgc = m) (hm : m < 2 ^ 31) : bC (mk c d D) 83 k = (if m + k ≤ n then 0 else 1) ∧ bS (mk c d D) 83 k = (if m + k ≤ n then 0 else 2 * n + 2) := by
  have hnl := hn.le
  have e : bNo (mk c d D) 83 k = if m + k ≤ n then none else some (2 * n + 2) := by
    unfold bNo
    rw [yr_83_0, Option.bind_some, yr_83_3, Option.bind_some, pa_n h, Option.bind_some, hc, nI_clamp (by omega), nI_clamp (by omega)]
  unfold bC bS
  rw [e]
  by_cases z : m + k ≤ n
  · rw [if_pos z, if_pos z, if_pos z]
    exact ⟨rfl, rfl⟩
  · rw [if_neg z, if_neg z, if_neg z]
    exact ⟨rfl, rfl⟩
/-- the class's text: its signs so far, in an array of n -/
def TS (c : CS) (D : mM) (n : Nat) (W : List Nat) : Prop := c.pgcd = 0 ∧ c.pgc = W.length ∧ W.length ≤ n ∧ nS n ∧ ∃ f, PA c D n f ∧ (∀ i, i < n → ∃ b, b ≤ 127 ∧ f i = nI b) ∧ ∀ i b, W[i]? = some b → f i = nI b
def cT (c : CS) (v m : Nat) (g : Nat → Int32) : CS := ((c.s_pgv v).s_pgc m).s_pg0 g
theorem tsx {W L : List Nat} {f f2 : Nat → Int32} (hf : ∀ (i b : Nat), W[i]? = some b → f i = nI b) (h : ∀ i, i < W.length → f2 i = f i) (h2 : ∀ q b, L[q]? = some b → f2 (W.length + q) = nI b) (i b : Nat) (e : (W ++ L)[i]? = some b) : f2 i = nI b := by
  by_cases z : i < W.length
  · rw [List.getElem?_append_left z] at e
    rw [h i z]
    exact hf i b e
  · rw [List.getElem?_append_right (by omega)] at e
    have := h2 (i - W.length) b e
    rw [show W.length + (i - W.length) = i by omega] at this
    exact this
theorem TS.bud {n : Nat} {W : List Nat} (h : TS c D n W) (k : Nat) : bC (mk c d D) 83 k = (if W.length + k ≤ n then 0 else 1) ∧ bS (mk c d D) 83 k = (if W.length + k ≤ n then 0 else 2 * n + 2) := by
  obtain ⟨h1, h2, h3, h4, f, h5, _⟩ := h
  have := h4.le
  exact bNo_n h5 h4 h2 (by omega)
/-- a sign appended -/
theorem xsg {n b : Nat} {W : List Nat} (h : TS c D n W) (hb : b ≤ 127) (hl : W.length + 1 ≤ 250) : ∃ v g D2, m_J4_append_cf468 (bC (mk c d D) 83 1) (bS (mk c d D) 83 1) 83 (nI b) (mk c d D) = some (83, mk (cT c v (W ++ [b]).length g) d D2) ∧ TS (cT c v (W ++ [b]).length g) D2 (grow n (W ++ [b]).length) (W ++ [b]) ∧ DO D D2 := by
  obtain ⟨b1, b2⟩ := h.bud (d := d) 1
  obtain ⟨h1, h2, h3, h4, f, h5, h6, h7⟩ := h
  have hnl := h4.le
  have el : (W ++ [b]).length = W.length + 1 := by rw [List.length_append]; rfl
  rw [b1, b2, el]
  generalize hmc : (if W.length + 1 ≤ n then 0 else 1) = mc
  generalize hms : (if W.length + 1 ≤ n then 0 else 2 * n + 2) = ms
  have o : oif (0 + mc ≤ mc ∧ 0 + ms ≤ ms) = some () := if_pos ⟨by omega, by omega⟩
  obtain ⟨v, D1, f1, r1, r2, r3, r4, r5⟩ := xroom (d := d) (m := W.length + 1) h1 h5 h6 h4 (by omega) (by omega) (Nat.le_of_eq hmc) (Nat.le_of_eq hms)
  have gn : W.length + 1 ≤ grow n (W.length + 1) := by
    unfold grow
    split <;> omega
  have gs := h4.grow (m := W.length + 1) (by omega)
  have gl := gs.le
  have r2' : PA ((c.s_pgv v).s_pgc (W.length + 1)) D1 (grow n (W.length + 1)) f1 := r2
  obtain ⟨g, D2, u1, u2, u3⟩ := pa_u (d := d) (i := W.length) (b := b) r2' (by omega) (by omega) hb
  have u1 : uI 4 .byte (mk ((c.s_pgv v).s_pgc (W.length + 1)) d D1) v (nI W.length) (nI b) = _ := u1
  have q1 : m_J5_isLatin1_aae02 83 (mk (c.s_pgv v) d D1) = some 1 := by
    unfold m_J5_isLatin1_aae02
    rw [if_neg (by decide), yr_83_1, Option.bind_some, show (c.s_pgv v).pgcd = 0 from h1, if_pos rfl]
  have q2 : m_J1_canEncode_fc78d (nI b) = some 1 := by
    unfold m_J1_canEncode_fc78d
    rw [if_neg (by rw [show (255 : Int32) = nI 255 from rfl, nI_ltI (by omega) (by omega)]; omega)]
  have w3 : sV (mk (c.s_pgv v) d D1) 83 0 3 (.int (nI (W.length + 1))) = some (mk ((c.s_pgv v).s_pgc (W.length + 1)) d D1) := yw_83_3
  have s0 : fR (mk (c.s_pgv v) d D1) 83 0 0 = some v := yr_83_0
  have s3 : fI (mk (c.s_pgv v) d D1) 83 0 3 = some (nI W.length) := by
    rw [← h2]
    exact yr_83_3
  refine ⟨v, g, D2, ?_, ⟨h1, el.symm, by rw [el]; exact gn, gs, va_up f1 W.length (nI b), u2, fun i hi => ?_, ?_⟩, r5.trans u3⟩
  · unfold m_J4_append_cf468 m_J5_append_3fe6f
    rw [yo_83, Option.bind_some, o, Option.bind_some, yr_83_3, Option.bind_some, Option.bind_some, Option.bind_some, h2, nI_1, r1, Option.bind_some, yo_83, Option.bind_some, q1, Option.bind_some, if_neg (by decide), q2, Option.bind_some, if_neg (by decide), s0, Option.bind_some, s3, Option.bind_some, nI_1, w3, Option.bind_some, (byte_f b (by omega)).2.1, u1, Option.bind_some, Option.bind_some]
    rfl
  · by_cases e : i = W.length
    · subst e
      rw [upe]
      exact ⟨b, hb, rfl⟩
    · rw [upn e]
      exact r3 i hi
  · refine tsx h7 (fun i hi => ?_) (fun q b2 hq => ?_)
    · rw [upn (by omega)]
      exact r4 i (by omega)
    · cases q with
      | zero =>
        cases hq
        exact upe
      | succ q => cases hq
end

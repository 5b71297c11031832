-- numbers, sign by sign
def dgL (v : Nat) : List Nat := if v < 10 then [48 + v] else if v < 100 then [48 + v / 10, 48 + v % 10] else if v < 1000 then [48 + v / 100, 48 + v / 10 % 10, 48 + v % 10] else [48 + v / 1000, 48 + v / 100 % 10, 48 + v / 10 % 10, 48 + v % 10]
theorem dgL_len {v : Nat} : (dgL v).length = if v < 10 then 1 else if v < 100 then 2 else if v < 1000 then 3 else 4 := by
  unfold dgL
  split
  · rfl
  · split
    · rfl
    · split <;> rfl
theorem dgL_le {v : Nat} : 1 ≤ (dgL v).length ∧ (dgL v).length ≤ 4 ∧ (v ≤ 99 → (dgL v).length ≤ 2) := by
  rw [dgL_len]
  refine ⟨?_, ?_, fun h => ?_⟩
  all_goals (repeat' split) <;> omega
theorem dgN_n {v : Nat} (h : v ≤ 9999) : dgN (nI v) = (dgL v).length := by
  rw [dgL_len]
  unfold dgN
  have e : ∀ k, k ≤ 10000 → ((nI v < nI k) ↔ v < k) := fun k hk => nI_ltI (by omega) (by omega)
  have e1 : (nI v < 10) ↔ v < 10 := e 10 (by omega)
  have e2 : (nI v < 100) ↔ v < 100 := e 100 (by omega)
  have e3 : (nI v < 1000) ↔ v < 1000 := e 1000 (by omega)
  have e4 : (nI v < 10000) ↔ v < 10000 := e 10000 (by omega)
  by_cases z1 : v < 10
  · rw [if_pos (e1.mpr z1), if_pos z1]
  · rw [if_neg (fun y => z1 (e1.mp y)), if_neg z1]
    by_cases z2 : v < 100
    · rw [if_pos (e2.mpr z2), if_pos z2]
    · rw [if_neg (fun y => z2 (e2.mp y)), if_neg z2]
      by_cases z3 : v < 1000
      · rw [if_pos (e3.mpr z3), if_pos z3]
      · rw [if_neg (fun y => z3 (e3.mp y)), if_neg z3, if_pos (e4.mpr (by omega))]
theorem ng_f : ∀ x, x < 100 → ∀ y, y < 100 → (-nI (100 * x + y)) / 100 = -nI x ∧ zDgO (((-nI (100 * x + y)) / 100) * 100 - -nI (100 * x + y)) = some (nI (48 + y % 10)) ∧ zDgT (((-nI (100 * x + y)) / 100) * 100 - -nI (100 * x + y)) = some (nI (48 + y / 10)) := by decide +kernel
theorem ng_s : ∀ y, y < 100 → zDgO (- -nI y) = some (nI (48 + y % 10)) ∧ zDgT (- -nI y) = some (nI (48 + y / 10)) := by decide +kernel
theorem ng_le {v k : Nat} (hv : v ≤ 20000) (hk : 1 ≤ k) (hk2 : k ≤ 20000) : ((-nI v ≤ -nI k) ↔ k ≤ v) ∧ ((-nI k < -nI v) ↔ v < k) ∧ ((-nI k ≤ -nI v) ↔ v ≤ k) := by
  by_cases hv0 : v = 0
  · subst hv0
    have e : (-nI 0).toInt = 0 := by decide
    have e2 : (-nI k).toInt = -(k : Int) := sb_negT (by omega)
    refine ⟨?_, ?_, ?_⟩
    · rw [Int32.le_iff_toInt_le, e, e2]; omega
    · rw [Int32.lt_iff_toInt_lt, e, e2]; omega
    · rw [Int32.le_iff_toInt_le, e, e2]; omega
  · have e : (-nI v).toInt = -(v : Int) := sb_negT (by omega)
    have e2 : (-nI k).toInt = -(k : Int) := sb_negT (by omega)
    refine ⟨?_, ?_, ?_⟩
    · rw [Int32.le_iff_toInt_le, e, e2]; omega
    · rw [Int32.lt_iff_toInt_lt, e, e2]; omega
    · rw [Int32.le_iff_toInt_le, e, e2]; omega
theorem ssz {N v : Nat} (hN : 100 ≤ N) (hv : v ≤ 9999) : m_J6_stringSize_0f7a4 N (nI v) = some (nI (dgL v).length) := by
  obtain ⟨M, rfl⟩ : ∃ M, N = M + 5 := ⟨N - 5, by omega⟩
  have st : ∀ n (x i3 : Int32), m_J6_stringSize_0f7a4_L16 (M + 5) (n + 1) (-nI v) 0 x i3 = if 10 ≤ i3 then some (10 + 0) else if -nI v ≤ x then m_J6_stringSize_0f7a4_L16 (M + 5) n (-nI v) 0 (10 * x) (i3 + 1) else some (i3 + 0) := fun n x i3 => rfl
  have c1 : (-nI v ≤ (-10 : Int32)) ↔ 10 ≤ v := (ng_le (k := 10) (by omega) (by omega) (by omega)).1
  have c2 : (-nI v ≤ (10 * (-10) : Int32)) ↔ 100 ≤ v := (ng_le (k := 100) (by omega) (by omega) (by omega)).1
  have c3 : (-nI v ≤ (10 * (10 * (-10)) : Int32)) ↔ 1000 ≤ v := (ng_le (k := 1000) (by omega) (by omega) (by omega)).1
  have c4 : (-nI v ≤ (10 * (10 * (10 * (-10))) : Int32)) ↔ 10000 ≤ v := (ng_le (k := 10000) (by omega) (by omega) (by omega)).1
  unfold m_J6_stringSize_0f7a4 m_J6_stringSize_0f7a4_J11
  rw [if_neg (by rw [show (0 : Int32) = nI 0 from rfl, nI_ltI (by omega) (by omega)]; omega), dgL_len, st, if_neg (by decide)]
  by_cases z1 : v < 10
  · rw [if_neg (fun y => by have := c1.mp y; omega), if_pos z1]
    rfl
  · rw [if_pos (c1.mpr (by omega)), if_neg z1, st, if_neg (by decide)]
    by_cases z2 : v < 100
    · rw [if_neg (fun y => by have := c2.mp y; omega), if_pos z2]
      rfl
    · rw [if_pos (c2.mpr (by omega)), if_neg z2, st, if_neg (by decide)]
      by_cases z3 : v < 1000
      · rw [if_neg (fun y => by have := c3.mp y; omega), if_pos z3]
        rfl
      · rw [if_pos (c3.mpr (by omega)), if_neg z3, st, if_neg (by decide), if_neg (fun y => by have := c4.mp y; omega)]
        rfl
section
variable {c : CS} {d : MS} {D : mM} {N k : Nat} {a : Int32} {P : PL}
/-- the bytes of f from p on, other than f0's -/
def PT (c : CS) (d : MS) (D : mM) (n : Nat) (f0 : Nat → Int32) (p : Nat) (L : List Nat) (M : mM) : Prop := ∃ g D2 f, M = mk (c.s_pg0 g) d D2 ∧ PA (c.s_pg0 g) D2 n f ∧ DO D D2 ∧ (∀ i, i < n → ∃ b, b ≤ 127 ∧ f i = nI b) ∧ (∀ i, i < p → f i = f0 i) ∧ ∀ q b, L[q]? = some b → f (p + q) = nI b
theorem pt_put {n p b : Nat} {f0 : Nat → Int32} {L : List Nat} {M : mM} (h : PT c d D n f0 (p + 1) L M) (hp : p < n) (hn : n ≤ 1000) (hb : b ≤ 127) (hf : ∀ i, i < p + 1 → i < n) : ∃ M2, uI 4 .byte M c.pgv (nI p) (nI b) = some M2 ∧ PT c d D n f0 p (b :: L) M2 := by
  obtain ⟨g, D1, f, rfl, h1, h2, h3, h4, h5⟩ := h
  obtain ⟨g2, D2, u1, u2, u3⟩ := pa_u (c := c.s_pg0 g) (d := d) (i := p) (b := b) h1 hp (by omega) hb
  refine ⟨_, u1, g2, D2, va_up f p (nI b), rfl, u2, h2.trans u3, fun i hi => ?_, fun i hi => ?_, fun q b2 hq => ?_⟩
  · by_cases e : i = p
    · subst e
      rw [upe]
      exact ⟨b, hb, rfl⟩
    · rw [upn e]
      exact h3 i hi
  · rw [upn (by omega)]
    exact h4 i (by omega)
  · cases q with
    | zero =>
      cases hq
      exact upe
    | succ q =>
      rw [upn (by omega), show p + (q + 1) = p + 1 + q by omega]
      exact h5 q b2 hq
theorem gch {n p v e : Nat} {f0 : Nat → Int32} (hN : 100 ≤ N) (hv : v ≤ 9999) (he : e = p + (dgL v).length) (hen : e ≤ n) (hn : n ≤ 1000) (h0 : PA c D n f0) (hb : ∀ i, i < n → ∃ b, b ≤ 127 ∧ f0 i = nI b) : ∃ r M2, m_J6_getChars_ba4f3 N (nI v) (nI e) c.pgv (mk c d D) = some (r, M2) ∧ PT c d D n f0 p (dgL v) M2 := by
  obtain ⟨M, rfl⟩ : ∃ M, N = M + 5 := ⟨N - 5, by omega⟩
  have h00 : PT c d D n f0 e [] (mk c d D) := ⟨c.pg0, D, f0, rfl, h0, DO.refl, hb, fun i hi => rfl, fun q b hq => by cases hq⟩
  have hl := dgL_le (v := v)
  have st : ∀ m (x y : Int32) (M1 : mM), m_J6_getChars_ba4f3_L22 (M + 5) (m + 1) x c.pgv y 0 M1 = if (-100) < x then (zDgO (-x)).bind fun x1 => (uI 4 .byte M1 c.pgv (y + (-1)) x1).bind fun M3 => if (-9) ≤ x then m_J6_getChars_ba4f3_J104 (M + 5) c.pgv (y + (-1)) 0 M3 else (zDgT (-x)).bind fun x5 => (uI 4 .byte M3 c.pgv ((y + (-1)) + (-1)) x5).bind fun M7 => m_J6_getChars_ba4f3_J104 (M + 5) c.pgv ((y + (-1)) + (-1)) 0 M7 else (zDgO (((x / 100) * 100) - x)).bind fun x9 => (uI 4 .byte M1 c.pgv (y + (-1)) x9).bind fun M11 => (zDgT (((x / 100) * 100) - x)).bind fun x13 => (uI 4 .byte M11 c.pgv ((y + (-1)) + (-1)) x13).bind fun M15 => m_J6_getChars_ba4f3_L22 (M + 5) m (x / 100) c.pgv ((y + (-1)) + (-1)) 0 M15 := fun m x y M1 => rfl
  have fin : ∀ (y : Int32) (M1 : mM), m_J6_getChars_ba4f3_J104 (M + 5) c.pgv y 0 M1 = some (y, M1) := fun y M1 => if_pos rfl
  -- the last one or two signs
  have low : ∀ (m w q : Nat) (L : List Nat) (M1 : mM), w < 100 → q ≤ n → (dgL w).length ≤ q → PT c d D n f0 q L M1 → ∃ r M2, m_J6_getChars_ba4f3_L22 (M + 5) (m + 1) (-nI w) c.pgv (nI q) 0 M1 = some (r, M2) ∧ PT c d D n f0 (q - (dgL w).length) (dgL w ++ L) M2 := by
    intro m w q L M1 hw hq hq2 hP
    obtain ⟨z1, z2⟩ := ng_s w hw
    have hw1 := dgL_le (v := w)
    have k1 : ((-100 : Int32) < -nI w) ↔ w < 100 := (ng_le (k := 100) (by omega) (by omega) (by omega)).2.1
    have k2 : ((-9 : Int32) ≤ -nI w) ↔ w ≤ 9 := (ng_le (k := 9) (by omega) (by omega) (by omega)).2.2
    obtain ⟨q, rfl⟩ : ∃ x, q = x + 1 := ⟨q - 1, by omega⟩
    have em : nI (q + 1) + -1 = nI q := pk_m1 q
    obtain ⟨M3, u1, u2⟩ := pt_put (b := 48 + w % 10) hP (by omega) hn (by omega) (fun i hi => by omega)
    rw [st, if_pos (k1.mpr hw), z1, Option.bind_some, em, u1, Option.bind_some]
    by_cases z : w < 10
    · rw [if_pos (k2.mpr (by omega)), fin]
      refine ⟨_, _, rfl, ?_⟩
      have e : dgL w = [48 + w % 10] := by
        unfold dgL
        rw [if_pos z, Nat.mod_eq_of_lt z]
      rw [e]
      exact u2
    · rw [if_neg (fun y => by have := k2.mp y; omega)]
      have e : dgL w = [48 + w / 10, 48 + w % 10] := by
        unfold dgL
        rw [if_neg z, if_pos hw]
      have : 2 ≤ q + 1 := by rw [e] at hq2; exact hq2
      obtain ⟨q, rfl⟩ : ∃ x, q = x + 1 := ⟨q - 1, by omega⟩
      have em2 : nI (q + 1) + -1 = nI q := pk_m1 q
      obtain ⟨M4, u3, u4⟩ := pt_put (b := 48 + w / 10) u2 (by omega) hn (by omega) (fun i hi => by omega)
      rw [z2, Option.bind_some, em2, u3, Option.bind_some, fin]
      refine ⟨_, _, rfl, ?_⟩
      rw [e]
      exact u4
  unfold m_J6_getChars_ba4f3 m_J6_getChars_ba4f3_J12
  rw [if_pos (show (0 : Int32) ≤ nI v from nI_le (a := 0) (by omega) (by omega)), if_pos (show (0 : Int32) = 0 from rfl)]
  by_cases z : v < 100
  · obtain ⟨r, M2, l1, l2⟩ := low (M + 4) v e [] (mk c d D) z hen (by omega) h00
    refine ⟨r, M2, l1, ?_⟩
    rw [List.append_nil, he, Nat.add_sub_cancel] at l2
    exact l2
  · have hx : v = 100 * (v / 100) + v % 100 := by omega
    obtain ⟨z1, z2, z3⟩ := ng_f (v / 100) (by omega) (v % 100) (by omega)
    rw [← hx] at z1 z2 z3
    have hd : dgL v = dgL (v / 100) ++ [48 + v % 100 / 10, 48 + v % 100 % 10] := by
      unfold dgL
      rw [if_neg (by omega), if_neg z]
      by_cases t : v < 1000
      · rw [if_pos t, if_pos (by omega)]
        show [48 + v / 100, 48 + v / 10 % 10, 48 + v % 10] = [48 + v / 100, 48 + v % 100 / 10, 48 + v % 100 % 10]
        rw [show v % 100 / 10 = v / 10 % 10 by omega, show v % 100 % 10 = v % 10 by omega]
      · rw [if_neg t, if_neg (by omega), if_pos (by omega)]
        show [48 + v / 1000, 48 + v / 100 % 10, 48 + v / 10 % 10, 48 + v % 10] = [48 + v / 100 / 10, 48 + v / 100 % 10, 48 + v % 100 / 10, 48 + v % 100 % 10]
        rw [show v % 100 / 10 = v / 10 % 10 by omega, show v % 100 % 10 = v % 10 by omega, show v / 100 / 10 = v / 1000 by omega]
    have hlen : (dgL v).length = (dgL (v / 100)).length + 2 := by
      rw [hd, List.length_append]
      rfl
    have hl2 := dgL_le (v := v / 100)
    obtain ⟨s, rfl⟩ : ∃ x, e = x + 1 + 1 := ⟨e - 2, by omega⟩
    have em1 : nI (s + 1 + 1) + -1 = nI (s + 1) := pk_m1 (s + 1)
    have em2 : nI (s + 1) + -1 = nI s := pk_m1 s
    obtain ⟨M3, u1, u2⟩ := pt_put (b := 48 + v % 100 % 10) h00 (by omega) hn (by omega) (fun i hi => by omega)
    obtain ⟨M4, u3, u4⟩ := pt_put (b := 48 + v % 100 / 10) u2 (by omega) hn (by omega) (fun i hi => by omega)
    have k1 : ((-100 : Int32) < -nI v) ↔ v < 100 := (ng_le (k := 100) (by omega) (by omega) (by omega)).2.1
    obtain ⟨r, M2, l1, l2⟩ := low (M + 3) (v / 100) s _ M4 (by omega) (by omega) (by omega) u4
    refine ⟨r, M2, ?_, ?_⟩
    · rw [st, if_neg (fun y => z (k1.mp y)), z2, Option.bind_some, em1, u1, Option.bind_some, z3, Option.bind_some, em2, u3, Option.bind_some, z1]
      exact l1
    · rw [show s - (dgL (v / 100)).length = p by omega, ← hd] at l2
      exact l2
/-- a number appended -/
theorem xnb (hN : 100 ≤ N) {n v : Nat} {W : List Nat} (h : TS c D n W) (hv : v ≤ 9999) (hl : W.length + (dgL v).length ≤ 250) : ∃ x g D2, m_J4_append_bf812 N (bC (mk c d D) 83 (dgN (nI v))) (bS (mk c d D) 83 (dgN (nI v))) 83 (nI v) (mk c d D) = some (83, mk (cT c x (W ++ dgL v).length g) d D2) ∧ TS (cT c x (W ++ dgL v).length g) D2 (grow n (W ++ dgL v).length) (W ++ dgL v) ∧ DO D D2 := by
  rw [dgN_n hv]
  have hd := dgL_le (v := v)
  obtain ⟨b1, b2⟩ := h.bud (d := d) (dgL v).length
  obtain ⟨h1, h2, h3, h4, f, h5, h6, h7⟩ := h
  have hnl := h4.le
  have el : (W ++ dgL v).length = W.length + (dgL v).length := List.length_append
  rw [b1, b2, el]
  generalize hmc : (if W.length + (dgL v).length ≤ n then 0 else 1) = mc
  generalize hms : (if W.length + (dgL v).length ≤ n then 0 else 2 * n + 2) = ms
  have o : oif (0 + mc ≤ mc ∧ 0 + ms ≤ ms) = some () := if_pos ⟨by omega, by omega⟩
  obtain ⟨x, D1, f1, r1, r2, r3, r4, r5⟩ := xroom (d := d) (m := W.length + (dgL v).length) h1 h5 h6 h4 (by omega) (by omega) (Nat.le_of_eq hmc) (Nat.le_of_eq hms)
  have gn : W.length + (dgL v).length ≤ grow n (W.length + (dgL v).length) := by
    unfold grow
    split <;> omega
  have gs := h4.grow (m := W.length + (dgL v).length) (by omega)
  have gl := gs.le
  obtain ⟨r, M2, g1, g, D2, f2, rfl, p1, p2, p3, p4, p5⟩ := gch (c := c.s_pgv x) (d := d) (p := W.length) (e := W.length + (dgL v).length) hN hv rfl gn (by omega) r2 r3
  have q1 : m_J5_isLatin1_aae02 83 (mk (c.s_pgv x) d D1) = some 1 := by
    unfold m_J5_isLatin1_aae02
    rw [if_neg (by decide), yr_83_1, Option.bind_some, show (c.s_pgv x).pgcd = 0 from h1, if_pos rfl]
  have s0 : fR (mk (c.s_pgv x) d D1) 83 0 0 = some x := yr_83_0
  have g1 : m_J6_getChars_ba4f3 N (nI v) (nI (W.length + (dgL v).length)) x (mk (c.s_pgv x) d D1) = _ := g1
  have w3 : sV (mk ((c.s_pgv x).s_pg0 g) d D2) 83 0 3 (.int (nI (W.length + (dgL v).length))) = some (mk (cT c x (W.length + (dgL v).length) g) d D2) := yw_83_3
  refine ⟨x, g, D2, ?_, ⟨h1, el.symm, by rw [el]; exact gn, gs, f2, p1, p3, ?_⟩, r5.trans p2⟩
  · unfold m_J4_append_bf812 m_J5_append_c97b9
    rw [yo_83, Option.bind_some, o, Option.bind_some, yr_83_3, Option.bind_some, ssz hN hv, Option.bind_some, Option.bind_some, Option.bind_some, h2, nI_add, r1, Option.bind_some, yo_83, Option.bind_some, q1, Option.bind_some, if_neg (by decide), s0, Option.bind_some, g1, Option.bind_some, w3, Option.bind_some, Option.bind_some]
  · refine tsx h7 (fun i hi => ?_) p5
    rw [p4 i hi]
    exact r4 i (by omega)
end

-- one route more: both sides are alike again
theorem posR_hi {now : Nat → Int32} {nm : Nat} : ∀ i q, posR now nm i ≤ q → q < i → nm < nmR now q
  | i + 1, q, h1, h2 => by
    unfold posR at h1
    by_cases z : nmR now i ≤ nm
    · rw [if_pos z] at h1; omega
    · rw [if_neg z] at h1
      by_cases e : q = i
      · subst e; omega
      · exact posR_hi i q h1 (by omega)
theorem posR_lo {now : Nat → Int32} {nm q : Nat} : ∀ i, posR now nm i = q + 1 → nmR now q ≤ nm
  | i + 1, h => by
    unfold posR at h
    by_cases z : nmR now i ≤ nm
    · rw [if_pos z] at h
      obtain rfl : i = q := by omega
      exact z
    · rw [if_neg z] at h
      exact posR_lo i h
theorem ins_rel {P : PL} {now n2 : Nat → Int32} {D : mM} {rd : Nat → Int32} {f : Nat → Option Nat} {jn b0 b1 b2 lg pr wt : Nat} (hP : PR P now) (hR : RO P now D) (hr : P.rc ≤ 11) (hD : D[jn]? = some (cRt (nmN b0 b1 b2) lg pr wt)) (hrd : rd 0 = nI b0 ∧ rd 1 = nI b1 ∧ rd 2 = nI b2 ∧ rd 3 = nI lg ∧ rd 4 = nI pr ∧ rd 5 = nI wt) (hv : (97 ≤ b0 ∧ b0 ≤ 122 ∧ b1 ≤ 122 ∧ b2 ≤ 122 ∧ (b1 = 0 → b2 = 0) ∧ (97 ≤ b1 ∨ b1 = 0) ∧ (97 ≤ b2 ∨ b2 = 0)) ∧ (1 ≤ lg ∧ lg ≤ 15) ∧ (1 ≤ pr ∧ pr ≤ 9999) ∧ wt ≤ 99) (hnew : ∀ q, q < P.rc → nmR now q ≠ nmN b0 b1 b2) (hf : ∀ q, q < 12 → f q = if q < posR now (nmN b0 b1 b2) P.rc then P.rts q else if q = posR now (nmN b0 b1 b2) P.rc then some (jn + 120) else if q ≤ P.rc then P.rts (q - 1) else P.rts q) (h5 : n2 5 = nI (P.rc + 1)) (hn : ∀ z, z ≠ 5 → n2 z = if 50 + 6 * posR now (nmN b0 b1 b2) P.rc ≤ z ∧ z < 50 + 6 * posR now (nmN b0 b1 b2) P.rc + 6 then rd (z - (50 + 6 * posR now (nmN b0 b1 b2) P.rc)) else if 50 + 6 * posR now (nmN b0 b1 b2) P.rc + 6 ≤ z ∧ z < 50 + 6 * P.rc + 6 then now (z - 6) else now z) : PR ((P.s_rts f).s_rc (P.rc + 1)) n2 ∧ RO ((P.s_rts f).s_rc (P.rc + 1)) n2 D := by
  have pl := posR_le (now := now) (nm := nmN b0 b1 b2) P.rc
  have hhi := posR_hi (now := now) (nm := nmN b0 b1 b2) P.rc
  have lo := fun q => posR_lo (now := now) (nm := nmN b0 b1 b2) (q := q) P.rc
  generalize posR now (nmN b0 b1 b2) P.rc = p at *
  have hPn : PR ((P.s_rts f).s_rc (P.rc + 1)) n2 := hP.u_routes (r := P.rc + 1) (by omega) f h5 (fun z z5 hz => by rw [hn z z5, if_neg (by omega), if_neg (by omega)])
  have cl : ∀ i w, w < 6 → i < p → n2 (50 + 6 * i + w) = now (50 + 6 * i + w) := fun i w hw h => by rw [hn _ (by omega), if_neg (by omega), if_neg (by omega)]
  have ch : ∀ i w, w < 6 → p < i → i ≤ P.rc → n2 (50 + 6 * i + w) = now (50 + 6 * (i - 1) + w) := fun i w hw h h2 => by rw [hn _ (by omega), if_neg (by omega), if_pos (by omega), show 50 + 6 * i + w - 6 = 50 + 6 * (i - 1) + w by omega]
  have cm : ∀ w, w < 6 → n2 (50 + 6 * p + w) = rd w := fun w hw => by rw [hn _ (by omega), if_pos (by omega), Nat.add_sub_cancel_left]
  have rp : RN n2 p b0 b1 b2 lg pr wt := by
    have c0 := cm 0 (by omega)
    rw [Nat.add_zero] at c0
    exact ⟨⟨c0.trans hrd.1, (cm 1 (by omega)).trans hrd.2.1, (cm 2 (by omega)).trans hrd.2.2.1, (cm 3 (by omega)).trans hrd.2.2.2.1, (cm 4 (by omega)).trans hrd.2.2.2.2.1, (cm 5 (by omega)).trans hrd.2.2.2.2.2⟩, hv⟩
  have nm3 : ∀ i j, (∀ w, w < 6 → n2 (50 + 6 * i + w) = now (50 + 6 * j + w)) → nmR n2 i = nmR now j := fun i j h => by
    have h0 := h 0 (by omega)
    simp only [Nat.add_zero] at h0
    unfold nmR
    rw [h0, h 1 (by omega), h 2 (by omega)]
  have nlo : ∀ i, i < p → nmR n2 i = nmR now i := fun i h => nm3 i i fun w hw => cl i w hw h
  have nhi : ∀ i, p < i → i ≤ P.rc → nmR n2 i = nmR now (i - 1) := fun i h h2 => nm3 i (i - 1) fun w hw => ch i w hw h h2
  refine ⟨hPn, fun i hi => ?_, fun i hi => ?_, fun i hi l0 l1 l2 lg pr wt k0 k1 k2 mg qr xt x y => ?_⟩
  · rw [show ((P.s_rts f).s_rc (P.rc + 1)).rts i = f i from rfl, hf i hi]
    split
    · exact hR.1 i hi
    · split
      · exact Or.inr ⟨jn, _, _, _, _, rfl, hD⟩
      · split
        · exact hR.1 (i - 1) (by omega)
        · exact hR.1 i hi
  · have hi : i < P.rc + 1 := hi
    rw [show ((P.s_rts f).s_rc (P.rc + 1)).rts i = f i from rfl, hf i (by omega)]
    by_cases q1 : i < p
    · rw [if_pos q1]
      obtain ⟨j, l0, l1, l2, lg, pr, wt, h1, h2, h3⟩ := hR.2.1 i (by omega)
      exact ⟨j, l0, l1, l2, lg, pr, wt, h1, h2, h3.to fun z hz => cl i z hz q1⟩
    · rw [if_neg q1]
      by_cases q2 : i = p
      · subst q2
        rw [if_pos rfl]
        exact ⟨jn, b0, b1, b2, lg, pr, wt, rfl, hD, rp⟩
      · rw [if_neg q2, if_pos (by omega)]
        obtain ⟨j, l0, l1, l2, lg, pr, wt, h1, h2, h3⟩ := hR.2.1 (i - 1) (by omega)
        exact ⟨j, l0, l1, l2, lg, pr, wt, h1, h2, h3.to fun z hz => ch i z hz (by omega) (by omega)⟩
  · have hi1 : i + 1 < P.rc + 1 := hi
    rw [← x.nm, ← y.nm]
    by_cases q1 : i + 1 < p
    · rw [nlo i (by omega), nlo (i + 1) q1]
      exact hR.inc 0 i (by omega)
    · by_cases q2 : i + 1 = p
      · rw [nlo i (by omega), q2, rp.nm]
        have h1 := lo i q2.symm
        have h2 := hnew i (by omega)
        omega
      · by_cases q3 : i = p
        · rw [nhi (i + 1) (by omega) (by omega), q3, rp.nm, Nat.add_sub_cancel]
          exact hhi p (Nat.le_refl _) (by omega)
        · rw [nhi i (by omega) (by omega), nhi (i + 1) (by omega) (by omega), Nat.add_sub_cancel]
          have := hR.inc 0 (i - 1) (by omega)
          rw [show i - 1 + 0 + 1 = i by omega] at this
          exact this

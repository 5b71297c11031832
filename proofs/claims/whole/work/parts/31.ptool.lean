-- tools of the pure part
theorem plit (n : Nat) : (no_index (OfNat.ofNat n) : Int32) = nI (no_index (OfNat.ofNat n)) := rfl
theorem plit64 (n : Nat) : (no_index (OfNat.ofNat n) : Int64) = lN (no_index (OfNat.ofNat n)) := rfl
theorem rg (x : Int32) (m : Nat) (hm : m < 2 ^ 31 := by omega) : (∃ k, k ≤ m ∧ x = nI k) ∨ (x.toInt < 0 ∨ (m : Int) < x.toInt) := by
  by_cases h : x < 0
  · right; left
    rw [Int32.lt_iff_toInt_lt] at h
    exact h
  · obtain ⟨j, hj, rfl⟩ := nI_of h
    by_cases h2 : j ≤ m
    · exact Or.inl ⟨j, h2, rfl⟩
    · right; right; rw [nI_toInt hj]; omega
theorem wi_in {k m : Nat} (h : k ≤ m) (hm : m < 2 ^ 31 := by omega) : m_X11_within (nI k) (nI m) = some (nI 1) := by
  unfold m_X11_within
  rw [if_neg (nI_pos (by omega)), if_neg (by rw [nI_ltI hm (by omega)]; omega)]
  rfl
theorem wi_out {x : Int32} {m : Nat} (h : x.toInt < 0 ∨ (m : Int) < x.toInt) (hm : m < 2 ^ 31 := by omega) : m_X11_within x (nI m) = some (nI 0) := by
  unfold m_X11_within
  by_cases h0 : x < 0
  · rw [if_pos h0]; rfl
  · rw [if_neg h0, if_pos]
    · rfl
    · rw [Int32.lt_iff_toInt_lt] at h0 ⊢
      rw [nI_toInt hm]
      have : (0 : Int32).toInt = 0 := by decide
      omega
theorem cmp_lt (a b : Int64) : lg_cmp a b < 0 ↔ a.toInt < b.toInt := by
  unfold lg_cmp
  simp only [gt_iff_lt, Int64.lt_iff_toInt_lt, ← Int64.toInt_inj]
  by_cases h1 : b.toInt < a.toInt
  · rw [if_pos h1]
    exact ⟨fun h => absurd h (by decide), fun h => by omega⟩
  · rw [if_neg h1]
    by_cases h2 : a.toInt = b.toInt
    · rw [if_pos h2]
      exact ⟨fun h => absurd h (by decide), fun h => by omega⟩
    · rw [if_neg h2]
      exact ⟨fun _ => by omega, fun _ => by decide⟩
theorem cmp_gt (a b : Int64) : 0 < lg_cmp a b ↔ b.toInt < a.toInt := by
  unfold lg_cmp
  simp only [gt_iff_lt, Int64.lt_iff_toInt_lt, ← Int64.toInt_inj]
  by_cases h1 : b.toInt < a.toInt
  · rw [if_pos h1]
    exact ⟨fun _ => h1, fun _ => by decide⟩
  · rw [if_neg h1]
    by_cases h2 : a.toInt = b.toInt
    · rw [if_pos h2]
      exact ⟨fun h => absurd h (by decide), fun h => by omega⟩
    · rw [if_neg h2]
      exact ⟨fun h => absurd h (by decide), fun h => by omega⟩
theorem in_pos {a b c : Int64} (h1 : b.toInt ≤ a.toInt) (h2 : a.toInt ≤ c.toInt) : m_X12_in a b c = some (nI 1) := by
  unfold m_X12_in
  rw [if_neg (by rw [cmp_lt]; omega), if_neg (by rw [cmp_gt]; omega)]
  rfl
theorem in_neg {a b c : Int64} (h : a.toInt < b.toInt ∨ c.toInt < a.toInt) : m_X12_in a b c = some (nI 0) := by
  unfold m_X12_in
  by_cases h1 : a.toInt < b.toInt
  · rw [if_pos (by rw [cmp_lt]; exact h1)]; rfl
  · rw [if_neg (by rw [cmp_lt]; exact h1), if_pos (by rw [cmp_gt]; omega)]; rfl
theorem in_in {k lo hi : Nat} (h1 : lo ≤ k) (h2 : k ≤ hi) (h3 : hi < 2 ^ 31 := by omega) : m_X12_in (nI k).toInt64 (lN lo) (lN hi) = some (nI 1) :=
  in_pos (by rw [Int32.toInt_toInt64, nI_toInt (by omega), lN_toInt (by omega)]; omega) (by rw [Int32.toInt_toInt64, nI_toInt (by omega), lN_toInt (by omega)]; omega)
theorem in_out {x : Int32} {lo hi : Nat} (h : x.toInt < lo ∨ (hi : Int) < x.toInt) (h1 : lo < 2 ^ 31 := by omega) (h3 : hi < 2 ^ 31 := by omega) : m_X12_in x.toInt64 (lN lo) (lN hi) = some (nI 0) :=
  in_neg (by rw [Int32.toInt_toInt64, lN_toInt (by omega), lN_toInt (by omega)]; omega)
theorem pred_I {n : Nat} (h : n < 2 ^ 31) : (nI n - nI 1).toInt = (n : Int) - 1 := by
  cases n with
  | zero => decide
  | succ n => rw [pk_sub (by omega), nI_toInt (by omega)]; omega
theorem in_inS {k n : Nat} (h : k < n) (h3 : n < 2 ^ 31 := by omega) : m_X12_in (nI k).toInt64 (lN 0) (nI n - nI 1).toInt64 = some (nI 1) :=
  in_pos (by rw [Int32.toInt_toInt64, nI_toInt (by omega), lN_toInt (by omega)]; omega) (by rw [Int32.toInt_toInt64, Int32.toInt_toInt64, nI_toInt (by omega), pred_I h3]; omega)
theorem in_outS {x : Int32} {n : Nat} (h : x.toInt < 0 ∨ (n : Int) ≤ x.toInt) (h3 : n < 2 ^ 31 := by omega) : m_X12_in x.toInt64 (lN 0) (nI n - nI 1).toInt64 = some (nI 0) :=
  in_neg (by rw [Int32.toInt_toInt64, Int32.toInt_toInt64, lN_toInt (by omega), pred_I h3]; omega)
theorem rgS (x : Int32) (n : Nat) (hn : n < 2 ^ 31 := by omega) : (∃ k, k < n ∧ x = nI k) ∨ (x.toInt < 0 ∨ (n : Int) ≤ x.toInt) := by
  rcases pk_ix x hn with h | h | h
  · right; left; rw [Int32.lt_iff_toInt_lt] at h; exact h
  · right; right; rw [Int32.le_iff_toInt_le, nI_toInt hn] at h; exact h
  · exact Or.inl h
/-- two naturals as ints: equal where they are -/
theorem nI_ne {a b : Nat} (h : a ≠ b) (ha : a < 2 ^ 31 := by omega) (hb : b < 2 ^ 31 := by omega) : ¬ nI a = nI b := by rw [nI_eq ha hb]; exact h

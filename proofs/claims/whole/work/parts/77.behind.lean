-- the prices behind
def cnm (m : Nat) : Nat → Nat
  | 0 => 0
  | j + 1 => cnm m j + gb m j
theorem cnm_le {m : Nat} : ∀ A, cnm m A ≤ A
  | 0 => Nat.le_refl 0
  | A + 1 => by
    have := cnm_le (m := m) A
    have := gb_lt (lg := m) (k := A)
    unfold cnm
    omega
theorem cnm_lt {m j : Nat} (h : gb m j = 0) : ∀ A, j < A → cnm m A < A
  | A + 1, hA => by
    have := cnm_le (m := m) A
    have := gb_lt (lg := m) (k := A)
    unfold cnm
    by_cases e : j = A
    · subst e; omega
    · have := cnm_lt h A (by omega); omega
theorem cnm_all {m : Nat} : ∀ A, (∀ j, j < A → gb m j = 1) → cnm m A = A
  | 0, _ => rfl
  | A + 1, h => by
    unfold cnm
    rw [cnm_all A (fun j hj => h j (by omega)), h A (by omega)]
theorem cnm_or_ge {m j : Nat} : ∀ A, A ≤ j → cnm (m ||| 2 ^ j) A = cnm m A
  | 0, _ => rfl
  | A + 1, h => by
    unfold cnm
    rw [cnm_or_ge A (by omega), gb_or, if_neg (by omega)]
theorem cnm_or {m j : Nat} (h : gb m j = 0) : ∀ A, j < A → cnm (m ||| 2 ^ j) A = cnm m A + 1
  | A + 1, hA => by
    unfold cnm
    by_cases e : j = A
    · subst e
      rw [cnm_or_ge j (Nat.le_refl _), gb_or, if_pos rfl, h]
    · rw [cnm_or h A (by omega), gb_or, if_neg (by omega)]
      omega
section
variable {c : CS} {d d0 : MS} {D : mM} {N k : Nat} {a : Int32} {P : PL}
theorem xb33 {pj : Nat → Nat} {A m s j0 : Nat} (hA : A ≤ 20) (hda : c.dasked = A) (hp : ∀ j, j < A → c.pa j = nI (pj j) ∧ pj j ≤ 9999) (hm : m < 2 ^ 20) (j1 : j0 < A) (j2 : gb m j0 = 0) (j3 : ∀ j, j < A → gb m j = 0 → pj j ≤ pj j0 ∧ (pj j = pj j0 → j0 ≤ j)) {k6 : Nat → Int32 → Int32 → Int32 → Option Int32} (σ : Int32) : ∀ (n i : Nat) (i4 : Int32), i ≤ A → A - i < n → (i ≤ j0 ∧ (i4 = -1 ∨ ∃ q, i4 = nI q ∧ q < i ∧ pj q < pj j0) ∨ (j0 < i ∧ i4 = nI j0)) → m_X1_pricesBehind_L33 N (mk c d D) k6 n 80 σ (nI m) (nI s) i4 (nI i) = k6 80 (σ + nI (pj j0)) (nI (m ||| 2 ^ j0)) (nI (s + 1)) := by
  intro n
  induction n with
  | zero => intro i _ _ h; omega
  | succ n ih =>
    intro i i4 hi hn hI
    have neg : ∀ q, q < 21 → ¬ nI q = -1 := by decide +kernel
    unfold m_X1_pricesBehind_L33
    by_cases e : i = A
    · subst e
      rcases hI with ⟨h, _⟩ | ⟨_, rfl⟩
      · omega
      · rw [yr_80_5, Option.bind_some, hda, if_pos (nI_le (by omega) (by omega)), if_neg (neg _ (by omega)), yr_80_2, Option.bind_some, ya_81 (by omega), Option.bind_some, (hp j0 j1).1, or_20 (by omega)]
        unfold m_X1_pricesBehind_J107
        rw [nI_1]
    · have hpi := hp i (by omega)
      rw [yr_80_5, Option.bind_some, hda, if_neg (by rw [nI_leI (by omega) (by omega)]; omega), gb_I (by omega) (by omega)]
      have keep : ((i + 1) ≤ j0 ∧ (i4 = -1 ∨ ∃ q, i4 = nI q ∧ q < i + 1 ∧ pj q < pj j0) ∨ (j0 < i + 1 ∧ i4 = nI j0)) → m_X1_pricesBehind_J78 N (mk c d D) (m_X1_pricesBehind_L33 N (mk c d D) k6 n) 80 σ (nI m) (nI s) i4 (nI i) = k6 80 (σ + nI (pj j0)) (nI (m ||| 2 ^ j0)) (nI (s + 1)) := by
        intro h
        unfold m_X1_pricesBehind_J78
        rw [nI_1]
        exact ih (i + 1) i4 (by omega) (by omega) h
      have take : ((i + 1) ≤ j0 ∧ pj i < pj j0 ∨ i = j0) → m_X1_pricesBehind_J74 N (mk c d D) (m_X1_pricesBehind_L33 N (mk c d D) k6 n) 80 σ (nI m) (nI s) (nI i) = k6 80 (σ + nI (pj j0)) (nI (m ||| 2 ^ j0)) (nI (s + 1)) := by
        intro h
        unfold m_X1_pricesBehind_J74 m_X1_pricesBehind_J78
        rw [nI_1]
        refine ih (i + 1) (nI i) (by omega) (by omega) ?_
        rcases h with ⟨h1, h2⟩ | h
        · exact Or.inl ⟨h1, Or.inr ⟨i, rfl, by omega, h2⟩⟩
        · exact Or.inr ⟨by omega, by rw [h]⟩
      by_cases g : gb m i = 0
      · have j3i := j3 i (by omega) g
        rw [if_pos (nI_gb.mpr g)]
        rcases hI with ⟨h1, h2⟩ | ⟨h1, rfl⟩
        · have tk : (i + 1) ≤ j0 ∧ pj i < pj j0 ∨ i = j0 := by
            by_cases e2 : i = j0
            · exact Or.inr e2
            · refine Or.inl ⟨by omega, ?_⟩
              rcases Nat.lt_or_ge (pj i) (pj j0) with z | z
              · exact z
              · have := j3i.2 (by omega); omega
          rcases h2 with rfl | ⟨q, rfl, q1, q2⟩
          · rw [if_pos rfl]
            exact take tk
          · have hpq := hp q (by omega)
            rw [if_neg (neg _ (by omega)), yr_80_2, Option.bind_some, ya_81 (by omega), Option.bind_some, Option.bind_some, ya_81 (by omega), Option.bind_some, hpi.1, hpq.1]
            by_cases z : pj i ≤ pj q
            · rw [if_pos ((nI_leI (by omega) (by omega)).mpr z)]
              refine keep (Or.inl ⟨?_, Or.inr ⟨q, rfl, by omega, q2⟩⟩)
              rcases tk with t | t
              · omega
              · subst t; omega
            · rw [if_neg (fun y => z ((nI_leI (by omega) (by omega)).mp y))]
              exact take tk
        · have hp0 := hp j0 j1
          rw [if_neg (neg _ (by omega)), yr_80_2, Option.bind_some, ya_81 (by omega), Option.bind_some, Option.bind_some, ya_81 (by omega), Option.bind_some, hpi.1, hp0.1, if_pos ((nI_leI (by omega) (by omega)).mpr j3i.1)]
          exact keep (Or.inr ⟨by omega, rfl⟩)
      · rw [if_neg (fun z => g (nI_gb.mp z))]
        refine keep ?_
        rcases hI with ⟨h1, h2⟩ | ⟨h1, h2⟩
        · have : i ≠ j0 := fun e2 => g (e2 ▸ j2)
          refine Or.inl ⟨by omega, ?_⟩
          rcases h2 with h2 | ⟨q, q0, q1, q2⟩
          · exact Or.inl h2
          · exact Or.inr ⟨q, q0, by omega, q2⟩
        · exact Or.inr ⟨by omega, h2⟩
theorem xb6_take (hN : 100 ≤ N) {pj : Nat → Nat} {A m s j0 : Nat} (h0 : c.pl.rules 0 ≤ 30) (hA : A ≤ 20) (hda : c.dasked = A) (hp : ∀ j, j < A → c.pa j = nI (pj j) ∧ pj j ≤ 9999) (hm : m < 2 ^ 20) (j1 : j0 < A) (j2 : gb m j0 = 0) (j3 : ∀ j, j < A → gb m j = 0 → pj j ≤ pj j0 ∧ (pj j = pj j0 → j0 ≤ j)) (hs : s < c.pl.rules 0) (hs2 : s < A) (σ : Int32) (n : Nat) : m_X1_pricesBehind_L6 N (mk c d D) (n + 1) 80 σ (nI m) (nI s) = m_X1_pricesBehind_L6 N (mk c d D) n 80 (σ + nI (pj j0)) (nI (m ||| 2 ^ j0)) (nI (s + 1)) := by
  have z0 : aI 0 (mk c d D) 13 0 = some (nI (c.pl.rules 0)) := ya_13 (i := 0) (by omega)
  conv => lhs; unfold m_X1_pricesBehind_L6
  rw [yr_80_0, Option.bind_some, yr_11_2, Option.bind_some, z0, Option.bind_some, if_neg (by rw [nI_leI (by omega) (by omega)]; omega), yr_80_5, Option.bind_some, hda, if_neg (by rw [nI_leI (by omega) (by omega)]; omega)]
  exact xb33 hA hda hp hm j1 j2 j3 σ N 0 (-1) (by omega) (by omega) (Or.inl ⟨by omega, Or.inl rfl⟩)
theorem xb6_done {A m s : Nat} (h0 : c.pl.rules 0 ≤ 30) (hA : A ≤ 20) (hda : c.dasked = A) (hs3 : s ≤ 30) (hs : c.pl.rules 0 ≤ s ∨ A ≤ s) (σ : Int32) (n : Nat) : m_X1_pricesBehind_L6 N (mk c d D) (n + 1) 80 σ (nI m) (nI s) = some σ := by
  have z0 : aI 0 (mk c d D) 13 0 = some (nI (c.pl.rules 0)) := ya_13 (i := 0) (by omega)
  unfold m_X1_pricesBehind_L6
  rw [yr_80_0, Option.bind_some, yr_11_2, Option.bind_some, z0, Option.bind_some]
  by_cases z : c.pl.rules 0 ≤ s
  · rw [if_pos ((nI_leI (by omega) (by omega)).mpr z)]
  · rw [if_neg (fun y => z ((nI_leI (by omega) (by omega)).mp y)), yr_80_5, Option.bind_some, hda, if_pos ((nI_leI (by omega) (by omega)).mpr (by omega))]
end

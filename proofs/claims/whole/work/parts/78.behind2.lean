-- the prices behind: the reference, and replay
def BI (R : Nat → Int32 → Nat → Nat → Option Int32) (S A : Nat) (pj : Nat → Nat) (V : Option Int32) (v r : Nat) (σ : Int32) (s : Nat) : Prop := ∃ n m, R (n + 1) σ m s = V ∧ A < n + 1 + s ∧ m < 2 ^ 20 ∧ s = cnm m A ∧ s ≤ S ∧ (s < S → ∀ j, j < A → (gb m j = 1 ↔ (v < pj j ∨ (pj j = v ∧ j < r))))
theorem rqA_mono {b : Nat → Nat} {q : Nat} : ∀ k, rqA b q ≤ rqA b (q + k)
  | 0 => Nat.le_refl _
  | k + 1 => by
    have := rqA_mono (b := b) (q := q) k
    show _ ≤ rqA b (q + k) + _
    omega
section
variable {c c2 : CS} {d d0 : MS} {D : mM} {N k : Nat} {a : Int32} {P : PL}
theorem y26 (hN : 100 ≤ N) (hP : PR P d.now) {b : Nat → Nat} {T : Nat} (hT : T ≤ 20) (hb : ∀ q, q < T → b q ≤ 127) (hv : ∀ q, q < T → vF P.n (b q)) (htp : ∀ q, q < T → d.tape q = nI (b q)) {R : Nat → Int32 → Nat → Nat → Option Int32} {S : Nat} (hS : S ≤ 30) {pj : Nat → Nat} (hpj : ∀ q, q < T → b q ≠ 45 → pj (rqA b q) = P.price (b q - 97)) (hR : ∀ (m s j0 : Nat) (σ : Int32) (n : Nat), m < 2 ^ 20 → j0 < rqA b T → gb m j0 = 0 → (∀ j, j < rqA b T → gb m j = 0 → pj j ≤ pj j0 ∧ (pj j = pj j0 → j0 ≤ j)) → s < S → s < rqA b T → R (n + 1) σ m s = R n (σ + nI (pj j0)) (m ||| 2 ^ j0) (s + 1)) {V : Option Int32} {v : Nat} (hv9 : v ≤ 9999) {k14 : Nat → Int32 → Int32 → Int32 → Int32 → Option Int32} : ∀ (n i s : Nat) (σ : Int32), i ≤ T → T - i < n → BI R S (rqA b T) pj V v (rqA b i) σ s → ∃ (σ2 : Int32) (s2 : Nat), m_X12_behind_L26 N (mk c d D) k14 n 100 (nI T) σ (nI (S - s)) (nI v) (nI i) = k14 100 (nI T) σ2 (nI (S - s2)) (nI v + -1) ∧ BI R S (rqA b T) pj V v (rqA b T) σ2 s2 := by
  intro n
  induction n with
  | zero => intro i s σ _ h; omega
  | succ n ih =>
    intro i s σ hi hn hB
    have hn6 := hP.n
    unfold m_X12_behind_L26
    by_cases e : i = T
    · subst e
      exact ⟨σ, s, if_pos (nI_le (by omega) (by omega)), hB⟩
    · have hbi := hb i (by omega)
      have AT := rqA_le (b := b) T
      rw [if_neg (by rw [nI_leI (by omega) (by omega)]; omega), yr_100_4, Option.bind_some, ya_103 (by omega), Option.bind_some, htp i (by omega)]
      unfold m_X12_behind_J78
      rw [nI_1]
      by_cases b45 : b i = 45
      · have e3 : rqA b (i + 1) = rqA b i := by show rqA b i + (if b i = 45 then 0 else 1) = _; rw [if_pos b45, Nat.add_zero]
        rw [if_pos (by rw [b45]; rfl)]
        exact ih (i + 1) s σ (by omega) (by omega) (by rw [e3]; exact hB)
      · have e3 : rqA b (i + 1) = rqA b i + 1 := by show rqA b i + (if b i = 45 then 0 else 1) = _; rw [if_neg b45]
        obtain ⟨v1, v2⟩ := (hv i (by omega)).resolve_left b45
        have hpp := hP.p (i := b i - 97) (by omega)
        have hpr := hpj i (by omega) b45
        have mono := rqA_mono (b := b) (q := i + 1) (T - (i + 1))
        rw [show i + 1 + (T - (i + 1)) = T by omega] at mono
        rw [if_neg (by rw [show (45 : Int32) = nI 45 from rfl, nI_eq (by omega) (by omega)]; exact b45), Option.bind_some, ya_103 (by omega), Option.bind_some, htp i (by omega), yo_100, Option.bind_some, sub97n v1, yprice hP (by omega), Option.bind_some]
        obtain ⟨n1, m, r1, r2, r3, r4, r5, r6⟩ := hB
        by_cases pv : P.price (b i - 97) = v
        · rw [if_pos ((nI_eq (by omega) (by omega)).mpr pv)]
          by_cases z : S - s = 0
          · rw [if_pos (by rw [z]; rfl)]
            exact ih (i + 1) s σ (by omega) (by omega) ⟨n1, m, r1, r2, r3, r4, r5, fun h => by omega⟩
          · rw [if_neg (by rw [show (0 : Int32) = nI 0 from rfl, nI_eq (by omega) (by omega)]; exact z)]
            have r6 := r6 (by omega)
            have g0 : gb m (rqA b i) = 0 := by
              have h1 := r6 (rqA b i) (by omega)
              have h2 := gb_lt (lg := m) (k := rqA b i)
              by_cases h3 : gb m (rqA b i) = 1
              · have := h1.mp h3; omega
              · omega
            have sA : s < rqA b T := by rw [r4]; exact cnm_lt g0 _ (by omega)
            have st := hR m s (rqA b i) σ n1 r3 (by omega) g0 (fun j hj hg => by
              have h1 := r6 j hj
              have h2 : ¬ (v < pj j ∨ (pj j = v ∧ j < rqA b i)) := fun h => by have := h1.mpr h; omega
              omega) (by omega) sA
            rw [hpr, pv] at st
            obtain ⟨n2, rfl⟩ : ∃ n2, n1 = n2 + 1 := ⟨n1 - 1, by omega⟩
            have em : nI (S - s) + -1 = nI (S - (s + 1)) := by
              rw [show S - s = (S - (s + 1)) + 1 by omega]
              exact pk_m1 _
            rw [em]
            refine ih (i + 1) (s + 1) (σ + nI v) (by omega) (by omega) ⟨n2, m ||| 2 ^ rqA b i, by rw [← st]; exact r1, by omega, Nat.or_lt_two_pow r3 (Nat.pow_lt_pow_right (by omega) (by omega)), by rw [cnm_or g0 _ (by omega), r4], by omega, fun h j hj => ?_⟩
            rw [gb_or, e3]
            by_cases e2 : j = rqA b i
            · subst e2
              rw [if_pos rfl]
              exact ⟨fun _ => Or.inr ⟨by omega, by omega⟩, fun _ => rfl⟩
            · rw [if_neg e2, r6 j hj]
              omega
        · rw [if_neg (fun y => pv ((nI_eq (by omega) (by omega)).mp y))]
          refine ih (i + 1) s σ (by omega) (by omega) ⟨n1, m, r1, r2, r3, r4, r5, fun h j hj => ?_⟩
          rw [r6 h j hj, e3]
          constructor
          · omega
          · intro x
            rcases x with x | ⟨x1, x2⟩
            · exact Or.inl x
            · by_cases e2 : j = rqA b i
              · subst e2; omega
              · exact Or.inr ⟨x1, by omega⟩
theorem y14 (hN : 100 ≤ N) (hP : PR P d.now) {b : Nat → Nat} {T : Nat} (hT : T ≤ 20) (hb : ∀ q, q < T → b q ≤ 127) (hv : ∀ q, q < T → vF P.n (b q)) (htp : ∀ q, q < T → d.tape q = nI (b q)) {R : Nat → Int32 → Nat → Nat → Option Int32} {S : Nat} (hS : S ≤ 30) {pj : Nat → Nat} (hpj : ∀ q, q < T → b q ≠ 45 → pj (rqA b q) = P.price (b q - 97)) (hp1 : ∀ j, j < rqA b T → 1 ≤ pj j) (hR : ∀ (m s j0 : Nat) (σ : Int32) (n : Nat), m < 2 ^ 20 → j0 < rqA b T → gb m j0 = 0 → (∀ j, j < rqA b T → gb m j = 0 → pj j ≤ pj j0 ∧ (pj j = pj j0 → j0 ≤ j)) → s < S → s < rqA b T → R (n + 1) σ m s = R n (σ + nI (pj j0)) (m ||| 2 ^ j0) (s + 1)) (hD : ∀ (m s : Nat) (σ : Int32) (n : Nat), s ≤ S → (S ≤ s ∨ rqA b T ≤ s) → R (n + 1) σ m s = some σ) {V : Option Int32} : ∀ (n v s : Nat) (σ : Int32), v ≤ 9999 → v < n → BI R S (rqA b T) pj V v 0 σ s → ∃ σ2, V = some σ2 ∧ m_X12_behind_L14 N (mk c d D) n 100 (nI T) σ (nI (S - s)) (nI v) = some σ2 := by
  intro n
  induction n with
  | zero => intro v s σ _ h; omega
  | succ n ih =>
    intro v s σ hv9 hn hB
    unfold m_X12_behind_L14
    by_cases v0 : v = 0
    · subst v0
      obtain ⟨n1, m, r1, r2, r3, r4, r5, r6⟩ := hB
      refine ⟨σ, ?_, if_pos (by decide)⟩
      rw [← r1]
      refine hD m s σ n1 r5 ?_
      by_cases z : s < S
      · right
        rw [r4, cnm_all _ (fun j hj => (r6 z j hj).mpr (Or.inl (hp1 j hj)))]
        exact Nat.le_refl _
      · left; omega
    · rw [if_neg (by rw [show (0 : Int32) = nI 0 from rfl, nI_leI (by omega) (by omega)]; omega)]
      by_cases z : S - s = 0
      · obtain ⟨n1, m, r1, r2, r3, r4, r5, r6⟩ := hB
        refine ⟨σ, ?_, if_pos (by rw [z]; decide)⟩
        rw [← r1]
        exact hD m s σ n1 r5 (by omega)
      · rw [if_neg (by rw [show (0 : Int32) = nI 0 from rfl, nI_leI (by omega) (by omega)]; omega)]
        obtain ⟨σ2, s2, q1, q2⟩ := y26 (c := c) (D := D) (k14 := m_X12_behind_L14 N (mk c d D) n) hN hP hT hb hv htp hS hpj hR hv9 N 0 s σ (by omega) (by omega) hB
        rw [show (0 : Int32) = nI 0 from rfl, q1]
        have em : nI v + -1 = nI (v - 1) := by
          obtain ⟨u, rfl⟩ : ∃ u, v = u + 1 := ⟨v - 1, by omega⟩
          exact pk_m1 u
        rw [em]
        obtain ⟨n1, m, r1, r2, r3, r4, r5, r6⟩ := q2
        exact ih (v - 1) s2 σ2 (by omega) (by omega) ⟨n1, m, r1, r2, r3, r4, r5, fun h j hj => by rw [r6 h j hj]; omega⟩
end

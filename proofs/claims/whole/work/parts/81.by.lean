-- the reference: a name against the one that is being read
section
variable {c : CS} {d : MS} {D : mM} {N k : Nat} {a : Int32} {P : PL}
theorem sub_I {l b : Nat} (hl : l < 128) (hb : b < 128) : (nI l - nI b).toInt = (l : Int) - b := by
  have : ∀ l, l < 128 → ∀ b, b < 128 → (nI l - nI b).toInt = (l : Int) - b := by decide +kernel
  exact this l hl b hb
theorem yby {i l0 l1 l2 lg pr wt b0 b1 b2 : Nat} (hN : 100 ≤ N) (hi : i < 12) (h : RN d.now i l0 l1 l2 lg pr wt) (r0 : d.read 0 = nI b0) (r1 : d.read 1 = nI b1) (r2 : d.read 2 = nI b2) (q0 : b0 ≤ 122) (q1 : b1 ≤ 122) (q2 : b2 ≤ 122) : ∃ x : Int32, m_X12_by N 100 (nI i) (mk c d D) = some x ∧ (x ≤ 0 ↔ nmN l0 l1 l2 ≤ nmN b0 b1 b2) ∧ (x = 0 ↔ nmN l0 l1 l2 = nmN b0 b1 b2) := by
  obtain ⟨M, rfl⟩ : ∃ M, N = M + 4 := ⟨N - 4, by omega⟩
  obtain ⟨a1, a2, a3, a4, a5, a6, a7⟩ := h.2.1
  obtain ⟨n0, n1, n2, _⟩ := h.1
  have al : ∀ q, q < 3 → aI 0 (mk c d D) 101 (50 + 6 * nI i + nI q) = some (d.now (50 + 6 * i + q)) := fun q hq => by
    rw [show (50 : Int32) = nI 50 from rfl, show (6 : Int32) = nI 6 from rfl, pk_mul, nI_add, nI_add, ya_101 (by omega)]
  have g0 : aI 0 (mk c d D) 101 (50 + 6 * nI i + 0) = some (nI l0) := (al 0 (by omega)).trans (by rw [Nat.add_zero, n0])
  have g1 : aI 0 (mk c d D) 101 (50 + 6 * nI i + (0 + 1)) = some (nI l1) := (al 1 (by omega)).trans (by rw [n1])
  have g2 : aI 0 (mk c d D) 101 (50 + 6 * nI i + (0 + 1 + 1)) = some (nI l2) := (al 2 (by omega)).trans (by rw [n2])
  have t0 : aI 0 (mk c d D) 118 0 = some (nI b0) := (ya_118 (i := 0) (by omega)).trans (by rw [r0])
  have t1 : aI 0 (mk c d D) 118 (0 + 1) = some (nI b1) := (ya_118 (i := 1) (by omega)).trans (by rw [r1])
  have t2 : aI 0 (mk c d D) 118 (0 + 1 + 1) = some (nI b2) := (ya_118 (i := 2) (by omega)).trans (by rw [r2])
  have st : ∀ n (v : Int32), m_X12_by_L2 (M + 4) (mk c d D) (n + 1) 100 (nI i) v = if 3 ≤ v then some 0 else (fR (mk c d D) 100 12 0).bind fun x1 => (aI 0 (mk c d D) x1 (50 + 6 * nI i + v)).bind fun x3 => (fR (mk c d D) 100 12 26).bind fun x5 => (aI 0 (mk c d D) x5 v).bind fun x7 => if x3 = x7 then m_X12_by_L2 (M + 4) (mk c d D) n 100 (nI i) (v + 1) else (fR (mk c d D) 100 12 0).bind fun x9 => (aI 0 (mk c d D) x9 (50 + 6 * nI i + v)).bind fun x11 => (fR (mk c d D) 100 12 26).bind fun x13 => (aI 0 (mk c d D) x13 v).bind fun x15 => some (x11 - x15) := fun n v => rfl
  have z0 : (0 : Int32).toInt = 0 := rfl
  have fin : ∀ l b : Nat, l ≤ 122 → b ≤ 122 → l ≠ b → (nI l - nI b ≤ 0 ↔ l < b) ∧ ¬ nI l - nI b = 0 := by
    intro l b h1 h2 h3
    have s := sub_I (l := l) (b := b) (by omega) (by omega)
    refine ⟨by rw [Int32.le_iff_toInt_le, s, z0]; omega, fun e => ?_⟩
    rw [e, z0] at s
    omega
  unfold m_X12_by nmN
  by_cases e0 : l0 = b0
  · by_cases e1 : l1 = b1
    · by_cases e2 : l2 = b2
      · refine ⟨0, ?_, by rw [e0, e1, e2]; exact ⟨fun _ => Nat.le_refl _, fun _ => by decide⟩, by rw [e0, e1, e2]; exact ⟨fun _ => rfl, fun _ => rfl⟩⟩
        rw [st, if_neg (by decide), yr_100_0, Option.bind_some, g0, Option.bind_some, yr_100_26, Option.bind_some, t0, Option.bind_some, e0, if_pos rfl, st, if_neg (by decide), yr_100_0, Option.bind_some, g1, Option.bind_some, yr_100_26, Option.bind_some, t1, Option.bind_some, e1, if_pos rfl, st, if_neg (by decide), yr_100_0, Option.bind_some, g2, Option.bind_some, yr_100_26, Option.bind_some, t2, Option.bind_some, e2, if_pos rfl, st, if_pos (by decide)]
      · obtain ⟨f1, f2⟩ := fin l2 b2 a4 q2 e2
        refine ⟨nI l2 - nI b2, ?_, f1.trans (by omega), ⟨fun e => absurd e f2, fun e => by omega⟩⟩
        rw [st, if_neg (by decide), yr_100_0, Option.bind_some, g0, Option.bind_some, yr_100_26, Option.bind_some, t0, Option.bind_some, e0, if_pos rfl, st, if_neg (by decide), yr_100_0, Option.bind_some, g1, Option.bind_some, yr_100_26, Option.bind_some, t1, Option.bind_some, e1, if_pos rfl, st, if_neg (by decide), yr_100_0, Option.bind_some, g2, Option.bind_some, yr_100_26, Option.bind_some, t2, Option.bind_some, if_neg (fun y => e2 ((nI_eq (by omega) (by omega)).mp y)), Option.bind_some, g2, Option.bind_some, Option.bind_some, t2, Option.bind_some]
    · obtain ⟨f1, f2⟩ := fin l1 b1 a3 q1 e1
      refine ⟨nI l1 - nI b1, ?_, f1.trans (by omega), ⟨fun e => absurd e f2, fun e => by omega⟩⟩
      rw [st, if_neg (by decide), yr_100_0, Option.bind_some, g0, Option.bind_some, yr_100_26, Option.bind_some, t0, Option.bind_some, e0, if_pos rfl, st, if_neg (by decide), yr_100_0, Option.bind_some, g1, Option.bind_some, yr_100_26, Option.bind_some, t1, Option.bind_some, if_neg (fun y => e1 ((nI_eq (by omega) (by omega)).mp y)), Option.bind_some, g1, Option.bind_some, Option.bind_some, t1, Option.bind_some]
  · obtain ⟨f1, f2⟩ := fin l0 b0 a2 q0 e0
    refine ⟨nI l0 - nI b0, ?_, f1.trans (by omega), ⟨fun e => absurd e f2, fun e => by omega⟩⟩
    rw [st, if_neg (by decide), yr_100_0, Option.bind_some, g0, Option.bind_some, yr_100_26, Option.bind_some, t0, Option.bind_some, if_neg (fun y => e0 ((nI_eq (by omega) (by omega)).mp y)), Option.bind_some, g0, Option.bind_some, Option.bind_some, t0, Option.bind_some]
end

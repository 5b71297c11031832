-- the relation of the class's plan and the reference's numbers
structure PR (P : PL) (now : Nat → Int32) : Prop where
  n : P.n ≤ 6
  n_ : now 0 = nI P.n
  r0 : P.rules 0 ≤ 30
  r1 : P.rules 1 ≤ 50
  r2 : P.rules 2 ≤ 50
  r3 : P.rules 3 ≤ 9999
  r_ : ∀ i, i < 4 → now (1 + i) = nI (P.rules i)
  rc : P.rc ≤ 12
  rc_ : now 5 = nI P.rc
  k : ∀ i, i < 6 → P.kind i < 4
  k_ : ∀ i, i < 6 → now (6 + i) = nI (P.kind i)
  p : ∀ i, i < 6 → P.price i ≤ 9999
  p_ : ∀ i, i < 6 → now (12 + i) = nI (P.price i)
  h : ∀ i, i < 6 → P.hand i ≤ 30
  h_ : ∀ i, i < 6 → now (122 + i) = nI (P.hand i)
  o : ∀ i, i < 6 → ∀ j, j < 4 → P.odds i j ≤ 100
  o_ : ∀ i, i < 6 → ∀ j, j < 4 → now (18 + 4 * i + j) = nI (P.odds i j)
  l : ∀ i, i < 4 → 1 ≤ P.len i ∧ P.len i ≤ 9999
  l_ : ∀ i, i < 4 → now (42 + i) = nI (P.len i)
  f : ∀ i, i < 4 → P.free i ≤ 99
  f_ : ∀ i, i < 4 → now (46 + i) = nI (P.free i)
  s_ : now 128 = P.seed
theorem zk_in {k : Nat} (h : k < 4) : zKinds (nI k) = some k := by
  unfold zKinds
  rw [if_neg (vp_in_nI h (by decide)), nI_clamp (by omega)]

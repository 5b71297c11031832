-- the relation of the class's data and the reference's
def bdR (i : Nat) : Nat := if i = 0 then 30 else if i = 3 then 9999 else 50
def osum (o : Nat → Nat → Nat) (j : Nat) : Nat → Nat
  | 0 => 0
  | n + 1 => osum o j n + o n j
theorem osum_congr {o o2 : Nat → Nat → Nat} {j : Nat} : ∀ n : Nat, (∀ i, i < n → o i j = o2 i j) → osum o j n = osum o2 j n
  | 0, _ => rfl
  | n + 1, h => by
    unfold osum
    rw [osum_congr n (fun i hi => h i (by omega)), h n (by omega)]
def PR (P : PL) (now : Nat → Int32) : Prop :=
  (P.n ≤ 6 ∧ now 0 = nI P.n) ∧
  (∀ i, i < 4 → P.rules i ≤ bdR i ∧ now (1 + i) = nI (P.rules i)) ∧
  (P.rc ≤ 12 ∧ now 5 = nI P.rc) ∧
  (∀ i, i < 6 → P.kind i < 4 ∧ now (6 + i) = nI (P.kind i)) ∧
  (∀ i, i < 6 → P.price i ≤ 9999 ∧ now (12 + i) = nI (P.price i)) ∧
  (∀ i, i < 6 → P.hand i ≤ 30 ∧ now (122 + i) = nI (P.hand i)) ∧
  (∀ i, i < 6 → ∀ j, j < 4 → P.odds i j ≤ 100 ∧ now (18 + 4 * i + j) = nI (P.odds i j)) ∧
  (∀ i, i < 4 → (1 ≤ P.len i ∧ P.len i ≤ 9999) ∧ now (42 + i) = nI (P.len i)) ∧
  (∀ i, i < 4 → P.free i ≤ 99 ∧ now (46 + i) = nI (P.free i)) ∧
  now 128 = P.seed ∧
  (∀ i, i < P.n → 1 ≤ P.price i) ∧
  (∀ j, j < 4 → osum P.odds j P.n ≤ 100)
section
variable {P : PL} {now : Nat → Int32}
theorem PR.n (h : PR P now) : P.n ≤ 6 := h.1.1
theorem PR.n_ (h : PR P now) : now 0 = nI P.n := h.1.2
theorem PR.r (h : PR P now) {i : Nat} (hi : i < 4) : P.rules i ≤ bdR i := (h.2.1 i hi).1
theorem PR.r_ (h : PR P now) {i : Nat} (hi : i < 4) : now (1 + i) = nI (P.rules i) := (h.2.1 i hi).2
theorem PR.r0 (h : PR P now) : P.rules 0 ≤ 30 := h.r (i := 0) (by decide)
theorem PR.r1 (h : PR P now) : P.rules 1 ≤ 50 := h.r (i := 1) (by decide)
theorem PR.r2 (h : PR P now) : P.rules 2 ≤ 50 := h.r (i := 2) (by decide)
theorem PR.r3 (h : PR P now) : P.rules 3 ≤ 9999 := h.r (i := 3) (by decide)
theorem PR.r0_ (h : PR P now) : now 1 = nI (P.rules 0) := h.r_ (i := 0) (by decide)
theorem PR.r1_ (h : PR P now) : now 2 = nI (P.rules 1) := h.r_ (i := 1) (by decide)
theorem PR.r2_ (h : PR P now) : now 3 = nI (P.rules 2) := h.r_ (i := 2) (by decide)
theorem PR.r3_ (h : PR P now) : now 4 = nI (P.rules 3) := h.r_ (i := 3) (by decide)
theorem PR.rc (h : PR P now) : P.rc ≤ 12 := h.2.2.1.1
theorem PR.rc_ (h : PR P now) : now 5 = nI P.rc := h.2.2.1.2
theorem PR.k (h : PR P now) {i : Nat} (hi : i < 6) : P.kind i < 4 := (h.2.2.2.1 i hi).1
theorem PR.k_ (h : PR P now) {i : Nat} (hi : i < 6) : now (6 + i) = nI (P.kind i) := (h.2.2.2.1 i hi).2
theorem PR.p (h : PR P now) {i : Nat} (hi : i < 6) : P.price i ≤ 9999 := (h.2.2.2.2.1 i hi).1
theorem PR.p_ (h : PR P now) {i : Nat} (hi : i < 6) : now (12 + i) = nI (P.price i) := (h.2.2.2.2.1 i hi).2
theorem PR.h (h : PR P now) {i : Nat} (hi : i < 6) : P.hand i ≤ 30 := (h.2.2.2.2.2.1 i hi).1
theorem PR.h_ (h : PR P now) {i : Nat} (hi : i < 6) : now (122 + i) = nI (P.hand i) := (h.2.2.2.2.2.1 i hi).2
theorem PR.o (h : PR P now) {i j : Nat} (hi : i < 6) (hj : j < 4) : P.odds i j ≤ 100 := (h.2.2.2.2.2.2.1 i hi j hj).1
theorem PR.o_ (h : PR P now) {i j : Nat} (hi : i < 6) (hj : j < 4) : now (18 + 4 * i + j) = nI (P.odds i j) := (h.2.2.2.2.2.2.1 i hi j hj).2
theorem PR.l (h : PR P now) {i : Nat} (hi : i < 4) : 1 ≤ P.len i ∧ P.len i ≤ 9999 := (h.2.2.2.2.2.2.2.1 i hi).1
theorem PR.l_ (h : PR P now) {i : Nat} (hi : i < 4) : now (42 + i) = nI (P.len i) := (h.2.2.2.2.2.2.2.1 i hi).2
theorem PR.f (h : PR P now) {i : Nat} (hi : i < 4) : P.free i ≤ 99 := (h.2.2.2.2.2.2.2.2.1 i hi).1
theorem PR.f_ (h : PR P now) {i : Nat} (hi : i < 4) : now (46 + i) = nI (P.free i) := (h.2.2.2.2.2.2.2.2.1 i hi).2
theorem PR.s_ (h : PR P now) : now 128 = P.seed := h.2.2.2.2.2.2.2.2.2.1
theorem PR.pp (h : PR P now) {i : Nat} (hi : i < P.n) : 1 ≤ P.price i := h.2.2.2.2.2.2.2.2.2.2.1 i hi
theorem PR.os (h : PR P now) {j : Nat} (hj : j < 4) : osum P.odds j P.n ≤ 100 := h.2.2.2.2.2.2.2.2.2.2.2 j hj
end
/-- a plan keeps the relation, where both its own numbers and the reference's are like those of another that has it -/
theorem PR.like {P Q : PL} {now now2 : Nat → Int32} (h : PR P now) (h1 : Q.n = P.n ∧ Q.rules = P.rules ∧ Q.rc = P.rc ∧ Q.kind = P.kind ∧ Q.price = P.price ∧ Q.hand = P.hand ∧ Q.odds = P.odds ∧ Q.len = P.len ∧ Q.free = P.free ∧ Q.seed = P.seed) (h2 : ∀ z, z < 50 ∨ 122 ≤ z ∧ z < 129 → now2 z = now z) : PR Q now2 := by
  obtain ⟨a1, a2, a3, a4, a5, a6, a7, a8, a9, a10⟩ := h1
  unfold PR
  rw [a1, a2, a3, a4, a5, a6, a7, a8, a9, a10]
  refine ⟨⟨h.n, by rw [h2 0 (by omega)]; exact h.n_⟩, fun i hi => ⟨h.r hi, by rw [h2 _ (by omega)]; exact h.r_ hi⟩, ⟨h.rc, by rw [h2 _ (by omega)]; exact h.rc_⟩, fun i hi => ⟨h.k hi, by rw [h2 _ (by omega)]; exact h.k_ hi⟩, fun i hi => ⟨h.p hi, by rw [h2 _ (by omega)]; exact h.p_ hi⟩, fun i hi => ⟨h.h hi, by rw [h2 _ (by omega)]; exact h.h_ hi⟩, fun i hi j hj => ⟨h.o hi hj, by rw [h2 _ (by omega)]; exact h.o_ hi hj⟩, fun i hi => ⟨h.l hi, by rw [h2 _ (by omega)]; exact h.l_ hi⟩, fun i hi => ⟨h.f hi, by rw [h2 _ (by omega)]; exact h.f_ hi⟩, by rw [h2 _ (by omega)]; exact h.s_, fun i hi => h.pp hi, fun j hj => h.os hj⟩
/-- a route of the reference: its letters, legs, price, wanted as naturals -/
def RN (now : Nat → Int32) (i l0 l1 l2 lg pr wt : Nat) : Prop :=
  (now (50 + 6 * i) = nI l0 ∧ now (50 + 6 * i + 1) = nI l1 ∧ now (50 + 6 * i + 2) = nI l2 ∧ now (50 + 6 * i + 3) = nI lg ∧ now (50 + 6 * i + 4) = nI pr ∧ now (50 + 6 * i + 5) = nI wt) ∧
  (97 ≤ l0 ∧ l0 ≤ 122 ∧ l1 ≤ 122 ∧ l2 ≤ 122 ∧ (l1 = 0 → l2 = 0) ∧ (97 ≤ l1 ∨ l1 = 0) ∧ (97 ≤ l2 ∨ l2 = 0)) ∧ (1 ≤ lg ∧ lg ≤ 15) ∧ (1 ≤ pr ∧ pr ≤ 9999) ∧ wt ≤ 99
def nmN (l0 l1 l2 : Nat) : Nat := l0 * 65536 + l1 * 256 + l2
def cRt (nm lg pr wt : Nat) : mC := .inr (6, [.int (nI nm), .int (nI lg), .int (nI pr), .int (nI wt)])
/-- the routes of a plan: objects made later (cells 120 and on) -/
def RO (P : PL) (now : Nat → Int32) (D : mM) : Prop :=
  (∀ i, i < 12 → P.rts i = none ∨ ∃ j nm lg pr wt, P.rts i = some (j + 120) ∧ D[j]? = some (cRt nm lg pr wt)) ∧
  (∀ i, i < P.rc → ∃ j l0 l1 l2 lg pr wt, P.rts i = some (j + 120) ∧ D[j]? = some (cRt (nmN l0 l1 l2) lg pr wt) ∧ RN now i l0 l1 l2 lg pr wt) ∧
  (∀ i, i + 1 < P.rc → ∀ l0 l1 l2 lg pr wt k0 k1 k2 mg qr xt, RN now i l0 l1 l2 lg pr wt → RN now (i + 1) k0 k1 k2 mg qr xt → nmN l0 l1 l2 < nmN k0 k1 k2)
theorem RN.like {now now2 : Nat → Int32} {i l0 l1 l2 lg pr wt : Nat} (h : RN now i l0 l1 l2 lg pr wt) (e : ∀ z, z < 6 → now2 (50 + 6 * i + z) = now (50 + 6 * i + z)) : RN now2 i l0 l1 l2 lg pr wt := by
  unfold RN at h ⊢
  rw [e 1 (by omega), e 2 (by omega), e 3 (by omega), e 4 (by omega), e 5 (by omega)]
  have := e 0 (by omega)
  simp only [Nat.add_zero] at this
  rw [this]
  exact h
theorem RO.like {P Q : PL} {now now2 : Nat → Int32} {D : mM} (h : RO P now D) (h1 : Q.rc = P.rc ∧ Q.rts = P.rts) (hr : P.rc ≤ 12) (e : ∀ z, 50 ≤ z → z < 122 → now2 z = now z) : RO Q now2 D := by
  obtain ⟨a1, a2⟩ := h1
  unfold RO
  rw [a1, a2]
  refine ⟨h.1, fun i hi => ?_, fun i hi l0 l1 l2 lg pr wt k0 k1 k2 mg qr xt x y => ?_⟩
  · obtain ⟨j, l0, l1, l2, lg, pr, wt, x, y, z⟩ := h.2.1 i hi
    exact ⟨j, l0, l1, l2, lg, pr, wt, x, y, z.like fun z hz => e _ (by omega) (by omega)⟩
  · exact h.2.2 i hi l0 l1 l2 lg pr wt k0 k1 k2 mg qr xt (x.like fun z hz => (e _ (by omega) (by omega)).symm) (y.like fun z hz => (e _ (by omega) (by omega)).symm)
/-- the image -/
def IM (c : CS) (d : MS) (D : mM) : Prop := (c.pictured = 0 ∧ d.hasImage = 0) ∨ (c.pictured = 1 ∧ d.hasImage = 1 ∧ PR c.pic d.kept ∧ RO c.pic d.kept D)
/-- the tape -/
def TP (c : CS) (d : MS) : Prop := c.tsize ≤ 120 ∧ d.taped = nI c.tsize ∧ ∀ i, i < c.tsize → ∃ b, 1 ≤ b ∧ b ≤ 127 ∧ c.tb i = nI b ∧ d.tape i = nI b
/-- the page: the array of its bytes -/
def PA (c : CS) (D : mM) (n : Nat) (f : Nat → Int32) : Prop := (c.pgv = 84 ∧ n = 16 ∧ f = c.pg0) ∨ (∃ j, c.pgv = j + 120 ∧ D[j]? = some (.inl (4, n, .inl f)))
def PG (c : CS) (d : MS) (D : mM) : Prop := c.pgcd = 0 ∧ c.pgc ≤ 250 ∧ d.written = nI c.pgc ∧ ∃ n f, PA c D n f ∧ c.pgc ≤ n ∧ n ≤ 502 ∧ (∀ i, i < c.pgc → ∃ b, b ≤ 127 ∧ f i = nI b ∧ d.paper i = nI b) ∧ (n = 16 ∨ n = 34 ∨ n = 70 ∨ n = 142 ∨ n = 286) ∧ ∀ i, i < n → ∃ b, b ≤ 127 ∧ f i = nI b
/-- the trays -/
def TR (c : CS) (d : MS) : Prop := ∀ i, i < 4 → (c.tsz i = -11 ∧ d.trayKind i = -1) ∨ (∃ n, n ≤ 20 ∧ c.tsz i = nI n ∧ d.traySize i = nI n ∧ c.tk i < 4 ∧ d.trayKind i = nI (c.tk i) ∧ ∀ j, j < 20 → c.tpl i j = d.laid (20 * i + j))
/-- the lists -/
def LI (c : CS) (d : MS) : Prop := ∀ i, i < 4 → (c.ls i = -11 ∧ d.listSize i = -1) ∨ (∃ n, n ≤ 31 ∧ c.ls i = nI n ∧ d.listSize i = nI n ∧ ∀ j, j < 31 → c.li i j = d.items (31 * i + j))

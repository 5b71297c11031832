-- the book: all routes, both sides
section
variable {c c0 : CS} {d d0 : MS} {D DD : mM} {N k : Nat} {a : Int32} {P : PL}
theorem mk_app {E : mM} : mk c d D ++ E = mk c d (D ++ E) := rfl
theorem mk_len : (mk c d D).length = D.length + 120 := rfl
theorem sV_new {M : mM} {x0 x1 x2 x3 v : Value} : sV (M ++ [.inr (6, [x0, x1, x2, x3])]) M.length 6 0 v = some (M ++ [.inr (6, [v, x1, x2, x3])]) ∧ sV (M ++ [.inr (6, [x0, x1, x2, x3])]) M.length 6 1 v = some (M ++ [.inr (6, [x0, v, x2, x3])]) ∧ sV (M ++ [.inr (6, [x0, x1, x2, x3])]) M.length 6 2 v = some (M ++ [.inr (6, [x0, x1, v, x3])]) ∧ sV (M ++ [.inr (6, [x0, x1, x2, x3])]) M.length 6 3 v = some (M ++ [.inr (6, [x0, x1, x2, v])]) := by
  have h : (M ++ [(.inr (6, [x0, x1, x2, x3]) : mC)])[M.length]? = some (.inr (6, [x0, x1, x2, x3])) := by
    rw [List.getElem?_append_right (Nat.le_refl _), Nat.sub_self]
    rfl
  have s : ∀ y : mC, (M ++ [(.inr (6, [x0, x1, x2, x3]) : mC)]).set M.length y = M ++ [y] := fun y => by
    rw [List.set_append_right _ _ (Nat.le_refl _), Nat.sub_self]
    rfl
  unfold sV
  rw [h]
  refine ⟨?_, ?_, ?_, ?_⟩
  all_goals
    simp only [Option.bind_some]
    exact (congrArg some (s _))
theorem xnewR {M : mM} {x y z w : Int32} : m_X6_init M.length x y z w (M ++ [.inr (6, [.int 0, .int 0, .int 0, .int 0])]) = some (M ++ [.inr (6, [.int x, .int y, .int z, .int w])]) := by
  unfold m_X6_init
  rw [sV_new.1, Option.bind_some, sV_new.2.1, Option.bind_some, sV_new.2.2.1, Option.bind_some, sV_new.2.2.2, Option.bind_some]
/-- one step of both sides: the class's object, the reference's words -/
def Step (D : mM) (tr : Nat → Option Nat) (r q : Nat) (n1 n2 : Nat → Int32) : Prop := r + q ≤ 11 ∧ ∃ jn b0 b1 b2 lg pr wt rd, tr q = some (jn + 120) ∧ D[jn]? = some (cRt (nmN b0 b1 b2) lg pr wt) ∧ ((97 ≤ b0 ∧ b0 ≤ 122 ∧ b1 ≤ 122 ∧ b2 ≤ 122 ∧ (b1 = 0 → b2 = 0) ∧ (97 ≤ b1 ∨ b1 = 0) ∧ (97 ≤ b2 ∨ b2 = 0)) ∧ (1 ≤ lg ∧ lg ≤ 15) ∧ (1 ≤ pr ∧ pr ≤ 9999) ∧ wt ≤ 99) ∧ (∀ z, z < r + q → nmR n1 z ≠ nmN b0 b1 b2) ∧ (rd 0 = nI b0 ∧ rd 1 = nI b1 ∧ rd 2 = nI b2 ∧ rd 3 = nI lg ∧ rd 4 = nI pr ∧ rd 5 = nI wt) ∧ insN n1 n2 rd (nmN b0 b1 b2) (r + q)
theorem Step.ext {D2 : mM} {tr tr2 : Nat → Option Nat} {r q : Nat} {n1 n2 : Nat → Int32} (h : Step D tr r q n1 n2) (hD : DX D D2) (ht : tr2 q = tr q) : Step D2 tr2 r q n1 n2 := by
  obtain ⟨h0, jn, b0, b1, b2, lg, pr, wt, rd, h1, h2, h3⟩ := h
  exact ⟨h0, jn, b0, b1, b2, lg, pr, wt, rd, ht.trans h1, hD _ _ h2, h3⟩
theorem Step.go {tr : Nat → Option Nat} {r q : Nat} {n1 n2 : Nat → Int32} (h : Step D tr r q n1 n2) (hP : PR P n1) (hR : RO P n1 D) (hr : P.rc = r + q) : ∃ jn nm lg pr wt, tr q = some (jn + 120) ∧ D[jn]? = some (cRt nm lg pr wt) ∧ nm < 2 ^ 24 ∧ ∀ f : Nat → Option Nat, (∀ z, z < 12 → f z = if z < posR n1 nm P.rc then P.rts z else if z = posR n1 nm P.rc then some (jn + 120) else if z ≤ P.rc then P.rts (z - 1) else P.rts z) → PR ((P.s_rts f).s_rc (P.rc + 1)) n2 ∧ RO ((P.s_rts f).s_rc (P.rc + 1)) n2 D := by
  obtain ⟨h0, jn, b0, b1, b2, lg, pr, wt, rd, h1, h2, h3, h4, h5, h6⟩ := h
  rw [← hr] at h4 h6
  refine ⟨jn, nmN b0 b1 b2, lg, pr, wt, h1, h2, ?_, fun f hf => ?_⟩
  · unfold nmN
    omega
  · exact ins_rel hP hR (by omega) h2 h5 h3 h4 hf h6.1 h6.2
theorem insN_names {n1 n2 rd : Nat → Int32} {b0 b1 b2 r : Nat} (h : insN n1 n2 rd (nmN b0 b1 b2) r) (hr : r ≤ 11) (q0 : b0 ≤ 122) (q1 : b1 ≤ 122) (q2 : b2 ≤ 122) (r0 : rd 0 = nI b0) (r1 : rd 1 = nI b1) (r2 : rd 2 = nI b2) (v : Nat) : (∃ q, q < r + 1 ∧ nmR n2 q = v) ↔ (∃ q, q < r ∧ nmR n1 q = v) ∨ nmN b0 b1 b2 = v := by
  obtain ⟨_, hn⟩ := h
  have pl := posR_le (now := n1) (nm := nmN b0 b1 b2) r
  generalize posR n1 (nmN b0 b1 b2) r = p at *
  have cl : ∀ i w, w < 6 → i < p → n2 (50 + 6 * i + w) = n1 (50 + 6 * i + w) := fun i w hw h => by rw [hn _ (by omega), if_neg (by omega), if_neg (by omega)]
  have ch : ∀ i w, w < 6 → p < i → i ≤ r → n2 (50 + 6 * i + w) = n1 (50 + 6 * (i - 1) + w) := fun i w hw h h2 => by rw [hn _ (by omega), if_neg (by omega), if_pos (by omega), show 50 + 6 * i + w - 6 = 50 + 6 * (i - 1) + w by omega]
  have cm : ∀ w, w < 6 → n2 (50 + 6 * p + w) = rd w := fun w hw => by rw [hn _ (by omega), if_pos (by omega), Nat.add_sub_cancel_left]
  have nm3 : ∀ i j, (∀ w, w < 6 → n2 (50 + 6 * i + w) = n1 (50 + 6 * j + w)) → nmR n2 i = nmR n1 j := fun i j h => by
    have h0 := h 0 (by omega)
    simp only [Nat.add_zero] at h0
    unfold nmR
    rw [h0, h 1 (by omega), h 2 (by omega)]
  have nlo : ∀ i, i < p → nmR n2 i = nmR n1 i := fun i h => nm3 i i fun w hw => cl i w hw h
  have nhi : ∀ i, p < i → i ≤ r → nmR n2 i = nmR n1 (i - 1) := fun i h h2 => nm3 i (i - 1) fun w hw => ch i w hw h h2
  have nmid : nmR n2 p = nmN b0 b1 b2 := by
    have c0 := cm 0 (by omega)
    rw [Nat.add_zero] at c0
    unfold nmR
    rw [c0, cm 1 (by omega), cm 2 (by omega), r0, r1, r2, nI_cl (by omega), nI_cl (by omega), nI_cl (by omega)]
  refine ⟨fun ⟨q, h1, h2⟩ => ?_, fun h => ?_⟩
  · by_cases w : q < p
    · rw [nlo q w] at h2
      exact Or.inl ⟨q, by omega, h2⟩
    · by_cases w2 : q = p
      · rw [w2, nmid] at h2
        exact Or.inr h2
      · rw [nhi q (by omega) (by omega)] at h2
        exact Or.inl ⟨q - 1, by omega, h2⟩
  · rcases h with ⟨q, h1, h2⟩ | h
    · by_cases w : q < p
      · exact ⟨q, by omega, (nlo q w).trans h2⟩
      · refine ⟨q + 1, by omega, ?_⟩
        rw [nhi (q + 1) (by omega) (by omega), Nat.add_sub_cancel]
        exact h2
    · exact ⟨p, by omega, nmid.trans h⟩
/-- the class's data with other fields of what it reads -/
def cP (c : CS) (x1 : Nat → Option Nat) (x2 x3 : Nat) (x4 x5 x6 x7 : Int32) : CS := ((((((c.s_tread x1).s_tn x2).s_tat x3).s_tname x4).s_tlegs x5).s_tprice x6).s_twanted x7
def dP (d : MS) (y1 : Nat → Int32) (y2 y3 : Int32) (y4 : Nat → Int32) : MS := (((d.s_read y1).s_at_ y2).s_fault y3).s_now y4
/-- the words of a route that was read -/
def rdC (b0 b1 b2 lg pr wt : Nat) (z : Nat) : Int32 := if z = 0 then nI b0 else if z = 1 then nI b1 else if z = 2 then nI b2 else if z = 3 then nI lg else if z = 4 then nI pr else nI wt
def insG (now rd : Nat → Int32) (nm r z : Nat) : Int32 := if z = 5 then nI (r + 1) else if 50 + 6 * posR now nm r ≤ z ∧ z < 50 + 6 * posR now nm r + 6 then rd (z - (50 + 6 * posR now nm r)) else if 50 + 6 * posR now nm r + 6 ≤ z ∧ z < 50 + 6 * r + 6 then now (z - 6) else now z
theorem insG_N {now rd : Nat → Int32} {nm r : Nat} : insN now (insG now rd nm r) rd nm r := ⟨if_pos rfl, fun _ hz => if_neg hz⟩
theorem insN_G {now g rd : Nat → Int32} {nm r b0 b1 b2 lg pr wt : Nat} (h : insN now g rd nm r) (h0 : rd 0 = nI b0 ∧ rd 1 = nI b1 ∧ rd 2 = nI b2 ∧ rd 3 = nI lg ∧ rd 4 = nI pr ∧ rd 5 = nI wt) : g = insG now (rdC b0 b1 b2 lg pr wt) nm r := by
  have e : ∀ z, z < 6 → rd z = rdC b0 b1 b2 lg pr wt z := fun z hz => by
    obtain ⟨a0, a1, a2, a3, a4, a5⟩ := h0
    have : z = 0 ∨ z = 1 ∨ z = 2 ∨ z = 3 ∨ z = 4 ∨ z = 5 := by omega
    rcases this with rfl | rfl | rfl | rfl | rfl | rfl
    · exact a0
    · exact a1
    · exact a2
    · exact a3
    · exact a4
    · exact a5
  funext z
  unfold insG
  by_cases z5 : z = 5
  · rw [if_pos z5, z5]
    exact h.1
  · rw [if_neg z5, h.2 z z5]
    by_cases h1 : 50 + 6 * posR now nm r ≤ z ∧ z < 50 + 6 * posR now nm r + 6
    · rw [if_pos h1, if_pos h1, e _ (by omega)]
    · rw [if_neg h1, if_neg h1]
/-- both sides at the beginning of a route -/
def BKI (c : CS) (d : MS) (D : mM) (m i : Nat) (cm : CS) (E : mM) (ns : Nat → Nat → Int32) : Prop :=
  (∃ x1 x4 x5 x6 x7, cm = cP c x1 m i x4 x5 x6 x7) ∧ m ≤ 12 ∧ i ≤ 20 * m ∧ (∃ nq, RQ cm (D ++ E) nq ∧ ∀ v, (∃ q, q < c.pl.rc + m ∧ nmR (ns m) q = v) ↔ (∃ q, q < c.pl.rc ∧ nmR d.now q = v) ∨ (∃ q, q < m ∧ nq q = v)) ∧ (∃ P, PR P (ns m) ∧ RO P (ns m) (D ++ E) ∧ P.rc = c.pl.rc + m) ∧ ns 0 = d.now ∧ ∀ q, q < m → Step (D ++ E) cm.tread c.pl.rc q (ns q) (ns (q + 1))
end

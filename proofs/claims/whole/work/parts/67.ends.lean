-- the end of a route
def nmR (now : Nat → Int32) (i : Nat) : Nat := nmN (now (50 + 6 * i)).toNatClampNeg (now (50 + 6 * i + 1)).toNatClampNeg (now (50 + 6 * i + 2)).toNatClampNeg
theorem RN.nm {now : Nat → Int32} {i l0 l1 l2 lg pr wt : Nat} (h : RN now i l0 l1 l2 lg pr wt) : nmR now i = nmN l0 l1 l2 := by
  obtain ⟨a1, a2, a3, a4, a5, a6, a7⟩ := h.2.1
  unfold nmR
  rw [h.1.1, h.1.2.1, h.1.2.2.1, nI_cl (by omega), nI_cl (by omega), nI_cl (by omega)]
theorem RN.lt {now : Nat → Int32} {i l0 l1 l2 lg pr wt : Nat} (h : RN now i l0 l1 l2 lg pr wt) : nmR now i < 2 ^ 24 ∧ 2 ^ 16 ≤ nmR now i := by
  obtain ⟨a1, a2, a3, a4, a5, a6, a7⟩ := h.2.1
  rw [h.nm]
  unfold nmN
  omega
theorem RN.to {now now2 : Nat → Int32} {i j l0 l1 l2 lg pr wt : Nat} (h : RN now i l0 l1 l2 lg pr wt) (e : ∀ z, z < 6 → now2 (50 + 6 * j + z) = now (50 + 6 * i + z)) : RN now2 j l0 l1 l2 lg pr wt := by
  have e0 := e 0 (by omega)
  simp only [Nat.add_zero] at e0
  unfold RN at h ⊢
  rw [e0, e 1 (by omega), e 2 (by omega), e 3 (by omega), e 4 (by omega), e 5 (by omega)]
  exact h
theorem RO.inc {P : PL} {now : Nat → Int32} {D : mM} (h : RO P now D) : ∀ k i, i + k + 1 < P.rc → nmR now i < nmR now (i + k + 1)
  | 0, i, hi => by
    obtain ⟨_, l0, l1, l2, lg, pr, wt, _, _, x⟩ := h.2.1 i (by omega)
    obtain ⟨_, k0, k1, k2, mg, qr, xt, _, _, y⟩ := h.2.1 (i + 1) (by omega)
    have := h.2.2 i (by omega) _ _ _ _ _ _ _ _ _ _ _ _ x y
    rw [x.nm, y.nm]
    exact this
  | k + 1, i, hi => by
    have a := h.inc k i (by omega)
    obtain ⟨_, l0, l1, l2, lg, pr, wt, _, _, x⟩ := h.2.1 (i + k + 1) (by omega)
    obtain ⟨_, k0, k1, k2, mg, qr, xt, _, _, y⟩ := h.2.1 (i + k + 1 + 1) (by omega)
    have := h.2.2 (i + k + 1) (by omega) _ _ _ _ _ _ _ _ _ _ _ _ x y
    rw [← x.nm, ← y.nm] at this
    exact Nat.lt_trans a this
theorem RO.uniq {P : PL} {now : Nat → Int32} {D : mM} (h : RO P now D) {i j : Nat} (hi : i < P.rc) (hj : j < P.rc) (e : nmR now i = nmR now j) : i = j := by
  rcases Nat.lt_trichotomy i j with q | q | q
  · have := h.inc (j - i - 1) i (by omega)
    rw [show i + (j - i - 1) + 1 = j by omega] at this
    omega
  · exact q
  · have := h.inc (i - j - 1) j (by omega)
    rw [show j + (i - j - 1) + 1 = i by omega] at this
    omega
/-- a plan of other routes -/
theorem PR.u_routes {P : PL} {now now2 : Nat → Int32} (h : PR P now) {r : Nat} (hr : r ≤ 12) (f : Nat → Option Nat) (e5 : now2 5 = nI r) (e : ∀ z, z ≠ 5 → (z < 50 ∨ 122 ≤ z ∧ z < 129) → now2 z = now z) : PR ((P.s_rc r).s_rts f) now2 :=
  ⟨⟨h.n, by rw [e 0 (by omega) (by omega)]; exact h.n_⟩, fun i hi => ⟨h.r hi, by rw [e _ (by omega) (by omega)]; exact h.r_ hi⟩, ⟨hr, e5⟩, fun i hi => ⟨h.k hi, by rw [e _ (by omega) (by omega)]; exact h.k_ hi⟩, fun i hi => ⟨h.p hi, by rw [e _ (by omega) (by omega)]; exact h.p_ hi⟩, fun i hi => ⟨h.h hi, by rw [e _ (by omega) (by omega)]; exact h.h_ hi⟩, fun i hi j hj => ⟨h.o hi hj, by rw [e _ (by omega) (by omega)]; exact h.o_ hi hj⟩, fun i hi => ⟨h.l hi, by rw [e _ (by omega) (by omega)]; exact h.l_ hi⟩, fun i hi => ⟨h.f hi, by rw [e _ (by omega) (by omega)]; exact h.f_ hi⟩, by rw [e _ (by omega) (by omega)]; exact h.s_, fun i hi => h.pp hi, fun j hj => h.os hj⟩
-- a name out of letters
def nmP (f : Nat → Nat) : Nat → Nat
  | 0 => 0
  | m + 1 => nmP f m + f m * 2 ^ (8 * (2 - m))
theorem nmP_mod (f : Nat → Nat) : ∀ m, m < 3 → nmP f m % 2 ^ (8 * (3 - m)) = 0 := by
  intro m hm
  have : m = 0 ∨ m = 1 ∨ m = 2 := by omega
  rcases this with rfl | rfl | rfl
  · rfl
  · show (0 + f 0 * 2 ^ 16) % 2 ^ 16 = 0
    omega
  · show (0 + f 0 * 2 ^ 16 + f 1 * 2 ^ 8) % 2 ^ 8 = 0
    omega
theorem nmP_lt {f : Nat → Nat} (h : ∀ q, q < 3 → f q ≤ 127) : ∀ m, m ≤ 3 → nmP f m < 2 ^ 24 := by
  intro m hm
  have h0 := h 0 (by omega)
  have h1 := h 1 (by omega)
  have h2 := h 2 (by omega)
  have : m = 0 ∨ m = 1 ∨ m = 2 ∨ m = 3 := by omega
  rcases this with rfl | rfl | rfl | rfl
  · show 0 < 2 ^ 24; omega
  · show 0 + f 0 * 2 ^ 16 < 2 ^ 24; omega
  · show 0 + f 0 * 2 ^ 16 + f 1 * 2 ^ 8 < 2 ^ 24; omega
  · show 0 + f 0 * 2 ^ 16 + f 1 * 2 ^ 8 + f 2 * 2 ^ 0 < 2 ^ 24; omega
theorem letter_w {x b q : Nat} (hq : q < 3) (hx : x % 2 ^ (8 * (3 - q)) = 0) (hx2 : x < 2 ^ 24) (hb : b ≤ 127) : m_X6_withLetter (nI x) (nI q) (nI b) = some (nI (x + b * 2 ^ (8 * (2 - q)))) := by
  unfold m_X6_withLetter
  have : q = 0 ∨ q = 1 ∨ q = 2 := by omega
  have sh : ∀ s, s < 24 → nI b <<< (nI s &&& 31) = nI (b * 2 ^ s) := by
    intro s hs
    have : ∀ s, s < 24 → (nI s &&& 31).toBitVec.smod 32 = BitVec.ofNat 32 s := by decide +kernel
    refine Int32.toBitVec_inj.mp ?_
    rw [Int32.toBitVec_shiftLeft, this s hs]
    show BitVec.ofNat 32 b <<< BitVec.ofNat 32 s = BitVec.ofNat 32 (b * 2 ^ s)
    refine BitVec.eq_of_toNat_eq ?_
    rw [BitVec.shiftLeft_eq', BitVec.toNat_shiftLeft, BitVec.toNat_ofNat, BitVec.toNat_ofNat, BitVec.toNat_ofNat, Nat.mod_eq_of_lt (a := s) (by omega), Nat.mod_eq_of_lt (a := b) (by omega), Nat.shiftLeft_eq]
  rcases this with rfl | rfl | rfl
  · have hx : x % 2 ^ 24 = 0 := hx
    rw [show ((8 : Int32) * (2 - nI 0)) &&& 31 = nI 16 &&& 31 from by decide, sh 16 (by omega)]
    obtain rfl : x = 0 := by omega
    rw [show nI 0 = 0 from rfl, Int32.zero_or, Nat.zero_add]
  · have hx : x % 2 ^ 16 = 0 := hx
    rw [show ((8 : Int32) * (2 - nI 1)) &&& 31 = nI 8 &&& 31 from by decide, sh 8 (by omega)]
    have ex : x = 2 ^ 16 * (x / 2 ^ 16) := by omega
    rw [ex, nI_or (by omega)]
  · have hx : x % 2 ^ 8 = 0 := hx
    rw [show ((8 : Int32) * (2 - nI 2)) &&& 31 = nI 0 &&& 31 from by decide, sh 0 (by omega)]
    have ex : x = 2 ^ 8 * (x / 2 ^ 8) := by omega
    rw [ex, nI_or (by omega)]
def tbn (c : CS) (i : Nat) : Nat := if i < c.tsize then (c.tb i).toNatClampNeg else 0
theorem tb_of {c : CS} {d : MS} (h : TP c d) {i : Nat} (hi : i < c.tsize) : 1 ≤ tbn c i ∧ tbn c i ≤ 127 ∧ c.tb i = nI (tbn c i) ∧ d.tape i = nI (tbn c i) := by
  obtain ⟨b, b1, b2, b3, b4⟩ := h.2.2 i hi
  unfold tbn
  rw [if_pos hi, b3, nI_cl (by omega)]
  exact ⟨b1, b2, rfl, b4⟩
theorem tbn_le {c : CS} {d : MS} (h : TP c d) (i : Nat) : tbn c i ≤ 127 := by
  by_cases hi : i < c.tsize
  · exact (tb_of h hi).2.1
  · unfold tbn
    rw [if_neg hi]
    omega
/-- the name on the tape: 0 where it has too many letters -/
def tnm (c : CS) : Nat := if c.tsize ≤ 3 then nmN (tbn c 0) (tbn c 1) (tbn c 2) else 0
section
variable {c : CS} {d : MS} {D : mM} {N k : Nat} {a : Int32} {P : PL}
theorem xbyte_in {d0 : MS} (h : TP c d0) {i : Nat} (hi : i < c.tsize) : m_X7_byteAt 77 (nI i) (mk c d D) = some (nI (tbn c i)) := by
  have ht := h.1
  unfold m_X7_byteAt
  rw [if_neg (by rw [show (0 : Int32) = nI 0 from rfl, nI_ltI (by omega) (by omega)]; omega), yr_77_1, Option.bind_some, if_neg (by rw [nI_leI (by omega) (by omega)]; omega), yr_77_0, Option.bind_some, ya_78 (by omega), Option.bind_some, (tb_of h hi).2.2.1]
theorem xname_go (h : TP c d) (h3 : c.tsize ≤ 3) : ∀ n m : Nat, m ≤ c.tsize → c.tsize - m < n → m_X7_asName_L12 N (mk c d D) n 77 (nI (nmP (tbn c) m)) (nI m) = some (nI (nmP (tbn c) c.tsize)) := by
  intro n
  induction n with
  | zero => intro m _ h; omega
  | succ n ih =>
    intro m hm hn
    unfold m_X7_asName_L12
    by_cases e : m = c.tsize
    · subst e
      rw [yr_77_1, Option.bind_some, if_pos (nI_le (by omega) (by omega))]
    · rw [yr_77_1, Option.bind_some, if_neg (by rw [nI_leI (by omega) (by omega)]; omega), yo_77, Option.bind_some, xbyte_in h (by omega), Option.bind_some, letter_w (by omega) (nmP_mod _ _ (by omega)) (nmP_lt (fun q _ => tbn_le h q) _ (by omega)) (tbn_le h m), Option.bind_some, nI_1]
      exact ih (m + 1) (by omega) (by omega)
theorem xname (hN : 100 ≤ N) (h : TP c d) : m_X7_asName N 77 (mk c d D) = some (nI (tnm c)) := by
  have ht := h.1
  unfold m_X7_asName tnm
  by_cases h3 : c.tsize ≤ 3
  · have x := xname_go (D := D) (N := N) h h3 N 0 (by omega) (by omega)
    rw [yr_77_1, Option.bind_some, if_neg (by rw [show (3 : Int32) = nI 3 from rfl, nI_ltI (by omega) (by omega)]; omega), if_pos h3]
    refine x.trans ?_
    have z : ∀ i, ¬ i < c.tsize → tbn c i = 0 := fun i hi => by unfold tbn; rw [if_neg hi]
    have : c.tsize = 0 ∨ c.tsize = 1 ∨ c.tsize = 2 ∨ c.tsize = 3 := by omega
    have key : nmP (tbn c) c.tsize = nmN (tbn c 0) (tbn c 1) (tbn c 2) := by
      generalize hb : tbn c = b at z
      unfold nmN
      rcases this with e | e | e | e
      · rw [e, z 0 (by omega), z 1 (by omega), z 2 (by omega)]; rfl
      · rw [e, z 1 (by omega), z 2 (by omega)]
        show 0 + b 0 * 2 ^ 16 = b 0 * 65536 + 0 * 256 + 0
        omega
      · rw [e, z 2 (by omega)]
        show 0 + b 0 * 2 ^ 16 + b 1 * 2 ^ 8 = b 0 * 65536 + b 1 * 256 + 0
        omega
      · rw [e]
        show 0 + b 0 * 2 ^ 16 + b 1 * 2 ^ 8 + b 2 * 2 ^ 0 = b 0 * 65536 + b 1 * 256 + b 2
        omega
    rw [key]
  · rw [yr_77_1, Option.bind_some, if_pos (by rw [show (3 : Int32) = nI 3 from rfl, nI_ltI (by omega) (by omega)]; omega), if_neg h3]
    rfl
theorem xplace_go (hP : PR c.pl d.now) (hR : RO c.pl d.now D) {v : Nat} (hv : v < 2 ^ 24) : ∀ n i : Nat, i ≤ c.pl.rc → c.pl.rc - i < n → (∀ q, q < i → nmR d.now q ≠ v) → (∃ p, p < c.pl.rc ∧ nmR d.now p = v ∧ m_X4_placeOf_L2 N (mk c d D) n 14 (nI v) (nI i) = some (nI p)) ∨ ((∀ q, q < c.pl.rc → nmR d.now q ≠ v) ∧ m_X4_placeOf_L2 N (mk c d D) n 14 (nI v) (nI i) = some (-1)) := by
  intro n
  induction n with
  | zero => intro i _ h; omega
  | succ n ih =>
    intro i hi hn hq
    have hr := hP.rc
    unfold m_X4_placeOf_L2
    by_cases e : i = c.pl.rc
    · subst e
      refine Or.inr ⟨hq, ?_⟩
      rw [yr_14_3, Option.bind_some, if_pos (nI_le (by omega) (by omega))]
    · obtain ⟨j, l0, l1, l2, h1, h2, h3⟩ := hR.got (i := i) (by omega)
      have ar := ya_17r (d := d) (D := D) (by omega) h1
      have hl := h3.lt
      rw [yr_14_3, Option.bind_some, if_neg (by rw [nI_leI (by omega) (by omega)]; omega), yr_14_2, Option.bind_some, ar, Option.bind_some, yd_0 h2, Option.bind_some, ← h3.nm]
      by_cases z : nmR d.now i = v
      · exact Or.inl ⟨i, by omega, z, by rw [if_pos ((nI_eq (by omega) (by omega)).mpr z)]⟩
      · rw [if_neg (fun y => z ((nI_eq (by omega) (by omega)).mp y)), nI_1]
        exact ih (i + 1) (by omega) (by omega) (fun q h => by
          by_cases e2 : q = i
          · subst e2; exact z
          · exact hq q (by omega))
theorem xplace (hN : 100 ≤ N) (hP : PR c.pl d.now) (hR : RO c.pl d.now D) {v : Nat} (hv : v < 2 ^ 24) : (∃ p, p < c.pl.rc ∧ nmR d.now p = v ∧ m_X4_placeOf N 14 (nI v) (mk c d D) = some (nI p)) ∨ ((∀ q, q < c.pl.rc → nmR d.now q ≠ v) ∧ m_X4_placeOf N 14 (nI v) (mk c d D) = some (-1)) := by
  have hr := hP.rc
  exact xplace_go hP hR hv N 0 (by omega) (by omega) (fun q h => by omega)
theorem okR_of (hR : RO P d.now D) {i : Nat} (hi : i < 12) : okR D (P.rts i) := by
  rcases hR.1 i hi with h | ⟨j, nm, lg, pr, wt, h1, h2⟩
  · exact Or.inl h
  · exact Or.inr ⟨j, nm, lg, pr, wt, h1, h2⟩
theorem xremove_go : ∀ (n i : Nat) (c : CS), c.pl.rc ≤ 12 → i < c.pl.rc → c.pl.rc - i < n + 1 → (∀ q, q < 12 → okR D (c.pl.rts q)) → ∃ f : Nat → Option Nat, m_X4_remove_L2 N n 14 (nI i) (mk c d D) = some (mk (c.s_pl ((c.pl.s_rc (c.pl.rc - 1)).s_rts f)) d D) ∧ (∀ q, q < 12 → f q = if i ≤ q ∧ q + 1 < c.pl.rc then c.pl.rts (q + 1) else c.pl.rts q) := by
  intro n
  induction n with
  | zero => intro i c _ _ h; omega
  | succ n ih =>
    intro i c hr hi hn hok
    unfold m_X4_remove_L2
    by_cases e : i + 1 = c.pl.rc
    · refine ⟨c.pl.rts, ?_, fun q hq => by rw [if_neg (by omega)]⟩
      rw [yr_14_3, Option.bind_some, nI_1, if_pos (by rw [nI_leI (by omega) (by omega)]; omega), Option.bind_some, show (1 : Int32) = nI 1 from rfl, pk_sub (by omega), yw_14_3]
      rfl
    · have ok2 : ∀ q, q < 12 → okR D ((c.s_pl (c.pl.s_rts (va_up c.pl.rts i (c.pl.rts (i + 1))))).pl.rts q) := fun q hq => by
        show okR D (va_up c.pl.rts i (c.pl.rts (i + 1)) q)
        by_cases e2 : q = i
        · subst e2; rw [upe]; exact hok _ (by omega)
        · rw [upn e2]; exact hok q hq
      obtain ⟨f, f1, f2⟩ := ih (i + 1) (c.s_pl (c.pl.s_rts (va_up c.pl.rts i (c.pl.rts (i + 1))))) hr (by show i + 1 < c.pl.rc; omega) (by show c.pl.rc - (i + 1) < n + 1; omega) ok2
      refine ⟨f, ?_, fun q hq => ?_⟩
      · rw [yr_14_3, Option.bind_some, nI_1, if_neg (by rw [nI_leI (by omega) (by omega)]; omega), yr_14_2, Option.bind_some, Option.bind_some, ya_17 (by omega), Option.bind_some, yuQ_17 (by omega) (hok _ (by omega)), Option.bind_some]
        exact f1
      · rw [f2 q hq]
        show (if i + 1 ≤ q ∧ q + 1 < c.pl.rc then va_up c.pl.rts i (c.pl.rts (i + 1)) (q + 1) else va_up c.pl.rts i (c.pl.rts (i + 1)) q) = _
        by_cases h1 : i + 1 ≤ q ∧ q + 1 < c.pl.rc
        · rw [if_pos h1, if_pos (by omega), upn (by omega)]
        · rw [if_neg h1]
          by_cases h2 : q = i
          · subst h2
            rw [upe, if_pos (by omega)]
          · rw [upn h2, if_neg (by omega)]
end

-- requests
theorem sub97 {b : Nat} (h : b ≤ 127) : (nI b - 97).toInt = (b : Int) - 97 := by
  have : ∀ b, b < 128 → (nI b - 97).toInt = (b : Int) - 97 := by decide +kernel
  exact this b (by omega)
theorem sub97n {b : Nat} (h : 97 ≤ b) : nI b - 97 = nI (b - 97) := by
  rw [show (97 : Int32) = nI 97 from rfl, pk_sub h]
abbrev vF (n b : Nat) : Prop := b = 45 ∨ (97 ≤ b ∧ b - 97 < n)
/-- where the requests are wrong: -1 where they aren't -/
def fq (n T : Nat) (b : Nat → Nat) : Nat → Nat → Int32
  | 0, _ => if T = 0 then 0 else -1
  | m + 1, i => if i = 20 then nI i else if vF n (b i) then fq n T b m (i + 1) else nI i
theorem fq_cases {n T : Nat} {b : Nat → Nat} : ∀ m i, i + m = T → i ≤ 20 → (fq n T b m i = -1 ∧ T ≤ 20 ∧ 1 ≤ T ∧ ∀ q, i ≤ q → q < T → vF n (b q)) ∨ (∃ j, j ≤ 20 ∧ fq n T b m i = nI j)
  | 0, i, hi, h20 => by
    unfold fq
    by_cases z : T = 0
    · rw [if_pos z]; exact Or.inr ⟨0, by omega, rfl⟩
    · rw [if_neg z]; exact Or.inl ⟨rfl, by omega, by omega, fun q h1 h2 => by omega⟩
  | m + 1, i, hi, h20 => by
    unfold fq
    by_cases e : i = 20
    · rw [if_pos e]; exact Or.inr ⟨i, by omega, rfl⟩
    · rw [if_neg e]
      by_cases v : vF n (b i)
      · rw [if_pos v]
        rcases fq_cases (n := n) (T := T) (b := b) m (i + 1) (by omega) (by omega) with ⟨h1, h2, h3, h4⟩ | h
        · exact Or.inl ⟨h1, h2, h3, fun q q1 q2 => by
            by_cases e2 : q = i
            · subst e2; exact v
            · exact h4 q (by omega) q2⟩
        · exact Or.inr h
      · rw [if_neg v]; exact Or.inr ⟨i, by omega, rfl⟩
/-- what is given after some requests, and their places -/
def rqL (P : PL) (hd T : Nat) (b : Nat → Nat) : Nat → List Nat
  | 0 => []
  | i + 1 => if b i = 45 then rqL P hd T b i else dStep P hd (rqL P hd T b i) (b i - 97) (T - i)
def rqM (P : PL) (hd T : Nat) (b : Nat → Nat) : Nat → Nat
  | 0 => 0
  | i + 1 => if b i = 45 then rqM P hd T b i else if dGive P hd (rqL P hd T b i) (b i - 97) (T - i) then rqM P hd T b i ||| 2 ^ i else rqM P hd T b i
theorem rqM_lt {P : PL} {hd T : Nat} {b : Nat → Nat} : ∀ i, i ≤ 20 → rqM P hd T b i < 2 ^ 20
  | 0, _ => by show 0 < 2 ^ 20; omega
  | i + 1, h => by
    have := rqM_lt (P := P) (hd := hd) (T := T) (b := b) i (by omega)
    unfold rqM
    split
    · exact this
    · split
      · exact Nat.or_lt_two_pow this (Nat.pow_lt_pow_right (by omega) (by omega))
      · exact this
theorem or_20 {m k : Nat} (hk : k < 20) : nI m ||| (1 <<< (nI k &&& 31)) = nI (m ||| 2 ^ k) := by
  have e : ∀ k, k < 20 → (1 : Int32) <<< (nI k &&& 31) = nI (2 ^ k) := by decide +kernel
  rw [e k hk]
  refine Int32.toBitVec_inj.mp ?_
  show BitVec.ofNat 32 m ||| BitVec.ofNat 32 (2 ^ k) = BitVec.ofNat 32 (m ||| 2 ^ k)
  refine BitVec.eq_of_toNat_eq ?_
  rw [BitVec.toNat_or, BitVec.toNat_ofNat, BitVec.toNat_ofNat, BitVec.toNat_ofNat, Nat.or_mod_two_pow]
/-- how many requests aren't empty -/
def rqA (b : Nat → Nat) : Nat → Nat
  | 0 => 0
  | i + 1 => rqA b i + (if b i = 45 then 0 else 1)
theorem rqA_le {b : Nat → Nat} : ∀ i, rqA b i ≤ i
  | 0 => Nat.le_refl 0
  | i + 1 => by
    have := rqA_le (b := b) i
    unfold rqA
    split <;> omega
section
variable {c c0 : CS} {d d0 : MS} {D : mM} {N k : Nat} {a : Int32} {P : PL}
theorem xfq_go (h : TP c d0) {n0 : Nat} (hn6 : n0 ≤ 6) : ∀ n m i : Nat, i + m = c.tsize → i ≤ 20 → m < n → m_X7_faultAsRequests_L2 N (mk c d D) n 77 (nI n0) (nI i) = some (fq n0 c.tsize (tbn c) m i) := by
  intro n
  induction n with
  | zero => intro m i _ _ h; omega
  | succ n ih =>
    intro m i hi h20 hn
    have ht := h.1
    unfold m_X7_faultAsRequests_L2
    cases m with
    | zero =>
      unfold fq
      rw [yr_77_1, Option.bind_some, if_pos (by rw [nI_leI (by omega) (by omega)]; omega), Option.bind_some]
      by_cases z : c.tsize = 0
      · rw [if_pos z, if_pos (by rw [z]; rfl)]
      · rw [if_neg z, if_neg (by rw [show (0 : Int32) = nI 0 from rfl, nI_eq (by omega) (by omega)]; exact z)]
    | succ m =>
      obtain ⟨t1, t2, _, _⟩ := tb_of h (i := i) (by omega)
      have ih := ih m (i + 1) (by omega)
      have j39 : ∀ v : Int32, m_X7_faultAsRequests_J39 N (mk c d D) (m_X7_faultAsRequests_L2 N (mk c d D) n) 77 (nI n0) (nI i) v = if i = 20 then some (nI i) else if v = 0 then some (nI i) else m_X7_faultAsRequests_L2 N (mk c d D) n 77 (nI n0) (nI (i + 1)) := by
        intro v
        unfold m_X7_faultAsRequests_J39
        rw [nI_1]
        by_cases e : i = 20
        · rw [if_pos e, if_pos (by rw [show (20 : Int32) = nI 20 from rfl, nI_leI (by omega) (by omega)]; omega)]
        · rw [if_neg e, if_neg (by rw [show (20 : Int32) = nI 20 from rfl, nI_leI (by omega) (by omega)]; omega)]
      have fa : m_X7_fareAsked 77 (nI i) (mk c d D) = some (nI (tbn c i) - 97) := by
        unfold m_X7_fareAsked
        rw [yo_77, Option.bind_some, xbyte_in h (by omega), Option.bind_some]
      unfold fq
      rw [yr_77_1, Option.bind_some, if_neg (by rw [nI_leI (by omega) (by omega)]; omega), yo_77, Option.bind_some, xbyte_in h (by omega), Option.bind_some]
      by_cases b45 : tbn c i = 45
      · have vv : vF n0 (tbn c i) := Or.inl b45
        rw [if_pos (by rw [b45]; rfl)]
        unfold m_X7_faultAsRequests_J34
        rw [j39, if_neg (show ¬ (1 : Int32) = 0 by decide), if_pos vv]
        by_cases e : i = 20
        · rw [if_pos e, if_pos e]
        · rw [if_neg e, if_neg e]
          exact ih (by omega) (by omega)
      · rw [if_neg (by rw [show (45 : Int32) = nI 45 from rfl, nI_eq (by omega) (by omega)]; exact b45), Option.bind_some, fa, Option.bind_some]
        by_cases v : 97 ≤ tbn c i ∧ tbn c i - 97 < n0
        · have vv : vF n0 (tbn c i) := Or.inr v
          have w : m_X11_within (nI (tbn c i) - 97) (nI n0 - 1) = some (nI 1) := by rw [sub97n v.1]; exact wi_inS v.2
          rw [w, Option.bind_some, if_neg (by decide)]
          unfold m_X7_faultAsRequests_J34
          rw [j39, if_neg (show ¬ (1 : Int32) = 0 by decide), if_pos vv]
          by_cases e : i = 20
          · rw [if_pos e, if_pos e]
          · rw [if_neg e, if_neg e]
            exact ih (by omega) (by omega)
        · have vv : ¬ vF n0 (tbn c i) := fun z => z.elim b45 v
          have w : m_X11_within (nI (tbn c i) - 97) (nI n0 - 1) = some (nI 0) := wi_outS (by rw [sub97 t2]; omega)
          rw [w, Option.bind_some, if_pos (by decide), j39, if_neg vv, if_pos rfl]
          split <;> rfl
theorem yfq_go (hP : PR P d.now) (h : TP c0 d) : ∀ n m i : Nat, i + m = c0.tsize → i ≤ 20 → m < n → m_X12_wrongSign_L2 N (mk c d D) n 100 (nI i) = some (fq P.n c0.tsize (tbn c0) m i) := by
  intro n
  induction n with
  | zero => intro m i _ _ h; omega
  | succ n ih =>
    intro m i hi h20 hn
    have ht := h.1
    have hn6 := hP.n
    have htd := h.2.1
    unfold m_X12_wrongSign_L2
    cases m with
    | zero =>
      unfold fq
      rw [yr_100_3, Option.bind_some, htd, if_pos (by rw [nI_leI (by omega) (by omega)]; omega), Option.bind_some]
      by_cases z : c0.tsize = 0
      · rw [if_pos z, if_pos (by rw [z]; rfl)]
      · rw [if_neg z, if_neg (by rw [show (0 : Int32) = nI 0 from rfl, nI_eq (by omega) (by omega)]; exact z)]
    | succ m =>
      obtain ⟨t1, t2, _, t4⟩ := tb_of h (i := i) (by omega)
      have ih := ih m (i + 1) (by omega)
      unfold fq
      rw [yr_100_3, Option.bind_some, htd, if_neg (by rw [nI_leI (by omega) (by omega)]; omega)]
      by_cases e : i = 20
      · rw [if_pos e, if_pos (by rw [e]; rfl)]
      · rw [if_neg e, if_neg (by rw [show (20 : Int32) = nI 20 from rfl, nI_eq (by omega) (by omega)]; exact e), yr_100_4, Option.bind_some, ya_103 (by omega), Option.bind_some, t4]
        unfold m_X12_wrongSign_J45
        rw [nI_1]
        by_cases b45 : tbn c0 i = 45
        · have vv : vF P.n (tbn c0 i) := Or.inl b45
          rw [if_pos (by rw [b45]; rfl), if_pos vv]
          exact ih (by omega) (by omega)
        · rw [if_neg (by rw [show (45 : Int32) = nI 45 from rfl, nI_eq (by omega) (by omega)]; exact b45), Option.bind_some, ya_103 (by omega), Option.bind_some, t4, yo_100, Option.bind_some]
          by_cases v : 97 ≤ tbn c0 i ∧ tbn c0 i - 97 < P.n
          · have vv : vF P.n (tbn c0 i) := Or.inr v
            rw [sub97n v.1, yif_in v.2 hP, Option.bind_some, if_neg (by decide), if_pos vv]
            exact ih (by omega) (by omega)
          · have vv : ¬ vF P.n (tbn c0 i) := fun z => z.elim b45 v
            rw [yif_out (by rw [sub97 t2]; omega) hP, Option.bind_some, if_pos (by decide), if_neg vv]
/-- the prices asked, in their order -/
def AP (P : PL) (b : Nat → Nat) (pa : Nat → Int32) (i : Nat) : Prop := ∀ q, q < i → b q ≠ 45 → pa (rqA b q) = nI (P.price (b q - 97))
theorem xrq_go (hN : 100 ≤ N) (hP : PR P d0.now) {b : Nat → Nat} {T hd : Nat} (hh : hd ≤ 1) (hT : T ≤ 20) (hv : ∀ q, q < T → vF P.n (b q)) (i1 : Int32) : ∀ (n m i : Nat) (c : CS), i + m = T → m < n → c.pl = P → WR c → TP c d0 → c.tsize = T → tbn c = b → XD c (rqL P hd T b i) → c.dasked = rqA b i → c.dplaces = nI (rqM P hd T b i) → AP P b c.pa i → ∃ (c2 : CS) (n2 : Nat), m_X11_answerRequests_L42 N n 10 i1 (nI hd) (nI i) (mk c d D) = m_X11_answerRequests_L42 N (n2 + 1) 10 i1 (nI hd) (nI T) (mk c2 d D) ∧ WR c2 ∧ SC c c2 ∧ XD c2 (rqL P hd T b T) ∧ c2.dasked = rqA b T ∧ c2.dplaces = nI (rqM P hd T b T) ∧ AP P b c2.pa T := by
  intro n
  induction n with
  | zero => intro m i c _ h; omega
  | succ n ih =>
    intro m i c hi hn hc hw hT1 hts htb hL ha hp hA
    have hn6 := hP.n
    cases m with
    | zero =>
      obtain rfl : i = T := by omega
      exact ⟨c, n, rfl, hw, SC.rfl, hL, ha, hp, hA⟩
    | succ m =>
      subst hc
      obtain ⟨t1, t2, _, _⟩ := tb_of hT1 (i := i) (by omega)
      have fa : m_X7_fareAsked 77 (nI i) (mk c d D) = some (nI (b i) - 97) := by
        unfold m_X7_fareAsked
        rw [yo_77, Option.bind_some, xbyte_in hT1 (by omega), Option.bind_some, htb]
      rw [htb] at t1 t2
      have pre : m_X11_answerRequests_L42 N (n + 1) 10 i1 (nI hd) (nI i) (mk c d D) = (m_X1_ask N 80 (nI (b i) - 97) (nI (T - i)) (nI i) (nI hd) (mk c d D)).bind fun x47 => m_X11_answerRequests_L42 N n 10 i1 (nI hd) (nI (i + 1)) x47 := by
        conv => lhs; unfold m_X11_answerRequests_L42
        rw [yr_10_6, Option.bind_some, yr_77_1, Option.bind_some, hts, if_neg (by rw [nI_leI (by omega) (by omega)]; omega), yr_10_7, Option.bind_some, Option.bind_some, yo_77, Option.bind_some, fa, Option.bind_some, Option.bind_some, yr_77_1, Option.bind_some, yo_80, Option.bind_some, hts, pk_sub (by omega), nI_1]
      rw [pre]
      have aA := rqA_le (b := b) i
      by_cases b45 : b i = 45
      · have ea : m_X1_ask N 80 (nI (b i) - 97) (nI (T - i)) (nI i) (nI hd) (mk c d D) = some (mk c d D) := by
          have hf : m_X5_hasFare 11 (nI (b i) - 97) (mk c d D) = some 0 := by
            unfold m_X5_hasFare
            rw [b45, if_pos (by decide)]
          unfold m_X1_ask
          rw [yr_80_0, Option.bind_some, yo_11, Option.bind_some, hf, Option.bind_some, if_pos rfl]
        rw [ea, Option.bind_some]
        have e1 : rqL c.pl hd T b (i + 1) = rqL c.pl hd T b i := if_pos b45
        have e2 : rqM c.pl hd T b (i + 1) = rqM c.pl hd T b i := if_pos b45
        have e3 : rqA b (i + 1) = rqA b i := by show rqA b i + (if b i = 45 then 0 else 1) = _; rw [if_pos b45, Nat.add_zero]
        exact ih m (i + 1) c (by omega) (by omega) rfl hw hT1 hts htb (by rw [e1]; exact hL) (by rw [e3]; exact ha) (by rw [e2]; exact hp) (fun q hq hb => by
          by_cases e : q = i
          · subst e; exact absurd b45 hb
          · exact hA q (by omega) hb)
      · obtain ⟨v1, v2⟩ := (hv i (by omega)).resolve_left b45
        rw [sub97n v1]
        obtain ⟨c2, a1, a2, a3, a4, a5, a6, a7⟩ := xask (d := d) (D := D) hN hP hw hL (f := b i - 97) (t := T - i) (hd := hd) v2 (by omega) (by omega) hh (by omega) (nI i)
        rw [a1, Option.bind_some]
        have e1 : rqL c.pl hd T b (i + 1) = dStep c.pl hd (rqL c.pl hd T b i) (b i - 97) (T - i) := if_neg b45
        have e2 : rqM c.pl hd T b (i + 1) = if dGive c.pl hd (rqL c.pl hd T b i) (b i - 97) (T - i) then rqM c.pl hd T b i ||| 2 ^ i else rqM c.pl hd T b i := if_neg b45
        have e3 : rqA b (i + 1) = rqA b i + 1 := by show rqA b i + (if b i = 45 then 0 else 1) = _; rw [if_neg b45]
        have tb2 : tbn c2 = b := by
          rw [← htb]
          funext q
          unfold tbn
          rw [a3.2.1, a3.2.2.1]
        have tp2 : TP c2 d0 := by
          refine ⟨by rw [a3.2.1]; exact hT1.1, by rw [a3.2.1]; exact hT1.2.1, ?_⟩
          rw [a3.2.1, a3.2.2.1]
          exact hT1.2.2
        obtain ⟨c3, n3, r1, r2, r3, r4, r5, r6, r7⟩ := ih m (i + 1) c2 (by omega) (by omega) a3.1 a2 tp2 (by rw [a3.2.1]; exact hts) tb2 (by rw [e1]; exact a4) (by rw [e3, a6, ha]) (by
          rw [a7, hp, e2]
          split
          · rw [or_20 (by omega)]
          · rfl) (fun q hq hb => by
          rw [a5]
          by_cases e : q = i
          · subst e; rw [ha, upe]
          · have : rqA b q < rqA b i := by
              have mono : ∀ k, rqA b (q + 1) ≤ rqA b (q + 1 + k) := by
                intro k
                induction k with
                | zero => exact Nat.le_refl _
                | succ k ihk =>
                  refine Nat.le_trans ihk ?_
                  show _ ≤ rqA b (q + 1 + k) + _
                  omega
              have m1 := mono (i - (q + 1))
              rw [show q + 1 + (i - (q + 1)) = i by omega] at m1
              have m2 : rqA b (q + 1) = rqA b q + 1 := by show rqA b q + (if b q = 45 then 0 else 1) = _; rw [if_neg hb]
              omega
            rw [ha, upn (by omega)]
            exact hA q (by omega) hb)
        exact ⟨c3, n3, r1, r2, a3.trans a2 r3, r4, r5, r6, r7⟩
theorem yrq_go (hN : 100 ≤ N) {b : Nat → Nat} {T hd : Nat} (hh : hd ≤ 1) (hT : T ≤ 20) (hb : ∀ q, q < T → b q ≤ 127) (hv : ∀ q, q < T → vF P.n (b q)) {base : Int32} : ∀ (n m i : Nat) (d : MS), i + m = T → m < n → PR P d.now → d.asked = nI T → (∀ q, q < T → d.tape q = nI (b q)) → WOK P T d.worths → YD P base d (rqL P hd T b i) → ∃ d2 : MS, m_X12_goes_L49 N n 100 (nI hd) (nI (rqM P hd T b i)) (nI i) (mk c d D) = some (nI (rqM P hd T b T), mk c d2 D) ∧ SD d d2 ∧ YD P base d2 (rqL P hd T b T) := by
  intro n
  induction n with
  | zero => intro m i d _ h; omega
  | succ n ih =>
    intro m i d hi hn hP has htp hw hL
    have hn6 := hP.n
    unfold m_X12_goes_L49
    cases m with
    | zero =>
      obtain rfl : i = T := by omega
      refine ⟨d, ?_, SD.rfl, hL⟩
      rw [yr_100_28, Option.bind_some, has, if_pos (nI_le (by omega) (by omega))]
    | succ m =>
      have hbi := hb i (by omega)
      rw [yr_100_28, Option.bind_some, has, if_neg (by rw [nI_leI (by omega) (by omega)]; omega), yr_100_4, Option.bind_some, ya_103 (by omega), Option.bind_some, htp i (by omega)]
      by_cases b45 : b i = 45
      · rw [if_pos (by rw [b45]; rfl)]
        have e1 : rqL P hd T b (i + 1) = rqL P hd T b i := if_pos b45
        have e2 : rqM P hd T b (i + 1) = rqM P hd T b i := if_pos b45
        have ih := ih m (i + 1) d (by omega) (by omega) hP has htp hw (by rw [e1]; exact hL)
        rw [e2] at ih
        unfold m_X12_goes_J102
        rw [nI_1]
        exact ih
      · obtain ⟨v1, v2⟩ := (hv i (by omega)).resolve_left b45
        obtain ⟨d2, a1, a2, a3, a4⟩ := yhas (c := c) (D := D) hN hP hL (f := b i - 97) (t := T - i) (hd := hd) v2 (by omega) (by omega) hh (fun t ht s hs => hw t (by omega) s hs)
        have e1 : rqL P hd T b (i + 1) = dStep P hd (rqL P hd T b i) (b i - 97) (T - i) := if_neg b45
        have e2 : rqM P hd T b (i + 1) = if dGive P hd (rqL P hd T b i) (b i - 97) (T - i) then rqM P hd T b i ||| 2 ^ i else rqM P hd T b i := if_neg b45
        obtain ⟨d3, r1, r2, r3⟩ := ih m (i + 1) d2 (by omega) (by omega) (by rw [a2.1]; exact hP) (by rw [a2.2.2.2.1]; exact has) (by rw [a2.2.1]; exact htp) (by rw [a2.2.2.1]; exact hw) (by rw [e1]; exact a3)
        refine ⟨d3, ?_, a2.trans r2, r3⟩
        rw [if_neg (by rw [show (45 : Int32) = nI 45 from rfl, nI_eq (by omega) (by omega)]; exact b45), Option.bind_some, ya_103 (by omega), Option.bind_some, htp i (by omega), Option.bind_some, yo_100, Option.bind_some, sub97n v1, pk_sub (by omega), a1, Option.bind_some]
        unfold m_X12_goes_J102
        rw [nI_1]
        by_cases g : dGive P hd (rqL P hd T b i) (b i - 97) (T - i)
        · rw [if_pos g] at e2
          rw [if_pos g, if_neg (show ¬ (1 : Int32) = 0 by decide), or_20 (by omega), ← e2]
          exact r1
        · rw [if_neg g] at e2
          rw [if_neg g, if_pos rfl, ← e2]
          exact r1
end

-- a day: what has been given, as a list of fares
abbrev dGive (P : PL) (hd : Nat) (L : List Nat) (f t : Nat) : Prop := L.length < P.rules 0 ∧ (if hd = 1 then L.countP (fun g => decide (P.price g ≤ P.price f)) < P.hand f else takeB P f t (P.rules 0 - L.length) = 1)
def dStep (P : PL) (hd : Nat) (L : List Nat) (f t : Nat) : List Nat := if dGive P hd L f t then L ++ [f] else L
def dSum (P : PL) : List Nat → Int32
  | [] => 0
  | f :: L => nI (P.price f) + dSum P L
theorem dSum_snoc {P : PL} {f : Nat} : ∀ L : List Nat, dSum P (L ++ [f]) = dSum P L + nI (P.price f)
  | [] => by show nI _ + 0 = 0 + nI _; rw [Int32.add_zero, Int32.zero_add]
  | g :: L => by show nI _ + dSum P (L ++ [f]) = nI _ + dSum P L + nI _; rw [dSum_snoc L, Int32.add_assoc]
theorem cntP_le {p : Nat → Bool} {L : List Nat} : L.countP p ≤ L.length := List.countP_le_length
/-- the class's day -/
def XD (c : CS) (L : List Nat) : Prop := L.length ≤ c.dasked ∧ L.length ≤ c.pl.rules 0 ∧ c.dleft = c.pl.rules 0 - L.length ∧ c.dcount = L.length ∧ (∀ i, (h : i < L.length) → c.ph i = nI (c.pl.price L[i])) ∧ c.dprices = dSum c.pl L ∧ ∀ g, g ∈ L → g < c.pl.n
/-- the reference's day -/
def YD (P : PL) (base : Int32) (d : MS) (L : List Nat) : Prop := L.length ≤ P.rules 0 ∧ d.left = nI (P.rules 0 - L.length) ∧ (∀ k, k < 6 → d.had k = nI (L.count k)) ∧ d.prices = base + dSum P L ∧ ∀ g, g ∈ L → g < P.n
def SC (c c2 : CS) : Prop := c2.pl = c.pl ∧ c2.tsize = c.tsize ∧ c2.tb = c.tb ∧ ∀ d D, RR c d D → WR c2 → RR c2 d D
theorem SC.rfl {c : CS} : SC c c := ⟨by rfl, by rfl, by rfl, fun _ _ h _ => h⟩
theorem SC.trans {a b c : CS} (h : SC a b) (hb : WR b) (h2 : SC b c) : SC a c := ⟨h2.1.trans h.1, h2.2.1.trans h.2.1, h2.2.2.1.trans h.2.2.1, fun d D r w => h2.2.2.2 d D (h.2.2.2 d D r hb) w⟩
def SD (d d2 : MS) : Prop := d2.now = d.now ∧ d2.tape = d.tape ∧ d2.worths = d.worths ∧ d2.asked = d.asked ∧ ∀ w c D, RR c (d.s_now w) D → RR c (d2.s_now w) D
theorem SD.rfl {d : MS} : SD d d := ⟨by rfl, by rfl, by rfl, by rfl, fun _ _ _ h => h⟩
theorem SD.trans {a b c : MS} (h : SD a b) (h2 : SD b c) : SD a c := ⟨h2.1.trans h.1, h2.2.1.trans h.2.1, h2.2.2.1.trans h.2.2.1, h2.2.2.2.1.trans h.2.2.2.1, fun w d D r => h2.2.2.2.2 w d D (h.2.2.2.2 w d D r)⟩
section
variable {c : CS} {d d0 : MS} {D : mM} {N k : Nat} {a : Int32} {P : PL}
theorem xhand_go (hP : PR c.pl d0.now) {L : List Nat} (hL : XD c L) (hl : L.length ≤ 20) {f : Nat} (hf : f < c.pl.n) : ∀ n i : Nat, i ≤ L.length → L.length - i < n → m_X1_handGives_L4 N (mk c d D) n 80 (nI f) (nI ((L.take i).countP (fun g => decide (c.pl.price g ≤ c.pl.price f)))) (nI i) = some (if L.countP (fun g => decide (c.pl.price g ≤ c.pl.price f)) < c.pl.hand f then nI 1 else nI 0) := by
  intro n
  induction n with
  | zero => intro i _ h; omega
  | succ n ih =>
    intro i hi hn
    have hn6 := hP.n
    have hh := hP.h (i := f) (by omega)
    have hp := hP.p (i := f) (by omega)
    have h6 := hL.2.2.2.1
    unfold m_X1_handGives_L4
    by_cases e : i = L.length
    · subst e
      have cl := cntP_le (p := fun g => decide (c.pl.price g ≤ c.pl.price f)) (L := L)
      rw [List.take_length, yr_80_6, Option.bind_some, h6, if_pos (nI_le (by omega) (by omega)), yr_80_0, Option.bind_some, yr_11_0, Option.bind_some, yfar_R (by omega), Option.bind_some, yf_2 (by omega), Option.bind_some]
      by_cases q : L.countP (fun g => decide (c.pl.price g ≤ c.pl.price f)) < c.pl.hand f
      · rw [if_neg (by rw [nI_leI (by omega) (by omega)]; omega), if_pos q]
        rfl
      · rw [if_pos (by rw [nI_leI (by omega) (by omega)]; omega), if_neg q]
        rfl
    · have hlt : i < L.length := by omega
      have hg := hL.2.2.2.2.2.2 L[i] (List.getElem_mem hlt)
      have hpi := hP.p (i := L[i]) (by omega)
      have hi1 := ih (i + 1) (by omega) (by omega)
      rw [List.take_succ_eq_append_getElem hlt, List.countP_append] at hi1
      rw [yr_80_6, Option.bind_some, h6, if_neg (by rw [nI_leI (by omega) (by omega)]; omega), yr_80_3, Option.bind_some, ya_82 (by omega), Option.bind_some, hL.2.2.2.2.1 i hlt, yr_80_0, Option.bind_some, yr_11_0, Option.bind_some, yfar_R (by omega), Option.bind_some, yf_1 (by omega), Option.bind_some]
      by_cases q : c.pl.price f < c.pl.price L[i]
      · rw [if_pos ((nI_ltI (by omega) (by omega)).mpr q)]
        unfold m_X1_handGives_J39
        rw [show List.countP (fun g => decide (c.pl.price g ≤ c.pl.price f)) [L[i]] = 0 from by rw [List.countP_singleton, if_neg (by simp; omega)], Nat.add_zero] at hi1
        rw [Int32.add_zero, nI_1]
        exact hi1
      · rw [if_neg (fun y => q ((nI_ltI (by omega) (by omega)).mp y))]
        unfold m_X1_handGives_J39
        rw [show List.countP (fun g => decide (c.pl.price g ≤ c.pl.price f)) [L[i]] = 1 from by rw [List.countP_singleton, if_pos (by simp; omega)]] at hi1
        rw [nI_1, nI_1]
        exact hi1
theorem xj96 {p : Nat} (bit : Int32) (h1 : c.dcount < 20) (h2 : 1 ≤ c.dleft) (h3 : c.dleft ≤ 30) : m_X1_ask_J96 N 80 bit (nI p) (mk c d D) = some (mk (((((c.s_ph (va_up c.ph c.dcount (nI p))).s_dcount (c.dcount + 1)).s_dleft (c.dleft - 1)).s_dprices (c.dprices + nI p)).s_dplaces (c.dplaces ||| (1 <<< (bit &&& 31)))) d D) := by
  unfold m_X1_ask_J96
  rw [yr_80_3, Option.bind_some, yr_80_6, Option.bind_some, yu_82 h1, Option.bind_some, yr_80_6, Option.bind_some, nI_1, yw_80_6, Option.bind_some, yr_80_4, Option.bind_some]
  rw [show (((c.s_ph (va_up c.ph c.dcount (nI p))).s_dcount ((c.s_ph (va_up c.ph c.dcount (nI p))).dcount + 1)).dleft) = c.dleft from by rfl, show (nI c.dleft - 1) = nI (c.dleft - 1) from by rw [show (1 : Int32) = nI 1 from rfl, pk_sub h2], yw_80_4, Option.bind_some, yr_80_7, Option.bind_some, yw_80_7, Option.bind_some, yr_80_8, Option.bind_some, yw_80_8, Option.bind_some]
  rfl
/-- what is given -/
theorem xd_give {c2 : CS} {L : List Nat} (hL : XD c L) {f : Nat} (hf : f < c.pl.n) (hl : L.length < c.pl.rules 0) (e1 : c2.pl = c.pl) (e2 : c2.dasked = c.dasked + 1) (e3 : c2.dleft = c.dleft - 1) (e4 : c2.dcount = c.dcount + 1) (e5 : c2.ph = va_up c.ph c.dcount (nI (c.pl.price f))) (e6 : c2.dprices = c.dprices + nI (c.pl.price f)) : XD c2 (L ++ [f]) := by
  obtain ⟨x1, x2, x3, x4, x5, x6, x7⟩ := hL
  unfold XD
  have len : (L ++ [f]).length = L.length + 1 := by rw [List.length_append, List.length_singleton]
  rw [e1, e2, e3, e4, e5, e6]
  refine ⟨by omega, by omega, by omega, by omega, fun i hi => ?_, by rw [dSum_snoc, x6], fun g hg => ?_⟩
  · by_cases q : i = L.length
    · subst q
      rw [x4, upe, List.getElem_append_right (Nat.le_refl _)]
      simp
    · have hi2 : i < L.length := by omega
      rw [x4, upn q, List.getElem_append_left hi2]
      exact x5 i hi2
  · rcases List.mem_append.mp hg with h | h
    · exact x7 g h
    · rw [List.mem_singleton.mp h]; exact hf
theorem xd_keep {c2 : CS} {L : List Nat} (hL : XD c L) (e1 : c2.pl = c.pl) (e2 : c.dasked ≤ c2.dasked) (e3 : c2.dleft = c.dleft) (e4 : c2.dcount = c.dcount) (e5 : c2.ph = c.ph) (e6 : c2.dprices = c.dprices) : XD c2 L := by
  obtain ⟨x1, x2, x3, x4, x5, x6, x7⟩ := hL
  unfold XD
  rw [e1, e3, e4, e5, e6]
  exact ⟨by omega, x2, x3, x4, x5, x6, x7⟩
/-- one request, the class -/
theorem xask (hN : 100 ≤ N) (hP : PR c.pl d0.now) (hw : WR c) {L : List Nat} (hL : XD c L) {f t hd : Nat} (hf : f < c.pl.n) (t1 : 1 ≤ t) (t2 : t ≤ 20) (hh : hd ≤ 1) (ha : c.dasked < 20) (bit : Int32) : ∃ c2 : CS, m_X1_ask N 80 (nI f) (nI t) bit (nI hd) (mk c d D) = some (mk c2 d D) ∧ WR c2 ∧ SC c c2 ∧ XD c2 (dStep c.pl hd L f t) ∧ c2.pa = va_up c.pa c.dasked (nI (c.pl.price f)) ∧ c2.dasked = c.dasked + 1 ∧ c2.dplaces = if dGive c.pl hd L f t then c.dplaces ||| (1 <<< (bit &&& 31)) else c.dplaces := by
  have hn6 := hP.n
  have h0 := hP.r0
  obtain ⟨x1, x2, x3, x4, x5, x6, x7⟩ := id hL
  have hf6 : m_X5_hasFare 11 (nI f) (mk c d D) = some 1 := by
    unfold m_X5_hasFare
    rw [if_neg (by rw [show (0 : Int32) = nI 0 from rfl, nI_ltI (by omega) (by omega)]; omega), yr_11_1, Option.bind_some, if_neg (by rw [nI_leI (by omega) (by omega)]; omega)]
  -- what every request leaves
  let c1 : CS := (c.s_pa (va_up c.pa c.dasked (nI (c.pl.price f)))).s_dasked (c.dasked + 1)
  have pre : m_X1_ask N 80 (nI f) (nI t) bit (nI hd) (mk c d D) = if nI c.dleft ≤ 0 then some (mk c1 d D) else if nI hd = 1 then (m_X1_handGives N 80 (nI f) (mk c1 d D)).bind (fun x39 => if x39 = 0 then some (mk c1 d D) else m_X1_ask_J96 N 80 bit (nI (c.pl.price f)) (mk c1 d D)) else (m_X10_takes N 49 (nI f) (nI t) (nI c.dleft) (mk c1 d D)).bind (fun x35 => if x35.1 = 0 then some x35.2 else m_X1_ask_J96 N 80 bit (nI (c.pl.price f)) x35.2) := by
    unfold m_X1_ask
    rw [yr_80_0, Option.bind_some, yo_11, Option.bind_some, hf6, Option.bind_some, if_neg (by decide), yr_80_5, Option.bind_some, if_pos (by rw [show (20 : Int32) = nI 20 from rfl, nI_ltI (by omega) (by omega)]; omega), Option.bind_some, yr_11_0, Option.bind_some, yfar_R (by omega), Option.bind_some, yf_1 (by omega), Option.bind_some, yr_80_2, Option.bind_some, Option.bind_some, yu_81 (by omega), Option.bind_some, yr_80_5, Option.bind_some, nI_1, yw_80_5, Option.bind_some, yr_80_4, Option.bind_some]
    rfl
  have w1 : WR c1 := hw
  have s1 : SC c c1 := ⟨by rfl, by rfl, by rfl, fun d D h w => ⟨h.1, h.2.1, h.2.2.1, w, h.2.2.2.2.1, h.2.2.2.2.2.1, h.2.2.2.2.2.2.1, h.2.2.2.2.2.2.2⟩⟩
  have k1 : XD c1 L := xd_keep hL (by rfl) (by show c.dasked ≤ c.dasked + 1; omega) (by rfl) (by rfl) (by rfl) (by rfl)
  have fin0 : ¬ dGive c.pl hd L f t → ∀ c2 : CS, WR c2 → SC c1 c2 → c2.dleft = c1.dleft → c2.dcount = c1.dcount → c2.ph = c1.ph → c2.dprices = c1.dprices → c2.pa = c1.pa → c2.dasked = c1.dasked → c2.dplaces = c1.dplaces → WR c2 ∧ SC c c2 ∧ XD c2 (dStep c.pl hd L f t) ∧ c2.pa = va_up c.pa c.dasked (nI (c.pl.price f)) ∧ c2.dasked = c.dasked + 1 ∧ c2.dplaces = if dGive c.pl hd L f t then c.dplaces ||| (1 <<< (bit &&& 31)) else c.dplaces := by
    intro hg c2 w2 s2 e1 e2 e3 e4 e5 e6 e7
    refine ⟨w2, s1.trans w1 s2, ?_, by rw [e5]; rfl, by rw [e6]; rfl, by rw [if_neg hg, e7]; rfl⟩
    unfold dStep
    rw [if_neg hg]
    exact xd_keep k1 (by rw [s2.1]) (by rw [e6]; exact Nat.le_refl _) e1 e2 e3 e4
  have fin1 : dGive c.pl hd L f t → ∀ c3 : CS, WR c3 → SC c1 c3 → c3.dleft = c1.dleft → c3.dcount = c1.dcount → c3.ph = c1.ph → c3.dprices = c1.dprices → c3.pa = c1.pa → c3.dasked = c1.dasked → c3.dplaces = c1.dplaces → ∃ c2 : CS, m_X1_ask_J96 N 80 bit (nI (c.pl.price f)) (mk c3 d D) = some (mk c2 d D) ∧ WR c2 ∧ SC c c2 ∧ XD c2 (dStep c.pl hd L f t) ∧ c2.pa = va_up c.pa c.dasked (nI (c.pl.price f)) ∧ c2.dasked = c.dasked + 1 ∧ c2.dplaces = if dGive c.pl hd L f t then c.dplaces ||| (1 <<< (bit &&& 31)) else c.dplaces := by
    intro hg c3 w3 s3 e1 e2 e3 e4 e5 e6 e7
    have e1 : c3.dleft = c.dleft := e1
    have e2 : c3.dcount = c.dcount := e2
    have hgl := hg.1
    have s4 : SC c3 (((((c3.s_ph (va_up c3.ph c3.dcount (nI (c.pl.price f)))).s_dcount (c3.dcount + 1)).s_dleft (c3.dleft - 1)).s_dprices (c3.dprices + nI (c.pl.price f))).s_dplaces (c3.dplaces ||| (1 <<< (bit &&& 31)))) := ⟨by rfl, by rfl, by rfl, fun d D h w => ⟨h.1, h.2.1, h.2.2.1, w, h.2.2.2.2.1, h.2.2.2.2.2.1, h.2.2.2.2.2.2.1, h.2.2.2.2.2.2.2⟩⟩
    refine ⟨_, xj96 bit (by omega) (by omega) (by omega), w3, (s1.trans w1 s3).trans w3 s4, ?_, e5, e6, by rw [if_pos hg]; show c3.dplaces ||| _ = _; rw [e7]; rfl⟩
    unfold dStep
    rw [if_pos hg]
    exact xd_give hL hf hgl s3.1 e6 (by show c3.dleft - 1 = _; rw [e1]) (by show c3.dcount + 1 = _; rw [e2]) (by show va_up c3.ph c3.dcount _ = _; rw [e2, e3]; rfl) (by show c3.dprices + _ = _; rw [e4]; rfl)
  by_cases z : c.dleft = 0
  · have hg : ¬ dGive c.pl hd L f t := fun g => by have := g.1; omega
    refine ⟨c1, pre.trans (if_pos (by rw [z]; decide)), fin0 hg c1 w1 SC.rfl (by rfl) (by rfl) (by rfl) (by rfl) (by rfl) (by rfl) (by rfl)⟩
  · have zn : ¬ nI c.dleft ≤ 0 := by rw [show (0 : Int32) = nI 0 from rfl, nI_leI (by omega) (by omega)]; omega
    rw [if_neg zn] at pre
    by_cases q : hd = 1
    · subst q
      have hg := xhand_go (c := c1) (d := d) (D := D) (N := N) (d0 := d0) hP k1 (by omega) hf N 0 (by omega) (by omega)
      have hg : m_X1_handGives N 80 (nI f) (mk c1 d D) = some (if L.countP (fun g => decide (c.pl.price g ≤ c.pl.price f)) < c.pl.hand f then nI 1 else nI 0) := hg
      rw [if_pos (show nI 1 = 1 from rfl), hg, Option.bind_some] at pre
      have gi : dGive c.pl 1 L f t ↔ L.countP (fun g => decide (c.pl.price g ≤ c.pl.price f)) < c.pl.hand f := ⟨fun g => (by have := g.2; rw [if_pos rfl] at this; exact this), fun g => ⟨by omega, by rw [if_pos rfl]; exact g⟩⟩
      by_cases y : L.countP (fun g => decide (c.pl.price g ≤ c.pl.price f)) < c.pl.hand f
      · rw [if_pos y, if_neg (by decide)] at pre
        obtain ⟨c2, r1, r2⟩ := fin1 (gi.mpr y) c1 w1 SC.rfl (by rfl) (by rfl) (by rfl) (by rfl) (by rfl) (by rfl) (by rfl)
        exact ⟨c2, pre.trans r1, r2⟩
      · rw [if_neg y, if_pos (show nI 0 = 0 from rfl)] at pre
        exact ⟨c1, pre, fin0 (fun g => y (gi.mp g)) c1 w1 SC.rfl (by rfl) (by rfl) (by rfl) (by rfl) (by rfl) (by rfl) (by rfl)⟩
    · have q0 : hd = 0 := by omega
      subst q0
      obtain ⟨r, m, k, g1, g2⟩ := xtakes (c := c1) (d := d) (D := D) hN (d0 := d0) hP w1 (f := f) (t := t) (s := c.dleft) hf t1 t2 (by omega) (by show c.dleft ≤ c.pl.rules 0; omega)
      have g1 : m_X10_takes N 49 (nI f) (nI t) (nI c.dleft) (mk c1 d D) = some (nI (takeB c.pl f t c.dleft), mk (((c1.s_rows r).s_nets m).s_made k) d D) := g1
      have s3 : SC c1 (((c1.s_rows r).s_nets m).s_made k) := ⟨by rfl, by rfl, by rfl, fun d D h w => ⟨h.1, h.2.1, h.2.2.1, w, h.2.2.2.2.1, h.2.2.2.2.2.1, h.2.2.2.2.2.2.1, h.2.2.2.2.2.2.2⟩⟩
      rw [if_neg (show ¬ nI 0 = 1 by decide), g1, Option.bind_some] at pre
      have gi : dGive c.pl 0 L f t ↔ takeB c.pl f t c.dleft = 1 := ⟨fun g => (by have := g.2; rw [if_neg (by decide), ← x3] at this; exact this), fun g => ⟨by omega, by rw [if_neg (by decide), ← x3]; exact g⟩⟩
      have tl := takeB_le (P := c.pl) (f := f) (t := t) (s := c.dleft)
      by_cases y : takeB c.pl f t c.dleft = 1
      · rw [y, if_neg (show ¬ nI 1 = 0 by decide)] at pre
        obtain ⟨c2, r1, r2⟩ := fin1 (gi.mpr y) _ g2 s3 (by rfl) (by rfl) (by rfl) (by rfl) (by rfl) (by rfl) (by rfl)
        exact ⟨c2, pre.trans r1, r2⟩
      · rw [show takeB c.pl f t c.dleft = 0 by omega, if_pos (show nI 0 = 0 from rfl)] at pre
        exact ⟨_, pre, fin0 (fun g => y (gi.mp g)) _ g2 s3 (by rfl) (by rfl) (by rfl) (by rfl) (by rfl) (by rfl) (by rfl)⟩
-- the reference
def hsm (P : PL) (L : List Nat) (f : Nat) : Nat → Nat
  | 0 => 0
  | k + 1 => hsm P L f k + (if P.price f < P.price k then 0 else L.count k)
theorem hsm_nil {P : PL} {f : Nat} : ∀ n, hsm P [] f n = 0
  | 0 => rfl
  | n + 1 => by
    unfold hsm
    rw [hsm_nil n]
    split <;> rfl
theorem hsm_cons {P : PL} {L : List Nat} {f g : Nat} : ∀ n, hsm P (g :: L) f n = hsm P L f n + (if g < n ∧ P.price g ≤ P.price f then 1 else 0)
  | 0 => by unfold hsm; rw [if_neg (by omega)]
  | n + 1 => by
    have i := hsm_cons (P := P) (L := L) (f := f) (g := g) n
    unfold hsm
    rw [i, List.count_cons]
    by_cases e : g = n
    · subst e
      rw [if_neg (by omega)]
      by_cases q : P.price f < P.price g
      · have h1 : (if g < g + 1 ∧ P.price g ≤ P.price f then 1 else 0) = 0 := if_neg (by omega)
        rw [if_pos q, if_pos q, h1]
      · have h1 : (if g < g + 1 ∧ P.price g ≤ P.price f then 1 else 0) = 1 := if_pos ⟨by omega, by omega⟩
        have h2 : (if (g == g) = true then 1 else 0) = 1 := by simp
        rw [if_neg q, if_neg q, h1, h2]
        omega
    · have : (if (g == n) = true then 1 else 0) = 0 := by simp [e]
      rw [this]
      by_cases q : P.price f < P.price n
      · rw [if_pos q, if_pos q]
        by_cases z : g < n ∧ P.price g ≤ P.price f
        · rw [if_pos z, if_pos (by omega)]
        · rw [if_neg z, if_neg (by omega)]
      · rw [if_neg q, if_neg q]
        by_cases z : g < n ∧ P.price g ≤ P.price f
        · rw [if_pos z, if_pos (by omega)]; omega
        · rw [if_neg z, if_neg (by omega)]; omega
theorem hsm_eq {P : PL} {f n : Nat} : ∀ L : List Nat, (∀ g, g ∈ L → g < n) → hsm P L f n = L.countP (fun g => decide (P.price g ≤ P.price f))
  | [], _ => by rw [hsm_nil]; rfl
  | g :: L, h => by
    rw [hsm_cons, hsm_eq L (fun x hx => h x (List.mem_cons_of_mem _ hx)), List.countP_cons]
    have := h g (List.mem_cons_self ..)
    by_cases q : P.price g ≤ P.price f
    · rw [if_pos ⟨this, q⟩, if_pos (by simp; exact q)]
    · rw [if_neg (fun z => q z.2), if_neg (by simp; omega)]
theorem yhand_go (hP : PR P d.now) {base : Int32} {L : List Nat} (hL : YD P base d L) {f : Nat} (hf : f < P.n) : ∀ n i : Nat, i ≤ P.n → P.n - i < n → m_X12_isByHand_L4 N (mk c d D) n 100 (nI f) (nI (hsm P L f i)) (nI i) = some (if L.countP (fun g => decide (P.price g ≤ P.price f)) < P.hand f then nI 1 else nI 0) := by
  intro n
  induction n with
  | zero => intro i _ h; omega
  | succ n ih =>
    intro i hi hn
    have hn6 := hP.n
    have hh := hP.h (i := f) (by omega)
    have hp := hP.p (i := f) (by omega)
    have h0 := hP.r0
    obtain ⟨y1, y2, y3, y4, y5⟩ := id hL
    have z0 : aI 0 (mk c d D) 101 0 = some (d.now 0) := ya_101 (i := 0) (by omega)
    unfold m_X12_isByHand_L4
    by_cases e : i = P.n
    · subst e
      have cl := cntP_le (p := fun g => decide (P.price g ≤ P.price f)) (L := L)
      have ah : aI 0 (mk c d D) 101 (122 + nI f) = some (nI (P.hand f)) := by
        rw [show (122 : Int32) = nI 122 from rfl, nI_add, ya_101 (by omega), hP.h_ (by omega)]
      rw [yr_100_0, Option.bind_some, z0, Option.bind_some, hP.n_, if_pos (nI_le (by omega) (by omega)), Option.bind_some, ah, Option.bind_some, hsm_eq L y5]
      by_cases q : L.countP (fun g => decide (P.price g ≤ P.price f)) < P.hand f
      · rw [if_neg (by rw [nI_leI (by omega) (by omega)]; omega), if_pos q]
        rfl
      · rw [if_pos (by rw [nI_leI (by omega) (by omega)]; omega), if_neg q]
        rfl
    · have hpi := hP.p (i := i) (by omega)
      have ih := ih (i + 1) (by omega) (by omega)
      have es : hsm P L f (i + 1) = hsm P L f i + (if P.price f < P.price i then 0 else L.count i) := rfl
      rw [yr_100_0, Option.bind_some, z0, Option.bind_some, hP.n_, if_neg (by rw [nI_leI (by omega) (by omega)]; omega), yo_100, Option.bind_some, yprice hP (by omega), Option.bind_some, Option.bind_some, yprice hP (by omega), Option.bind_some]
      by_cases q : P.price f < P.price i
      · rw [if_pos ((nI_ltI (by omega) (by omega)).mpr q)]
        rw [es, if_pos q, Nat.add_zero] at ih
        unfold m_X12_isByHand_J38
        rw [Int32.add_zero, nI_1]
        exact ih
      · rw [if_neg (fun y => q ((nI_ltI (by omega) (by omega)).mp y)), yr_100_19, Option.bind_some, ya_116 (by omega), Option.bind_some, y3 i (by omega)]
        rw [es, if_neg q] at ih
        unfold m_X12_isByHand_J38
        rw [nI_add, nI_1]
        exact ih
theorem yj47 (hP : PR P d.now) {f : Nat} (hf : f < P.n) : m_X12_has_J47 N 100 (nI f) (mk c d D) = some (1, mk c (((d.s_left (d.left - 1)).s_had (va_up d.had f (d.had f + 1))).s_prices (d.prices + nI (P.price f))) D) := by
  have hn := hP.n
  have yp := yprice (c := c) (d := (d.s_left (d.left - 1)).s_had (va_up d.had f (d.had f + 1))) (D := D) hP (i := f) (by omega)
  unfold m_X12_has_J47
  rw [yr_100_20, Option.bind_some, yw_100_20, Option.bind_some, yr_100_19, Option.bind_some, ya_116 (by omega), Option.bind_some, yu_116 (by omega), Option.bind_some, yr_100_21, Option.bind_some, yo_100, Option.bind_some]
  rw [show (d.s_left (d.left - 1)).s_had (va_up (d.s_left (d.left - 1)).had f ((d.s_left (d.left - 1)).had f + 1)) = (d.s_left (d.left - 1)).s_had (va_up d.had f (d.had f + 1)) from rfl, yp, Option.bind_some, yw_100_21, Option.bind_some]
  rfl
/-- one request, the reference -/
theorem yhas (hN : 100 ≤ N) (hP : PR P d.now) {base : Int32} {L : List Nat} (hL : YD P base d L) {f t hd : Nat} (hf : f < P.n) (t1 : 1 ≤ t) (t2 : t ≤ 20) (hh : hd ≤ 1) (hw : WOK P (t - 1) d.worths) : ∃ d2 : MS, m_X12_has N 100 (nI f) (nI t) (nI hd) (mk c d D) = some (if dGive P hd L f t then 1 else 0, mk c d2 D) ∧ SD d d2 ∧ YD P base d2 (dStep P hd L f t) ∧ d2.askers = d.askers + 1 := by
  have hn := hP.n
  have h0 := hP.r0
  obtain ⟨y1, y2, y3, y4, y5⟩ := id hL
  have s1 : SD d (d.s_askers (d.askers + 1)) := ⟨by rfl, by rfl, by rfl, by rfl, fun w c D h => h⟩
  have k1 : YD P base (d.s_askers (d.askers + 1)) L := ⟨y1, y2, y3, y4, y5⟩
  have pre : m_X12_has N 100 (nI f) (nI t) (nI hd) (mk c d D) = if d.left = 0 then some (0, mk c (d.s_askers (d.askers + 1)) D) else if nI hd = 0 then (m_X12_isTaken N 100 (nI f) (nI t) d.left (mk c (d.s_askers (d.askers + 1)) D)).bind (fun x15 => if x15 = 0 then some (0, mk c (d.s_askers (d.askers + 1)) D) else m_X12_has_J47 N 100 (nI f) (mk c (d.s_askers (d.askers + 1)) D)) else (m_X12_isByHand N 100 (nI f) (mk c (d.s_askers (d.askers + 1)) D)).bind (fun x9 => if x9 = 0 then some (0, mk c (d.s_askers (d.askers + 1)) D) else m_X12_has_J47 N 100 (nI f) (mk c (d.s_askers (d.askers + 1)) D)) := by
    unfold m_X12_has
    rw [yr_100_22, Option.bind_some, yw_100_22, Option.bind_some, yr_100_20, Option.bind_some, Option.bind_some, yo_100, Option.bind_some, Option.bind_some]
    rfl
  have fin0 : ¬ dGive P hd L f t → m_X12_has N 100 (nI f) (nI t) (nI hd) (mk c d D) = some (0, mk c (d.s_askers (d.askers + 1)) D) → ∃ d2 : MS, m_X12_has N 100 (nI f) (nI t) (nI hd) (mk c d D) = some (if dGive P hd L f t then 1 else 0, mk c d2 D) ∧ SD d d2 ∧ YD P base d2 (dStep P hd L f t) ∧ d2.askers = d.askers + 1 := by
    intro g e
    refine ⟨d.s_askers (d.askers + 1), by rw [if_neg g]; exact e, s1, ?_, by rfl⟩
    unfold dStep
    rw [if_neg g]
    exact k1
  have fin1 : dGive P hd L f t → m_X12_has N 100 (nI f) (nI t) (nI hd) (mk c d D) = m_X12_has_J47 N 100 (nI f) (mk c (d.s_askers (d.askers + 1)) D) → ∃ d2 : MS, m_X12_has N 100 (nI f) (nI t) (nI hd) (mk c d D) = some (if dGive P hd L f t then 1 else 0, mk c d2 D) ∧ SD d d2 ∧ YD P base d2 (dStep P hd L f t) ∧ d2.askers = d.askers + 1 := by
    intro g e
    have gl := g.1
    have j := yj47 (c := c) (D := D) (N := N) (d := d.s_askers (d.askers + 1)) hP hf
    rw [j] at e
    refine ⟨(((d.s_askers (d.askers + 1)).s_left (d.left - 1)).s_had (va_up d.had f (d.had f + 1))).s_prices (d.prices + nI (P.price f)), by rw [if_pos g]; exact e, ⟨by rfl, by rfl, by rfl, by rfl, fun w c D h => h⟩, ?_, by rfl⟩
    unfold dStep
    rw [if_pos g]
    have len : (L ++ [f]).length = L.length + 1 := by rw [List.length_append, List.length_singleton]
    refine ⟨by omega, ?_, fun k hk => ?_, ?_, fun x hx => ?_⟩
    · show d.left - 1 = _
      rw [y2, show (1 : Int32) = nI 1 from rfl, pk_sub (by omega), len]
      congr 1
    · show va_up d.had f (d.had f + 1) k = _
      rw [List.count_append, List.count_singleton]
      by_cases q : k = f
      · subst q
        rw [upe, y3 k hk, nI_1]
        simp
      · rw [upn q, y3 k hk]
        simp [Ne.symm q]
    · show d.prices + nI (P.price f) = _
      rw [dSum_snoc, y4, Int32.add_assoc]
    · rcases List.mem_append.mp hx with h | h
      · exact y5 x h
      · rw [List.mem_singleton.mp h]; exact hf
  by_cases z : P.rules 0 - L.length = 0
  · rw [if_pos (by rw [y2, z]; rfl)] at pre
    exact fin0 (fun g => by have := g.1; omega) pre
  · rw [if_neg (by rw [y2, show (0 : Int32) = nI 0 from rfl, nI_eq (by omega) (by omega)]; exact z)] at pre
    by_cases q : hd = 1
    · subst q
      have hg := yhand_go (c := c) (D := D) (N := N) (d := d.s_askers (d.askers + 1)) hP k1 hf N 0 (by omega) (by omega)
      have hg : m_X12_isByHand N 100 (nI f) (mk c (d.s_askers (d.askers + 1)) D) = some (if L.countP (fun g => decide (P.price g ≤ P.price f)) < P.hand f then nI 1 else nI 0) := hg
      rw [if_neg (show ¬ nI 1 = 0 by decide), hg, Option.bind_some] at pre
      have gi : dGive P 1 L f t ↔ L.countP (fun g => decide (P.price g ≤ P.price f)) < P.hand f := ⟨fun g => (by have := g.2; rw [if_pos rfl] at this; exact this), fun g => ⟨by omega, by rw [if_pos rfl]; exact g⟩⟩
      by_cases y : L.countP (fun g => decide (P.price g ≤ P.price f)) < P.hand f
      · rw [if_pos y, if_neg (show ¬ nI 1 = 0 by decide)] at pre
        exact fin1 (gi.mpr y) pre
      · rw [if_neg y, if_pos (show nI 0 = 0 from rfl)] at pre
        exact fin0 (fun g => y (gi.mp g)) pre
    · have q0 : hd = 0 := by omega
      subst q0
      have hg := ytaken (c := c) (D := D) (d := d.s_askers (d.askers + 1)) hN hP (f := f) (t := t) (s := P.rules 0 - L.length) hf t1 t2 (by omega) (by omega) hw
      rw [if_pos (show nI 0 = 0 from rfl), y2, hg, Option.bind_some] at pre
      have gi : dGive P 0 L f t ↔ takeB P f t (P.rules 0 - L.length) = 1 := ⟨fun g => (by have := g.2; rw [if_neg (by decide)] at this; exact this), fun g => ⟨by omega, by rw [if_neg (by decide)]; exact g⟩⟩
      have tl := takeB_le (P := P) (f := f) (t := t) (s := P.rules 0 - L.length)
      by_cases y : takeB P f t (P.rules 0 - L.length) = 1
      · rw [y, if_neg (show ¬ nI 1 = 0 by decide)] at pre
        exact fin1 (gi.mpr y) pre
      · rw [show takeB P f t (P.rules 0 - L.length) = 0 by omega, if_pos (show nI 0 = 0 from rfl)] at pre
        exact fin0 (fun g => y (gi.mp g)) pre
end

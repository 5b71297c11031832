-- one route, the class's side
section
variable {c c0 : CS} {d d0 : MS} {D : mM} {N k : Nat} {a : Int32} {P : PL}
theorem encB_n {x : Option Nat} (h : ∀ f, x = some f → f ≤ 1000) : encB x = -1 ↔ x = none := by
  cases x with
  | none => exact ⟨fun _ => rfl, fun _ => rfl⟩
  | some f =>
    have := h f rfl
    refine ⟨fun e => ?_, fun e => by cases e⟩
    have e : nI f = -1 := e
    have : (nI f).toInt = (-1 : Int32).toInt := by rw [e]
    rw [nI_toInt (by omega), show (-1 : Int32).toInt = -1 from rfl] at this
    omega
theorem nI_m1 {f : Nat} (h : f ≤ 1000) : ¬ nI f = -1 := fun e => by
  have : (nI f).toInt = (-1 : Int32).toInt := by rw [e]
  rw [nI_toInt (by omega), show (-1 : Int32).toInt = -1 from rfl] at this
  omega
theorem xj79 (hN : 100 ≤ N) (hP : PR c.pl d.now) (hR : RO c.pl d.now D) {nq : Nat → Nat} (hq : RQ c D nq) (ht : c.tn ≤ 12) {v i : Nat} (hv : v < 2 ^ 24) (hi : i ≤ 500) (ha : c.tat ≤ 500) (hn : c.tname = nI v) : ((12 ≤ c.pl.rc + c.tn ∨ c.tat = i ∨ (∃ q, q < c.pl.rc ∧ nmR d.now q = v) ∨ (∃ q, q < c.tn ∧ nq q = v)) → m_X7_faultOfName_J79 N 77 14 (nI i) (mk c d D) = some (nI i, mk c d D)) ∧ (¬ (12 ≤ c.pl.rc + c.tn ∨ c.tat = i ∨ (∃ q, q < c.pl.rc ∧ nmR d.now q = v) ∨ (∃ q, q < c.tn ∧ nq q = v)) → m_X7_faultOfName_J79 N 77 14 (nI i) (mk c d D) = some (-1, mk c d D)) := by
  have hr := hP.rc
  have h0 : ∀ si : Int32, m_X7_faultOfName_J98 N 77 14 (nI i) si (mk c d D) = if nI c.tat = nI i then some (nI i, mk c d D) else if si = 0 then some (nI i, mk c d D) else (m_X4_placeOf N 14 (nI v) (mk c d D)).bind fun x7 => if x7 = -1 then (m_X7_isRead N 77 (nI v) (mk c d D)).bind fun x13 => if x13 = 0 then some (-1, mk c d D) else some (nI i, mk c d D) else some (nI i, mk c d D) := by
    intro si
    unfold m_X7_faultOfName_J98
    rw [yr_77_4, Option.bind_some, yr_77_5, Option.bind_some, yo_14, Option.bind_some, Option.bind_some, yo_77, hn]
    rfl
  have ei : (nI c.tat = nI i) ↔ c.tat = i := nI_eq (by omega) (by omega)
  unfold m_X7_faultOfName_J79
  rw [yr_14_3, Option.bind_some, yr_77_3, Option.bind_some, nI_add, h0, h0]
  by_cases f : 12 ≤ c.pl.rc + c.tn
  · refine ⟨fun _ => ?_, fun z => absurd (Or.inl f) z⟩
    rw [if_pos (by rw [show (12 : Int32) = nI 12 from rfl, nI_leI (by omega) (by omega)]; exact f)]
    split
    · rfl
    · exact if_pos rfl
  · rw [if_neg (by rw [show (12 : Int32) = nI 12 from rfl, nI_leI (by omega) (by omega)]; exact f)]
    by_cases g : c.tat = i
    · refine ⟨fun _ => ?_, fun z => absurd (Or.inr (Or.inl g)) z⟩
      rw [if_pos (ei.mpr g)]
    · rw [if_neg (fun y => g (ei.mp y)), if_neg (by decide)]
      have xp := xplace (D := D) hN hP hR hv
      rcases xp with ⟨p, p1, p2, p3⟩ | ⟨p2, p3⟩
      · refine ⟨fun _ => ?_, fun z => absurd (Or.inr (Or.inr (Or.inl ⟨p, p1, p2⟩))) z⟩
        rw [p3, Option.bind_some, if_neg (nI_m1 (by omega))]
      · have xr := xread_go (d := d) (N := N) hq ht hv N 0 (by omega) (by omega) (fun q h => by omega)
        rw [p3, Option.bind_some, if_pos rfl]
        rcases xr with ⟨r1, r2⟩ | ⟨r1, r2⟩
        · refine ⟨fun _ => ?_, fun z => absurd (Or.inr (Or.inr (Or.inr r1))) z⟩
          show (m_X7_isRead_L2 N (mk c d D) N 77 (nI v) (nI 0)).bind _ = _
          rw [r2, Option.bind_some, if_neg (by decide)]
        · refine ⟨fun z => ?_, fun z => ?_⟩
          · rcases z with z | z | ⟨q, q1, q2⟩ | ⟨q, q1, q2⟩
            · exact absurd z f
            · exact absurd z g
            · exact absurd q2 (p2 q q1)
            · exact absurd q2 (r1 q q1)
          · show (m_X7_isRead_L2 N (mk c d D) N 77 (nI v) (nI 0)).bind _ = _
            rw [r2, Option.bind_some, if_pos rfl]
theorem xsign (hT : TP c d0) {s : Nat} (hs : s ≤ 127) (ha : c.tat ≤ 500) : m_X7_faultOfSign 77 (nI s) (mk c d D) = if tbn c c.tat = s then some (-1, mk (c.s_tat (c.tat + 1)) d D) else some (nI c.tat, mk c d D) := by
  have bl := tbn_le hT c.tat
  have xb := xbyte (d := d) (D := D) hT (i := c.tat) (by omega)
  unfold m_X7_faultOfSign
  rw [yr_77_4, Option.bind_some, yo_77, Option.bind_some, xb, Option.bind_some]
  by_cases z : tbn c c.tat = s
  · rw [if_pos (by rw [z]), if_pos z, Option.bind_some, nI_1, yw_77_4, Option.bind_some]
  · rw [if_neg (fun y => z ((nI_eq (by omega) (by omega)).mp y)), if_neg z, Option.bind_some]
theorem xlegs (hN : 100 ≤ N) (hT : TP c d0) (ha : c.tat ≤ 400) : m_X7_faultOfLegs N 77 (mk c d D) = some (if (lgs (tbn c) 4 c.tat 48 0).2 = 0 then nI (lgs (tbn c) 4 c.tat 48 0).1 else -1, mk ((c.s_tlegs (nI (lgs (tbn c) 4 c.tat 48 0).2)).s_tat (lgs (tbn c) 4 c.tat 48 0).1) d D) := by
  have l1 := lgs_v (b := tbn c) 4 c.tat 48 0 (by omega) (by omega)
  unfold m_X7_faultOfLegs
  rw [yw_77_6, Option.bind_some]
  have x := xlegs_go (N := N) (d := d) (D := D) N 4 48 0 (c.s_tlegs 0) hT rfl (by show c.tat + 4 ≤ 500; omega) (by omega) (by omega) (by omega) (by omega) (by rfl)
  refine x.trans ?_
  unfold m_X7_faultOfLegs_J89
  rw [yr_77_6, Option.bind_some]
  show (if nI (lgs (tbn c) 4 c.tat 48 0).2 = 0 then _ else _) = _
  by_cases z : (lgs (tbn c) 4 c.tat 48 0).2 = 0
  · rw [if_pos (by rw [z]; rfl), if_pos z, yr_77_4, Option.bind_some]
    rfl
  · rw [if_neg (by rw [show (0 : Int32) = nI 0 from rfl, nI_eq (by omega) (by omega)]; exact z), if_neg z]
    rfl
theorem xprice (hN : 100 ≤ N) (hT : TP c d0) (ha : c.tat ≤ 400) : m_X7_faultOfPrice N 77 (mk c d D) = some (if (dgs (tbn c) 4 c.tat 0).2 = 0 then nI c.tat else -1, mk ((c.s_tprice (nI (dgs (tbn c) 4 c.tat 0).2)).s_tat (dgs (tbn c) 4 c.tat 0).1) d D) := by
  have l1 := dg4 (b := tbn c) (i := c.tat)
  have x : m_X7_numberOf N 77 4 (mk c d D) = _ := xnum_go (N := N) (d := d) (D := D) (mx := 4) (by omega) N 0 0 c hT rfl (by show c.tat + 4 ≤ 500; omega) (by omega) (by omega) (by omega)
  unfold m_X7_faultOfPrice
  rw [yr_77_4, Option.bind_some, yo_77, Option.bind_some, x, Option.bind_some, yw_77_7, Option.bind_some, yr_77_7, Option.bind_some]
  show (if nI (dgs (tbn c) 4 c.tat 0).2 = 0 then _ else _) = _
  by_cases z : (dgs (tbn c) 4 c.tat 0).2 = 0
  · rw [if_pos (by rw [z]; rfl), if_pos z]
    rfl
  · rw [if_neg (by rw [show (0 : Int32) = nI 0 from rfl, nI_eq (by omega) (by omega)]; exact z), if_neg z]
    rfl
theorem xwanted (hN : 100 ≤ N) (hT : TP c d0) (ha : c.tat ≤ 400) : m_X7_faultOfWanted N 77 (mk c d D) = some (encB (f5 (tbn c) c.tat), mk ((c.s_twanted (nI (w5 (tbn c) c.tat).2)).s_tat (w5 (tbn c) c.tat).1) d D) := by
  have bl := tbn_le hT c.tat
  have l1 := dg2 (b := tbn c) (i := c.tat + 1)
  have xb : m_X7_byteAt 77 (nI c.tat) (mk (c.s_twanted (nI 0)) d D) = _ := xbyte (d := d) (D := D) (c := c.s_twanted (nI 0)) hT (i := c.tat) (by omega)
  have xb : m_X7_byteAt 77 (nI c.tat) (mk (c.s_twanted (nI 0)) d D) = some (nI (tbn c c.tat)) := xb
  unfold m_X7_faultOfWanted f5 w5
  rw [show (0 : Int32) = nI 0 from rfl, yw_77_8, Option.bind_some, yr_77_4, Option.bind_some, yo_77, Option.bind_some, show (c.s_twanted (nI 0)).tat = c.tat from rfl, xb, Option.bind_some]
  by_cases z : tbn c c.tat = 42
  · have x : m_X7_numberOf N 77 2 (mk ((c.s_twanted (nI 0)).s_tat (c.tat + 1)) d D) = _ := xnum_go (N := N) (d := d) (D := D) (mx := 2) (by omega) N 0 0 ((c.s_twanted (nI 0)).s_tat (c.tat + 1)) hT rfl (by show c.tat + 1 + 2 ≤ 500; omega) (by omega) (by omega) (by omega)
    rw [if_pos (by rw [z]; rfl), if_pos z, Option.bind_some, nI_1, yw_77_4, Option.bind_some, yr_77_4, Option.bind_some, yo_77, Option.bind_some, x, Option.bind_some, yw_77_8, Option.bind_some, yr_77_4, Option.bind_some]
    show (if nI (dgs (tbn c) 2 (c.tat + 1) 0).1 = nI (c.tat + 1) then some (nI (c.tat + 1), _) else _) = _
    by_cases w : (dgs (tbn c) 2 (c.tat + 1) 0).1 = c.tat + 1
    · rw [if_pos (by rw [w]), if_pos ⟨z, w⟩]
      rfl
    · rw [if_neg (fun y => w ((nI_eq (by omega) (by omega)).mp y)), if_neg (fun y => w y.2)]
      rfl
  · rw [if_neg (by rw [show (42 : Int32) = nI 42 from rfl, nI_eq (by omega) (by omega)]; exact z), if_neg z, if_neg (fun y => z y.1)]
    rfl
theorem f5_le {b : Nat → Nat} {p f : Nat} (h : f5 b p = some f) : f ≤ p + 1 := by
  unfold f5 at h
  split at h
  · cases h; omega
  · cases h
theorem f4_le {b : Nat → Nat} {p f : Nat} (h : f4 b p = some f) : f ≤ p + 5 := by
  have l1 := dg4 (b := b) (i := p)
  unfold f4 at h
  split at h
  · cases h; omega
  · have := f5_le h; omega
theorem f3_le {b : Nat → Nat} {p f : Nat} (h : f3 b p = some f) : f ≤ p + 6 := by
  unfold f3 at h
  split at h
  · have := f4_le h; omega
  · cases h; omega
theorem f2_le {b : Nat → Nat} {p f : Nat} (h : f2 b p = some f) : f ≤ p + 10 := by
  have l1 := lgs_le (b := b) 4 p 48 0
  unfold f2 at h
  split at h
  · cases h; omega
  · have := f3_le h; omega
theorem f1_le {b : Nat → Nat} {p f : Nat} (h : f1 b p = some f) : f ≤ p + 11 := by
  unfold f1 at h
  split at h
  · have := f2_le h; omega
  · cases h; omega
theorem xJ65 (hN : 100 ≤ N) (hT : TP c d0) (ha : c.tat ≤ 400) : ∃ w t, m_X7_faultOfPart_J65 N 77 (-1) (mk c d D) = some (encB (f5 (tbn c) c.tat), mk ((c.s_twanted w).s_tat t) d D) ∧ (f5 (tbn c) c.tat = none → w = nI (w5 (tbn c) c.tat).2 ∧ t = (w5 (tbn c) c.tat).1) := by
  refine ⟨nI (w5 (tbn c) c.tat).2, (w5 (tbn c) c.tat).1, ?_, fun _ => ⟨rfl, rfl⟩⟩
  unfold m_X7_faultOfPart_J65
  rw [if_pos rfl, yo_77, Option.bind_some, xwanted hN hT ha, Option.bind_some]
theorem xJ51 (hN : 100 ≤ N) (hT : TP c d0) (ha : c.tat ≤ 390) : ∃ r w t, m_X7_faultOfPart_J51 N 77 (-1) (mk c d D) = some (encB (f4 (tbn c) c.tat), mk (((c.s_tprice r).s_twanted w).s_tat t) d D) ∧ (f4 (tbn c) c.tat = none → r = nI (w4 (tbn c) c.tat).1 ∧ w = nI (w4 (tbn c) c.tat).2.2 ∧ t = (w4 (tbn c) c.tat).2.1) := by
  have l1 := dg4 (b := tbn c) (i := c.tat)
  unfold m_X7_faultOfPart_J51 f4
  rw [if_pos rfl, yo_77, Option.bind_some, xprice hN hT (by omega), Option.bind_some]
  by_cases z : (dgs (tbn c) 4 c.tat 0).2 = 0
  · refine ⟨nI (dgs (tbn c) 4 c.tat 0).2, c.twanted, (dgs (tbn c) 4 c.tat 0).1, ?_, fun h => ?_⟩
    · rw [if_pos z, if_pos z]
      unfold m_X7_faultOfPart_J65
      rw [if_neg (nI_m1 (by omega))]
      rfl
    · rw [if_pos z] at h
      cases h
  · obtain ⟨w, t, x1, x2⟩ := xJ65 (N := N) (d := d) (D := D) (c := (c.s_tprice (nI (dgs (tbn c) 4 c.tat 0).2)).s_tat (dgs (tbn c) 4 c.tat 0).1) hN hT (by show (dgs (tbn c) 4 c.tat 0).1 ≤ 400; omega)
    refine ⟨nI (dgs (tbn c) 4 c.tat 0).2, w, t, ?_, fun h => ?_⟩
    · rw [if_neg z, if_neg z]
      exact x1
    · rw [if_neg z] at h
      exact ⟨rfl, x2 h⟩
theorem xJ35 (hN : 100 ≤ N) (hT : TP c d0) (ha : c.tat ≤ 380) : ∃ r w t, m_X7_faultOfPart_J35 N 77 (-1) (mk c d D) = some (encB (f3 (tbn c) c.tat), mk (((c.s_tprice r).s_twanted w).s_tat t) d D) ∧ (f3 (tbn c) c.tat = none → r = nI (w4 (tbn c) (c.tat + 1)).1 ∧ w = nI (w4 (tbn c) (c.tat + 1)).2.2 ∧ t = (w4 (tbn c) (c.tat + 1)).2.1) := by
  have xs : m_X7_faultOfSign 77 58 (mk c d D) = _ := xsign (s := 58) hT (by omega) (by omega)
  unfold m_X7_faultOfPart_J35 f3
  rw [if_pos rfl, yo_77, Option.bind_some, xs]
  by_cases z : tbn c c.tat = 58
  · obtain ⟨r, w, t, x1, x2⟩ := xJ51 (N := N) (d := d) (D := D) (c := c.s_tat (c.tat + 1)) hN hT (by show c.tat + 1 ≤ 390; omega)
    refine ⟨r, w, t, ?_, fun h => ?_⟩
    · rw [if_pos z, if_pos z, Option.bind_some]
      exact x1
    · rw [if_pos z] at h
      exact x2 h
  · refine ⟨c.tprice, c.twanted, c.tat, ?_, fun h => ?_⟩
    · rw [if_neg z, if_neg z, Option.bind_some]
      unfold m_X7_faultOfPart_J51
      rw [if_neg (nI_m1 (by show c.tat ≤ 1000; omega))]
      unfold m_X7_faultOfPart_J65
      rw [if_neg (nI_m1 (by show c.tat ≤ 1000; omega))]
      rfl
    · rw [if_neg z] at h
      cases h
theorem xJ21 (hN : 100 ≤ N) (hT : TP c d0) (ha : c.tat ≤ 370) : ∃ l r w t, m_X7_faultOfPart_J21 N 77 (-1) (mk c d D) = some (encB (f2 (tbn c) c.tat), mk ((((c.s_tlegs l).s_tprice r).s_twanted w).s_tat t) d D) ∧ (f2 (tbn c) c.tat = none → l = nI (w2 (tbn c) c.tat).1 ∧ r = nI (w2 (tbn c) c.tat).2.1 ∧ w = nI (w2 (tbn c) c.tat).2.2.2 ∧ t = (w2 (tbn c) c.tat).2.2.1) := by
  have l1 := lgs_le (b := tbn c) 4 c.tat 48 0
  unfold m_X7_faultOfPart_J21 f2
  rw [if_pos rfl, yo_77, Option.bind_some, xlegs hN hT (by omega), Option.bind_some]
  by_cases z : (lgs (tbn c) 4 c.tat 48 0).2 = 0
  · refine ⟨nI (lgs (tbn c) 4 c.tat 48 0).2, c.tprice, c.twanted, (lgs (tbn c) 4 c.tat 48 0).1, ?_, fun h => ?_⟩
    · rw [if_pos z, if_pos z]
      unfold m_X7_faultOfPart_J35
      rw [if_neg (nI_m1 (by omega))]
      unfold m_X7_faultOfPart_J51
      rw [if_neg (nI_m1 (by omega))]
      unfold m_X7_faultOfPart_J65
      rw [if_neg (nI_m1 (by omega))]
      rfl
    · rw [if_pos z] at h
      cases h
  · obtain ⟨r, w, t, x1, x2⟩ := xJ35 (N := N) (d := d) (D := D) (c := (c.s_tlegs (nI (lgs (tbn c) 4 c.tat 48 0).2)).s_tat (lgs (tbn c) 4 c.tat 48 0).1) hN hT (by show (lgs (tbn c) 4 c.tat 48 0).1 ≤ 380; omega)
    refine ⟨nI (lgs (tbn c) 4 c.tat 48 0).2, r, w, t, ?_, fun h => ?_⟩
    · rw [if_neg z, if_neg z]
      exact x1
    · rw [if_neg z] at h
      exact ⟨rfl, x2 h⟩
/-- the class's reading of a route -/
theorem xbkp (hN : 100 ≤ N) (hP : PR c.pl d.now) (hR : RO c.pl d.now D) {nq : Nat → Nat} (hq : RQ c D nq) (ht : c.tn ≤ 12) (hT : TP c d0) (ha : c.tat ≤ 300) : ((12 ≤ c.pl.rc + c.tn ∨ lts (tbn c) 3 c.tat = 0 ∨ (∃ q, q < c.pl.rc ∧ nmR d.now q = nmA (tbn c) c.tat) ∨ (∃ q, q < c.tn ∧ nq q = nmA (tbn c) c.tat)) → ∃ v t, m_X7_faultOfPart N 77 14 (mk c d D) = some (nI c.tat, mk ((c.s_tname v).s_tat t) d D)) ∧ (¬ (12 ≤ c.pl.rc + c.tn ∨ lts (tbn c) 3 c.tat = 0 ∨ (∃ q, q < c.pl.rc ∧ nmR d.now q = nmA (tbn c) c.tat) ∨ (∃ q, q < c.tn ∧ nq q = nmA (tbn c) c.tat)) → ∃ l r w t, m_X7_faultOfPart N 77 14 (mk c d D) = some (encB (f1 (tbn c) (c.tat + lts (tbn c) 3 c.tat)), mk (((((c.s_tname (nI (nmA (tbn c) c.tat))).s_tlegs l).s_tprice r).s_twanted w).s_tat t) d D) ∧ (f1 (tbn c) (c.tat + lts (tbn c) 3 c.tat) = none → l = nI (w2 (tbn c) (c.tat + lts (tbn c) 3 c.tat + 1)).1 ∧ r = nI (w2 (tbn c) (c.tat + lts (tbn c) 3 c.tat + 1)).2.1 ∧ w = nI (w2 (tbn c) (c.tat + lts (tbn c) 3 c.tat + 1)).2.2.2 ∧ t = (w2 (tbn c) (c.tat + lts (tbn c) 3 c.tat + 1)).2.2.1)) := by
  have ln := lts_le (b := tbn c) 3 c.tat
  have xn : m_X7_faultOfName N 77 14 (mk c d D) = m_X7_faultOfName_J79 N 77 14 (nI c.tat) (mk ((c.s_tname (nI (nmA (tbn c) c.tat))).s_tat (c.tat + lts (tbn c) 3 c.tat)) d D) := by
    have x := xlet_go (N := N) (d := d) (D := D) (b := tbn c) (i := c.tat) N 3 0 (c.s_tname (nI 0)) hT rfl (by omega) (by omega) (by rfl) (by rfl) (by omega)
    simp only [Nat.zero_add, Nat.add_zero] at x
    unfold m_X7_faultOfName
    rw [yr_77_4, Option.bind_some, show (0 : Int32) = nI 0 from rfl, yw_77_5, Option.bind_some, x, nmP_A]
    rfl
  obtain ⟨j1, j2⟩ := xj79 (N := N) (d := d) (D := D) (c := (c.s_tname (nI (nmA (tbn c) c.tat))).s_tat (c.tat + lts (tbn c) 3 c.tat)) hN hP hR (nq := nq) hq ht (v := nmA (tbn c) c.tat) (i := c.tat) nmA_lt (by omega) (by show c.tat + lts (tbn c) 3 c.tat ≤ 500; omega) rfl
  have e0 : (c.tat + lts (tbn c) 3 c.tat = c.tat) ↔ lts (tbn c) 3 c.tat = 0 := by omega
  have j1 : 12 ≤ c.pl.rc + c.tn ∨ c.tat + lts (tbn c) 3 c.tat = c.tat ∨ (∃ q, q < c.pl.rc ∧ nmR d.now q = nmA (tbn c) c.tat) ∨ (∃ q, q < c.tn ∧ nq q = nmA (tbn c) c.tat) → _ := j1
  have j2 : ¬ (12 ≤ c.pl.rc + c.tn ∨ c.tat + lts (tbn c) 3 c.tat = c.tat ∨ (∃ q, q < c.pl.rc ∧ nmR d.now q = nmA (tbn c) c.tat) ∨ (∃ q, q < c.tn ∧ nq q = nmA (tbn c) c.tat)) → _ := j2
  rw [e0] at j1 j2
  unfold m_X7_faultOfPart
  rw [yo_77, Option.bind_some, xn]
  refine ⟨fun h => ?_, fun h => ?_⟩
  · refine ⟨nI (nmA (tbn c) c.tat), c.tat + lts (tbn c) 3 c.tat, ?_⟩
    rw [j1 h, Option.bind_some, if_neg (nI_m1 (by show c.tat ≤ 1000; omega))]
    unfold m_X7_faultOfPart_J21
    rw [if_neg (nI_m1 (by show c.tat ≤ 1000; omega))]
    unfold m_X7_faultOfPart_J35
    rw [if_neg (nI_m1 (by show c.tat ≤ 1000; omega))]
    unfold m_X7_faultOfPart_J51
    rw [if_neg (nI_m1 (by show c.tat ≤ 1000; omega))]
    unfold m_X7_faultOfPart_J65
    rw [if_neg (nI_m1 (by show c.tat ≤ 1000; omega))]
  · rw [j2 h, Option.bind_some, if_pos rfl, yo_77, Option.bind_some]
    have xs : m_X7_faultOfSign 77 61 (mk ((c.s_tname (nI (nmA (tbn c) c.tat))).s_tat (c.tat + lts (tbn c) 3 c.tat)) d D) = _ := xsign (c := (c.s_tname (nI (nmA (tbn c) c.tat))).s_tat (c.tat + lts (tbn c) 3 c.tat)) (s := 61) hT (by omega) (by show c.tat + lts (tbn c) 3 c.tat ≤ 500; omega)
    have xs : m_X7_faultOfSign 77 61 (mk ((c.s_tname (nI (nmA (tbn c) c.tat))).s_tat (c.tat + lts (tbn c) 3 c.tat)) d D) = if tbn c (c.tat + lts (tbn c) 3 c.tat) = 61 then some (-1, mk ((c.s_tname (nI (nmA (tbn c) c.tat))).s_tat (c.tat + lts (tbn c) 3 c.tat + 1)) d D) else some (nI (c.tat + lts (tbn c) 3 c.tat), mk ((c.s_tname (nI (nmA (tbn c) c.tat))).s_tat (c.tat + lts (tbn c) 3 c.tat)) d D) := xs
    rw [xs]
    unfold f1
    by_cases z : tbn c (c.tat + lts (tbn c) 3 c.tat) = 61
    · rw [if_pos z, if_pos z, Option.bind_some]
      exact xJ21 (N := N) (d := d) (D := D) (c := (c.s_tname (nI (nmA (tbn c) c.tat))).s_tat (c.tat + lts (tbn c) 3 c.tat + 1)) hN hT (by show c.tat + lts (tbn c) 3 c.tat + 1 ≤ 370; omega)
    · rw [if_neg z, if_neg z, Option.bind_some]
      refine ⟨c.tlegs, c.tprice, c.twanted, c.tat + lts (tbn c) 3 c.tat, ?_, fun h => by cases h⟩
      unfold m_X7_faultOfPart_J21
      rw [if_neg (nI_m1 (by show c.tat + lts (tbn c) 3 c.tat ≤ 1000; omega))]
      unfold m_X7_faultOfPart_J35
      rw [if_neg (nI_m1 (by show c.tat + lts (tbn c) 3 c.tat ≤ 1000; omega))]
      unfold m_X7_faultOfPart_J51
      rw [if_neg (nI_m1 (by show c.tat + lts (tbn c) 3 c.tat ≤ 1000; omega))]
      unfold m_X7_faultOfPart_J65
      rw [if_neg (nI_m1 (by show c.tat + lts (tbn c) 3 c.tat ≤ 1000; omega))]
      rfl
end

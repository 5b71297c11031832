set_option maxRecDepth 100000
def PL : Type := (((Nat × (Nat → Nat)) × ((Nat → Nat) × ((Nat → Nat) × (Nat → Option Nat)))) × ((Nat × (Int32 × (Nat → Nat))) × ((Nat → Nat) × ((Nat → Nat) × (Nat → Nat → Nat)))))
def PL.n (c : PL) : Nat := c.1.1.1
def PL.rules (c : PL) : Nat → Nat := c.1.1.2
def PL.len (c : PL) : Nat → Nat := c.1.2.1
def PL.free (c : PL) : Nat → Nat := c.1.2.2.1
def PL.rts (c : PL) : Nat → Option Nat := c.1.2.2.2
def PL.rc (c : PL) : Nat := c.2.1.1
def PL.seed (c : PL) : Int32 := c.2.1.2.1
def PL.kind (c : PL) : Nat → Nat := c.2.1.2.2
def PL.price (c : PL) : Nat → Nat := c.2.2.1
def PL.hand (c : PL) : Nat → Nat := c.2.2.2.1
def PL.odds (c : PL) : Nat → Nat → Nat := c.2.2.2.2
def PL.s_n (c : PL) (x : Nat) : PL := (((x, c.1.1.2), c.1.2), c.2)
def PL.s_rules (c : PL) (x : Nat → Nat) : PL := (((c.1.1.1, x), c.1.2), c.2)
def PL.s_len (c : PL) (x : Nat → Nat) : PL := ((c.1.1, (x, c.1.2.2)), c.2)
def PL.s_free (c : PL) (x : Nat → Nat) : PL := ((c.1.1, (c.1.2.1, (x, c.1.2.2.2))), c.2)
def PL.s_rts (c : PL) (x : Nat → Option Nat) : PL := ((c.1.1, (c.1.2.1, (c.1.2.2.1, x))), c.2)
def PL.s_rc (c : PL) (x : Nat) : PL := (c.1, ((x, c.2.1.2), c.2.2))
def PL.s_seed (c : PL) (x : Int32) : PL := (c.1, ((c.2.1.1, (x, c.2.1.2.2)), c.2.2))
def PL.s_kind (c : PL) (x : Nat → Nat) : PL := (c.1, ((c.2.1.1, (c.2.1.2.1, x)), c.2.2))
def PL.s_price (c : PL) (x : Nat → Nat) : PL := (c.1, (c.2.1, (x, c.2.2.2)))
def PL.s_hand (c : PL) (x : Nat → Nat) : PL := (c.1, (c.2.1, (c.2.2.1, (x, c.2.2.2.2))))
def PL.s_odds (c : PL) (x : Nat → Nat → Nat) : PL := (c.1, (c.2.1, (c.2.2.1, (c.2.2.2.1, x))))
def CS : Type := (((((PL × PL) × (Int32 × Nat)) × (((Nat → Nat → UInt64) × (Nat → UInt64)) × ((Nat → Int64) × (Nat → UInt64)))) × ((((Nat → Int32) × Nat) × ((Nat → Option Nat) × Nat)) × ((Nat × Int32) × (Int32 × (Int32 × Int32))))) × (((((Nat → Int32) × (Nat → Int32)) × (Nat × Nat)) × ((Nat × Int32) × (Int32 × Nat))) × (((Int32 × Int32) × (Nat × (Nat → Int32))) × (((Nat → Nat) × (Nat → Int32)) × ((Nat → Nat → Int32) × ((Nat → Nat → Int64) × (Nat → Int32)))))))
def CS.pl (c : CS) : PL := c.1.1.1.1.1
def CS.pic (c : CS) : PL := c.1.1.1.1.2
def CS.pictured (c : CS) : Int32 := c.1.1.1.2.1
def CS.made (c : CS) : Nat := c.1.1.1.2.2
def CS.rows (c : CS) : Nat → Nat → UInt64 := c.1.1.2.1.1
def CS.nets (c : CS) : Nat → UInt64 := c.1.1.2.1.2
def CS.wrow (c : CS) : Nat → Int64 := c.1.1.2.2.1
def CS.crow (c : CS) : Nat → UInt64 := c.1.1.2.2.2
def CS.tb (c : CS) : Nat → Int32 := c.1.2.1.1.1
def CS.tsize (c : CS) : Nat := c.1.2.1.1.2
def CS.tread (c : CS) : Nat → Option Nat := c.1.2.1.2.1
def CS.tn (c : CS) : Nat := c.1.2.1.2.2
def CS.tat (c : CS) : Nat := c.1.2.2.1.1
def CS.tname (c : CS) : Int32 := c.1.2.2.1.2
def CS.tlegs (c : CS) : Int32 := c.1.2.2.2.1
def CS.tprice (c : CS) : Int32 := c.1.2.2.2.2.1
def CS.twanted (c : CS) : Int32 := c.1.2.2.2.2.2
def CS.pa (c : CS) : Nat → Int32 := c.2.1.1.1.1
def CS.ph (c : CS) : Nat → Int32 := c.2.1.1.1.2
def CS.dleft (c : CS) : Nat := c.2.1.1.2.1
def CS.dasked (c : CS) : Nat := c.2.1.1.2.2
def CS.dcount (c : CS) : Nat := c.2.1.2.1.1
def CS.dprices (c : CS) : Int32 := c.2.1.2.1.2
def CS.dplaces (c : CS) : Int32 := c.2.1.2.2.1
def CS.pgv (c : CS) : Nat := c.2.1.2.2.2
def CS.pgcd (c : CS) : Int32 := c.2.2.1.1.1
def CS.pg2 (c : CS) : Int32 := c.2.2.1.1.2
def CS.pgc (c : CS) : Nat := c.2.2.1.2.1
def CS.pg0 (c : CS) : Nat → Int32 := c.2.2.1.2.2
def CS.tk (c : CS) : Nat → Nat := c.2.2.2.1.1
def CS.tsz (c : CS) : Nat → Int32 := c.2.2.2.1.2
def CS.tpl (c : CS) : Nat → Nat → Int32 := c.2.2.2.2.1
def CS.li (c : CS) : Nat → Nat → Int64 := c.2.2.2.2.2.1
def CS.ls (c : CS) : Nat → Int32 := c.2.2.2.2.2.2
def CS.s_pl (c : CS) (x : PL) : CS := (((((x, c.1.1.1.1.2), c.1.1.1.2), c.1.1.2), c.1.2), c.2)
def CS.s_pic (c : CS) (x : PL) : CS := (((((c.1.1.1.1.1, x), c.1.1.1.2), c.1.1.2), c.1.2), c.2)
def CS.s_pictured (c : CS) (x : Int32) : CS := ((((c.1.1.1.1, (x, c.1.1.1.2.2)), c.1.1.2), c.1.2), c.2)
def CS.s_made (c : CS) (x : Nat) : CS := ((((c.1.1.1.1, (c.1.1.1.2.1, x)), c.1.1.2), c.1.2), c.2)
def CS.s_rows (c : CS) (x : Nat → Nat → UInt64) : CS := (((c.1.1.1, ((x, c.1.1.2.1.2), c.1.1.2.2)), c.1.2), c.2)
def CS.s_nets (c : CS) (x : Nat → UInt64) : CS := (((c.1.1.1, ((c.1.1.2.1.1, x), c.1.1.2.2)), c.1.2), c.2)
def CS.s_wrow (c : CS) (x : Nat → Int64) : CS := (((c.1.1.1, (c.1.1.2.1, (x, c.1.1.2.2.2))), c.1.2), c.2)
def CS.s_crow (c : CS) (x : Nat → UInt64) : CS := (((c.1.1.1, (c.1.1.2.1, (c.1.1.2.2.1, x))), c.1.2), c.2)
def CS.s_tb (c : CS) (x : Nat → Int32) : CS := ((c.1.1, (((x, c.1.2.1.1.2), c.1.2.1.2), c.1.2.2)), c.2)
def CS.s_tsize (c : CS) (x : Nat) : CS := ((c.1.1, (((c.1.2.1.1.1, x), c.1.2.1.2), c.1.2.2)), c.2)
def CS.s_tread (c : CS) (x : Nat → Option Nat) : CS := ((c.1.1, ((c.1.2.1.1, (x, c.1.2.1.2.2)), c.1.2.2)), c.2)
def CS.s_tn (c : CS) (x : Nat) : CS := ((c.1.1, ((c.1.2.1.1, (c.1.2.1.2.1, x)), c.1.2.2)), c.2)
def CS.s_tat (c : CS) (x : Nat) : CS := ((c.1.1, (c.1.2.1, ((x, c.1.2.2.1.2), c.1.2.2.2))), c.2)
def CS.s_tname (c : CS) (x : Int32) : CS := ((c.1.1, (c.1.2.1, ((c.1.2.2.1.1, x), c.1.2.2.2))), c.2)
def CS.s_tlegs (c : CS) (x : Int32) : CS := ((c.1.1, (c.1.2.1, (c.1.2.2.1, (x, c.1.2.2.2.2)))), c.2)
def CS.s_tprice (c : CS) (x : Int32) : CS := ((c.1.1, (c.1.2.1, (c.1.2.2.1, (c.1.2.2.2.1, (x, c.1.2.2.2.2.2))))), c.2)
def CS.s_twanted (c : CS) (x : Int32) : CS := ((c.1.1, (c.1.2.1, (c.1.2.2.1, (c.1.2.2.2.1, (c.1.2.2.2.2.1, x))))), c.2)
def CS.s_pa (c : CS) (x : Nat → Int32) : CS := (c.1, ((((x, c.2.1.1.1.2), c.2.1.1.2), c.2.1.2), c.2.2))
def CS.s_ph (c : CS) (x : Nat → Int32) : CS := (c.1, ((((c.2.1.1.1.1, x), c.2.1.1.2), c.2.1.2), c.2.2))
def CS.s_dleft (c : CS) (x : Nat) : CS := (c.1, (((c.2.1.1.1, (x, c.2.1.1.2.2)), c.2.1.2), c.2.2))
def CS.s_dasked (c : CS) (x : Nat) : CS := (c.1, (((c.2.1.1.1, (c.2.1.1.2.1, x)), c.2.1.2), c.2.2))
def CS.s_dcount (c : CS) (x : Nat) : CS := (c.1, ((c.2.1.1, ((x, c.2.1.2.1.2), c.2.1.2.2)), c.2.2))
def CS.s_dprices (c : CS) (x : Int32) : CS := (c.1, ((c.2.1.1, ((c.2.1.2.1.1, x), c.2.1.2.2)), c.2.2))
def CS.s_dplaces (c : CS) (x : Int32) : CS := (c.1, ((c.2.1.1, (c.2.1.2.1, (x, c.2.1.2.2.2))), c.2.2))
def CS.s_pgv (c : CS) (x : Nat) : CS := (c.1, ((c.2.1.1, (c.2.1.2.1, (c.2.1.2.2.1, x))), c.2.2))
def CS.s_pgcd (c : CS) (x : Int32) : CS := (c.1, (c.2.1, (((x, c.2.2.1.1.2), c.2.2.1.2), c.2.2.2)))
def CS.s_pg2 (c : CS) (x : Int32) : CS := (c.1, (c.2.1, (((c.2.2.1.1.1, x), c.2.2.1.2), c.2.2.2)))
def CS.s_pgc (c : CS) (x : Nat) : CS := (c.1, (c.2.1, ((c.2.2.1.1, (x, c.2.2.1.2.2)), c.2.2.2)))
def CS.s_pg0 (c : CS) (x : Nat → Int32) : CS := (c.1, (c.2.1, ((c.2.2.1.1, (c.2.2.1.2.1, x)), c.2.2.2)))
def CS.s_tk (c : CS) (x : Nat → Nat) : CS := (c.1, (c.2.1, (c.2.2.1, ((x, c.2.2.2.1.2), c.2.2.2.2))))
def CS.s_tsz (c : CS) (x : Nat → Int32) : CS := (c.1, (c.2.1, (c.2.2.1, ((c.2.2.2.1.1, x), c.2.2.2.2))))
def CS.s_tpl (c : CS) (x : Nat → Nat → Int32) : CS := (c.1, (c.2.1, (c.2.2.1, (c.2.2.2.1, (x, c.2.2.2.2.2)))))
def CS.s_li (c : CS) (x : Nat → Nat → Int64) : CS := (c.1, (c.2.1, (c.2.2.1, (c.2.2.2.1, (c.2.2.2.2.1, (x, c.2.2.2.2.2.2))))))
def CS.s_ls (c : CS) (x : Nat → Int32) : CS := (c.1, (c.2.1, (c.2.2.1, (c.2.2.2.1, (c.2.2.2.2.1, (c.2.2.2.2.2.1, x))))))
def MS : Type := (((((Nat → Int32) × ((Nat → Int32) × Int32)) × ((Int32 × (Nat → Int32)) × (Int32 × (Nat → Int32)))) × (((Nat → Int32) × ((Nat → Int32) × (Nat → Int32))) × (((Nat → Int32) × (Nat → Int64)) × ((Nat → UInt64) × (Nat → UInt64))))) × ((((Nat → UInt64) × (Int32 × (Nat → Int64))) × (((Nat → Int32) × (Nat → Int64)) × ((Nat → Int32) × Int32))) × (((Int32 × Int32) × ((Nat → Int32) × Int32)) × ((Int32 × (Nat → Int32)) × ((Nat → Int32) × Int32)))))
def MS.now (c : MS) : Nat → Int32 := c.1.1.1.1
def MS.kept (c : MS) : Nat → Int32 := c.1.1.1.2.1
def MS.hasImage (c : MS) : Int32 := c.1.1.1.2.2
def MS.taped (c : MS) : Int32 := c.1.1.2.1.1
def MS.tape (c : MS) : Nat → Int32 := c.1.1.2.1.2
def MS.written (c : MS) : Int32 := c.1.1.2.2.1
def MS.paper (c : MS) : Nat → Int32 := c.1.1.2.2.2
def MS.trayKind (c : MS) : Nat → Int32 := c.1.2.1.1
def MS.traySize (c : MS) : Nat → Int32 := c.1.2.1.2.1
def MS.laid (c : MS) : Nat → Int32 := c.1.2.1.2.2
def MS.listSize (c : MS) : Nat → Int32 := c.1.2.2.1.1
def MS.items (c : MS) : Nat → Int64 := c.1.2.2.1.2
def MS.worths (c : MS) : Nat → UInt64 := c.1.2.2.2.1
def MS.chances (c : MS) : Nat → UInt64 := c.1.2.2.2.2
def MS.fewer (c : MS) : Nat → UInt64 := c.2.1.1.1
def MS.isOver (c : MS) : Int32 := c.2.1.1.2.1
def MS.grosses (c : MS) : Nat → Int64 := c.2.1.1.2.2
def MS.isGreat (c : MS) : Nat → Int32 := c.2.1.2.1.1
def MS.sets (c : MS) : Nat → Int64 := c.2.1.2.1.2
def MS.had (c : MS) : Nat → Int32 := c.2.1.2.2.1
def MS.left (c : MS) : Int32 := c.2.1.2.2.2
def MS.prices (c : MS) : Int32 := c.2.2.1.1.1
def MS.askers (c : MS) : Int32 := c.2.2.1.1.2
def MS.isGone (c : MS) : Nat → Int32 := c.2.2.1.2.1
def MS.at_ (c : MS) : Int32 := c.2.2.1.2.2
def MS.fault (c : MS) : Int32 := c.2.2.2.1.1
def MS.read (c : MS) : Nat → Int32 := c.2.2.2.1.2
def MS.ahead (c : MS) : Nat → Int32 := c.2.2.2.2.1
def MS.asked (c : MS) : Int32 := c.2.2.2.2.2
def MS.s_now (c : MS) (x : Nat → Int32) : MS := ((((x, c.1.1.1.2), c.1.1.2), c.1.2), c.2)
def MS.s_kept (c : MS) (x : Nat → Int32) : MS := ((((c.1.1.1.1, (x, c.1.1.1.2.2)), c.1.1.2), c.1.2), c.2)
def MS.s_hasImage (c : MS) (x : Int32) : MS := ((((c.1.1.1.1, (c.1.1.1.2.1, x)), c.1.1.2), c.1.2), c.2)
def MS.s_taped (c : MS) (x : Int32) : MS := (((c.1.1.1, ((x, c.1.1.2.1.2), c.1.1.2.2)), c.1.2), c.2)
def MS.s_tape (c : MS) (x : Nat → Int32) : MS := (((c.1.1.1, ((c.1.1.2.1.1, x), c.1.1.2.2)), c.1.2), c.2)
def MS.s_written (c : MS) (x : Int32) : MS := (((c.1.1.1, (c.1.1.2.1, (x, c.1.1.2.2.2))), c.1.2), c.2)
def MS.s_paper (c : MS) (x : Nat → Int32) : MS := (((c.1.1.1, (c.1.1.2.1, (c.1.1.2.2.1, x))), c.1.2), c.2)
def MS.s_trayKind (c : MS) (x : Nat → Int32) : MS := ((c.1.1, ((x, c.1.2.1.2), c.1.2.2)), c.2)
def MS.s_traySize (c : MS) (x : Nat → Int32) : MS := ((c.1.1, ((c.1.2.1.1, (x, c.1.2.1.2.2)), c.1.2.2)), c.2)
def MS.s_laid (c : MS) (x : Nat → Int32) : MS := ((c.1.1, ((c.1.2.1.1, (c.1.2.1.2.1, x)), c.1.2.2)), c.2)
def MS.s_listSize (c : MS) (x : Nat → Int32) : MS := ((c.1.1, (c.1.2.1, ((x, c.1.2.2.1.2), c.1.2.2.2))), c.2)
def MS.s_items (c : MS) (x : Nat → Int64) : MS := ((c.1.1, (c.1.2.1, ((c.1.2.2.1.1, x), c.1.2.2.2))), c.2)
def MS.s_worths (c : MS) (x : Nat → UInt64) : MS := ((c.1.1, (c.1.2.1, (c.1.2.2.1, (x, c.1.2.2.2.2)))), c.2)
def MS.s_chances (c : MS) (x : Nat → UInt64) : MS := ((c.1.1, (c.1.2.1, (c.1.2.2.1, (c.1.2.2.2.1, x)))), c.2)
def MS.s_fewer (c : MS) (x : Nat → UInt64) : MS := (c.1, (((x, c.2.1.1.2), c.2.1.2), c.2.2))
def MS.s_isOver (c : MS) (x : Int32) : MS := (c.1, (((c.2.1.1.1, (x, c.2.1.1.2.2)), c.2.1.2), c.2.2))
def MS.s_grosses (c : MS) (x : Nat → Int64) : MS := (c.1, (((c.2.1.1.1, (c.2.1.1.2.1, x)), c.2.1.2), c.2.2))
def MS.s_isGreat (c : MS) (x : Nat → Int32) : MS := (c.1, ((c.2.1.1, ((x, c.2.1.2.1.2), c.2.1.2.2)), c.2.2))
def MS.s_sets (c : MS) (x : Nat → Int64) : MS := (c.1, ((c.2.1.1, ((c.2.1.2.1.1, x), c.2.1.2.2)), c.2.2))
def MS.s_had (c : MS) (x : Nat → Int32) : MS := (c.1, ((c.2.1.1, (c.2.1.2.1, (x, c.2.1.2.2.2))), c.2.2))
def MS.s_left (c : MS) (x : Int32) : MS := (c.1, ((c.2.1.1, (c.2.1.2.1, (c.2.1.2.2.1, x))), c.2.2))
def MS.s_prices (c : MS) (x : Int32) : MS := (c.1, (c.2.1, (((x, c.2.2.1.1.2), c.2.2.1.2), c.2.2.2)))
def MS.s_askers (c : MS) (x : Int32) : MS := (c.1, (c.2.1, (((c.2.2.1.1.1, x), c.2.2.1.2), c.2.2.2)))
def MS.s_isGone (c : MS) (x : Nat → Int32) : MS := (c.1, (c.2.1, ((c.2.2.1.1, (x, c.2.2.1.2.2)), c.2.2.2)))
def MS.s_at_ (c : MS) (x : Int32) : MS := (c.1, (c.2.1, ((c.2.2.1.1, (c.2.2.1.2.1, x)), c.2.2.2)))
def MS.s_fault (c : MS) (x : Int32) : MS := (c.1, (c.2.1, (c.2.2.1, ((x, c.2.2.2.1.2), c.2.2.2.2))))
def MS.s_read (c : MS) (x : Nat → Int32) : MS := (c.1, (c.2.1, (c.2.2.1, ((c.2.2.2.1.1, x), c.2.2.2.2))))
def MS.s_ahead (c : MS) (x : Nat → Int32) : MS := (c.1, (c.2.1, (c.2.2.1, (c.2.2.2.1, (x, c.2.2.2.2.2)))))
def MS.s_asked (c : MS) (x : Int32) : MS := (c.1, (c.2.1, (c.2.2.1, (c.2.2.2.1, (c.2.2.2.2.1, x)))))
def yfar (b : Nat) : Nat → Option Nat := va_up (va_up (va_up (va_up (va_up (va_up (fun _ => none) 0 (some b)) 1 (some (b + 2))) 2 (some (b + 4))) 3 (some (b + 6))) 4 (some (b + 8))) 5 (some (b + 10))
def ytar : Nat → Option Nat := va_up (va_up (va_up (va_up (fun _ => none) 0 (some 86)) 1 (some 88)) 2 (some 90)) 3 (some 92)
def mk (c : CS) (d : MS) (D : mM) : mM :=
  m_no ::
  m_no ::
  m_no ::
  m_no ::
  m_no ::
  m_no ::
  m_no ::
  m_no ::
  m_no ::
  m_no ::
  .inr (11, [.ref 11, .ref 30, .int c.pictured, .ref 49, .ref 73, .ref 75, .ref 77, .ref 80, .ref 83, .ref 85, .ref 94, .ref 99]) ::
  .inr (5, [.ref 12, .int (nI c.pl.n), .ref 13, .ref 14, .int c.pl.seed]) ::
  .inl (5, 6, .inr (.inr (.inr (.inr (yfar 18))))) ::
  .inl (0, 4, .inl (fun i => nI (c.pl.rules i))) ::
  .inr (4, [.ref 15, .ref 16, .ref 17, .int (nI c.pl.rc)]) ::
  .inl (0, 4, .inl (fun i => nI (c.pl.len i))) ::
  .inl (0, 4, .inl (fun i => nI (c.pl.free i))) ::
  .inl (6, 12, .inr (.inr (.inr (.inr c.pl.rts)))) ::
  .inr (3, [.ref (c.pl.kind 0), .int (nI (c.pl.price 0)), .int (nI (c.pl.hand 0)), .ref 19]) ::
  .inl (0, 4, .inl (fun i => nI (c.pl.odds 0 i))) ::
  .inr (3, [.ref (c.pl.kind 1), .int (nI (c.pl.price 1)), .int (nI (c.pl.hand 1)), .ref 21]) ::
  .inl (0, 4, .inl (fun i => nI (c.pl.odds 1 i))) ::
  .inr (3, [.ref (c.pl.kind 2), .int (nI (c.pl.price 2)), .int (nI (c.pl.hand 2)), .ref 23]) ::
  .inl (0, 4, .inl (fun i => nI (c.pl.odds 2 i))) ::
  .inr (3, [.ref (c.pl.kind 3), .int (nI (c.pl.price 3)), .int (nI (c.pl.hand 3)), .ref 25]) ::
  .inl (0, 4, .inl (fun i => nI (c.pl.odds 3 i))) ::
  .inr (3, [.ref (c.pl.kind 4), .int (nI (c.pl.price 4)), .int (nI (c.pl.hand 4)), .ref 27]) ::
  .inl (0, 4, .inl (fun i => nI (c.pl.odds 4 i))) ::
  .inr (3, [.ref (c.pl.kind 5), .int (nI (c.pl.price 5)), .int (nI (c.pl.hand 5)), .ref 29]) ::
  .inl (0, 4, .inl (fun i => nI (c.pl.odds 5 i))) ::
  .inr (5, [.ref 31, .int (nI c.pic.n), .ref 32, .ref 33, .int c.pic.seed]) ::
  .inl (5, 6, .inr (.inr (.inr (.inr (yfar 37))))) ::
  .inl (0, 4, .inl (fun i => nI (c.pic.rules i))) ::
  .inr (4, [.ref 34, .ref 35, .ref 36, .int (nI c.pic.rc)]) ::
  .inl (0, 4, .inl (fun i => nI (c.pic.len i))) ::
  .inl (0, 4, .inl (fun i => nI (c.pic.free i))) ::
  .inl (6, 12, .inr (.inr (.inr (.inr c.pic.rts)))) ::
  .inr (3, [.ref (c.pic.kind 0), .int (nI (c.pic.price 0)), .int (nI (c.pic.hand 0)), .ref 38]) ::
  .inl (0, 4, .inl (fun i => nI (c.pic.odds 0 i))) ::
  .inr (3, [.ref (c.pic.kind 1), .int (nI (c.pic.price 1)), .int (nI (c.pic.hand 1)), .ref 40]) ::
  .inl (0, 4, .inl (fun i => nI (c.pic.odds 1 i))) ::
  .inr (3, [.ref (c.pic.kind 2), .int (nI (c.pic.price 2)), .int (nI (c.pic.hand 2)), .ref 42]) ::
  .inl (0, 4, .inl (fun i => nI (c.pic.odds 2 i))) ::
  .inr (3, [.ref (c.pic.kind 3), .int (nI (c.pic.price 3)), .int (nI (c.pic.hand 3)), .ref 44]) ::
  .inl (0, 4, .inl (fun i => nI (c.pic.odds 3 i))) ::
  .inr (3, [.ref (c.pic.kind 4), .int (nI (c.pic.price 4)), .int (nI (c.pic.hand 4)), .ref 46]) ::
  .inl (0, 4, .inl (fun i => nI (c.pic.odds 4 i))) ::
  .inr (3, [.ref (c.pic.kind 5), .int (nI (c.pic.price 5)), .int (nI (c.pic.hand 5)), .ref 48]) ::
  .inl (0, 4, .inl (fun i => nI (c.pic.odds 5 i))) ::
  .inr (10, [.ref 11, .ref 50, .ref 72, .int (nI c.made)]) ::
  .inl (8, 21, .inr (.inr (.inr (.inr (fun i => if i < 21 then some (50 + 1 + i) else none))))) ::
  .inl (2, 31, .inr (.inr (.inr (.inl (c.rows 0))))) ::
  .inl (2, 31, .inr (.inr (.inr (.inl (c.rows 1))))) ::
  .inl (2, 31, .inr (.inr (.inr (.inl (c.rows 2))))) ::
  .inl (2, 31, .inr (.inr (.inr (.inl (c.rows 3))))) ::
  .inl (2, 31, .inr (.inr (.inr (.inl (c.rows 4))))) ::
  .inl (2, 31, .inr (.inr (.inr (.inl (c.rows 5))))) ::
  .inl (2, 31, .inr (.inr (.inr (.inl (c.rows 6))))) ::
  .inl (2, 31, .inr (.inr (.inr (.inl (c.rows 7))))) ::
  .inl (2, 31, .inr (.inr (.inr (.inl (c.rows 8))))) ::
  .inl (2, 31, .inr (.inr (.inr (.inl (c.rows 9))))) ::
  .inl (2, 31, .inr (.inr (.inr (.inl (c.rows 10))))) ::
  .inl (2, 31, .inr (.inr (.inr (.inl (c.rows 11))))) ::
  .inl (2, 31, .inr (.inr (.inr (.inl (c.rows 12))))) ::
  .inl (2, 31, .inr (.inr (.inr (.inl (c.rows 13))))) ::
  .inl (2, 31, .inr (.inr (.inr (.inl (c.rows 14))))) ::
  .inl (2, 31, .inr (.inr (.inr (.inl (c.rows 15))))) ::
  .inl (2, 31, .inr (.inr (.inr (.inl (c.rows 16))))) ::
  .inl (2, 31, .inr (.inr (.inr (.inl (c.rows 17))))) ::
  .inl (2, 31, .inr (.inr (.inr (.inl (c.rows 18))))) ::
  .inl (2, 31, .inr (.inr (.inr (.inl (c.rows 19))))) ::
  .inl (2, 31, .inr (.inr (.inr (.inl (c.rows 20))))) ::
  .inl (2, 6, .inr (.inr (.inr (.inl c.nets)))) ::
  .inr (9, [.ref 11, .ref 74]) ::
  .inl (1, 41, .inr (.inl c.wrow)) ::
  .inr (1, [.ref 11, .ref 76]) ::
  .inl (2, 41, .inr (.inr (.inr (.inl c.crow)))) ::
  .inr (7, [.ref 78, .int (nI c.tsize), .ref 79, .int (nI c.tn), .int (nI c.tat), .int c.tname, .int c.tlegs, .int c.tprice, .int c.twanted]) ::
  .inl (0, 120, .inl c.tb) ::
  .inl (6, 12, .inr (.inr (.inr (.inr c.tread)))) ::
  .inr (2, [.ref 11, .ref 49, .ref 81, .ref 82, .int (nI c.dleft), .int (nI c.dasked), .int (nI c.dcount), .int c.dprices, .int c.dplaces]) ::
  .inl (0, 20, .inl c.pa) ::
  .inl (0, 20, .inl c.ph) ::
  .inr (0, [.ref c.pgv, .int c.pgcd, .int c.pg2, .int (nI c.pgc)]) ::
  .inl (4, 16, .inl c.pg0) ::
  .inl (7, 4, .inr (.inr (.inr (.inr ytar)))) ::
  .inr (8, [.ref (c.tk 0), .int (c.tsz 0), .ref 87]) ::
  .inl (0, 20, .inl (c.tpl 0)) ::
  .inr (8, [.ref (c.tk 1), .int (c.tsz 1), .ref 89]) ::
  .inl (0, 20, .inl (c.tpl 1)) ::
  .inr (8, [.ref (c.tk 2), .int (c.tsz 2), .ref 91]) ::
  .inl (0, 20, .inl (c.tpl 2)) ::
  .inr (8, [.ref (c.tk 3), .int (c.tsz 3), .ref 93]) ::
  .inl (0, 20, .inl (c.tpl 3)) ::
  .inl (9, 4, .inr (.inr (.inr (.inr (fun i => if i < 4 then some (94 + 1 + i) else none))))) ::
  .inl (1, 31, .inr (.inl (c.li 0))) ::
  .inl (1, 31, .inr (.inl (c.li 1))) ::
  .inl (1, 31, .inr (.inl (c.li 2))) ::
  .inl (1, 31, .inr (.inl (c.li 3))) ::
  .inl (0, 4, .inl c.ls) ::
  .inr (12, [.ref 101, .ref 102, .int d.hasImage, .int d.taped, .ref 103, .int d.written, .ref 104, .ref 105, .ref 106, .ref 107, .ref 108, .ref 109, .ref 110, .ref 111, .ref 112, .int d.isOver, .ref 113, .ref 114, .ref 115, .ref 116, .int d.left, .int d.prices, .int d.askers, .ref 117, .int d.at_, .int d.fault, .ref 118, .ref 119, .int d.asked]) ::
  .inl (0, 129, .inl d.now) ::
  .inl (0, 129, .inl d.kept) ::
  .inl (0, 120, .inl d.tape) ::
  .inl (0, 260, .inl d.paper) ::
  .inl (0, 4, .inl d.trayKind) ::
  .inl (0, 4, .inl d.traySize) ::
  .inl (0, 80, .inl d.laid) ::
  .inl (0, 4, .inl d.listSize) ::
  .inl (1, 124, .inr (.inl d.items)) ::
  .inl (2, 651, .inr (.inr (.inr (.inl d.worths)))) ::
  .inl (2, 41, .inr (.inr (.inr (.inl d.chances)))) ::
  .inl (2, 41, .inr (.inr (.inr (.inl d.fewer)))) ::
  .inl (1, 31, .inr (.inl d.grosses)) ::
  .inl (3, 31, .inl d.isGreat) ::
  .inl (1, 41, .inr (.inl d.sets)) ::
  .inl (0, 6, .inl d.had) ::
  .inl (3, 12, .inl d.isGone) ::
  .inl (0, 6, .inl d.read) ::
  .inl (0, 129, .inl d.ahead) :: D
theorem yupn {f : Nat → Nat} {i x : Nat} : va_up (fun i => nI (f i)) i (nI x) = fun j => nI (va_up f i x j) := by
  funext j
  unfold va_up
  split <;> rfl
theorem qPL_n {p : PL} {x y : Nat} : (p.s_n x).s_n y = p.s_n y := rfl
theorem pPL_n {p : PL} {x : Nat} : (p.s_n x).n = x ∧ (p.s_n x).rules = p.rules ∧ (p.s_n x).len = p.len ∧ (p.s_n x).free = p.free ∧ (p.s_n x).rts = p.rts ∧ (p.s_n x).rc = p.rc ∧ (p.s_n x).seed = p.seed ∧ (p.s_n x).kind = p.kind ∧ (p.s_n x).price = p.price ∧ (p.s_n x).hand = p.hand ∧ (p.s_n x).odds = p.odds := ⟨rfl, rfl, rfl, rfl, rfl, rfl, rfl, rfl, rfl, rfl, rfl⟩
theorem qPL_rules {p : PL} {x y : Nat → Nat} : (p.s_rules x).s_rules y = p.s_rules y := rfl
theorem pPL_rules {p : PL} {x : Nat → Nat} : (p.s_rules x).n = p.n ∧ (p.s_rules x).rules = x ∧ (p.s_rules x).len = p.len ∧ (p.s_rules x).free = p.free ∧ (p.s_rules x).rts = p.rts ∧ (p.s_rules x).rc = p.rc ∧ (p.s_rules x).seed = p.seed ∧ (p.s_rules x).kind = p.kind ∧ (p.s_rules x).price = p.price ∧ (p.s_rules x).hand = p.hand ∧ (p.s_rules x).odds = p.odds := ⟨rfl, rfl, rfl, rfl, rfl, rfl, rfl, rfl, rfl, rfl, rfl⟩
theorem qPL_len {p : PL} {x y : Nat → Nat} : (p.s_len x).s_len y = p.s_len y := rfl
theorem pPL_len {p : PL} {x : Nat → Nat} : (p.s_len x).n = p.n ∧ (p.s_len x).rules = p.rules ∧ (p.s_len x).len = x ∧ (p.s_len x).free = p.free ∧ (p.s_len x).rts = p.rts ∧ (p.s_len x).rc = p.rc ∧ (p.s_len x).seed = p.seed ∧ (p.s_len x).kind = p.kind ∧ (p.s_len x).price = p.price ∧ (p.s_len x).hand = p.hand ∧ (p.s_len x).odds = p.odds := ⟨rfl, rfl, rfl, rfl, rfl, rfl, rfl, rfl, rfl, rfl, rfl⟩
theorem qPL_free {p : PL} {x y : Nat → Nat} : (p.s_free x).s_free y = p.s_free y := rfl
theorem pPL_free {p : PL} {x : Nat → Nat} : (p.s_free x).n = p.n ∧ (p.s_free x).rules = p.rules ∧ (p.s_free x).len = p.len ∧ (p.s_free x).free = x ∧ (p.s_free x).rts = p.rts ∧ (p.s_free x).rc = p.rc ∧ (p.s_free x).seed = p.seed ∧ (p.s_free x).kind = p.kind ∧ (p.s_free x).price = p.price ∧ (p.s_free x).hand = p.hand ∧ (p.s_free x).odds = p.odds := ⟨rfl, rfl, rfl, rfl, rfl, rfl, rfl, rfl, rfl, rfl, rfl⟩
theorem qPL_rts {p : PL} {x y : Nat → Option Nat} : (p.s_rts x).s_rts y = p.s_rts y := rfl
theorem pPL_rts {p : PL} {x : Nat → Option Nat} : (p.s_rts x).n = p.n ∧ (p.s_rts x).rules = p.rules ∧ (p.s_rts x).len = p.len ∧ (p.s_rts x).free = p.free ∧ (p.s_rts x).rts = x ∧ (p.s_rts x).rc = p.rc ∧ (p.s_rts x).seed = p.seed ∧ (p.s_rts x).kind = p.kind ∧ (p.s_rts x).price = p.price ∧ (p.s_rts x).hand = p.hand ∧ (p.s_rts x).odds = p.odds := ⟨rfl, rfl, rfl, rfl, rfl, rfl, rfl, rfl, rfl, rfl, rfl⟩
theorem qPL_rc {p : PL} {x y : Nat} : (p.s_rc x).s_rc y = p.s_rc y := rfl
theorem pPL_rc {p : PL} {x : Nat} : (p.s_rc x).n = p.n ∧ (p.s_rc x).rules = p.rules ∧ (p.s_rc x).len = p.len ∧ (p.s_rc x).free = p.free ∧ (p.s_rc x).rts = p.rts ∧ (p.s_rc x).rc = x ∧ (p.s_rc x).seed = p.seed ∧ (p.s_rc x).kind = p.kind ∧ (p.s_rc x).price = p.price ∧ (p.s_rc x).hand = p.hand ∧ (p.s_rc x).odds = p.odds := ⟨rfl, rfl, rfl, rfl, rfl, rfl, rfl, rfl, rfl, rfl, rfl⟩
theorem qPL_seed {p : PL} {x y : Int32} : (p.s_seed x).s_seed y = p.s_seed y := rfl
theorem pPL_seed {p : PL} {x : Int32} : (p.s_seed x).n = p.n ∧ (p.s_seed x).rules = p.rules ∧ (p.s_seed x).len = p.len ∧ (p.s_seed x).free = p.free ∧ (p.s_seed x).rts = p.rts ∧ (p.s_seed x).rc = p.rc ∧ (p.s_seed x).seed = x ∧ (p.s_seed x).kind = p.kind ∧ (p.s_seed x).price = p.price ∧ (p.s_seed x).hand = p.hand ∧ (p.s_seed x).odds = p.odds := ⟨rfl, rfl, rfl, rfl, rfl, rfl, rfl, rfl, rfl, rfl, rfl⟩
theorem qPL_kind {p : PL} {x y : Nat → Nat} : (p.s_kind x).s_kind y = p.s_kind y := rfl
theorem pPL_kind {p : PL} {x : Nat → Nat} : (p.s_kind x).n = p.n ∧ (p.s_kind x).rules = p.rules ∧ (p.s_kind x).len = p.len ∧ (p.s_kind x).free = p.free ∧ (p.s_kind x).rts = p.rts ∧ (p.s_kind x).rc = p.rc ∧ (p.s_kind x).seed = p.seed ∧ (p.s_kind x).kind = x ∧ (p.s_kind x).price = p.price ∧ (p.s_kind x).hand = p.hand ∧ (p.s_kind x).odds = p.odds := ⟨rfl, rfl, rfl, rfl, rfl, rfl, rfl, rfl, rfl, rfl, rfl⟩
theorem qPL_price {p : PL} {x y : Nat → Nat} : (p.s_price x).s_price y = p.s_price y := rfl
theorem pPL_price {p : PL} {x : Nat → Nat} : (p.s_price x).n = p.n ∧ (p.s_price x).rules = p.rules ∧ (p.s_price x).len = p.len ∧ (p.s_price x).free = p.free ∧ (p.s_price x).rts = p.rts ∧ (p.s_price x).rc = p.rc ∧ (p.s_price x).seed = p.seed ∧ (p.s_price x).kind = p.kind ∧ (p.s_price x).price = x ∧ (p.s_price x).hand = p.hand ∧ (p.s_price x).odds = p.odds := ⟨rfl, rfl, rfl, rfl, rfl, rfl, rfl, rfl, rfl, rfl, rfl⟩
theorem qPL_hand {p : PL} {x y : Nat → Nat} : (p.s_hand x).s_hand y = p.s_hand y := rfl
theorem pPL_hand {p : PL} {x : Nat → Nat} : (p.s_hand x).n = p.n ∧ (p.s_hand x).rules = p.rules ∧ (p.s_hand x).len = p.len ∧ (p.s_hand x).free = p.free ∧ (p.s_hand x).rts = p.rts ∧ (p.s_hand x).rc = p.rc ∧ (p.s_hand x).seed = p.seed ∧ (p.s_hand x).kind = p.kind ∧ (p.s_hand x).price = p.price ∧ (p.s_hand x).hand = x ∧ (p.s_hand x).odds = p.odds := ⟨rfl, rfl, rfl, rfl, rfl, rfl, rfl, rfl, rfl, rfl, rfl⟩
theorem qPL_odds {p : PL} {x y : Nat → Nat → Nat} : (p.s_odds x).s_odds y = p.s_odds y := rfl
theorem pPL_odds {p : PL} {x : Nat → Nat → Nat} : (p.s_odds x).n = p.n ∧ (p.s_odds x).rules = p.rules ∧ (p.s_odds x).len = p.len ∧ (p.s_odds x).free = p.free ∧ (p.s_odds x).rts = p.rts ∧ (p.s_odds x).rc = p.rc ∧ (p.s_odds x).seed = p.seed ∧ (p.s_odds x).kind = p.kind ∧ (p.s_odds x).price = p.price ∧ (p.s_odds x).hand = p.hand ∧ (p.s_odds x).odds = x := ⟨rfl, rfl, rfl, rfl, rfl, rfl, rfl, rfl, rfl, rfl, rfl⟩
theorem qCS_pl {c : CS} {x y : PL} : (c.s_pl x).s_pl y = c.s_pl y := rfl
theorem pCS_pl {c : CS} {x : PL} : (c.s_pl x).pl = x ∧ (c.s_pl x).pic = c.pic ∧ (c.s_pl x).pictured = c.pictured ∧ (c.s_pl x).made = c.made ∧ (c.s_pl x).rows = c.rows ∧ (c.s_pl x).nets = c.nets ∧ (c.s_pl x).wrow = c.wrow ∧ (c.s_pl x).crow = c.crow ∧ (c.s_pl x).tb = c.tb ∧ (c.s_pl x).tsize = c.tsize ∧ (c.s_pl x).tread = c.tread ∧ (c.s_pl x).tn = c.tn ∧ (c.s_pl x).tat = c.tat ∧ (c.s_pl x).tname = c.tname ∧ (c.s_pl x).tlegs = c.tlegs ∧ (c.s_pl x).tprice = c.tprice ∧ (c.s_pl x).twanted = c.twanted ∧ (c.s_pl x).pa = c.pa ∧ (c.s_pl x).ph = c.ph ∧ (c.s_pl x).dleft = c.dleft ∧ (c.s_pl x).dasked = c.dasked ∧ (c.s_pl x).dcount = c.dcount ∧ (c.s_pl x).dprices = c.dprices ∧ (c.s_pl x).dplaces = c.dplaces ∧ (c.s_pl x).pgv = c.pgv ∧ (c.s_pl x).pgcd = c.pgcd ∧ (c.s_pl x).pg2 = c.pg2 ∧ (c.s_pl x).pgc = c.pgc ∧ (c.s_pl x).pg0 = c.pg0 ∧ (c.s_pl x).tk = c.tk ∧ (c.s_pl x).tsz = c.tsz ∧ (c.s_pl x).tpl = c.tpl ∧ (c.s_pl x).li = c.li ∧ (c.s_pl x).ls = c.ls := ⟨rfl, rfl, rfl, rfl, rfl, rfl, rfl, rfl, rfl, rfl, rfl, rfl, rfl, rfl, rfl, rfl, rfl, rfl, rfl, rfl, rfl, rfl, rfl, rfl, rfl, rfl, rfl, rfl, rfl, rfl, rfl, rfl, rfl, rfl⟩
theorem qCS_pic {c : CS} {x y : PL} : (c.s_pic x).s_pic y = c.s_pic y := rfl
theorem pCS_pic {c : CS} {x : PL} : (c.s_pic x).pl = c.pl ∧ (c.s_pic x).pic = x ∧ (c.s_pic x).pictured = c.pictured ∧ (c.s_pic x).made = c.made ∧ (c.s_pic x).rows = c.rows ∧ (c.s_pic x).nets = c.nets ∧ (c.s_pic x).wrow = c.wrow ∧ (c.s_pic x).crow = c.crow ∧ (c.s_pic x).tb = c.tb ∧ (c.s_pic x).tsize = c.tsize ∧ (c.s_pic x).tread = c.tread ∧ (c.s_pic x).tn = c.tn ∧ (c.s_pic x).tat = c.tat ∧ (c.s_pic x).tname = c.tname ∧ (c.s_pic x).tlegs = c.tlegs ∧ (c.s_pic x).tprice = c.tprice ∧ (c.s_pic x).twanted = c.twanted ∧ (c.s_pic x).pa = c.pa ∧ (c.s_pic x).ph = c.ph ∧ (c.s_pic x).dleft = c.dleft ∧ (c.s_pic x).dasked = c.dasked ∧ (c.s_pic x).dcount = c.dcount ∧ (c.s_pic x).dprices = c.dprices ∧ (c.s_pic x).dplaces = c.dplaces ∧ (c.s_pic x).pgv = c.pgv ∧ (c.s_pic x).pgcd = c.pgcd ∧ (c.s_pic x).pg2 = c.pg2 ∧ (c.s_pic x).pgc = c.pgc ∧ (c.s_pic x).pg0 = c.pg0 ∧ (c.s_pic x).tk = c.tk ∧ (c.s_pic x).tsz = c.tsz ∧ (c.s_pic x).tpl = c.tpl ∧ (c.s_pic x).li = c.li ∧ (c.s_pic x).ls = c.ls := ⟨rfl, rfl, rfl, rfl, rfl, rfl, rfl, rfl, rfl, rfl, rfl, rfl, rfl, rfl, rfl, rfl, rfl, rfl, rfl, rfl, rfl, rfl, rfl, rfl, rfl, rfl, rfl, rfl, rfl, rfl, rfl, rfl, rfl, rfl⟩
theorem qCS_pictured {c : CS} {x y : Int32} : (c.s_pictured x).s_pictured y = c.s_pictured y := rfl
theorem pCS_pictured {c : CS} {x : Int32} : (c.s_pictured x).pl = c.pl ∧ (c.s_pictured x).pic = c.pic ∧ (c.s_pictured x).pictured = x ∧ (c.s_pictured x).made = c.made ∧ (c.s_pictured x).rows = c.rows ∧ (c.s_pictured x).nets = c.nets ∧ (c.s_pictured x).wrow = c.wrow ∧ (c.s_pictured x).crow = c.crow ∧ (c.s_pictured x).tb = c.tb ∧ (c.s_pictured x).tsize = c.tsize ∧ (c.s_pictured x).tread = c.tread ∧ (c.s_pictured x).tn = c.tn ∧ (c.s_pictured x).tat = c.tat ∧ (c.s_pictured x).tname = c.tname ∧ (c.s_pictured x).tlegs = c.tlegs ∧ (c.s_pictured x).tprice = c.tprice ∧ (c.s_pictured x).twanted = c.twanted ∧ (c.s_pictured x).pa = c.pa ∧ (c.s_pictured x).ph = c.ph ∧ (c.s_pictured x).dleft = c.dleft ∧ (c.s_pictured x).dasked = c.dasked ∧ (c.s_pictured x).dcount = c.dcount ∧ (c.s_pictured x).dprices = c.dprices ∧ (c.s_pictured x).dplaces = c.dplaces ∧ (c.s_pictured x).pgv = c.pgv ∧ (c.s_pictured x).pgcd = c.pgcd ∧ (c.s_pictured x).pg2 = c.pg2 ∧ (c.s_pictured x).pgc = c.pgc ∧ (c.s_pictured x).pg0 = c.pg0 ∧ (c.s_pictured x).tk = c.tk ∧ (c.s_pictured x).tsz = c.tsz ∧ (c.s_pictured x).tpl = c.tpl ∧ (c.s_pictured x).li = c.li ∧ (c.s_pictured x).ls = c.ls := ⟨rfl, rfl, rfl, rfl, rfl, rfl, rfl, rfl, rfl, rfl, rfl, rfl, rfl, rfl, rfl, rfl, rfl, rfl, rfl, rfl, rfl, rfl, rfl, rfl, rfl, rfl, rfl, rfl, rfl, rfl, rfl, rfl, rfl, rfl⟩
theorem qCS_made {c : CS} {x y : Nat} : (c.s_made x).s_made y = c.s_made y := rfl
theorem pCS_made {c : CS} {x : Nat} : (c.s_made x).pl = c.pl ∧ (c.s_made x).pic = c.pic ∧ (c.s_made x).pictured = c.pictured ∧ (c.s_made x).made = x ∧ (c.s_made x).rows = c.rows ∧ (c.s_made x).nets = c.nets ∧ (c.s_made x).wrow = c.wrow ∧ (c.s_made x).crow = c.crow ∧ (c.s_made x).tb = c.tb ∧ (c.s_made x).tsize = c.tsize ∧ (c.s_made x).tread = c.tread ∧ (c.s_made x).tn = c.tn ∧ (c.s_made x).tat = c.tat ∧ (c.s_made x).tname = c.tname ∧ (c.s_made x).tlegs = c.tlegs ∧ (c.s_made x).tprice = c.tprice ∧ (c.s_made x).twanted = c.twanted ∧ (c.s_made x).pa = c.pa ∧ (c.s_made x).ph = c.ph ∧ (c.s_made x).dleft = c.dleft ∧ (c.s_made x).dasked = c.dasked ∧ (c.s_made x).dcount = c.dcount ∧ (c.s_made x).dprices = c.dprices ∧ (c.s_made x).dplaces = c.dplaces ∧ (c.s_made x).pgv = c.pgv ∧ (c.s_made x).pgcd = c.pgcd ∧ (c.s_made x).pg2 = c.pg2 ∧ (c.s_made x).pgc = c.pgc ∧ (c.s_made x).pg0 = c.pg0 ∧ (c.s_made x).tk = c.tk ∧ (c.s_made x).tsz = c.tsz ∧ (c.s_made x).tpl = c.tpl ∧ (c.s_made x).li = c.li ∧ (c.s_made x).ls = c.ls := ⟨rfl, rfl, rfl, rfl, rfl, rfl, rfl, rfl, rfl, rfl, rfl, rfl, rfl, rfl, rfl, rfl, rfl, rfl, rfl, rfl, rfl, rfl, rfl, rfl, rfl, rfl, rfl, rfl, rfl, rfl, rfl, rfl, rfl, rfl⟩
theorem qCS_rows {c : CS} {x y : Nat → Nat → UInt64} : (c.s_rows x).s_rows y = c.s_rows y := rfl
theorem pCS_rows {c : CS} {x : Nat → Nat → UInt64} : (c.s_rows x).pl = c.pl ∧ (c.s_rows x).pic = c.pic ∧ (c.s_rows x).pictured = c.pictured ∧ (c.s_rows x).made = c.made ∧ (c.s_rows x).rows = x ∧ (c.s_rows x).nets = c.nets ∧ (c.s_rows x).wrow = c.wrow ∧ (c.s_rows x).crow = c.crow ∧ (c.s_rows x).tb = c.tb ∧ (c.s_rows x).tsize = c.tsize ∧ (c.s_rows x).tread = c.tread ∧ (c.s_rows x).tn = c.tn ∧ (c.s_rows x).tat = c.tat ∧ (c.s_rows x).tname = c.tname ∧ (c.s_rows x).tlegs = c.tlegs ∧ (c.s_rows x).tprice = c.tprice ∧ (c.s_rows x).twanted = c.twanted ∧ (c.s_rows x).pa = c.pa ∧ (c.s_rows x).ph = c.ph ∧ (c.s_rows x).dleft = c.dleft ∧ (c.s_rows x).dasked = c.dasked ∧ (c.s_rows x).dcount = c.dcount ∧ (c.s_rows x).dprices = c.dprices ∧ (c.s_rows x).dplaces = c.dplaces ∧ (c.s_rows x).pgv = c.pgv ∧ (c.s_rows x).pgcd = c.pgcd ∧ (c.s_rows x).pg2 = c.pg2 ∧ (c.s_rows x).pgc = c.pgc ∧ (c.s_rows x).pg0 = c.pg0 ∧ (c.s_rows x).tk = c.tk ∧ (c.s_rows x).tsz = c.tsz ∧ (c.s_rows x).tpl = c.tpl ∧ (c.s_rows x).li = c.li ∧ (c.s_rows x).ls = c.ls := ⟨rfl, rfl, rfl, rfl, rfl, rfl, rfl, rfl, rfl, rfl, rfl, rfl, rfl, rfl, rfl, rfl, rfl, rfl, rfl, rfl, rfl, rfl, rfl, rfl, rfl, rfl, rfl, rfl, rfl, rfl, rfl, rfl, rfl, rfl⟩
theorem qCS_nets {c : CS} {x y : Nat → UInt64} : (c.s_nets x).s_nets y = c.s_nets y := rfl
theorem pCS_nets {c : CS} {x : Nat → UInt64} : (c.s_nets x).pl = c.pl ∧ (c.s_nets x).pic = c.pic ∧ (c.s_nets x).pictured = c.pictured ∧ (c.s_nets x).made = c.made ∧ (c.s_nets x).rows = c.rows ∧ (c.s_nets x).nets = x ∧ (c.s_nets x).wrow = c.wrow ∧ (c.s_nets x).crow = c.crow ∧ (c.s_nets x).tb = c.tb ∧ (c.s_nets x).tsize = c.tsize ∧ (c.s_nets x).tread = c.tread ∧ (c.s_nets x).tn = c.tn ∧ (c.s_nets x).tat = c.tat ∧ (c.s_nets x).tname = c.tname ∧ (c.s_nets x).tlegs = c.tlegs ∧ (c.s_nets x).tprice = c.tprice ∧ (c.s_nets x).twanted = c.twanted ∧ (c.s_nets x).pa = c.pa ∧ (c.s_nets x).ph = c.ph ∧ (c.s_nets x).dleft = c.dleft ∧ (c.s_nets x).dasked = c.dasked ∧ (c.s_nets x).dcount = c.dcount ∧ (c.s_nets x).dprices = c.dprices ∧ (c.s_nets x).dplaces = c.dplaces ∧ (c.s_nets x).pgv = c.pgv ∧ (c.s_nets x).pgcd = c.pgcd ∧ (c.s_nets x).pg2 = c.pg2 ∧ (c.s_nets x).pgc = c.pgc ∧ (c.s_nets x).pg0 = c.pg0 ∧ (c.s_nets x).tk = c.tk ∧ (c.s_nets x).tsz = c.tsz ∧ (c.s_nets x).tpl = c.tpl ∧ (c.s_nets x).li = c.li ∧ (c.s_nets x).ls = c.ls := ⟨rfl, rfl, rfl, rfl, rfl, rfl, rfl, rfl, rfl, rfl, rfl, rfl, rfl, rfl, rfl, rfl, rfl, rfl, rfl, rfl, rfl, rfl, rfl, rfl, rfl, rfl, rfl, rfl, rfl, rfl, rfl, rfl, rfl, rfl⟩
theorem qCS_wrow {c : CS} {x y : Nat → Int64} : (c.s_wrow x).s_wrow y = c.s_wrow y := rfl
theorem pCS_wrow {c : CS} {x : Nat → Int64} : (c.s_wrow x).pl = c.pl ∧ (c.s_wrow x).pic = c.pic ∧ (c.s_wrow x).pictured = c.pictured ∧ (c.s_wrow x).made = c.made ∧ (c.s_wrow x).rows = c.rows ∧ (c.s_wrow x).nets = c.nets ∧ (c.s_wrow x).wrow = x ∧ (c.s_wrow x).crow = c.crow ∧ (c.s_wrow x).tb = c.tb ∧ (c.s_wrow x).tsize = c.tsize ∧ (c.s_wrow x).tread = c.tread ∧ (c.s_wrow x).tn = c.tn ∧ (c.s_wrow x).tat = c.tat ∧ (c.s_wrow x).tname = c.tname ∧ (c.s_wrow x).tlegs = c.tlegs ∧ (c.s_wrow x).tprice = c.tprice ∧ (c.s_wrow x).twanted = c.twanted ∧ (c.s_wrow x).pa = c.pa ∧ (c.s_wrow x).ph = c.ph ∧ (c.s_wrow x).dleft = c.dleft ∧ (c.s_wrow x).dasked = c.dasked ∧ (c.s_wrow x).dcount = c.dcount ∧ (c.s_wrow x).dprices = c.dprices ∧ (c.s_wrow x).dplaces = c.dplaces ∧ (c.s_wrow x).pgv = c.pgv ∧ (c.s_wrow x).pgcd = c.pgcd ∧ (c.s_wrow x).pg2 = c.pg2 ∧ (c.s_wrow x).pgc = c.pgc ∧ (c.s_wrow x).pg0 = c.pg0 ∧ (c.s_wrow x).tk = c.tk ∧ (c.s_wrow x).tsz = c.tsz ∧ (c.s_wrow x).tpl = c.tpl ∧ (c.s_wrow x).li = c.li ∧ (c.s_wrow x).ls = c.ls := ⟨rfl, rfl, rfl, rfl, rfl, rfl, rfl, rfl, rfl, rfl, rfl, rfl, rfl, rfl, rfl, rfl, rfl, rfl, rfl, rfl, rfl, rfl, rfl, rfl, rfl, rfl, rfl, rfl, rfl, rfl, rfl, rfl, rfl, rfl⟩
theorem qCS_crow {c : CS} {x y : Nat → UInt64} : (c.s_crow x).s_crow y = c.s_crow y := rfl
theorem pCS_crow {c : CS} {x : Nat → UInt64} : (c.s_crow x).pl = c.pl ∧ (c.s_crow x).pic = c.pic ∧ (c.s_crow x).pictured = c.pictured ∧ (c.s_crow x).made = c.made ∧ (c.s_crow x).rows = c.rows ∧ (c.s_crow x).nets = c.nets ∧ (c.s_crow x).wrow = c.wrow ∧ (c.s_crow x).crow = x ∧ (c.s_crow x).tb = c.tb ∧ (c.s_crow x).tsize = c.tsize ∧ (c.s_crow x).tread = c.tread ∧ (c.s_crow x).tn = c.tn ∧ (c.s_crow x).tat = c.tat ∧ (c.s_crow x).tname = c.tname ∧ (c.s_crow x).tlegs = c.tlegs ∧ (c.s_crow x).tprice = c.tprice ∧ (c.s_crow x).twanted = c.twanted ∧ (c.s_crow x).pa = c.pa ∧ (c.s_crow x).ph = c.ph ∧ (c.s_crow x).dleft = c.dleft ∧ (c.s_crow x).dasked = c.dasked ∧ (c.s_crow x).dcount = c.dcount ∧ (c.s_crow x).dprices = c.dprices ∧ (c.s_crow x).dplaces = c.dplaces ∧ (c.s_crow x).pgv = c.pgv ∧ (c.s_crow x).pgcd = c.pgcd ∧ (c.s_crow x).pg2 = c.pg2 ∧ (c.s_crow x).pgc = c.pgc ∧ (c.s_crow x).pg0 = c.pg0 ∧ (c.s_crow x).tk = c.tk ∧ (c.s_crow x).tsz = c.tsz ∧ (c.s_crow x).tpl = c.tpl ∧ (c.s_crow x).li = c.li ∧ (c.s_crow x).ls = c.ls := ⟨rfl, rfl, rfl, rfl, rfl, rfl, rfl, rfl, rfl, rfl, rfl, rfl, rfl, rfl, rfl, rfl, rfl, rfl, rfl, rfl, rfl, rfl, rfl, rfl, rfl, rfl, rfl, rfl, rfl, rfl, rfl, rfl, rfl, rfl⟩
theorem qCS_tb {c : CS} {x y : Nat → Int32} : (c.s_tb x).s_tb y = c.s_tb y := rfl
theorem pCS_tb {c : CS} {x : Nat → Int32} : (c.s_tb x).pl = c.pl ∧ (c.s_tb x).pic = c.pic ∧ (c.s_tb x).pictured = c.pictured ∧ (c.s_tb x).made = c.made ∧ (c.s_tb x).rows = c.rows ∧ (c.s_tb x).nets = c.nets ∧ (c.s_tb x).wrow = c.wrow ∧ (c.s_tb x).crow = c.crow ∧ (c.s_tb x).tb = x ∧ (c.s_tb x).tsize = c.tsize ∧ (c.s_tb x).tread = c.tread ∧ (c.s_tb x).tn = c.tn ∧ (c.s_tb x).tat = c.tat ∧ (c.s_tb x).tname = c.tname ∧ (c.s_tb x).tlegs = c.tlegs ∧ (c.s_tb x).tprice = c.tprice ∧ (c.s_tb x).twanted = c.twanted ∧ (c.s_tb x).pa = c.pa ∧ (c.s_tb x).ph = c.ph ∧ (c.s_tb x).dleft = c.dleft ∧ (c.s_tb x).dasked = c.dasked ∧ (c.s_tb x).dcount = c.dcount ∧ (c.s_tb x).dprices = c.dprices ∧ (c.s_tb x).dplaces = c.dplaces ∧ (c.s_tb x).pgv = c.pgv ∧ (c.s_tb x).pgcd = c.pgcd ∧ (c.s_tb x).pg2 = c.pg2 ∧ (c.s_tb x).pgc = c.pgc ∧ (c.s_tb x).pg0 = c.pg0 ∧ (c.s_tb x).tk = c.tk ∧ (c.s_tb x).tsz = c.tsz ∧ (c.s_tb x).tpl = c.tpl ∧ (c.s_tb x).li = c.li ∧ (c.s_tb x).ls = c.ls := ⟨rfl, rfl, rfl, rfl, rfl, rfl, rfl, rfl, rfl, rfl, rfl, rfl, rfl, rfl, rfl, rfl, rfl, rfl, rfl, rfl, rfl, rfl, rfl, rfl, rfl, rfl, rfl, rfl, rfl, rfl, rfl, rfl, rfl, rfl⟩
theorem qCS_tsize {c : CS} {x y : Nat} : (c.s_tsize x).s_tsize y = c.s_tsize y := rfl
theorem pCS_tsize {c : CS} {x : Nat} : (c.s_tsize x).pl = c.pl ∧ (c.s_tsize x).pic = c.pic ∧ (c.s_tsize x).pictured = c.pictured ∧ (c.s_tsize x).made = c.made ∧ (c.s_tsize x).rows = c.rows ∧ (c.s_tsize x).nets = c.nets ∧ (c.s_tsize x).wrow = c.wrow ∧ (c.s_tsize x).crow = c.crow ∧ (c.s_tsize x).tb = c.tb ∧ (c.s_tsize x).tsize = x ∧ (c.s_tsize x).tread = c.tread ∧ (c.s_tsize x).tn = c.tn ∧ (c.s_tsize x).tat = c.tat ∧ (c.s_tsize x).tname = c.tname ∧ (c.s_tsize x).tlegs = c.tlegs ∧ (c.s_tsize x).tprice = c.tprice ∧ (c.s_tsize x).twanted = c.twanted ∧ (c.s_tsize x).pa = c.pa ∧ (c.s_tsize x).ph = c.ph ∧ (c.s_tsize x).dleft = c.dleft ∧ (c.s_tsize x).dasked = c.dasked ∧ (c.s_tsize x).dcount = c.dcount ∧ (c.s_tsize x).dprices = c.dprices ∧ (c.s_tsize x).dplaces = c.dplaces ∧ (c.s_tsize x).pgv = c.pgv ∧ (c.s_tsize x).pgcd = c.pgcd ∧ (c.s_tsize x).pg2 = c.pg2 ∧ (c.s_tsize x).pgc = c.pgc ∧ (c.s_tsize x).pg0 = c.pg0 ∧ (c.s_tsize x).tk = c.tk ∧ (c.s_tsize x).tsz = c.tsz ∧ (c.s_tsize x).tpl = c.tpl ∧ (c.s_tsize x).li = c.li ∧ (c.s_tsize x).ls = c.ls := ⟨rfl, rfl, rfl, rfl, rfl, rfl, rfl, rfl, rfl, rfl, rfl, rfl, rfl, rfl, rfl, rfl, rfl, rfl, rfl, rfl, rfl, rfl, rfl, rfl, rfl, rfl, rfl, rfl, rfl, rfl, rfl, rfl, rfl, rfl⟩
theorem qCS_tread {c : CS} {x y : Nat → Option Nat} : (c.s_tread x).s_tread y = c.s_tread y := rfl
theorem pCS_tread {c : CS} {x : Nat → Option Nat} : (c.s_tread x).pl = c.pl ∧ (c.s_tread x).pic = c.pic ∧ (c.s_tread x).pictured = c.pictured ∧ (c.s_tread x).made = c.made ∧ (c.s_tread x).rows = c.rows ∧ (c.s_tread x).nets = c.nets ∧ (c.s_tread x).wrow = c.wrow ∧ (c.s_tread x).crow = c.crow ∧ (c.s_tread x).tb = c.tb ∧ (c.s_tread x).tsize = c.tsize ∧ (c.s_tread x).tread = x ∧ (c.s_tread x).tn = c.tn ∧ (c.s_tread x).tat = c.tat ∧ (c.s_tread x).tname = c.tname ∧ (c.s_tread x).tlegs = c.tlegs ∧ (c.s_tread x).tprice = c.tprice ∧ (c.s_tread x).twanted = c.twanted ∧ (c.s_tread x).pa = c.pa ∧ (c.s_tread x).ph = c.ph ∧ (c.s_tread x).dleft = c.dleft ∧ (c.s_tread x).dasked = c.dasked ∧ (c.s_tread x).dcount = c.dcount ∧ (c.s_tread x).dprices = c.dprices ∧ (c.s_tread x).dplaces = c.dplaces ∧ (c.s_tread x).pgv = c.pgv ∧ (c.s_tread x).pgcd = c.pgcd ∧ (c.s_tread x).pg2 = c.pg2 ∧ (c.s_tread x).pgc = c.pgc ∧ (c.s_tread x).pg0 = c.pg0 ∧ (c.s_tread x).tk = c.tk ∧ (c.s_tread x).tsz = c.tsz ∧ (c.s_tread x).tpl = c.tpl ∧ (c.s_tread x).li = c.li ∧ (c.s_tread x).ls = c.ls := ⟨rfl, rfl, rfl, rfl, rfl, rfl, rfl, rfl, rfl, rfl, rfl, rfl, rfl, rfl, rfl, rfl, rfl, rfl, rfl, rfl, rfl, rfl, rfl, rfl, rfl, rfl, rfl, rfl, rfl, rfl, rfl, rfl, rfl, rfl⟩
theorem qCS_tn {c : CS} {x y : Nat} : (c.s_tn x).s_tn y = c.s_tn y := rfl
theorem pCS_tn {c : CS} {x : Nat} : (c.s_tn x).pl = c.pl ∧ (c.s_tn x).pic = c.pic ∧ (c.s_tn x).pictured = c.pictured ∧ (c.s_tn x).made = c.made ∧ (c.s_tn x).rows = c.rows ∧ (c.s_tn x).nets = c.nets ∧ (c.s_tn x).wrow = c.wrow ∧ (c.s_tn x).crow = c.crow ∧ (c.s_tn x).tb = c.tb ∧ (c.s_tn x).tsize = c.tsize ∧ (c.s_tn x).tread = c.tread ∧ (c.s_tn x).tn = x ∧ (c.s_tn x).tat = c.tat ∧ (c.s_tn x).tname = c.tname ∧ (c.s_tn x).tlegs = c.tlegs ∧ (c.s_tn x).tprice = c.tprice ∧ (c.s_tn x).twanted = c.twanted ∧ (c.s_tn x).pa = c.pa ∧ (c.s_tn x).ph = c.ph ∧ (c.s_tn x).dleft = c.dleft ∧ (c.s_tn x).dasked = c.dasked ∧ (c.s_tn x).dcount = c.dcount ∧ (c.s_tn x).dprices = c.dprices ∧ (c.s_tn x).dplaces = c.dplaces ∧ (c.s_tn x).pgv = c.pgv ∧ (c.s_tn x).pgcd = c.pgcd ∧ (c.s_tn x).pg2 = c.pg2 ∧ (c.s_tn x).pgc = c.pgc ∧ (c.s_tn x).pg0 = c.pg0 ∧ (c.s_tn x).tk = c.tk ∧ (c.s_tn x).tsz = c.tsz ∧ (c.s_tn x).tpl = c.tpl ∧ (c.s_tn x).li = c.li ∧ (c.s_tn x).ls = c.ls := ⟨rfl, rfl, rfl, rfl, rfl, rfl, rfl, rfl, rfl, rfl, rfl, rfl, rfl, rfl, rfl, rfl, rfl, rfl, rfl, rfl, rfl, rfl, rfl, rfl, rfl, rfl, rfl, rfl, rfl, rfl, rfl, rfl, rfl, rfl⟩
theorem qCS_tat {c : CS} {x y : Nat} : (c.s_tat x).s_tat y = c.s_tat y := rfl
theorem pCS_tat {c : CS} {x : Nat} : (c.s_tat x).pl = c.pl ∧ (c.s_tat x).pic = c.pic ∧ (c.s_tat x).pictured = c.pictured ∧ (c.s_tat x).made = c.made ∧ (c.s_tat x).rows = c.rows ∧ (c.s_tat x).nets = c.nets ∧ (c.s_tat x).wrow = c.wrow ∧ (c.s_tat x).crow = c.crow ∧ (c.s_tat x).tb = c.tb ∧ (c.s_tat x).tsize = c.tsize ∧ (c.s_tat x).tread = c.tread ∧ (c.s_tat x).tn = c.tn ∧ (c.s_tat x).tat = x ∧ (c.s_tat x).tname = c.tname ∧ (c.s_tat x).tlegs = c.tlegs ∧ (c.s_tat x).tprice = c.tprice ∧ (c.s_tat x).twanted = c.twanted ∧ (c.s_tat x).pa = c.pa ∧ (c.s_tat x).ph = c.ph ∧ (c.s_tat x).dleft = c.dleft ∧ (c.s_tat x).dasked = c.dasked ∧ (c.s_tat x).dcount = c.dcount ∧ (c.s_tat x).dprices = c.dprices ∧ (c.s_tat x).dplaces = c.dplaces ∧ (c.s_tat x).pgv = c.pgv ∧ (c.s_tat x).pgcd = c.pgcd ∧ (c.s_tat x).pg2 = c.pg2 ∧ (c.s_tat x).pgc = c.pgc ∧ (c.s_tat x).pg0 = c.pg0 ∧ (c.s_tat x).tk = c.tk ∧ (c.s_tat x).tsz = c.tsz ∧ (c.s_tat x).tpl = c.tpl ∧ (c.s_tat x).li = c.li ∧ (c.s_tat x).ls = c.ls := ⟨rfl, rfl, rfl, rfl, rfl, rfl, rfl, rfl, rfl, rfl, rfl, rfl, rfl, rfl, rfl, rfl, rfl, rfl, rfl, rfl, rfl, rfl, rfl, rfl, rfl, rfl, rfl, rfl, rfl, rfl, rfl, rfl, rfl, rfl⟩
theorem qCS_tname {c : CS} {x y : Int32} : (c.s_tname x).s_tname y = c.s_tname y := rfl
theorem pCS_tname {c : CS} {x : Int32} : (c.s_tname x).pl = c.pl ∧ (c.s_tname x).pic = c.pic ∧ (c.s_tname x).pictured = c.pictured ∧ (c.s_tname x).made = c.made ∧ (c.s_tname x).rows = c.rows ∧ (c.s_tname x).nets = c.nets ∧ (c.s_tname x).wrow = c.wrow ∧ (c.s_tname x).crow = c.crow ∧ (c.s_tname x).tb = c.tb ∧ (c.s_tname x).tsize = c.tsize ∧ (c.s_tname x).tread = c.tread ∧ (c.s_tname x).tn = c.tn ∧ (c.s_tname x).tat = c.tat ∧ (c.s_tname x).tname = x ∧ (c.s_tname x).tlegs = c.tlegs ∧ (c.s_tname x).tprice = c.tprice ∧ (c.s_tname x).twanted = c.twanted ∧ (c.s_tname x).pa = c.pa ∧ (c.s_tname x).ph = c.ph ∧ (c.s_tname x).dleft = c.dleft ∧ (c.s_tname x).dasked = c.dasked ∧ (c.s_tname x).dcount = c.dcount ∧ (c.s_tname x).dprices = c.dprices ∧ (c.s_tname x).dplaces = c.dplaces ∧ (c.s_tname x).pgv = c.pgv ∧ (c.s_tname x).pgcd = c.pgcd ∧ (c.s_tname x).pg2 = c.pg2 ∧ (c.s_tname x).pgc = c.pgc ∧ (c.s_tname x).pg0 = c.pg0 ∧ (c.s_tname x).tk = c.tk ∧ (c.s_tname x).tsz = c.tsz ∧ (c.s_tname x).tpl = c.tpl ∧ (c.s_tname x).li = c.li ∧ (c.s_tname x).ls = c.ls := ⟨rfl, rfl, rfl, rfl, rfl, rfl, rfl, rfl, rfl, rfl, rfl, rfl, rfl, rfl, rfl, rfl, rfl, rfl, rfl, rfl, rfl, rfl, rfl, rfl, rfl, rfl, rfl, rfl, rfl, rfl, rfl, rfl, rfl, rfl⟩
theorem qCS_tlegs {c : CS} {x y : Int32} : (c.s_tlegs x).s_tlegs y = c.s_tlegs y := rfl
theorem pCS_tlegs {c : CS} {x : Int32} : (c.s_tlegs x).pl = c.pl ∧ (c.s_tlegs x).pic = c.pic ∧ (c.s_tlegs x).pictured = c.pictured ∧ (c.s_tlegs x).made = c.made ∧ (c.s_tlegs x).rows = c.rows ∧ (c.s_tlegs x).nets = c.nets ∧ (c.s_tlegs x).wrow = c.wrow ∧ (c.s_tlegs x).crow = c.crow ∧ (c.s_tlegs x).tb = c.tb ∧ (c.s_tlegs x).tsize = c.tsize ∧ (c.s_tlegs x).tread = c.tread ∧ (c.s_tlegs x).tn = c.tn ∧ (c.s_tlegs x).tat = c.tat ∧ (c.s_tlegs x).tname = c.tname ∧ (c.s_tlegs x).tlegs = x ∧ (c.s_tlegs x).tprice = c.tprice ∧ (c.s_tlegs x).twanted = c.twanted ∧ (c.s_tlegs x).pa = c.pa ∧ (c.s_tlegs x).ph = c.ph ∧ (c.s_tlegs x).dleft = c.dleft ∧ (c.s_tlegs x).dasked = c.dasked ∧ (c.s_tlegs x).dcount = c.dcount ∧ (c.s_tlegs x).dprices = c.dprices ∧ (c.s_tlegs x).dplaces = c.dplaces ∧ (c.s_tlegs x).pgv = c.pgv ∧ (c.s_tlegs x).pgcd = c.pgcd ∧ (c.s_tlegs x).pg2 = c.pg2 ∧ (c.s_tlegs x).pgc = c.pgc ∧ (c.s_tlegs x).pg0 = c.pg0 ∧ (c.s_tlegs x).tk = c.tk ∧ (c.s_tlegs x).tsz = c.tsz ∧ (c.s_tlegs x).tpl = c.tpl ∧ (c.s_tlegs x).li = c.li ∧ (c.s_tlegs x).ls = c.ls := ⟨rfl, rfl, rfl, rfl, rfl, rfl, rfl, rfl, rfl, rfl, rfl, rfl, rfl, rfl, rfl, rfl, rfl, rfl, rfl, rfl, rfl, rfl, rfl, rfl, rfl, rfl, rfl, rfl, rfl, rfl, rfl, rfl, rfl, rfl⟩
theorem qCS_tprice {c : CS} {x y : Int32} : (c.s_tprice x).s_tprice y = c.s_tprice y := rfl
theorem pCS_tprice {c : CS} {x : Int32} : (c.s_tprice x).pl = c.pl ∧ (c.s_tprice x).pic = c.pic ∧ (c.s_tprice x).pictured = c.pictured ∧ (c.s_tprice x).made = c.made ∧ (c.s_tprice x).rows = c.rows ∧ (c.s_tprice x).nets = c.nets ∧ (c.s_tprice x).wrow = c.wrow ∧ (c.s_tprice x).crow = c.crow ∧ (c.s_tprice x).tb = c.tb ∧ (c.s_tprice x).tsize = c.tsize ∧ (c.s_tprice x).tread = c.tread ∧ (c.s_tprice x).tn = c.tn ∧ (c.s_tprice x).tat = c.tat ∧ (c.s_tprice x).tname = c.tname ∧ (c.s_tprice x).tlegs = c.tlegs ∧ (c.s_tprice x).tprice = x ∧ (c.s_tprice x).twanted = c.twanted ∧ (c.s_tprice x).pa = c.pa ∧ (c.s_tprice x).ph = c.ph ∧ (c.s_tprice x).dleft = c.dleft ∧ (c.s_tprice x).dasked = c.dasked ∧ (c.s_tprice x).dcount = c.dcount ∧ (c.s_tprice x).dprices = c.dprices ∧ (c.s_tprice x).dplaces = c.dplaces ∧ (c.s_tprice x).pgv = c.pgv ∧ (c.s_tprice x).pgcd = c.pgcd ∧ (c.s_tprice x).pg2 = c.pg2 ∧ (c.s_tprice x).pgc = c.pgc ∧ (c.s_tprice x).pg0 = c.pg0 ∧ (c.s_tprice x).tk = c.tk ∧ (c.s_tprice x).tsz = c.tsz ∧ (c.s_tprice x).tpl = c.tpl ∧ (c.s_tprice x).li = c.li ∧ (c.s_tprice x).ls = c.ls := ⟨rfl, rfl, rfl, rfl, rfl, rfl, rfl, rfl, rfl, rfl, rfl, rfl, rfl, rfl, rfl, rfl, rfl, rfl, rfl, rfl, rfl, rfl, rfl, rfl, rfl, rfl, rfl, rfl, rfl, rfl, rfl, rfl, rfl, rfl⟩
theorem qCS_twanted {c : CS} {x y : Int32} : (c.s_twanted x).s_twanted y = c.s_twanted y := rfl
theorem pCS_twanted {c : CS} {x : Int32} : (c.s_twanted x).pl = c.pl ∧ (c.s_twanted x).pic = c.pic ∧ (c.s_twanted x).pictured = c.pictured ∧ (c.s_twanted x).made = c.made ∧ (c.s_twanted x).rows = c.rows ∧ (c.s_twanted x).nets = c.nets ∧ (c.s_twanted x).wrow = c.wrow ∧ (c.s_twanted x).crow = c.crow ∧ (c.s_twanted x).tb = c.tb ∧ (c.s_twanted x).tsize = c.tsize ∧ (c.s_twanted x).tread = c.tread ∧ (c.s_twanted x).tn = c.tn ∧ (c.s_twanted x).tat = c.tat ∧ (c.s_twanted x).tname = c.tname ∧ (c.s_twanted x).tlegs = c.tlegs ∧ (c.s_twanted x).tprice = c.tprice ∧ (c.s_twanted x).twanted = x ∧ (c.s_twanted x).pa = c.pa ∧ (c.s_twanted x).ph = c.ph ∧ (c.s_twanted x).dleft = c.dleft ∧ (c.s_twanted x).dasked = c.dasked ∧ (c.s_twanted x).dcount = c.dcount ∧ (c.s_twanted x).dprices = c.dprices ∧ (c.s_twanted x).dplaces = c.dplaces ∧ (c.s_twanted x).pgv = c.pgv ∧ (c.s_twanted x).pgcd = c.pgcd ∧ (c.s_twanted x).pg2 = c.pg2 ∧ (c.s_twanted x).pgc = c.pgc ∧ (c.s_twanted x).pg0 = c.pg0 ∧ (c.s_twanted x).tk = c.tk ∧ (c.s_twanted x).tsz = c.tsz ∧ (c.s_twanted x).tpl = c.tpl ∧ (c.s_twanted x).li = c.li ∧ (c.s_twanted x).ls = c.ls := ⟨rfl, rfl, rfl, rfl, rfl, rfl, rfl, rfl, rfl, rfl, rfl, rfl, rfl, rfl, rfl, rfl, rfl, rfl, rfl, rfl, rfl, rfl, rfl, rfl, rfl, rfl, rfl, rfl, rfl, rfl, rfl, rfl, rfl, rfl⟩
theorem qCS_pa {c : CS} {x y : Nat → Int32} : (c.s_pa x).s_pa y = c.s_pa y := rfl
theorem pCS_pa {c : CS} {x : Nat → Int32} : (c.s_pa x).pl = c.pl ∧ (c.s_pa x).pic = c.pic ∧ (c.s_pa x).pictured = c.pictured ∧ (c.s_pa x).made = c.made ∧ (c.s_pa x).rows = c.rows ∧ (c.s_pa x).nets = c.nets ∧ (c.s_pa x).wrow = c.wrow ∧ (c.s_pa x).crow = c.crow ∧ (c.s_pa x).tb = c.tb ∧ (c.s_pa x).tsize = c.tsize ∧ (c.s_pa x).tread = c.tread ∧ (c.s_pa x).tn = c.tn ∧ (c.s_pa x).tat = c.tat ∧ (c.s_pa x).tname = c.tname ∧ (c.s_pa x).tlegs = c.tlegs ∧ (c.s_pa x).tprice = c.tprice ∧ (c.s_pa x).twanted = c.twanted ∧ (c.s_pa x).pa = x ∧ (c.s_pa x).ph = c.ph ∧ (c.s_pa x).dleft = c.dleft ∧ (c.s_pa x).dasked = c.dasked ∧ (c.s_pa x).dcount = c.dcount ∧ (c.s_pa x).dprices = c.dprices ∧ (c.s_pa x).dplaces = c.dplaces ∧ (c.s_pa x).pgv = c.pgv ∧ (c.s_pa x).pgcd = c.pgcd ∧ (c.s_pa x).pg2 = c.pg2 ∧ (c.s_pa x).pgc = c.pgc ∧ (c.s_pa x).pg0 = c.pg0 ∧ (c.s_pa x).tk = c.tk ∧ (c.s_pa x).tsz = c.tsz ∧ (c.s_pa x).tpl = c.tpl ∧ (c.s_pa x).li = c.li ∧ (c.s_pa x).ls = c.ls := ⟨rfl, rfl, rfl, rfl, rfl, rfl, rfl, rfl, rfl, rfl, rfl, rfl, rfl, rfl, rfl, rfl, rfl, rfl, rfl, rfl, rfl, rfl, rfl, rfl, rfl, rfl, rfl, rfl, rfl, rfl, rfl, rfl, rfl, rfl⟩
theorem qCS_ph {c : CS} {x y : Nat → Int32} : (c.s_ph x).s_ph y = c.s_ph y := rfl
theorem pCS_ph {c : CS} {x : Nat → Int32} : (c.s_ph x).pl = c.pl ∧ (c.s_ph x).pic = c.pic ∧ (c.s_ph x).pictured = c.pictured ∧ (c.s_ph x).made = c.made ∧ (c.s_ph x).rows = c.rows ∧ (c.s_ph x).nets = c.nets ∧ (c.s_ph x).wrow = c.wrow ∧ (c.s_ph x).crow = c.crow ∧ (c.s_ph x).tb = c.tb ∧ (c.s_ph x).tsize = c.tsize ∧ (c.s_ph x).tread = c.tread ∧ (c.s_ph x).tn = c.tn ∧ (c.s_ph x).tat = c.tat ∧ (c.s_ph x).tname = c.tname ∧ (c.s_ph x).tlegs = c.tlegs ∧ (c.s_ph x).tprice = c.tprice ∧ (c.s_ph x).twanted = c.twanted ∧ (c.s_ph x).pa = c.pa ∧ (c.s_ph x).ph = x ∧ (c.s_ph x).dleft = c.dleft ∧ (c.s_ph x).dasked = c.dasked ∧ (c.s_ph x).dcount = c.dcount ∧ (c.s_ph x).dprices = c.dprices ∧ (c.s_ph x).dplaces = c.dplaces ∧ (c.s_ph x).pgv = c.pgv ∧ (c.s_ph x).pgcd = c.pgcd ∧ (c.s_ph x).pg2 = c.pg2 ∧ (c.s_ph x).pgc = c.pgc ∧ (c.s_ph x).pg0 = c.pg0 ∧ (c.s_ph x).tk = c.tk ∧ (c.s_ph x).tsz = c.tsz ∧ (c.s_ph x).tpl = c.tpl ∧ (c.s_ph x).li = c.li ∧ (c.s_ph x).ls = c.ls := ⟨rfl, rfl, rfl, rfl, rfl, rfl, rfl, rfl, rfl, rfl, rfl, rfl, rfl, rfl, rfl, rfl, rfl, rfl, rfl, rfl, rfl, rfl, rfl, rfl, rfl, rfl, rfl, rfl, rfl, rfl, rfl, rfl, rfl, rfl⟩
theorem qCS_dleft {c : CS} {x y : Nat} : (c.s_dleft x).s_dleft y = c.s_dleft y := rfl
theorem pCS_dleft {c : CS} {x : Nat} : (c.s_dleft x).pl = c.pl ∧ (c.s_dleft x).pic = c.pic ∧ (c.s_dleft x).pictured = c.pictured ∧ (c.s_dleft x).made = c.made ∧ (c.s_dleft x).rows = c.rows ∧ (c.s_dleft x).nets = c.nets ∧ (c.s_dleft x).wrow = c.wrow ∧ (c.s_dleft x).crow = c.crow ∧ (c.s_dleft x).tb = c.tb ∧ (c.s_dleft x).tsize = c.tsize ∧ (c.s_dleft x).tread = c.tread ∧ (c.s_dleft x).tn = c.tn ∧ (c.s_dleft x).tat = c.tat ∧ (c.s_dleft x).tname = c.tname ∧ (c.s_dleft x).tlegs = c.tlegs ∧ (c.s_dleft x).tprice = c.tprice ∧ (c.s_dleft x).twanted = c.twanted ∧ (c.s_dleft x).pa = c.pa ∧ (c.s_dleft x).ph = c.ph ∧ (c.s_dleft x).dleft = x ∧ (c.s_dleft x).dasked = c.dasked ∧ (c.s_dleft x).dcount = c.dcount ∧ (c.s_dleft x).dprices = c.dprices ∧ (c.s_dleft x).dplaces = c.dplaces ∧ (c.s_dleft x).pgv = c.pgv ∧ (c.s_dleft x).pgcd = c.pgcd ∧ (c.s_dleft x).pg2 = c.pg2 ∧ (c.s_dleft x).pgc = c.pgc ∧ (c.s_dleft x).pg0 = c.pg0 ∧ (c.s_dleft x).tk = c.tk ∧ (c.s_dleft x).tsz = c.tsz ∧ (c.s_dleft x).tpl = c.tpl ∧ (c.s_dleft x).li = c.li ∧ (c.s_dleft x).ls = c.ls := ⟨rfl, rfl, rfl, rfl, rfl, rfl, rfl, rfl, rfl, rfl, rfl, rfl, rfl, rfl, rfl, rfl, rfl, rfl, rfl, rfl, rfl, rfl, rfl, rfl, rfl, rfl, rfl, rfl, rfl, rfl, rfl, rfl, rfl, rfl⟩
theorem qCS_dasked {c : CS} {x y : Nat} : (c.s_dasked x).s_dasked y = c.s_dasked y := rfl
theorem pCS_dasked {c : CS} {x : Nat} : (c.s_dasked x).pl = c.pl ∧ (c.s_dasked x).pic = c.pic ∧ (c.s_dasked x).pictured = c.pictured ∧ (c.s_dasked x).made = c.made ∧ (c.s_dasked x).rows = c.rows ∧ (c.s_dasked x).nets = c.nets ∧ (c.s_dasked x).wrow = c.wrow ∧ (c.s_dasked x).crow = c.crow ∧ (c.s_dasked x).tb = c.tb ∧ (c.s_dasked x).tsize = c.tsize ∧ (c.s_dasked x).tread = c.tread ∧ (c.s_dasked x).tn = c.tn ∧ (c.s_dasked x).tat = c.tat ∧ (c.s_dasked x).tname = c.tname ∧ (c.s_dasked x).tlegs = c.tlegs ∧ (c.s_dasked x).tprice = c.tprice ∧ (c.s_dasked x).twanted = c.twanted ∧ (c.s_dasked x).pa = c.pa ∧ (c.s_dasked x).ph = c.ph ∧ (c.s_dasked x).dleft = c.dleft ∧ (c.s_dasked x).dasked = x ∧ (c.s_dasked x).dcount = c.dcount ∧ (c.s_dasked x).dprices = c.dprices ∧ (c.s_dasked x).dplaces = c.dplaces ∧ (c.s_dasked x).pgv = c.pgv ∧ (c.s_dasked x).pgcd = c.pgcd ∧ (c.s_dasked x).pg2 = c.pg2 ∧ (c.s_dasked x).pgc = c.pgc ∧ (c.s_dasked x).pg0 = c.pg0 ∧ (c.s_dasked x).tk = c.tk ∧ (c.s_dasked x).tsz = c.tsz ∧ (c.s_dasked x).tpl = c.tpl ∧ (c.s_dasked x).li = c.li ∧ (c.s_dasked x).ls = c.ls := ⟨rfl, rfl, rfl, rfl, rfl, rfl, rfl, rfl, rfl, rfl, rfl, rfl, rfl, rfl, rfl, rfl, rfl, rfl, rfl, rfl, rfl, rfl, rfl, rfl, rfl, rfl, rfl, rfl, rfl, rfl, rfl, rfl, rfl, rfl⟩
theorem qCS_dcount {c : CS} {x y : Nat} : (c.s_dcount x).s_dcount y = c.s_dcount y := rfl
theorem pCS_dcount {c : CS} {x : Nat} : (c.s_dcount x).pl = c.pl ∧ (c.s_dcount x).pic = c.pic ∧ (c.s_dcount x).pictured = c.pictured ∧ (c.s_dcount x).made = c.made ∧ (c.s_dcount x).rows = c.rows ∧ (c.s_dcount x).nets = c.nets ∧ (c.s_dcount x).wrow = c.wrow ∧ (c.s_dcount x).crow = c.crow ∧ (c.s_dcount x).tb = c.tb ∧ (c.s_dcount x).tsize = c.tsize ∧ (c.s_dcount x).tread = c.tread ∧ (c.s_dcount x).tn = c.tn ∧ (c.s_dcount x).tat = c.tat ∧ (c.s_dcount x).tname = c.tname ∧ (c.s_dcount x).tlegs = c.tlegs ∧ (c.s_dcount x).tprice = c.tprice ∧ (c.s_dcount x).twanted = c.twanted ∧ (c.s_dcount x).pa = c.pa ∧ (c.s_dcount x).ph = c.ph ∧ (c.s_dcount x).dleft = c.dleft ∧ (c.s_dcount x).dasked = c.dasked ∧ (c.s_dcount x).dcount = x ∧ (c.s_dcount x).dprices = c.dprices ∧ (c.s_dcount x).dplaces = c.dplaces ∧ (c.s_dcount x).pgv = c.pgv ∧ (c.s_dcount x).pgcd = c.pgcd ∧ (c.s_dcount x).pg2 = c.pg2 ∧ (c.s_dcount x).pgc = c.pgc ∧ (c.s_dcount x).pg0 = c.pg0 ∧ (c.s_dcount x).tk = c.tk ∧ (c.s_dcount x).tsz = c.tsz ∧ (c.s_dcount x).tpl = c.tpl ∧ (c.s_dcount x).li = c.li ∧ (c.s_dcount x).ls = c.ls := ⟨rfl, rfl, rfl, rfl, rfl, rfl, rfl, rfl, rfl, rfl, rfl, rfl, rfl, rfl, rfl, rfl, rfl, rfl, rfl, rfl, rfl, rfl, rfl, rfl, rfl, rfl, rfl, rfl, rfl, rfl, rfl, rfl, rfl, rfl⟩
theorem qCS_dprices {c : CS} {x y : Int32} : (c.s_dprices x).s_dprices y = c.s_dprices y := rfl
theorem pCS_dprices {c : CS} {x : Int32} : (c.s_dprices x).pl = c.pl ∧ (c.s_dprices x).pic = c.pic ∧ (c.s_dprices x).pictured = c.pictured ∧ (c.s_dprices x).made = c.made ∧ (c.s_dprices x).rows = c.rows ∧ (c.s_dprices x).nets = c.nets ∧ (c.s_dprices x).wrow = c.wrow ∧ (c.s_dprices x).crow = c.crow ∧ (c.s_dprices x).tb = c.tb ∧ (c.s_dprices x).tsize = c.tsize ∧ (c.s_dprices x).tread = c.tread ∧ (c.s_dprices x).tn = c.tn ∧ (c.s_dprices x).tat = c.tat ∧ (c.s_dprices x).tname = c.tname ∧ (c.s_dprices x).tlegs = c.tlegs ∧ (c.s_dprices x).tprice = c.tprice ∧ (c.s_dprices x).twanted = c.twanted ∧ (c.s_dprices x).pa = c.pa ∧ (c.s_dprices x).ph = c.ph ∧ (c.s_dprices x).dleft = c.dleft ∧ (c.s_dprices x).dasked = c.dasked ∧ (c.s_dprices x).dcount = c.dcount ∧ (c.s_dprices x).dprices = x ∧ (c.s_dprices x).dplaces = c.dplaces ∧ (c.s_dprices x).pgv = c.pgv ∧ (c.s_dprices x).pgcd = c.pgcd ∧ (c.s_dprices x).pg2 = c.pg2 ∧ (c.s_dprices x).pgc = c.pgc ∧ (c.s_dprices x).pg0 = c.pg0 ∧ (c.s_dprices x).tk = c.tk ∧ (c.s_dprices x).tsz = c.tsz ∧ (c.s_dprices x).tpl = c.tpl ∧ (c.s_dprices x).li = c.li ∧ (c.s_dprices x).ls = c.ls := ⟨rfl, rfl, rfl, rfl, rfl, rfl, rfl, rfl, rfl, rfl, rfl, rfl, rfl, rfl, rfl, rfl, rfl, rfl, rfl, rfl, rfl, rfl, rfl, rfl, rfl, rfl, rfl, rfl, rfl, rfl, rfl, rfl, rfl, rfl⟩
theorem qCS_dplaces {c : CS} {x y : Int32} : (c.s_dplaces x).s_dplaces y = c.s_dplaces y := rfl
theorem pCS_dplaces {c : CS} {x : Int32} : (c.s_dplaces x).pl = c.pl ∧ (c.s_dplaces x).pic = c.pic ∧ (c.s_dplaces x).pictured = c.pictured ∧ (c.s_dplaces x).made = c.made ∧ (c.s_dplaces x).rows = c.rows ∧ (c.s_dplaces x).nets = c.nets ∧ (c.s_dplaces x).wrow = c.wrow ∧ (c.s_dplaces x).crow = c.crow ∧ (c.s_dplaces x).tb = c.tb ∧ (c.s_dplaces x).tsize = c.tsize ∧ (c.s_dplaces x).tread = c.tread ∧ (c.s_dplaces x).tn = c.tn ∧ (c.s_dplaces x).tat = c.tat ∧ (c.s_dplaces x).tname = c.tname ∧ (c.s_dplaces x).tlegs = c.tlegs ∧ (c.s_dplaces x).tprice = c.tprice ∧ (c.s_dplaces x).twanted = c.twanted ∧ (c.s_dplaces x).pa = c.pa ∧ (c.s_dplaces x).ph = c.ph ∧ (c.s_dplaces x).dleft = c.dleft ∧ (c.s_dplaces x).dasked = c.dasked ∧ (c.s_dplaces x).dcount = c.dcount ∧ (c.s_dplaces x).dprices = c.dprices ∧ (c.s_dplaces x).dplaces = x ∧ (c.s_dplaces x).pgv = c.pgv ∧ (c.s_dplaces x).pgcd = c.pgcd ∧ (c.s_dplaces x).pg2 = c.pg2 ∧ (c.s_dplaces x).pgc = c.pgc ∧ (c.s_dplaces x).pg0 = c.pg0 ∧ (c.s_dplaces x).tk = c.tk ∧ (c.s_dplaces x).tsz = c.tsz ∧ (c.s_dplaces x).tpl = c.tpl ∧ (c.s_dplaces x).li = c.li ∧ (c.s_dplaces x).ls = c.ls := ⟨rfl, rfl, rfl, rfl, rfl, rfl, rfl, rfl, rfl, rfl, rfl, rfl, rfl, rfl, rfl, rfl, rfl, rfl, rfl, rfl, rfl, rfl, rfl, rfl, rfl, rfl, rfl, rfl, rfl, rfl, rfl, rfl, rfl, rfl⟩
theorem qCS_pgv {c : CS} {x y : Nat} : (c.s_pgv x).s_pgv y = c.s_pgv y := rfl
theorem pCS_pgv {c : CS} {x : Nat} : (c.s_pgv x).pl = c.pl ∧ (c.s_pgv x).pic = c.pic ∧ (c.s_pgv x).pictured = c.pictured ∧ (c.s_pgv x).made = c.made ∧ (c.s_pgv x).rows = c.rows ∧ (c.s_pgv x).nets = c.nets ∧ (c.s_pgv x).wrow = c.wrow ∧ (c.s_pgv x).crow = c.crow ∧ (c.s_pgv x).tb = c.tb ∧ (c.s_pgv x).tsize = c.tsize ∧ (c.s_pgv x).tread = c.tread ∧ (c.s_pgv x).tn = c.tn ∧ (c.s_pgv x).tat = c.tat ∧ (c.s_pgv x).tname = c.tname ∧ (c.s_pgv x).tlegs = c.tlegs ∧ (c.s_pgv x).tprice = c.tprice ∧ (c.s_pgv x).twanted = c.twanted ∧ (c.s_pgv x).pa = c.pa ∧ (c.s_pgv x).ph = c.ph ∧ (c.s_pgv x).dleft = c.dleft ∧ (c.s_pgv x).dasked = c.dasked ∧ (c.s_pgv x).dcount = c.dcount ∧ (c.s_pgv x).dprices = c.dprices ∧ (c.s_pgv x).dplaces = c.dplaces ∧ (c.s_pgv x).pgv = x ∧ (c.s_pgv x).pgcd = c.pgcd ∧ (c.s_pgv x).pg2 = c.pg2 ∧ (c.s_pgv x).pgc = c.pgc ∧ (c.s_pgv x).pg0 = c.pg0 ∧ (c.s_pgv x).tk = c.tk ∧ (c.s_pgv x).tsz = c.tsz ∧ (c.s_pgv x).tpl = c.tpl ∧ (c.s_pgv x).li = c.li ∧ (c.s_pgv x).ls = c.ls := ⟨rfl, rfl, rfl, rfl, rfl, rfl, rfl, rfl, rfl, rfl, rfl, rfl, rfl, rfl, rfl, rfl, rfl, rfl, rfl, rfl, rfl, rfl, rfl, rfl, rfl, rfl, rfl, rfl, rfl, rfl, rfl, rfl, rfl, rfl⟩
theorem qCS_pgcd {c : CS} {x y : Int32} : (c.s_pgcd x).s_pgcd y = c.s_pgcd y := rfl
theorem pCS_pgcd {c : CS} {x : Int32} : (c.s_pgcd x).pl = c.pl ∧ (c.s_pgcd x).pic = c.pic ∧ (c.s_pgcd x).pictured = c.pictured ∧ (c.s_pgcd x).made = c.made ∧ (c.s_pgcd x).rows = c.rows ∧ (c.s_pgcd x).nets = c.nets ∧ (c.s_pgcd x).wrow = c.wrow ∧ (c.s_pgcd x).crow = c.crow ∧ (c.s_pgcd x).tb = c.tb ∧ (c.s_pgcd x).tsize = c.tsize ∧ (c.s_pgcd x).tread = c.tread ∧ (c.s_pgcd x).tn = c.tn ∧ (c.s_pgcd x).tat = c.tat ∧ (c.s_pgcd x).tname = c.tname ∧ (c.s_pgcd x).tlegs = c.tlegs ∧ (c.s_pgcd x).tprice = c.tprice ∧ (c.s_pgcd x).twanted = c.twanted ∧ (c.s_pgcd x).pa = c.pa ∧ (c.s_pgcd x).ph = c.ph ∧ (c.s_pgcd x).dleft = c.dleft ∧ (c.s_pgcd x).dasked = c.dasked ∧ (c.s_pgcd x).dcount = c.dcount ∧ (c.s_pgcd x).dprices = c.dprices ∧ (c.s_pgcd x).dplaces = c.dplaces ∧ (c.s_pgcd x).pgv = c.pgv ∧ (c.s_pgcd x).pgcd = x ∧ (c.s_pgcd x).pg2 = c.pg2 ∧ (c.s_pgcd x).pgc = c.pgc ∧ (c.s_pgcd x).pg0 = c.pg0 ∧ (c.s_pgcd x).tk = c.tk ∧ (c.s_pgcd x).tsz = c.tsz ∧ (c.s_pgcd x).tpl = c.tpl ∧ (c.s_pgcd x).li = c.li ∧ (c.s_pgcd x).ls = c.ls := ⟨rfl, rfl, rfl, rfl, rfl, rfl, rfl, rfl, rfl, rfl, rfl, rfl, rfl, rfl, rfl, rfl, rfl, rfl, rfl, rfl, rfl, rfl, rfl, rfl, rfl, rfl, rfl, rfl, rfl, rfl, rfl, rfl, rfl, rfl⟩
theorem qCS_pg2 {c : CS} {x y : Int32} : (c.s_pg2 x).s_pg2 y = c.s_pg2 y := rfl
theorem pCS_pg2 {c : CS} {x : Int32} : (c.s_pg2 x).pl = c.pl ∧ (c.s_pg2 x).pic = c.pic ∧ (c.s_pg2 x).pictured = c.pictured ∧ (c.s_pg2 x).made = c.made ∧ (c.s_pg2 x).rows = c.rows ∧ (c.s_pg2 x).nets = c.nets ∧ (c.s_pg2 x).wrow = c.wrow ∧ (c.s_pg2 x).crow = c.crow ∧ (c.s_pg2 x).tb = c.tb ∧ (c.s_pg2 x).tsize = c.tsize ∧ (c.s_pg2 x).tread = c.tread ∧ (c.s_pg2 x).tn = c.tn ∧ (c.s_pg2 x).tat = c.tat ∧ (c.s_pg2 x).tname = c.tname ∧ (c.s_pg2 x).tlegs = c.tlegs ∧ (c.s_pg2 x).tprice = c.tprice ∧ (c.s_pg2 x).twanted = c.twanted ∧ (c.s_pg2 x).pa = c.pa ∧ (c.s_pg2 x).ph = c.ph ∧ (c.s_pg2 x).dleft = c.dleft ∧ (c.s_pg2 x).dasked = c.dasked ∧ (c.s_pg2 x).dcount = c.dcount ∧ (c.s_pg2 x).dprices = c.dprices ∧ (c.s_pg2 x).dplaces = c.dplaces ∧ (c.s_pg2 x).pgv = c.pgv ∧ (c.s_pg2 x).pgcd = c.pgcd ∧ (c.s_pg2 x).pg2 = x ∧ (c.s_pg2 x).pgc = c.pgc ∧ (c.s_pg2 x).pg0 = c.pg0 ∧ (c.s_pg2 x).tk = c.tk ∧ (c.s_pg2 x).tsz = c.tsz ∧ (c.s_pg2 x).tpl = c.tpl ∧ (c.s_pg2 x).li = c.li ∧ (c.s_pg2 x).ls = c.ls := ⟨rfl, rfl, rfl, rfl, rfl, rfl, rfl, rfl, rfl, rfl, rfl, rfl, rfl, rfl, rfl, rfl, rfl, rfl, rfl, rfl, rfl, rfl, rfl, rfl, rfl, rfl, rfl, rfl, rfl, rfl, rfl, rfl, rfl, rfl⟩
theorem qCS_pgc {c : CS} {x y : Nat} : (c.s_pgc x).s_pgc y = c.s_pgc y := rfl
theorem pCS_pgc {c : CS} {x : Nat} : (c.s_pgc x).pl = c.pl ∧ (c.s_pgc x).pic = c.pic ∧ (c.s_pgc x).pictured = c.pictured ∧ (c.s_pgc x).made = c.made ∧ (c.s_pgc x).rows = c.rows ∧ (c.s_pgc x).nets = c.nets ∧ (c.s_pgc x).wrow = c.wrow ∧ (c.s_pgc x).crow = c.crow ∧ (c.s_pgc x).tb = c.tb ∧ (c.s_pgc x).tsize = c.tsize ∧ (c.s_pgc x).tread = c.tread ∧ (c.s_pgc x).tn = c.tn ∧ (c.s_pgc x).tat = c.tat ∧ (c.s_pgc x).tname = c.tname ∧ (c.s_pgc x).tlegs = c.tlegs ∧ (c.s_pgc x).tprice = c.tprice ∧ (c.s_pgc x).twanted = c.twanted ∧ (c.s_pgc x).pa = c.pa ∧ (c.s_pgc x).ph = c.ph ∧ (c.s_pgc x).dleft = c.dleft ∧ (c.s_pgc x).dasked = c.dasked ∧ (c.s_pgc x).dcount = c.dcount ∧ (c.s_pgc x).dprices = c.dprices ∧ (c.s_pgc x).dplaces = c.dplaces ∧ (c.s_pgc x).pgv = c.pgv ∧ (c.s_pgc x).pgcd = c.pgcd ∧ (c.s_pgc x).pg2 = c.pg2 ∧ (c.s_pgc x).pgc = x ∧ (c.s_pgc x).pg0 = c.pg0 ∧ (c.s_pgc x).tk = c.tk ∧ (c.s_pgc x).tsz = c.tsz ∧ (c.s_pgc x).tpl = c.tpl ∧ (c.s_pgc x).li = c.li ∧ (c.s_pgc x).ls = c.ls := ⟨rfl, rfl, rfl, rfl, rfl, rfl, rfl, rfl, rfl, rfl, rfl, rfl, rfl, rfl, rfl, rfl, rfl, rfl, rfl, rfl, rfl, rfl, rfl, rfl, rfl, rfl, rfl, rfl, rfl, rfl, rfl, rfl, rfl, rfl⟩
theorem qCS_pg0 {c : CS} {x y : Nat → Int32} : (c.s_pg0 x).s_pg0 y = c.s_pg0 y := rfl
theorem pCS_pg0 {c : CS} {x : Nat → Int32} : (c.s_pg0 x).pl = c.pl ∧ (c.s_pg0 x).pic = c.pic ∧ (c.s_pg0 x).pictured = c.pictured ∧ (c.s_pg0 x).made = c.made ∧ (c.s_pg0 x).rows = c.rows ∧ (c.s_pg0 x).nets = c.nets ∧ (c.s_pg0 x).wrow = c.wrow ∧ (c.s_pg0 x).crow = c.crow ∧ (c.s_pg0 x).tb = c.tb ∧ (c.s_pg0 x).tsize = c.tsize ∧ (c.s_pg0 x).tread = c.tread ∧ (c.s_pg0 x).tn = c.tn ∧ (c.s_pg0 x).tat = c.tat ∧ (c.s_pg0 x).tname = c.tname ∧ (c.s_pg0 x).tlegs = c.tlegs ∧ (c.s_pg0 x).tprice = c.tprice ∧ (c.s_pg0 x).twanted = c.twanted ∧ (c.s_pg0 x).pa = c.pa ∧ (c.s_pg0 x).ph = c.ph ∧ (c.s_pg0 x).dleft = c.dleft ∧ (c.s_pg0 x).dasked = c.dasked ∧ (c.s_pg0 x).dcount = c.dcount ∧ (c.s_pg0 x).dprices = c.dprices ∧ (c.s_pg0 x).dplaces = c.dplaces ∧ (c.s_pg0 x).pgv = c.pgv ∧ (c.s_pg0 x).pgcd = c.pgcd ∧ (c.s_pg0 x).pg2 = c.pg2 ∧ (c.s_pg0 x).pgc = c.pgc ∧ (c.s_pg0 x).pg0 = x ∧ (c.s_pg0 x).tk = c.tk ∧ (c.s_pg0 x).tsz = c.tsz ∧ (c.s_pg0 x).tpl = c.tpl ∧ (c.s_pg0 x).li = c.li ∧ (c.s_pg0 x).ls = c.ls := ⟨rfl, rfl, rfl, rfl, rfl, rfl, rfl, rfl, rfl, rfl, rfl, rfl, rfl, rfl, rfl, rfl, rfl, rfl, rfl, rfl, rfl, rfl, rfl, rfl, rfl, rfl, rfl, rfl, rfl, rfl, rfl, rfl, rfl, rfl⟩
theorem qCS_tk {c : CS} {x y : Nat → Nat} : (c.s_tk x).s_tk y = c.s_tk y := rfl
theorem pCS_tk {c : CS} {x : Nat → Nat} : (c.s_tk x).pl = c.pl ∧ (c.s_tk x).pic = c.pic ∧ (c.s_tk x).pictured = c.pictured ∧ (c.s_tk x).made = c.made ∧ (c.s_tk x).rows = c.rows ∧ (c.s_tk x).nets = c.nets ∧ (c.s_tk x).wrow = c.wrow ∧ (c.s_tk x).crow = c.crow ∧ (c.s_tk x).tb = c.tb ∧ (c.s_tk x).tsize = c.tsize ∧ (c.s_tk x).tread = c.tread ∧ (c.s_tk x).tn = c.tn ∧ (c.s_tk x).tat = c.tat ∧ (c.s_tk x).tname = c.tname ∧ (c.s_tk x).tlegs = c.tlegs ∧ (c.s_tk x).tprice = c.tprice ∧ (c.s_tk x).twanted = c.twanted ∧ (c.s_tk x).pa = c.pa ∧ (c.s_tk x).ph = c.ph ∧ (c.s_tk x).dleft = c.dleft ∧ (c.s_tk x).dasked = c.dasked ∧ (c.s_tk x).dcount = c.dcount ∧ (c.s_tk x).dprices = c.dprices ∧ (c.s_tk x).dplaces = c.dplaces ∧ (c.s_tk x).pgv = c.pgv ∧ (c.s_tk x).pgcd = c.pgcd ∧ (c.s_tk x).pg2 = c.pg2 ∧ (c.s_tk x).pgc = c.pgc ∧ (c.s_tk x).pg0 = c.pg0 ∧ (c.s_tk x).tk = x ∧ (c.s_tk x).tsz = c.tsz ∧ (c.s_tk x).tpl = c.tpl ∧ (c.s_tk x).li = c.li ∧ (c.s_tk x).ls = c.ls := ⟨rfl, rfl, rfl, rfl, rfl, rfl, rfl, rfl, rfl, rfl, rfl, rfl, rfl, rfl, rfl, rfl, rfl, rfl, rfl, rfl, rfl, rfl, rfl, rfl, rfl, rfl, rfl, rfl, rfl, rfl, rfl, rfl, rfl, rfl⟩
theorem qCS_tsz {c : CS} {x y : Nat → Int32} : (c.s_tsz x).s_tsz y = c.s_tsz y := rfl
theorem pCS_tsz {c : CS} {x : Nat → Int32} : (c.s_tsz x).pl = c.pl ∧ (c.s_tsz x).pic = c.pic ∧ (c.s_tsz x).pictured = c.pictured ∧ (c.s_tsz x).made = c.made ∧ (c.s_tsz x).rows = c.rows ∧ (c.s_tsz x).nets = c.nets ∧ (c.s_tsz x).wrow = c.wrow ∧ (c.s_tsz x).crow = c.crow ∧ (c.s_tsz x).tb = c.tb ∧ (c.s_tsz x).tsize = c.tsize ∧ (c.s_tsz x).tread = c.tread ∧ (c.s_tsz x).tn = c.tn ∧ (c.s_tsz x).tat = c.tat ∧ (c.s_tsz x).tname = c.tname ∧ (c.s_tsz x).tlegs = c.tlegs ∧ (c.s_tsz x).tprice = c.tprice ∧ (c.s_tsz x).twanted = c.twanted ∧ (c.s_tsz x).pa = c.pa ∧ (c.s_tsz x).ph = c.ph ∧ (c.s_tsz x).dleft = c.dleft ∧ (c.s_tsz x).dasked = c.dasked ∧ (c.s_tsz x).dcount = c.dcount ∧ (c.s_tsz x).dprices = c.dprices ∧ (c.s_tsz x).dplaces = c.dplaces ∧ (c.s_tsz x).pgv = c.pgv ∧ (c.s_tsz x).pgcd = c.pgcd ∧ (c.s_tsz x).pg2 = c.pg2 ∧ (c.s_tsz x).pgc = c.pgc ∧ (c.s_tsz x).pg0 = c.pg0 ∧ (c.s_tsz x).tk = c.tk ∧ (c.s_tsz x).tsz = x ∧ (c.s_tsz x).tpl = c.tpl ∧ (c.s_tsz x).li = c.li ∧ (c.s_tsz x).ls = c.ls := ⟨rfl, rfl, rfl, rfl, rfl, rfl, rfl, rfl, rfl, rfl, rfl, rfl, rfl, rfl, rfl, rfl, rfl, rfl, rfl, rfl, rfl, rfl, rfl, rfl, rfl, rfl, rfl, rfl, rfl, rfl, rfl, rfl, rfl, rfl⟩
theorem qCS_tpl {c : CS} {x y : Nat → Nat → Int32} : (c.s_tpl x).s_tpl y = c.s_tpl y := rfl
theorem pCS_tpl {c : CS} {x : Nat → Nat → Int32} : (c.s_tpl x).pl = c.pl ∧ (c.s_tpl x).pic = c.pic ∧ (c.s_tpl x).pictured = c.pictured ∧ (c.s_tpl x).made = c.made ∧ (c.s_tpl x).rows = c.rows ∧ (c.s_tpl x).nets = c.nets ∧ (c.s_tpl x).wrow = c.wrow ∧ (c.s_tpl x).crow = c.crow ∧ (c.s_tpl x).tb = c.tb ∧ (c.s_tpl x).tsize = c.tsize ∧ (c.s_tpl x).tread = c.tread ∧ (c.s_tpl x).tn = c.tn ∧ (c.s_tpl x).tat = c.tat ∧ (c.s_tpl x).tname = c.tname ∧ (c.s_tpl x).tlegs = c.tlegs ∧ (c.s_tpl x).tprice = c.tprice ∧ (c.s_tpl x).twanted = c.twanted ∧ (c.s_tpl x).pa = c.pa ∧ (c.s_tpl x).ph = c.ph ∧ (c.s_tpl x).dleft = c.dleft ∧ (c.s_tpl x).dasked = c.dasked ∧ (c.s_tpl x).dcount = c.dcount ∧ (c.s_tpl x).dprices = c.dprices ∧ (c.s_tpl x).dplaces = c.dplaces ∧ (c.s_tpl x).pgv = c.pgv ∧ (c.s_tpl x).pgcd = c.pgcd ∧ (c.s_tpl x).pg2 = c.pg2 ∧ (c.s_tpl x).pgc = c.pgc ∧ (c.s_tpl x).pg0 = c.pg0 ∧ (c.s_tpl x).tk = c.tk ∧ (c.s_tpl x).tsz = c.tsz ∧ (c.s_tpl x).tpl = x ∧ (c.s_tpl x).li = c.li ∧ (c.s_tpl x).ls = c.ls := ⟨rfl, rfl, rfl, rfl, rfl, rfl, rfl, rfl, rfl, rfl, rfl, rfl, rfl, rfl, rfl, rfl, rfl, rfl, rfl, rfl, rfl, rfl, rfl, rfl, rfl, rfl, rfl, rfl, rfl, rfl, rfl, rfl, rfl, rfl⟩
theorem qCS_li {c : CS} {x y : Nat → Nat → Int64} : (c.s_li x).s_li y = c.s_li y := rfl
theorem pCS_li {c : CS} {x : Nat → Nat → Int64} : (c.s_li x).pl = c.pl ∧ (c.s_li x).pic = c.pic ∧ (c.s_li x).pictured = c.pictured ∧ (c.s_li x).made = c.made ∧ (c.s_li x).rows = c.rows ∧ (c.s_li x).nets = c.nets ∧ (c.s_li x).wrow = c.wrow ∧ (c.s_li x).crow = c.crow ∧ (c.s_li x).tb = c.tb ∧ (c.s_li x).tsize = c.tsize ∧ (c.s_li x).tread = c.tread ∧ (c.s_li x).tn = c.tn ∧ (c.s_li x).tat = c.tat ∧ (c.s_li x).tname = c.tname ∧ (c.s_li x).tlegs = c.tlegs ∧ (c.s_li x).tprice = c.tprice ∧ (c.s_li x).twanted = c.twanted ∧ (c.s_li x).pa = c.pa ∧ (c.s_li x).ph = c.ph ∧ (c.s_li x).dleft = c.dleft ∧ (c.s_li x).dasked = c.dasked ∧ (c.s_li x).dcount = c.dcount ∧ (c.s_li x).dprices = c.dprices ∧ (c.s_li x).dplaces = c.dplaces ∧ (c.s_li x).pgv = c.pgv ∧ (c.s_li x).pgcd = c.pgcd ∧ (c.s_li x).pg2 = c.pg2 ∧ (c.s_li x).pgc = c.pgc ∧ (c.s_li x).pg0 = c.pg0 ∧ (c.s_li x).tk = c.tk ∧ (c.s_li x).tsz = c.tsz ∧ (c.s_li x).tpl = c.tpl ∧ (c.s_li x).li = x ∧ (c.s_li x).ls = c.ls := ⟨rfl, rfl, rfl, rfl, rfl, rfl, rfl, rfl, rfl, rfl, rfl, rfl, rfl, rfl, rfl, rfl, rfl, rfl, rfl, rfl, rfl, rfl, rfl, rfl, rfl, rfl, rfl, rfl, rfl, rfl, rfl, rfl, rfl, rfl⟩
theorem qCS_ls {c : CS} {x y : Nat → Int32} : (c.s_ls x).s_ls y = c.s_ls y := rfl
theorem pCS_ls {c : CS} {x : Nat → Int32} : (c.s_ls x).pl = c.pl ∧ (c.s_ls x).pic = c.pic ∧ (c.s_ls x).pictured = c.pictured ∧ (c.s_ls x).made = c.made ∧ (c.s_ls x).rows = c.rows ∧ (c.s_ls x).nets = c.nets ∧ (c.s_ls x).wrow = c.wrow ∧ (c.s_ls x).crow = c.crow ∧ (c.s_ls x).tb = c.tb ∧ (c.s_ls x).tsize = c.tsize ∧ (c.s_ls x).tread = c.tread ∧ (c.s_ls x).tn = c.tn ∧ (c.s_ls x).tat = c.tat ∧ (c.s_ls x).tname = c.tname ∧ (c.s_ls x).tlegs = c.tlegs ∧ (c.s_ls x).tprice = c.tprice ∧ (c.s_ls x).twanted = c.twanted ∧ (c.s_ls x).pa = c.pa ∧ (c.s_ls x).ph = c.ph ∧ (c.s_ls x).dleft = c.dleft ∧ (c.s_ls x).dasked = c.dasked ∧ (c.s_ls x).dcount = c.dcount ∧ (c.s_ls x).dprices = c.dprices ∧ (c.s_ls x).dplaces = c.dplaces ∧ (c.s_ls x).pgv = c.pgv ∧ (c.s_ls x).pgcd = c.pgcd ∧ (c.s_ls x).pg2 = c.pg2 ∧ (c.s_ls x).pgc = c.pgc ∧ (c.s_ls x).pg0 = c.pg0 ∧ (c.s_ls x).tk = c.tk ∧ (c.s_ls x).tsz = c.tsz ∧ (c.s_ls x).tpl = c.tpl ∧ (c.s_ls x).li = c.li ∧ (c.s_ls x).ls = x := ⟨rfl, rfl, rfl, rfl, rfl, rfl, rfl, rfl, rfl, rfl, rfl, rfl, rfl, rfl, rfl, rfl, rfl, rfl, rfl, rfl, rfl, rfl, rfl, rfl, rfl, rfl, rfl, rfl, rfl, rfl, rfl, rfl, rfl, rfl⟩
theorem qMS_now {d : MS} {x y : Nat → Int32} : (d.s_now x).s_now y = d.s_now y := rfl
theorem pMS_now {d : MS} {x : Nat → Int32} : (d.s_now x).now = x ∧ (d.s_now x).kept = d.kept ∧ (d.s_now x).hasImage = d.hasImage ∧ (d.s_now x).taped = d.taped ∧ (d.s_now x).tape = d.tape ∧ (d.s_now x).written = d.written ∧ (d.s_now x).paper = d.paper ∧ (d.s_now x).trayKind = d.trayKind ∧ (d.s_now x).traySize = d.traySize ∧ (d.s_now x).laid = d.laid ∧ (d.s_now x).listSize = d.listSize ∧ (d.s_now x).items = d.items ∧ (d.s_now x).worths = d.worths ∧ (d.s_now x).chances = d.chances ∧ (d.s_now x).fewer = d.fewer ∧ (d.s_now x).isOver = d.isOver ∧ (d.s_now x).grosses = d.grosses ∧ (d.s_now x).isGreat = d.isGreat ∧ (d.s_now x).sets = d.sets ∧ (d.s_now x).had = d.had ∧ (d.s_now x).left = d.left ∧ (d.s_now x).prices = d.prices ∧ (d.s_now x).askers = d.askers ∧ (d.s_now x).isGone = d.isGone ∧ (d.s_now x).at_ = d.at_ ∧ (d.s_now x).fault = d.fault ∧ (d.s_now x).read = d.read ∧ (d.s_now x).ahead = d.ahead ∧ (d.s_now x).asked = d.asked := ⟨rfl, rfl, rfl, rfl, rfl, rfl, rfl, rfl, rfl, rfl, rfl, rfl, rfl, rfl, rfl, rfl, rfl, rfl, rfl, rfl, rfl, rfl, rfl, rfl, rfl, rfl, rfl, rfl, rfl⟩
theorem qMS_kept {d : MS} {x y : Nat → Int32} : (d.s_kept x).s_kept y = d.s_kept y := rfl
theorem pMS_kept {d : MS} {x : Nat → Int32} : (d.s_kept x).now = d.now ∧ (d.s_kept x).kept = x ∧ (d.s_kept x).hasImage = d.hasImage ∧ (d.s_kept x).taped = d.taped ∧ (d.s_kept x).tape = d.tape ∧ (d.s_kept x).written = d.written ∧ (d.s_kept x).paper = d.paper ∧ (d.s_kept x).trayKind = d.trayKind ∧ (d.s_kept x).traySize = d.traySize ∧ (d.s_kept x).laid = d.laid ∧ (d.s_kept x).listSize = d.listSize ∧ (d.s_kept x).items = d.items ∧ (d.s_kept x).worths = d.worths ∧ (d.s_kept x).chances = d.chances ∧ (d.s_kept x).fewer = d.fewer ∧ (d.s_kept x).isOver = d.isOver ∧ (d.s_kept x).grosses = d.grosses ∧ (d.s_kept x).isGreat = d.isGreat ∧ (d.s_kept x).sets = d.sets ∧ (d.s_kept x).had = d.had ∧ (d.s_kept x).left = d.left ∧ (d.s_kept x).prices = d.prices ∧ (d.s_kept x).askers = d.askers ∧ (d.s_kept x).isGone = d.isGone ∧ (d.s_kept x).at_ = d.at_ ∧ (d.s_kept x).fault = d.fault ∧ (d.s_kept x).read = d.read ∧ (d.s_kept x).ahead = d.ahead ∧ (d.s_kept x).asked = d.asked := ⟨rfl, rfl, rfl, rfl, rfl, rfl, rfl, rfl, rfl, rfl, rfl, rfl, rfl, rfl, rfl, rfl, rfl, rfl, rfl, rfl, rfl, rfl, rfl, rfl, rfl, rfl, rfl, rfl, rfl⟩
theorem qMS_hasImage {d : MS} {x y : Int32} : (d.s_hasImage x).s_hasImage y = d.s_hasImage y := rfl
theorem pMS_hasImage {d : MS} {x : Int32} : (d.s_hasImage x).now = d.now ∧ (d.s_hasImage x).kept = d.kept ∧ (d.s_hasImage x).hasImage = x ∧ (d.s_hasImage x).taped = d.taped ∧ (d.s_hasImage x).tape = d.tape ∧ (d.s_hasImage x).written = d.written ∧ (d.s_hasImage x).paper = d.paper ∧ (d.s_hasImage x).trayKind = d.trayKind ∧ (d.s_hasImage x).traySize = d.traySize ∧ (d.s_hasImage x).laid = d.laid ∧ (d.s_hasImage x).listSize = d.listSize ∧ (d.s_hasImage x).items = d.items ∧ (d.s_hasImage x).worths = d.worths ∧ (d.s_hasImage x).chances = d.chances ∧ (d.s_hasImage x).fewer = d.fewer ∧ (d.s_hasImage x).isOver = d.isOver ∧ (d.s_hasImage x).grosses = d.grosses ∧ (d.s_hasImage x).isGreat = d.isGreat ∧ (d.s_hasImage x).sets = d.sets ∧ (d.s_hasImage x).had = d.had ∧ (d.s_hasImage x).left = d.left ∧ (d.s_hasImage x).prices = d.prices ∧ (d.s_hasImage x).askers = d.askers ∧ (d.s_hasImage x).isGone = d.isGone ∧ (d.s_hasImage x).at_ = d.at_ ∧ (d.s_hasImage x).fault = d.fault ∧ (d.s_hasImage x).read = d.read ∧ (d.s_hasImage x).ahead = d.ahead ∧ (d.s_hasImage x).asked = d.asked := ⟨rfl, rfl, rfl, rfl, rfl, rfl, rfl, rfl, rfl, rfl, rfl, rfl, rfl, rfl, rfl, rfl, rfl, rfl, rfl, rfl, rfl, rfl, rfl, rfl, rfl, rfl, rfl, rfl, rfl⟩
theorem qMS_taped {d : MS} {x y : Int32} : (d.s_taped x).s_taped y = d.s_taped y := rfl
theorem pMS_taped {d : MS} {x : Int32} : (d.s_taped x).now = d.now ∧ (d.s_taped x).kept = d.kept ∧ (d.s_taped x).hasImage = d.hasImage ∧ (d.s_taped x).taped = x ∧ (d.s_taped x).tape = d.tape ∧ (d.s_taped x).written = d.written ∧ (d.s_taped x).paper = d.paper ∧ (d.s_taped x).trayKind = d.trayKind ∧ (d.s_taped x).traySize = d.traySize ∧ (d.s_taped x).laid = d.laid ∧ (d.s_taped x).listSize = d.listSize ∧ (d.s_taped x).items = d.items ∧ (d.s_taped x).worths = d.worths ∧ (d.s_taped x).chances = d.chances ∧ (d.s_taped x).fewer = d.fewer ∧ (d.s_taped x).isOver = d.isOver ∧ (d.s_taped x).grosses = d.grosses ∧ (d.s_taped x).isGreat = d.isGreat ∧ (d.s_taped x).sets = d.sets ∧ (d.s_taped x).had = d.had ∧ (d.s_taped x).left = d.left ∧ (d.s_taped x).prices = d.prices ∧ (d.s_taped x).askers = d.askers ∧ (d.s_taped x).isGone = d.isGone ∧ (d.s_taped x).at_ = d.at_ ∧ (d.s_taped x).fault = d.fault ∧ (d.s_taped x).read = d.read ∧ (d.s_taped x).ahead = d.ahead ∧ (d.s_taped x).asked = d.asked := ⟨rfl, rfl, rfl, rfl, rfl, rfl, rfl, rfl, rfl, rfl, rfl, rfl, rfl, rfl, rfl, rfl, rfl, rfl, rfl, rfl, rfl, rfl, rfl, rfl, rfl, rfl, rfl, rfl, rfl⟩
theorem qMS_tape {d : MS} {x y : Nat → Int32} : (d.s_tape x).s_tape y = d.s_tape y := rfl
theorem pMS_tape {d : MS} {x : Nat → Int32} : (d.s_tape x).now = d.now ∧ (d.s_tape x).kept = d.kept ∧ (d.s_tape x).hasImage = d.hasImage ∧ (d.s_tape x).taped = d.taped ∧ (d.s_tape x).tape = x ∧ (d.s_tape x).written = d.written ∧ (d.s_tape x).paper = d.paper ∧ (d.s_tape x).trayKind = d.trayKind ∧ (d.s_tape x).traySize = d.traySize ∧ (d.s_tape x).laid = d.laid ∧ (d.s_tape x).listSize = d.listSize ∧ (d.s_tape x).items = d.items ∧ (d.s_tape x).worths = d.worths ∧ (d.s_tape x).chances = d.chances ∧ (d.s_tape x).fewer = d.fewer ∧ (d.s_tape x).isOver = d.isOver ∧ (d.s_tape x).grosses = d.grosses ∧ (d.s_tape x).isGreat = d.isGreat ∧ (d.s_tape x).sets = d.sets ∧ (d.s_tape x).had = d.had ∧ (d.s_tape x).left = d.left ∧ (d.s_tape x).prices = d.prices ∧ (d.s_tape x).askers = d.askers ∧ (d.s_tape x).isGone = d.isGone ∧ (d.s_tape x).at_ = d.at_ ∧ (d.s_tape x).fault = d.fault ∧ (d.s_tape x).read = d.read ∧ (d.s_tape x).ahead = d.ahead ∧ (d.s_tape x).asked = d.asked := ⟨rfl, rfl, rfl, rfl, rfl, rfl, rfl, rfl, rfl, rfl, rfl, rfl, rfl, rfl, rfl, rfl, rfl, rfl, rfl, rfl, rfl, rfl, rfl, rfl, rfl, rfl, rfl, rfl, rfl⟩
theorem qMS_written {d : MS} {x y : Int32} : (d.s_written x).s_written y = d.s_written y := rfl
theorem pMS_written {d : MS} {x : Int32} : (d.s_written x).now = d.now ∧ (d.s_written x).kept = d.kept ∧ (d.s_written x).hasImage = d.hasImage ∧ (d.s_written x).taped = d.taped ∧ (d.s_written x).tape = d.tape ∧ (d.s_written x).written = x ∧ (d.s_written x).paper = d.paper ∧ (d.s_written x).trayKind = d.trayKind ∧ (d.s_written x).traySize = d.traySize ∧ (d.s_written x).laid = d.laid ∧ (d.s_written x).listSize = d.listSize ∧ (d.s_written x).items = d.items ∧ (d.s_written x).worths = d.worths ∧ (d.s_written x).chances = d.chances ∧ (d.s_written x).fewer = d.fewer ∧ (d.s_written x).isOver = d.isOver ∧ (d.s_written x).grosses = d.grosses ∧ (d.s_written x).isGreat = d.isGreat ∧ (d.s_written x).sets = d.sets ∧ (d.s_written x).had = d.had ∧ (d.s_written x).left = d.left ∧ (d.s_written x).prices = d.prices ∧ (d.s_written x).askers = d.askers ∧ (d.s_written x).isGone = d.isGone ∧ (d.s_written x).at_ = d.at_ ∧ (d.s_written x).fault = d.fault ∧ (d.s_written x).read = d.read ∧ (d.s_written x).ahead = d.ahead ∧ (d.s_written x).asked = d.asked := ⟨rfl, rfl, rfl, rfl, rfl, rfl, rfl, rfl, rfl, rfl, rfl, rfl, rfl, rfl, rfl, rfl, rfl, rfl, rfl, rfl, rfl, rfl, rfl, rfl, rfl, rfl, rfl, rfl, rfl⟩
theorem qMS_paper {d : MS} {x y : Nat → Int32} : (d.s_paper x).s_paper y = d.s_paper y := rfl
theorem pMS_paper {d : MS} {x : Nat → Int32} : (d.s_paper x).now = d.now ∧ (d.s_paper x).kept = d.kept ∧ (d.s_paper x).hasImage = d.hasImage ∧ (d.s_paper x).taped = d.taped ∧ (d.s_paper x).tape = d.tape ∧ (d.s_paper x).written = d.written ∧ (d.s_paper x).paper = x ∧ (d.s_paper x).trayKind = d.trayKind ∧ (d.s_paper x).traySize = d.traySize ∧ (d.s_paper x).laid = d.laid ∧ (d.s_paper x).listSize = d.listSize ∧ (d.s_paper x).items = d.items ∧ (d.s_paper x).worths = d.worths ∧ (d.s_paper x).chances = d.chances ∧ (d.s_paper x).fewer = d.fewer ∧ (d.s_paper x).isOver = d.isOver ∧ (d.s_paper x).grosses = d.grosses ∧ (d.s_paper x).isGreat = d.isGreat ∧ (d.s_paper x).sets = d.sets ∧ (d.s_paper x).had = d.had ∧ (d.s_paper x).left = d.left ∧ (d.s_paper x).prices = d.prices ∧ (d.s_paper x).askers = d.askers ∧ (d.s_paper x).isGone = d.isGone ∧ (d.s_paper x).at_ = d.at_ ∧ (d.s_paper x).fault = d.fault ∧ (d.s_paper x).read = d.read ∧ (d.s_paper x).ahead = d.ahead ∧ (d.s_paper x).asked = d.asked := ⟨rfl, rfl, rfl, rfl, rfl, rfl, rfl, rfl, rfl, rfl, rfl, rfl, rfl, rfl, rfl, rfl, rfl, rfl, rfl, rfl, rfl, rfl, rfl, rfl, rfl, rfl, rfl, rfl, rfl⟩
theorem qMS_trayKind {d : MS} {x y : Nat → Int32} : (d.s_trayKind x).s_trayKind y = d.s_trayKind y := rfl
theorem pMS_trayKind {d : MS} {x : Nat → Int32} : (d.s_trayKind x).now = d.now ∧ (d.s_trayKind x).kept = d.kept ∧ (d.s_trayKind x).hasImage = d.hasImage ∧ (d.s_trayKind x).taped = d.taped ∧ (d.s_trayKind x).tape = d.tape ∧ (d.s_trayKind x).written = d.written ∧ (d.s_trayKind x).paper = d.paper ∧ (d.s_trayKind x).trayKind = x ∧ (d.s_trayKind x).traySize = d.traySize ∧ (d.s_trayKind x).laid = d.laid ∧ (d.s_trayKind x).listSize = d.listSize ∧ (d.s_trayKind x).items = d.items ∧ (d.s_trayKind x).worths = d.worths ∧ (d.s_trayKind x).chances = d.chances ∧ (d.s_trayKind x).fewer = d.fewer ∧ (d.s_trayKind x).isOver = d.isOver ∧ (d.s_trayKind x).grosses = d.grosses ∧ (d.s_trayKind x).isGreat = d.isGreat ∧ (d.s_trayKind x).sets = d.sets ∧ (d.s_trayKind x).had = d.had ∧ (d.s_trayKind x).left = d.left ∧ (d.s_trayKind x).prices = d.prices ∧ (d.s_trayKind x).askers = d.askers ∧ (d.s_trayKind x).isGone = d.isGone ∧ (d.s_trayKind x).at_ = d.at_ ∧ (d.s_trayKind x).fault = d.fault ∧ (d.s_trayKind x).read = d.read ∧ (d.s_trayKind x).ahead = d.ahead ∧ (d.s_trayKind x).asked = d.asked := ⟨rfl, rfl, rfl, rfl, rfl, rfl, rfl, rfl, rfl, rfl, rfl, rfl, rfl, rfl, rfl, rfl, rfl, rfl, rfl, rfl, rfl, rfl, rfl, rfl, rfl, rfl, rfl, rfl, rfl⟩
theorem qMS_traySize {d : MS} {x y : Nat → Int32} : (d.s_traySize x).s_traySize y = d.s_traySize y := rfl
theorem pMS_traySize {d : MS} {x : Nat → Int32} : (d.s_traySize x).now = d.now ∧ (d.s_traySize x).kept = d.kept ∧ (d.s_traySize x).hasImage = d.hasImage ∧ (d.s_traySize x).taped = d.taped ∧ (d.s_traySize x).tape = d.tape ∧ (d.s_traySize x).written = d.written ∧ (d.s_traySize x).paper = d.paper ∧ (d.s_traySize x).trayKind = d.trayKind ∧ (d.s_traySize x).traySize = x ∧ (d.s_traySize x).laid = d.laid ∧ (d.s_traySize x).listSize = d.listSize ∧ (d.s_traySize x).items = d.items ∧ (d.s_traySize x).worths = d.worths ∧ (d.s_traySize x).chances = d.chances ∧ (d.s_traySize x).fewer = d.fewer ∧ (d.s_traySize x).isOver = d.isOver ∧ (d.s_traySize x).grosses = d.grosses ∧ (d.s_traySize x).isGreat = d.isGreat ∧ (d.s_traySize x).sets = d.sets ∧ (d.s_traySize x).had = d.had ∧ (d.s_traySize x).left = d.left ∧ (d.s_traySize x).prices = d.prices ∧ (d.s_traySize x).askers = d.askers ∧ (d.s_traySize x).isGone = d.isGone ∧ (d.s_traySize x).at_ = d.at_ ∧ (d.s_traySize x).fault = d.fault ∧ (d.s_traySize x).read = d.read ∧ (d.s_traySize x).ahead = d.ahead ∧ (d.s_traySize x).asked = d.asked := ⟨rfl, rfl, rfl, rfl, rfl, rfl, rfl, rfl, rfl, rfl, rfl, rfl, rfl, rfl, rfl, rfl, rfl, rfl, rfl, rfl, rfl, rfl, rfl, rfl, rfl, rfl, rfl, rfl, rfl⟩
theorem qMS_laid {d : MS} {x y : Nat → Int32} : (d.s_laid x).s_laid y = d.s_laid y := rfl
theorem pMS_laid {d : MS} {x : Nat → Int32} : (d.s_laid x).now = d.now ∧ (d.s_laid x).kept = d.kept ∧ (d.s_laid x).hasImage = d.hasImage ∧ (d.s_laid x).taped = d.taped ∧ (d.s_laid x).tape = d.tape ∧ (d.s_laid x).written = d.written ∧ (d.s_laid x).paper = d.paper ∧ (d.s_laid x).trayKind = d.trayKind ∧ (d.s_laid x).traySize = d.traySize ∧ (d.s_laid x).laid = x ∧ (d.s_laid x).listSize = d.listSize ∧ (d.s_laid x).items = d.items ∧ (d.s_laid x).worths = d.worths ∧ (d.s_laid x).chances = d.chances ∧ (d.s_laid x).fewer = d.fewer ∧ (d.s_laid x).isOver = d.isOver ∧ (d.s_laid x).grosses = d.grosses ∧ (d.s_laid x).isGreat = d.isGreat ∧ (d.s_laid x).sets = d.sets ∧ (d.s_laid x).had = d.had ∧ (d.s_laid x).left = d.left ∧ (d.s_laid x).prices = d.prices ∧ (d.s_laid x).askers = d.askers ∧ (d.s_laid x).isGone = d.isGone ∧ (d.s_laid x).at_ = d.at_ ∧ (d.s_laid x).fault = d.fault ∧ (d.s_laid x).read = d.read ∧ (d.s_laid x).ahead = d.ahead ∧ (d.s_laid x).asked = d.asked := ⟨rfl, rfl, rfl, rfl, rfl, rfl, rfl, rfl, rfl, rfl, rfl, rfl, rfl, rfl, rfl, rfl, rfl, rfl, rfl, rfl, rfl, rfl, rfl, rfl, rfl, rfl, rfl, rfl, rfl⟩
theorem qMS_listSize {d : MS} {x y : Nat → Int32} : (d.s_listSize x).s_listSize y = d.s_listSize y := rfl
theorem pMS_listSize {d : MS} {x : Nat → Int32} : (d.s_listSize x).now = d.now ∧ (d.s_listSize x).kept = d.kept ∧ (d.s_listSize x).hasImage = d.hasImage ∧ (d.s_listSize x).taped = d.taped ∧ (d.s_listSize x).tape = d.tape ∧ (d.s_listSize x).written = d.written ∧ (d.s_listSize x).paper = d.paper ∧ (d.s_listSize x).trayKind = d.trayKind ∧ (d.s_listSize x).traySize = d.traySize ∧ (d.s_listSize x).laid = d.laid ∧ (d.s_listSize x).listSize = x ∧ (d.s_listSize x).items = d.items ∧ (d.s_listSize x).worths = d.worths ∧ (d.s_listSize x).chances = d.chances ∧ (d.s_listSize x).fewer = d.fewer ∧ (d.s_listSize x).isOver = d.isOver ∧ (d.s_listSize x).grosses = d.grosses ∧ (d.s_listSize x).isGreat = d.isGreat ∧ (d.s_listSize x).sets = d.sets ∧ (d.s_listSize x).had = d.had ∧ (d.s_listSize x).left = d.left ∧ (d.s_listSize x).prices = d.prices ∧ (d.s_listSize x).askers = d.askers ∧ (d.s_listSize x).isGone = d.isGone ∧ (d.s_listSize x).at_ = d.at_ ∧ (d.s_listSize x).fault = d.fault ∧ (d.s_listSize x).read = d.read ∧ (d.s_listSize x).ahead = d.ahead ∧ (d.s_listSize x).asked = d.asked := ⟨rfl, rfl, rfl, rfl, rfl, rfl, rfl, rfl, rfl, rfl, rfl, rfl, rfl, rfl, rfl, rfl, rfl, rfl, rfl, rfl, rfl, rfl, rfl, rfl, rfl, rfl, rfl, rfl, rfl⟩
theorem qMS_items {d : MS} {x y : Nat → Int64} : (d.s_items x).s_items y = d.s_items y := rfl
theorem pMS_items {d : MS} {x : Nat → Int64} : (d.s_items x).now = d.now ∧ (d.s_items x).kept = d.kept ∧ (d.s_items x).hasImage = d.hasImage ∧ (d.s_items x).taped = d.taped ∧ (d.s_items x).tape = d.tape ∧ (d.s_items x).written = d.written ∧ (d.s_items x).paper = d.paper ∧ (d.s_items x).trayKind = d.trayKind ∧ (d.s_items x).traySize = d.traySize ∧ (d.s_items x).laid = d.laid ∧ (d.s_items x).listSize = d.listSize ∧ (d.s_items x).items = x ∧ (d.s_items x).worths = d.worths ∧ (d.s_items x).chances = d.chances ∧ (d.s_items x).fewer = d.fewer ∧ (d.s_items x).isOver = d.isOver ∧ (d.s_items x).grosses = d.grosses ∧ (d.s_items x).isGreat = d.isGreat ∧ (d.s_items x).sets = d.sets ∧ (d.s_items x).had = d.had ∧ (d.s_items x).left = d.left ∧ (d.s_items x).prices = d.prices ∧ (d.s_items x).askers = d.askers ∧ (d.s_items x).isGone = d.isGone ∧ (d.s_items x).at_ = d.at_ ∧ (d.s_items x).fault = d.fault ∧ (d.s_items x).read = d.read ∧ (d.s_items x).ahead = d.ahead ∧ (d.s_items x).asked = d.asked := ⟨rfl, rfl, rfl, rfl, rfl, rfl, rfl, rfl, rfl, rfl, rfl, rfl, rfl, rfl, rfl, rfl, rfl, rfl, rfl, rfl, rfl, rfl, rfl, rfl, rfl, rfl, rfl, rfl, rfl⟩
theorem qMS_worths {d : MS} {x y : Nat → UInt64} : (d.s_worths x).s_worths y = d.s_worths y := rfl
theorem pMS_worths {d : MS} {x : Nat → UInt64} : (d.s_worths x).now = d.now ∧ (d.s_worths x).kept = d.kept ∧ (d.s_worths x).hasImage = d.hasImage ∧ (d.s_worths x).taped = d.taped ∧ (d.s_worths x).tape = d.tape ∧ (d.s_worths x).written = d.written ∧ (d.s_worths x).paper = d.paper ∧ (d.s_worths x).trayKind = d.trayKind ∧ (d.s_worths x).traySize = d.traySize ∧ (d.s_worths x).laid = d.laid ∧ (d.s_worths x).listSize = d.listSize ∧ (d.s_worths x).items = d.items ∧ (d.s_worths x).worths = x ∧ (d.s_worths x).chances = d.chances ∧ (d.s_worths x).fewer = d.fewer ∧ (d.s_worths x).isOver = d.isOver ∧ (d.s_worths x).grosses = d.grosses ∧ (d.s_worths x).isGreat = d.isGreat ∧ (d.s_worths x).sets = d.sets ∧ (d.s_worths x).had = d.had ∧ (d.s_worths x).left = d.left ∧ (d.s_worths x).prices = d.prices ∧ (d.s_worths x).askers = d.askers ∧ (d.s_worths x).isGone = d.isGone ∧ (d.s_worths x).at_ = d.at_ ∧ (d.s_worths x).fault = d.fault ∧ (d.s_worths x).read = d.read ∧ (d.s_worths x).ahead = d.ahead ∧ (d.s_worths x).asked = d.asked := ⟨rfl, rfl, rfl, rfl, rfl, rfl, rfl, rfl, rfl, rfl, rfl, rfl, rfl, rfl, rfl, rfl, rfl, rfl, rfl, rfl, rfl, rfl, rfl, rfl, rfl, rfl, rfl, rfl, rfl⟩
theorem qMS_chances {d : MS} {x y : Nat → UInt64} : (d.s_chances x).s_chances y = d.s_chances y := rfl
theorem pMS_chances {d : MS} {x : Nat → UInt64} : (d.s_chances x).now = d.now ∧ (d.s_chances x).kept = d.kept ∧ (d.s_chances x).hasImage = d.hasImage ∧ (d.s_chances x).taped = d.taped ∧ (d.s_chances x).tape = d.tape ∧ (d.s_chances x).written = d.written ∧ (d.s_chances x).paper = d.paper ∧ (d.s_chances x).trayKind = d.trayKind ∧ (d.s_chances x).traySize = d.traySize ∧ (d.s_chances x).laid = d.laid ∧ (d.s_chances x).listSize = d.listSize ∧ (d.s_chances x).items = d.items ∧ (d.s_chances x).worths = d.worths ∧ (d.s_chances x).chances = x ∧ (d.s_chances x).fewer = d.fewer ∧ (d.s_chances x).isOver = d.isOver ∧ (d.s_chances x).grosses = d.grosses ∧ (d.s_chances x).isGreat = d.isGreat ∧ (d.s_chances x).sets = d.sets ∧ (d.s_chances x).had = d.had ∧ (d.s_chances x).left = d.left ∧ (d.s_chances x).prices = d.prices ∧ (d.s_chances x).askers = d.askers ∧ (d.s_chances x).isGone = d.isGone ∧ (d.s_chances x).at_ = d.at_ ∧ (d.s_chances x).fault = d.fault ∧ (d.s_chances x).read = d.read ∧ (d.s_chances x).ahead = d.ahead ∧ (d.s_chances x).asked = d.asked := ⟨rfl, rfl, rfl, rfl, rfl, rfl, rfl, rfl, rfl, rfl, rfl, rfl, rfl, rfl, rfl, rfl, rfl, rfl, rfl, rfl, rfl, rfl, rfl, rfl, rfl, rfl, rfl, rfl, rfl⟩
theorem qMS_fewer {d : MS} {x y : Nat → UInt64} : (d.s_fewer x).s_fewer y = d.s_fewer y := rfl
theorem pMS_fewer {d : MS} {x : Nat → UInt64} : (d.s_fewer x).now = d.now ∧ (d.s_fewer x).kept = d.kept ∧ (d.s_fewer x).hasImage = d.hasImage ∧ (d.s_fewer x).taped = d.taped ∧ (d.s_fewer x).tape = d.tape ∧ (d.s_fewer x).written = d.written ∧ (d.s_fewer x).paper = d.paper ∧ (d.s_fewer x).trayKind = d.trayKind ∧ (d.s_fewer x).traySize = d.traySize ∧ (d.s_fewer x).laid = d.laid ∧ (d.s_fewer x).listSize = d.listSize ∧ (d.s_fewer x).items = d.items ∧ (d.s_fewer x).worths = d.worths ∧ (d.s_fewer x).chances = d.chances ∧ (d.s_fewer x).fewer = x ∧ (d.s_fewer x).isOver = d.isOver ∧ (d.s_fewer x).grosses = d.grosses ∧ (d.s_fewer x).isGreat = d.isGreat ∧ (d.s_fewer x).sets = d.sets ∧ (d.s_fewer x).had = d.had ∧ (d.s_fewer x).left = d.left ∧ (d.s_fewer x).prices = d.prices ∧ (d.s_fewer x).askers = d.askers ∧ (d.s_fewer x).isGone = d.isGone ∧ (d.s_fewer x).at_ = d.at_ ∧ (d.s_fewer x).fault = d.fault ∧ (d.s_fewer x).read = d.read ∧ (d.s_fewer x).ahead = d.ahead ∧ (d.s_fewer x).asked = d.asked := ⟨rfl, rfl, rfl, rfl, rfl, rfl, rfl, rfl, rfl, rfl, rfl, rfl, rfl, rfl, rfl, rfl, rfl, rfl, rfl, rfl, rfl, rfl, rfl, rfl, rfl, rfl, rfl, rfl, rfl⟩
theorem qMS_isOver {d : MS} {x y : Int32} : (d.s_isOver x).s_isOver y = d.s_isOver y := rfl
theorem pMS_isOver {d : MS} {x : Int32} : (d.s_isOver x).now = d.now ∧ (d.s_isOver x).kept = d.kept ∧ (d.s_isOver x).hasImage = d.hasImage ∧ (d.s_isOver x).taped = d.taped ∧ (d.s_isOver x).tape = d.tape ∧ (d.s_isOver x).written = d.written ∧ (d.s_isOver x).paper = d.paper ∧ (d.s_isOver x).trayKind = d.trayKind ∧ (d.s_isOver x).traySize = d.traySize ∧ (d.s_isOver x).laid = d.laid ∧ (d.s_isOver x).listSize = d.listSize ∧ (d.s_isOver x).items = d.items ∧ (d.s_isOver x).worths = d.worths ∧ (d.s_isOver x).chances = d.chances ∧ (d.s_isOver x).fewer = d.fewer ∧ (d.s_isOver x).isOver = x ∧ (d.s_isOver x).grosses = d.grosses ∧ (d.s_isOver x).isGreat = d.isGreat ∧ (d.s_isOver x).sets = d.sets ∧ (d.s_isOver x).had = d.had ∧ (d.s_isOver x).left = d.left ∧ (d.s_isOver x).prices = d.prices ∧ (d.s_isOver x).askers = d.askers ∧ (d.s_isOver x).isGone = d.isGone ∧ (d.s_isOver x).at_ = d.at_ ∧ (d.s_isOver x).fault = d.fault ∧ (d.s_isOver x).read = d.read ∧ (d.s_isOver x).ahead = d.ahead ∧ (d.s_isOver x).asked = d.asked := ⟨rfl, rfl, rfl, rfl, rfl, rfl, rfl, rfl, rfl, rfl, rfl, rfl, rfl, rfl, rfl, rfl, rfl, rfl, rfl, rfl, rfl, rfl, rfl, rfl, rfl, rfl, rfl, rfl, rfl⟩
theorem qMS_grosses {d : MS} {x y : Nat → Int64} : (d.s_grosses x).s_grosses y = d.s_grosses y := rfl
theorem pMS_grosses {d : MS} {x : Nat → Int64} : (d.s_grosses x).now = d.now ∧ (d.s_grosses x).kept = d.kept ∧ (d.s_grosses x).hasImage = d.hasImage ∧ (d.s_grosses x).taped = d.taped ∧ (d.s_grosses x).tape = d.tape ∧ (d.s_grosses x).written = d.written ∧ (d.s_grosses x).paper = d.paper ∧ (d.s_grosses x).trayKind = d.trayKind ∧ (d.s_grosses x).traySize = d.traySize ∧ (d.s_grosses x).laid = d.laid ∧ (d.s_grosses x).listSize = d.listSize ∧ (d.s_grosses x).items = d.items ∧ (d.s_grosses x).worths = d.worths ∧ (d.s_grosses x).chances = d.chances ∧ (d.s_grosses x).fewer = d.fewer ∧ (d.s_grosses x).isOver = d.isOver ∧ (d.s_grosses x).grosses = x ∧ (d.s_grosses x).isGreat = d.isGreat ∧ (d.s_grosses x).sets = d.sets ∧ (d.s_grosses x).had = d.had ∧ (d.s_grosses x).left = d.left ∧ (d.s_grosses x).prices = d.prices ∧ (d.s_grosses x).askers = d.askers ∧ (d.s_grosses x).isGone = d.isGone ∧ (d.s_grosses x).at_ = d.at_ ∧ (d.s_grosses x).fault = d.fault ∧ (d.s_grosses x).read = d.read ∧ (d.s_grosses x).ahead = d.ahead ∧ (d.s_grosses x).asked = d.asked := ⟨rfl, rfl, rfl, rfl, rfl, rfl, rfl, rfl, rfl, rfl, rfl, rfl, rfl, rfl, rfl, rfl, rfl, rfl, rfl, rfl, rfl, rfl, rfl, rfl, rfl, rfl, rfl, rfl, rfl⟩
theorem qMS_isGreat {d : MS} {x y : Nat → Int32} : (d.s_isGreat x).s_isGreat y = d.s_isGreat y := rfl
theorem pMS_isGreat {d : MS} {x : Nat → Int32} : (d.s_isGreat x).now = d.now ∧ (d.s_isGreat x).kept = d.kept ∧ (d.s_isGreat x).hasImage = d.hasImage ∧ (d.s_isGreat x).taped = d.taped ∧ (d.s_isGreat x).tape = d.tape ∧ (d.s_isGreat x).written = d.written ∧ (d.s_isGreat x).paper = d.paper ∧ (d.s_isGreat x).trayKind = d.trayKind ∧ (d.s_isGreat x).traySize = d.traySize ∧ (d.s_isGreat x).laid = d.laid ∧ (d.s_isGreat x).listSize = d.listSize ∧ (d.s_isGreat x).items = d.items ∧ (d.s_isGreat x).worths = d.worths ∧ (d.s_isGreat x).chances = d.chances ∧ (d.s_isGreat x).fewer = d.fewer ∧ (d.s_isGreat x).isOver = d.isOver ∧ (d.s_isGreat x).grosses = d.grosses ∧ (d.s_isGreat x).isGreat = x ∧ (d.s_isGreat x).sets = d.sets ∧ (d.s_isGreat x).had = d.had ∧ (d.s_isGreat x).left = d.left ∧ (d.s_isGreat x).prices = d.prices ∧ (d.s_isGreat x).askers = d.askers ∧ (d.s_isGreat x).isGone = d.isGone ∧ (d.s_isGreat x).at_ = d.at_ ∧ (d.s_isGreat x).fault = d.fault ∧ (d.s_isGreat x).read = d.read ∧ (d.s_isGreat x).ahead = d.ahead ∧ (d.s_isGreat x).asked = d.asked := ⟨rfl, rfl, rfl, rfl, rfl, rfl, rfl, rfl, rfl, rfl, rfl, rfl, rfl, rfl, rfl, rfl, rfl, rfl, rfl, rfl, rfl, rfl, rfl, rfl, rfl, rfl, rfl, rfl, rfl⟩
theorem qMS_sets {d : MS} {x y : Nat → Int64} : (d.s_sets x).s_sets y = d.s_sets y := rfl
theorem pMS_sets {d : MS} {x : Nat → Int64} : (d.s_sets x).now = d.now ∧ (d.s_sets x).kept = d.kept ∧ (d.s_sets x).hasImage = d.hasImage ∧ (d.s_sets x).taped = d.taped ∧ (d.s_sets x).tape = d.tape ∧ (d.s_sets x).written = d.written ∧ (d.s_sets x).paper = d.paper ∧ (d.s_sets x).trayKind = d.trayKind ∧ (d.s_sets x).traySize = d.traySize ∧ (d.s_sets x).laid = d.laid ∧ (d.s_sets x).listSize = d.listSize ∧ (d.s_sets x).items = d.items ∧ (d.s_sets x).worths = d.worths ∧ (d.s_sets x).chances = d.chances ∧ (d.s_sets x).fewer = d.fewer ∧ (d.s_sets x).isOver = d.isOver ∧ (d.s_sets x).grosses = d.grosses ∧ (d.s_sets x).isGreat = d.isGreat ∧ (d.s_sets x).sets = x ∧ (d.s_sets x).had = d.had ∧ (d.s_sets x).left = d.left ∧ (d.s_sets x).prices = d.prices ∧ (d.s_sets x).askers = d.askers ∧ (d.s_sets x).isGone = d.isGone ∧ (d.s_sets x).at_ = d.at_ ∧ (d.s_sets x).fault = d.fault ∧ (d.s_sets x).read = d.read ∧ (d.s_sets x).ahead = d.ahead ∧ (d.s_sets x).asked = d.asked := ⟨rfl, rfl, rfl, rfl, rfl, rfl, rfl, rfl, rfl, rfl, rfl, rfl, rfl, rfl, rfl, rfl, rfl, rfl, rfl, rfl, rfl, rfl, rfl, rfl, rfl, rfl, rfl, rfl, rfl⟩
theorem qMS_had {d : MS} {x y : Nat → Int32} : (d.s_had x).s_had y = d.s_had y := rfl
theorem pMS_had {d : MS} {x : Nat → Int32} : (d.s_had x).now = d.now ∧ (d.s_had x).kept = d.kept ∧ (d.s_had x).hasImage = d.hasImage ∧ (d.s_had x).taped = d.taped ∧ (d.s_had x).tape = d.tape ∧ (d.s_had x).written = d.written ∧ (d.s_had x).paper = d.paper ∧ (d.s_had x).trayKind = d.trayKind ∧ (d.s_had x).traySize = d.traySize ∧ (d.s_had x).laid = d.laid ∧ (d.s_had x).listSize = d.listSize ∧ (d.s_had x).items = d.items ∧ (d.s_had x).worths = d.worths ∧ (d.s_had x).chances = d.chances ∧ (d.s_had x).fewer = d.fewer ∧ (d.s_had x).isOver = d.isOver ∧ (d.s_had x).grosses = d.grosses ∧ (d.s_had x).isGreat = d.isGreat ∧ (d.s_had x).sets = d.sets ∧ (d.s_had x).had = x ∧ (d.s_had x).left = d.left ∧ (d.s_had x).prices = d.prices ∧ (d.s_had x).askers = d.askers ∧ (d.s_had x).isGone = d.isGone ∧ (d.s_had x).at_ = d.at_ ∧ (d.s_had x).fault = d.fault ∧ (d.s_had x).read = d.read ∧ (d.s_had x).ahead = d.ahead ∧ (d.s_had x).asked = d.asked := ⟨rfl, rfl, rfl, rfl, rfl, rfl, rfl, rfl, rfl, rfl, rfl, rfl, rfl, rfl, rfl, rfl, rfl, rfl, rfl, rfl, rfl, rfl, rfl, rfl, rfl, rfl, rfl, rfl, rfl⟩
theorem qMS_left {d : MS} {x y : Int32} : (d.s_left x).s_left y = d.s_left y := rfl
theorem pMS_left {d : MS} {x : Int32} : (d.s_left x).now = d.now ∧ (d.s_left x).kept = d.kept ∧ (d.s_left x).hasImage = d.hasImage ∧ (d.s_left x).taped = d.taped ∧ (d.s_left x).tape = d.tape ∧ (d.s_left x).written = d.written ∧ (d.s_left x).paper = d.paper ∧ (d.s_left x).trayKind = d.trayKind ∧ (d.s_left x).traySize = d.traySize ∧ (d.s_left x).laid = d.laid ∧ (d.s_left x).listSize = d.listSize ∧ (d.s_left x).items = d.items ∧ (d.s_left x).worths = d.worths ∧ (d.s_left x).chances = d.chances ∧ (d.s_left x).fewer = d.fewer ∧ (d.s_left x).isOver = d.isOver ∧ (d.s_left x).grosses = d.grosses ∧ (d.s_left x).isGreat = d.isGreat ∧ (d.s_left x).sets = d.sets ∧ (d.s_left x).had = d.had ∧ (d.s_left x).left = x ∧ (d.s_left x).prices = d.prices ∧ (d.s_left x).askers = d.askers ∧ (d.s_left x).isGone = d.isGone ∧ (d.s_left x).at_ = d.at_ ∧ (d.s_left x).fault = d.fault ∧ (d.s_left x).read = d.read ∧ (d.s_left x).ahead = d.ahead ∧ (d.s_left x).asked = d.asked := ⟨rfl, rfl, rfl, rfl, rfl, rfl, rfl, rfl, rfl, rfl, rfl, rfl, rfl, rfl, rfl, rfl, rfl, rfl, rfl, rfl, rfl, rfl, rfl, rfl, rfl, rfl, rfl, rfl, rfl⟩
theorem qMS_prices {d : MS} {x y : Int32} : (d.s_prices x).s_prices y = d.s_prices y := rfl
theorem pMS_prices {d : MS} {x : Int32} : (d.s_prices x).now = d.now ∧ (d.s_prices x).kept = d.kept ∧ (d.s_prices x).hasImage = d.hasImage ∧ (d.s_prices x).taped = d.taped ∧ (d.s_prices x).tape = d.tape ∧ (d.s_prices x).written = d.written ∧ (d.s_prices x).paper = d.paper ∧ (d.s_prices x).trayKind = d.trayKind ∧ (d.s_prices x).traySize = d.traySize ∧ (d.s_prices x).laid = d.laid ∧ (d.s_prices x).listSize = d.listSize ∧ (d.s_prices x).items = d.items ∧ (d.s_prices x).worths = d.worths ∧ (d.s_prices x).chances = d.chances ∧ (d.s_prices x).fewer = d.fewer ∧ (d.s_prices x).isOver = d.isOver ∧ (d.s_prices x).grosses = d.grosses ∧ (d.s_prices x).isGreat = d.isGreat ∧ (d.s_prices x).sets = d.sets ∧ (d.s_prices x).had = d.had ∧ (d.s_prices x).left = d.left ∧ (d.s_prices x).prices = x ∧ (d.s_prices x).askers = d.askers ∧ (d.s_prices x).isGone = d.isGone ∧ (d.s_prices x).at_ = d.at_ ∧ (d.s_prices x).fault = d.fault ∧ (d.s_prices x).read = d.read ∧ (d.s_prices x).ahead = d.ahead ∧ (d.s_prices x).asked = d.asked := ⟨rfl, rfl, rfl, rfl, rfl, rfl, rfl, rfl, rfl, rfl, rfl, rfl, rfl, rfl, rfl, rfl, rfl, rfl, rfl, rfl, rfl, rfl, rfl, rfl, rfl, rfl, rfl, rfl, rfl⟩
theorem qMS_askers {d : MS} {x y : Int32} : (d.s_askers x).s_askers y = d.s_askers y := rfl
theorem pMS_askers {d : MS} {x : Int32} : (d.s_askers x).now = d.now ∧ (d.s_askers x).kept = d.kept ∧ (d.s_askers x).hasImage = d.hasImage ∧ (d.s_askers x).taped = d.taped ∧ (d.s_askers x).tape = d.tape ∧ (d.s_askers x).written = d.written ∧ (d.s_askers x).paper = d.paper ∧ (d.s_askers x).trayKind = d.trayKind ∧ (d.s_askers x).traySize = d.traySize ∧ (d.s_askers x).laid = d.laid ∧ (d.s_askers x).listSize = d.listSize ∧ (d.s_askers x).items = d.items ∧ (d.s_askers x).worths = d.worths ∧ (d.s_askers x).chances = d.chances ∧ (d.s_askers x).fewer = d.fewer ∧ (d.s_askers x).isOver = d.isOver ∧ (d.s_askers x).grosses = d.grosses ∧ (d.s_askers x).isGreat = d.isGreat ∧ (d.s_askers x).sets = d.sets ∧ (d.s_askers x).had = d.had ∧ (d.s_askers x).left = d.left ∧ (d.s_askers x).prices = d.prices ∧ (d.s_askers x).askers = x ∧ (d.s_askers x).isGone = d.isGone ∧ (d.s_askers x).at_ = d.at_ ∧ (d.s_askers x).fault = d.fault ∧ (d.s_askers x).read = d.read ∧ (d.s_askers x).ahead = d.ahead ∧ (d.s_askers x).asked = d.asked := ⟨rfl, rfl, rfl, rfl, rfl, rfl, rfl, rfl, rfl, rfl, rfl, rfl, rfl, rfl, rfl, rfl, rfl, rfl, rfl, rfl, rfl, rfl, rfl, rfl, rfl, rfl, rfl, rfl, rfl⟩
theorem qMS_isGone {d : MS} {x y : Nat → Int32} : (d.s_isGone x).s_isGone y = d.s_isGone y := rfl
theorem pMS_isGone {d : MS} {x : Nat → Int32} : (d.s_isGone x).now = d.now ∧ (d.s_isGone x).kept = d.kept ∧ (d.s_isGone x).hasImage = d.hasImage ∧ (d.s_isGone x).taped = d.taped ∧ (d.s_isGone x).tape = d.tape ∧ (d.s_isGone x).written = d.written ∧ (d.s_isGone x).paper = d.paper ∧ (d.s_isGone x).trayKind = d.trayKind ∧ (d.s_isGone x).traySize = d.traySize ∧ (d.s_isGone x).laid = d.laid ∧ (d.s_isGone x).listSize = d.listSize ∧ (d.s_isGone x).items = d.items ∧ (d.s_isGone x).worths = d.worths ∧ (d.s_isGone x).chances = d.chances ∧ (d.s_isGone x).fewer = d.fewer ∧ (d.s_isGone x).isOver = d.isOver ∧ (d.s_isGone x).grosses = d.grosses ∧ (d.s_isGone x).isGreat = d.isGreat ∧ (d.s_isGone x).sets = d.sets ∧ (d.s_isGone x).had = d.had ∧ (d.s_isGone x).left = d.left ∧ (d.s_isGone x).prices = d.prices ∧ (d.s_isGone x).askers = d.askers ∧ (d.s_isGone x).isGone = x ∧ (d.s_isGone x).at_ = d.at_ ∧ (d.s_isGone x).fault = d.fault ∧ (d.s_isGone x).read = d.read ∧ (d.s_isGone x).ahead = d.ahead ∧ (d.s_isGone x).asked = d.asked := ⟨rfl, rfl, rfl, rfl, rfl, rfl, rfl, rfl, rfl, rfl, rfl, rfl, rfl, rfl, rfl, rfl, rfl, rfl, rfl, rfl, rfl, rfl, rfl, rfl, rfl, rfl, rfl, rfl, rfl⟩
theorem qMS_at_ {d : MS} {x y : Int32} : (d.s_at_ x).s_at_ y = d.s_at_ y := rfl
theorem pMS_at_ {d : MS} {x : Int32} : (d.s_at_ x).now = d.now ∧ (d.s_at_ x).kept = d.kept ∧ (d.s_at_ x).hasImage = d.hasImage ∧ (d.s_at_ x).taped = d.taped ∧ (d.s_at_ x).tape = d.tape ∧ (d.s_at_ x).written = d.written ∧ (d.s_at_ x).paper = d.paper ∧ (d.s_at_ x).trayKind = d.trayKind ∧ (d.s_at_ x).traySize = d.traySize ∧ (d.s_at_ x).laid = d.laid ∧ (d.s_at_ x).listSize = d.listSize ∧ (d.s_at_ x).items = d.items ∧ (d.s_at_ x).worths = d.worths ∧ (d.s_at_ x).chances = d.chances ∧ (d.s_at_ x).fewer = d.fewer ∧ (d.s_at_ x).isOver = d.isOver ∧ (d.s_at_ x).grosses = d.grosses ∧ (d.s_at_ x).isGreat = d.isGreat ∧ (d.s_at_ x).sets = d.sets ∧ (d.s_at_ x).had = d.had ∧ (d.s_at_ x).left = d.left ∧ (d.s_at_ x).prices = d.prices ∧ (d.s_at_ x).askers = d.askers ∧ (d.s_at_ x).isGone = d.isGone ∧ (d.s_at_ x).at_ = x ∧ (d.s_at_ x).fault = d.fault ∧ (d.s_at_ x).read = d.read ∧ (d.s_at_ x).ahead = d.ahead ∧ (d.s_at_ x).asked = d.asked := ⟨rfl, rfl, rfl, rfl, rfl, rfl, rfl, rfl, rfl, rfl, rfl, rfl, rfl, rfl, rfl, rfl, rfl, rfl, rfl, rfl, rfl, rfl, rfl, rfl, rfl, rfl, rfl, rfl, rfl⟩
theorem qMS_fault {d : MS} {x y : Int32} : (d.s_fault x).s_fault y = d.s_fault y := rfl
theorem pMS_fault {d : MS} {x : Int32} : (d.s_fault x).now = d.now ∧ (d.s_fault x).kept = d.kept ∧ (d.s_fault x).hasImage = d.hasImage ∧ (d.s_fault x).taped = d.taped ∧ (d.s_fault x).tape = d.tape ∧ (d.s_fault x).written = d.written ∧ (d.s_fault x).paper = d.paper ∧ (d.s_fault x).trayKind = d.trayKind ∧ (d.s_fault x).traySize = d.traySize ∧ (d.s_fault x).laid = d.laid ∧ (d.s_fault x).listSize = d.listSize ∧ (d.s_fault x).items = d.items ∧ (d.s_fault x).worths = d.worths ∧ (d.s_fault x).chances = d.chances ∧ (d.s_fault x).fewer = d.fewer ∧ (d.s_fault x).isOver = d.isOver ∧ (d.s_fault x).grosses = d.grosses ∧ (d.s_fault x).isGreat = d.isGreat ∧ (d.s_fault x).sets = d.sets ∧ (d.s_fault x).had = d.had ∧ (d.s_fault x).left = d.left ∧ (d.s_fault x).prices = d.prices ∧ (d.s_fault x).askers = d.askers ∧ (d.s_fault x).isGone = d.isGone ∧ (d.s_fault x).at_ = d.at_ ∧ (d.s_fault x).fault = x ∧ (d.s_fault x).read = d.read ∧ (d.s_fault x).ahead = d.ahead ∧ (d.s_fault x).asked = d.asked := ⟨rfl, rfl, rfl, rfl, rfl, rfl, rfl, rfl, rfl, rfl, rfl, rfl, rfl, rfl, rfl, rfl, rfl, rfl, rfl, rfl, rfl, rfl, rfl, rfl, rfl, rfl, rfl, rfl, rfl⟩
theorem qMS_read {d : MS} {x y : Nat → Int32} : (d.s_read x).s_read y = d.s_read y := rfl
theorem pMS_read {d : MS} {x : Nat → Int32} : (d.s_read x).now = d.now ∧ (d.s_read x).kept = d.kept ∧ (d.s_read x).hasImage = d.hasImage ∧ (d.s_read x).taped = d.taped ∧ (d.s_read x).tape = d.tape ∧ (d.s_read x).written = d.written ∧ (d.s_read x).paper = d.paper ∧ (d.s_read x).trayKind = d.trayKind ∧ (d.s_read x).traySize = d.traySize ∧ (d.s_read x).laid = d.laid ∧ (d.s_read x).listSize = d.listSize ∧ (d.s_read x).items = d.items ∧ (d.s_read x).worths = d.worths ∧ (d.s_read x).chances = d.chances ∧ (d.s_read x).fewer = d.fewer ∧ (d.s_read x).isOver = d.isOver ∧ (d.s_read x).grosses = d.grosses ∧ (d.s_read x).isGreat = d.isGreat ∧ (d.s_read x).sets = d.sets ∧ (d.s_read x).had = d.had ∧ (d.s_read x).left = d.left ∧ (d.s_read x).prices = d.prices ∧ (d.s_read x).askers = d.askers ∧ (d.s_read x).isGone = d.isGone ∧ (d.s_read x).at_ = d.at_ ∧ (d.s_read x).fault = d.fault ∧ (d.s_read x).read = x ∧ (d.s_read x).ahead = d.ahead ∧ (d.s_read x).asked = d.asked := ⟨rfl, rfl, rfl, rfl, rfl, rfl, rfl, rfl, rfl, rfl, rfl, rfl, rfl, rfl, rfl, rfl, rfl, rfl, rfl, rfl, rfl, rfl, rfl, rfl, rfl, rfl, rfl, rfl, rfl⟩
theorem qMS_ahead {d : MS} {x y : Nat → Int32} : (d.s_ahead x).s_ahead y = d.s_ahead y := rfl
theorem pMS_ahead {d : MS} {x : Nat → Int32} : (d.s_ahead x).now = d.now ∧ (d.s_ahead x).kept = d.kept ∧ (d.s_ahead x).hasImage = d.hasImage ∧ (d.s_ahead x).taped = d.taped ∧ (d.s_ahead x).tape = d.tape ∧ (d.s_ahead x).written = d.written ∧ (d.s_ahead x).paper = d.paper ∧ (d.s_ahead x).trayKind = d.trayKind ∧ (d.s_ahead x).traySize = d.traySize ∧ (d.s_ahead x).laid = d.laid ∧ (d.s_ahead x).listSize = d.listSize ∧ (d.s_ahead x).items = d.items ∧ (d.s_ahead x).worths = d.worths ∧ (d.s_ahead x).chances = d.chances ∧ (d.s_ahead x).fewer = d.fewer ∧ (d.s_ahead x).isOver = d.isOver ∧ (d.s_ahead x).grosses = d.grosses ∧ (d.s_ahead x).isGreat = d.isGreat ∧ (d.s_ahead x).sets = d.sets ∧ (d.s_ahead x).had = d.had ∧ (d.s_ahead x).left = d.left ∧ (d.s_ahead x).prices = d.prices ∧ (d.s_ahead x).askers = d.askers ∧ (d.s_ahead x).isGone = d.isGone ∧ (d.s_ahead x).at_ = d.at_ ∧ (d.s_ahead x).fault = d.fault ∧ (d.s_ahead x).read = d.read ∧ (d.s_ahead x).ahead = x ∧ (d.s_ahead x).asked = d.asked := ⟨rfl, rfl, rfl, rfl, rfl, rfl, rfl, rfl, rfl, rfl, rfl, rfl, rfl, rfl, rfl, rfl, rfl, rfl, rfl, rfl, rfl, rfl, rfl, rfl, rfl, rfl, rfl, rfl, rfl⟩
theorem qMS_asked {d : MS} {x y : Int32} : (d.s_asked x).s_asked y = d.s_asked y := rfl
theorem pMS_asked {d : MS} {x : Int32} : (d.s_asked x).now = d.now ∧ (d.s_asked x).kept = d.kept ∧ (d.s_asked x).hasImage = d.hasImage ∧ (d.s_asked x).taped = d.taped ∧ (d.s_asked x).tape = d.tape ∧ (d.s_asked x).written = d.written ∧ (d.s_asked x).paper = d.paper ∧ (d.s_asked x).trayKind = d.trayKind ∧ (d.s_asked x).traySize = d.traySize ∧ (d.s_asked x).laid = d.laid ∧ (d.s_asked x).listSize = d.listSize ∧ (d.s_asked x).items = d.items ∧ (d.s_asked x).worths = d.worths ∧ (d.s_asked x).chances = d.chances ∧ (d.s_asked x).fewer = d.fewer ∧ (d.s_asked x).isOver = d.isOver ∧ (d.s_asked x).grosses = d.grosses ∧ (d.s_asked x).isGreat = d.isGreat ∧ (d.s_asked x).sets = d.sets ∧ (d.s_asked x).had = d.had ∧ (d.s_asked x).left = d.left ∧ (d.s_asked x).prices = d.prices ∧ (d.s_asked x).askers = d.askers ∧ (d.s_asked x).isGone = d.isGone ∧ (d.s_asked x).at_ = d.at_ ∧ (d.s_asked x).fault = d.fault ∧ (d.s_asked x).read = d.read ∧ (d.s_asked x).ahead = d.ahead ∧ (d.s_asked x).asked = x := ⟨rfl, rfl, rfl, rfl, rfl, rfl, rfl, rfl, rfl, rfl, rfl, rfl, rfl, rfl, rfl, rfl, rfl, rfl, rfl, rfl, rfl, rfl, rfl, rfl, rfl, rfl, rfl, rfl, rfl⟩
section
variable {c : CS} {d : MS} {D : mM}
theorem yo_10 : oO (mk c d D) 10 11 = some () := rfl
theorem yr_10_0 : fR (mk c d D) 10 11 0 = some 11 := rfl
theorem yr_10_1 : fR (mk c d D) 10 11 1 = some 30 := rfl
theorem yr_10_2 : fI (mk c d D) 10 11 2 = some c.pictured := rfl
theorem yr_10_3 : fR (mk c d D) 10 11 3 = some 49 := rfl
theorem yr_10_4 : fR (mk c d D) 10 11 4 = some 73 := rfl
theorem yr_10_5 : fR (mk c d D) 10 11 5 = some 75 := rfl
theorem yr_10_6 : fR (mk c d D) 10 11 6 = some 77 := rfl
theorem yr_10_7 : fR (mk c d D) 10 11 7 = some 80 := rfl
theorem yr_10_8 : fR (mk c d D) 10 11 8 = some 83 := rfl
theorem yr_10_9 : fR (mk c d D) 10 11 9 = some 85 := rfl
theorem yr_10_10 : fR (mk c d D) 10 11 10 = some 94 := rfl
theorem yr_10_11 : fR (mk c d D) 10 11 11 = some 99 := rfl
theorem yo_11 : oO (mk c d D) 11 5 = some () := rfl
theorem yr_11_0 : fR (mk c d D) 11 5 0 = some 12 := rfl
theorem yr_11_1 : fI (mk c d D) 11 5 1 = some (nI c.pl.n) := rfl
theorem yr_11_2 : fR (mk c d D) 11 5 2 = some 13 := rfl
theorem yr_11_3 : fR (mk c d D) 11 5 3 = some 14 := rfl
theorem yr_11_4 : fI (mk c d D) 11 5 4 = some c.pl.seed := rfl
theorem yn_12 : aN 5 (mk c d D) 12 = some 6 := rfl
theorem ya_12 {i : Nat} (h : i < 6) : aQ 5 (mk c d D) 12 (nI i) = some (((yfar 18)) i) := by
  have e : aQ 5 (mk c d D) 12 (nI i) = if mOut (nI i) 6 then none else some (((yfar 18)) (nI i).toNatClampNeg) := rfl
  rw [e, if_neg (vp_in_nI h (by decide)), nI_clamp (by omega)]
theorem yn_13 : aN 0 (mk c d D) 13 = some 4 := rfl
theorem ya_13 {i : Nat} (h : i < 4) : aI 0 (mk c d D) 13 (nI i) = some (((fun i => nI (c.pl.rules i))) i) := by
  have e : aI 0 (mk c d D) 13 (nI i) = if mOut (nI i) 4 then none else some (((fun i => nI (c.pl.rules i))) (nI i).toNatClampNeg) := rfl
  rw [e, if_neg (vp_in_nI h (by decide)), nI_clamp (by omega)]
theorem yo_14 : oO (mk c d D) 14 4 = some () := rfl
theorem yr_14_0 : fR (mk c d D) 14 4 0 = some 15 := rfl
theorem yr_14_1 : fR (mk c d D) 14 4 1 = some 16 := rfl
theorem yr_14_2 : fR (mk c d D) 14 4 2 = some 17 := rfl
theorem yr_14_3 : fI (mk c d D) 14 4 3 = some (nI c.pl.rc) := rfl
theorem yn_15 : aN 0 (mk c d D) 15 = some 4 := rfl
theorem ya_15 {i : Nat} (h : i < 4) : aI 0 (mk c d D) 15 (nI i) = some (((fun i => nI (c.pl.len i))) i) := by
  have e : aI 0 (mk c d D) 15 (nI i) = if mOut (nI i) 4 then none else some (((fun i => nI (c.pl.len i))) (nI i).toNatClampNeg) := rfl
  rw [e, if_neg (vp_in_nI h (by decide)), nI_clamp (by omega)]
theorem yn_16 : aN 0 (mk c d D) 16 = some 4 := rfl
theorem ya_16 {i : Nat} (h : i < 4) : aI 0 (mk c d D) 16 (nI i) = some (((fun i => nI (c.pl.free i))) i) := by
  have e : aI 0 (mk c d D) 16 (nI i) = if mOut (nI i) 4 then none else some (((fun i => nI (c.pl.free i))) (nI i).toNatClampNeg) := rfl
  rw [e, if_neg (vp_in_nI h (by decide)), nI_clamp (by omega)]
theorem yn_17 : aN 6 (mk c d D) 17 = some 12 := rfl
theorem ya_17 {i : Nat} (h : i < 12) : aQ 6 (mk c d D) 17 (nI i) = some ((c.pl.rts) i) := by
  have e : aQ 6 (mk c d D) 17 (nI i) = if mOut (nI i) 12 then none else some ((c.pl.rts) (nI i).toNatClampNeg) := rfl
  rw [e, if_neg (vp_in_nI h (by decide)), nI_clamp (by omega)]
theorem yn_19 : aN 0 (mk c d D) 19 = some 4 := rfl
theorem ya_19 {i : Nat} (h : i < 4) : aI 0 (mk c d D) 19 (nI i) = some (((fun i => nI (c.pl.odds 0 i))) i) := by
  have e : aI 0 (mk c d D) 19 (nI i) = if mOut (nI i) 4 then none else some (((fun i => nI (c.pl.odds 0 i))) (nI i).toNatClampNeg) := rfl
  rw [e, if_neg (vp_in_nI h (by decide)), nI_clamp (by omega)]
theorem yn_21 : aN 0 (mk c d D) 21 = some 4 := rfl
theorem ya_21 {i : Nat} (h : i < 4) : aI 0 (mk c d D) 21 (nI i) = some (((fun i => nI (c.pl.odds 1 i))) i) := by
  have e : aI 0 (mk c d D) 21 (nI i) = if mOut (nI i) 4 then none else some (((fun i => nI (c.pl.odds 1 i))) (nI i).toNatClampNeg) := rfl
  rw [e, if_neg (vp_in_nI h (by decide)), nI_clamp (by omega)]
theorem yn_23 : aN 0 (mk c d D) 23 = some 4 := rfl
theorem ya_23 {i : Nat} (h : i < 4) : aI 0 (mk c d D) 23 (nI i) = some (((fun i => nI (c.pl.odds 2 i))) i) := by
  have e : aI 0 (mk c d D) 23 (nI i) = if mOut (nI i) 4 then none else some (((fun i => nI (c.pl.odds 2 i))) (nI i).toNatClampNeg) := rfl
  rw [e, if_neg (vp_in_nI h (by decide)), nI_clamp (by omega)]
theorem yn_25 : aN 0 (mk c d D) 25 = some 4 := rfl
theorem ya_25 {i : Nat} (h : i < 4) : aI 0 (mk c d D) 25 (nI i) = some (((fun i => nI (c.pl.odds 3 i))) i) := by
  have e : aI 0 (mk c d D) 25 (nI i) = if mOut (nI i) 4 then none else some (((fun i => nI (c.pl.odds 3 i))) (nI i).toNatClampNeg) := rfl
  rw [e, if_neg (vp_in_nI h (by decide)), nI_clamp (by omega)]
theorem yn_27 : aN 0 (mk c d D) 27 = some 4 := rfl
theorem ya_27 {i : Nat} (h : i < 4) : aI 0 (mk c d D) 27 (nI i) = some (((fun i => nI (c.pl.odds 4 i))) i) := by
  have e : aI 0 (mk c d D) 27 (nI i) = if mOut (nI i) 4 then none else some (((fun i => nI (c.pl.odds 4 i))) (nI i).toNatClampNeg) := rfl
  rw [e, if_neg (vp_in_nI h (by decide)), nI_clamp (by omega)]
theorem yn_29 : aN 0 (mk c d D) 29 = some 4 := rfl
theorem ya_29 {i : Nat} (h : i < 4) : aI 0 (mk c d D) 29 (nI i) = some (((fun i => nI (c.pl.odds 5 i))) i) := by
  have e : aI 0 (mk c d D) 29 (nI i) = if mOut (nI i) 4 then none else some (((fun i => nI (c.pl.odds 5 i))) (nI i).toNatClampNeg) := rfl
  rw [e, if_neg (vp_in_nI h (by decide)), nI_clamp (by omega)]
theorem yo_30 : oO (mk c d D) 30 5 = some () := rfl
theorem yr_30_0 : fR (mk c d D) 30 5 0 = some 31 := rfl
theorem yr_30_1 : fI (mk c d D) 30 5 1 = some (nI c.pic.n) := rfl
theorem yr_30_2 : fR (mk c d D) 30 5 2 = some 32 := rfl
theorem yr_30_3 : fR (mk c d D) 30 5 3 = some 33 := rfl
theorem yr_30_4 : fI (mk c d D) 30 5 4 = some c.pic.seed := rfl
theorem yn_31 : aN 5 (mk c d D) 31 = some 6 := rfl
theorem ya_31 {i : Nat} (h : i < 6) : aQ 5 (mk c d D) 31 (nI i) = some (((yfar 37)) i) := by
  have e : aQ 5 (mk c d D) 31 (nI i) = if mOut (nI i) 6 then none else some (((yfar 37)) (nI i).toNatClampNeg) := rfl
  rw [e, if_neg (vp_in_nI h (by decide)), nI_clamp (by omega)]
theorem yn_32 : aN 0 (mk c d D) 32 = some 4 := rfl
theorem ya_32 {i : Nat} (h : i < 4) : aI 0 (mk c d D) 32 (nI i) = some (((fun i => nI (c.pic.rules i))) i) := by
  have e : aI 0 (mk c d D) 32 (nI i) = if mOut (nI i) 4 then none else some (((fun i => nI (c.pic.rules i))) (nI i).toNatClampNeg) := rfl
  rw [e, if_neg (vp_in_nI h (by decide)), nI_clamp (by omega)]
theorem yo_33 : oO (mk c d D) 33 4 = some () := rfl
theorem yr_33_0 : fR (mk c d D) 33 4 0 = some 34 := rfl
theorem yr_33_1 : fR (mk c d D) 33 4 1 = some 35 := rfl
theorem yr_33_2 : fR (mk c d D) 33 4 2 = some 36 := rfl
theorem yr_33_3 : fI (mk c d D) 33 4 3 = some (nI c.pic.rc) := rfl
theorem yn_34 : aN 0 (mk c d D) 34 = some 4 := rfl
theorem ya_34 {i : Nat} (h : i < 4) : aI 0 (mk c d D) 34 (nI i) = some (((fun i => nI (c.pic.len i))) i) := by
  have e : aI 0 (mk c d D) 34 (nI i) = if mOut (nI i) 4 then none else some (((fun i => nI (c.pic.len i))) (nI i).toNatClampNeg) := rfl
  rw [e, if_neg (vp_in_nI h (by decide)), nI_clamp (by omega)]
theorem yn_35 : aN 0 (mk c d D) 35 = some 4 := rfl
theorem ya_35 {i : Nat} (h : i < 4) : aI 0 (mk c d D) 35 (nI i) = some (((fun i => nI (c.pic.free i))) i) := by
  have e : aI 0 (mk c d D) 35 (nI i) = if mOut (nI i) 4 then none else some (((fun i => nI (c.pic.free i))) (nI i).toNatClampNeg) := rfl
  rw [e, if_neg (vp_in_nI h (by decide)), nI_clamp (by omega)]
theorem yn_36 : aN 6 (mk c d D) 36 = some 12 := rfl
theorem ya_36 {i : Nat} (h : i < 12) : aQ 6 (mk c d D) 36 (nI i) = some ((c.pic.rts) i) := by
  have e : aQ 6 (mk c d D) 36 (nI i) = if mOut (nI i) 12 then none else some ((c.pic.rts) (nI i).toNatClampNeg) := rfl
  rw [e, if_neg (vp_in_nI h (by decide)), nI_clamp (by omega)]
theorem yn_38 : aN 0 (mk c d D) 38 = some 4 := rfl
theorem ya_38 {i : Nat} (h : i < 4) : aI 0 (mk c d D) 38 (nI i) = some (((fun i => nI (c.pic.odds 0 i))) i) := by
  have e : aI 0 (mk c d D) 38 (nI i) = if mOut (nI i) 4 then none else some (((fun i => nI (c.pic.odds 0 i))) (nI i).toNatClampNeg) := rfl
  rw [e, if_neg (vp_in_nI h (by decide)), nI_clamp (by omega)]
theorem yn_40 : aN 0 (mk c d D) 40 = some 4 := rfl
theorem ya_40 {i : Nat} (h : i < 4) : aI 0 (mk c d D) 40 (nI i) = some (((fun i => nI (c.pic.odds 1 i))) i) := by
  have e : aI 0 (mk c d D) 40 (nI i) = if mOut (nI i) 4 then none else some (((fun i => nI (c.pic.odds 1 i))) (nI i).toNatClampNeg) := rfl
  rw [e, if_neg (vp_in_nI h (by decide)), nI_clamp (by omega)]
theorem yn_42 : aN 0 (mk c d D) 42 = some 4 := rfl
theorem ya_42 {i : Nat} (h : i < 4) : aI 0 (mk c d D) 42 (nI i) = some (((fun i => nI (c.pic.odds 2 i))) i) := by
  have e : aI 0 (mk c d D) 42 (nI i) = if mOut (nI i) 4 then none else some (((fun i => nI (c.pic.odds 2 i))) (nI i).toNatClampNeg) := rfl
  rw [e, if_neg (vp_in_nI h (by decide)), nI_clamp (by omega)]
theorem yn_44 : aN 0 (mk c d D) 44 = some 4 := rfl
theorem ya_44 {i : Nat} (h : i < 4) : aI 0 (mk c d D) 44 (nI i) = some (((fun i => nI (c.pic.odds 3 i))) i) := by
  have e : aI 0 (mk c d D) 44 (nI i) = if mOut (nI i) 4 then none else some (((fun i => nI (c.pic.odds 3 i))) (nI i).toNatClampNeg) := rfl
  rw [e, if_neg (vp_in_nI h (by decide)), nI_clamp (by omega)]
theorem yn_46 : aN 0 (mk c d D) 46 = some 4 := rfl
theorem ya_46 {i : Nat} (h : i < 4) : aI 0 (mk c d D) 46 (nI i) = some (((fun i => nI (c.pic.odds 4 i))) i) := by
  have e : aI 0 (mk c d D) 46 (nI i) = if mOut (nI i) 4 then none else some (((fun i => nI (c.pic.odds 4 i))) (nI i).toNatClampNeg) := rfl
  rw [e, if_neg (vp_in_nI h (by decide)), nI_clamp (by omega)]
theorem yn_48 : aN 0 (mk c d D) 48 = some 4 := rfl
theorem ya_48 {i : Nat} (h : i < 4) : aI 0 (mk c d D) 48 (nI i) = some (((fun i => nI (c.pic.odds 5 i))) i) := by
  have e : aI 0 (mk c d D) 48 (nI i) = if mOut (nI i) 4 then none else some (((fun i => nI (c.pic.odds 5 i))) (nI i).toNatClampNeg) := rfl
  rw [e, if_neg (vp_in_nI h (by decide)), nI_clamp (by omega)]
theorem yo_49 : oO (mk c d D) 49 10 = some () := rfl
theorem yr_49_0 : fR (mk c d D) 49 10 0 = some 11 := rfl
theorem yr_49_1 : fR (mk c d D) 49 10 1 = some 50 := rfl
theorem yr_49_2 : fR (mk c d D) 49 10 2 = some 72 := rfl
theorem yr_49_3 : fI (mk c d D) 49 10 3 = some (nI c.made) := rfl
theorem yn_50 : aN 8 (mk c d D) 50 = some 21 := rfl
theorem ya_50 {i : Nat} (h : i < 21) : aQ 8 (mk c d D) 50 (nI i) = some (((fun i => if i < 21 then some (50 + 1 + i) else none)) i) := by
  have e : aQ 8 (mk c d D) 50 (nI i) = if mOut (nI i) 21 then none else some (((fun i => if i < 21 then some (50 + 1 + i) else none)) (nI i).toNatClampNeg) := rfl
  rw [e, if_neg (vp_in_nI h (by decide)), nI_clamp (by omega)]
theorem yn_51 : aN 2 (mk c d D) 51 = some 31 := rfl
theorem ya_51 {i : Nat} (h : i < 31) : aD (mk c d D) 51 (nI i) = some (((c.rows 0)) i) := by
  have e : aD (mk c d D) 51 (nI i) = if mOut (nI i) 31 then none else some (((c.rows 0)) (nI i).toNatClampNeg) := rfl
  rw [e, if_neg (vp_in_nI h (by decide)), nI_clamp (by omega)]
theorem yn_52 : aN 2 (mk c d D) 52 = some 31 := rfl
theorem ya_52 {i : Nat} (h : i < 31) : aD (mk c d D) 52 (nI i) = some (((c.rows 1)) i) := by
  have e : aD (mk c d D) 52 (nI i) = if mOut (nI i) 31 then none else some (((c.rows 1)) (nI i).toNatClampNeg) := rfl
  rw [e, if_neg (vp_in_nI h (by decide)), nI_clamp (by omega)]
theorem yn_53 : aN 2 (mk c d D) 53 = some 31 := rfl
theorem ya_53 {i : Nat} (h : i < 31) : aD (mk c d D) 53 (nI i) = some (((c.rows 2)) i) := by
  have e : aD (mk c d D) 53 (nI i) = if mOut (nI i) 31 then none else some (((c.rows 2)) (nI i).toNatClampNeg) := rfl
  rw [e, if_neg (vp_in_nI h (by decide)), nI_clamp (by omega)]
theorem yn_54 : aN 2 (mk c d D) 54 = some 31 := rfl
theorem ya_54 {i : Nat} (h : i < 31) : aD (mk c d D) 54 (nI i) = some (((c.rows 3)) i) := by
  have e : aD (mk c d D) 54 (nI i) = if mOut (nI i) 31 then none else some (((c.rows 3)) (nI i).toNatClampNeg) := rfl
  rw [e, if_neg (vp_in_nI h (by decide)), nI_clamp (by omega)]
theorem yn_55 : aN 2 (mk c d D) 55 = some 31 := rfl
theorem ya_55 {i : Nat} (h : i < 31) : aD (mk c d D) 55 (nI i) = some (((c.rows 4)) i) := by
  have e : aD (mk c d D) 55 (nI i) = if mOut (nI i) 31 then none else some (((c.rows 4)) (nI i).toNatClampNeg) := rfl
  rw [e, if_neg (vp_in_nI h (by decide)), nI_clamp (by omega)]
theorem yn_56 : aN 2 (mk c d D) 56 = some 31 := rfl
theorem ya_56 {i : Nat} (h : i < 31) : aD (mk c d D) 56 (nI i) = some (((c.rows 5)) i) := by
  have e : aD (mk c d D) 56 (nI i) = if mOut (nI i) 31 then none else some (((c.rows 5)) (nI i).toNatClampNeg) := rfl
  rw [e, if_neg (vp_in_nI h (by decide)), nI_clamp (by omega)]
theorem yn_57 : aN 2 (mk c d D) 57 = some 31 := rfl
theorem ya_57 {i : Nat} (h : i < 31) : aD (mk c d D) 57 (nI i) = some (((c.rows 6)) i) := by
  have e : aD (mk c d D) 57 (nI i) = if mOut (nI i) 31 then none else some (((c.rows 6)) (nI i).toNatClampNeg) := rfl
  rw [e, if_neg (vp_in_nI h (by decide)), nI_clamp (by omega)]
theorem yn_58 : aN 2 (mk c d D) 58 = some 31 := rfl
theorem ya_58 {i : Nat} (h : i < 31) : aD (mk c d D) 58 (nI i) = some (((c.rows 7)) i) := by
  have e : aD (mk c d D) 58 (nI i) = if mOut (nI i) 31 then none else some (((c.rows 7)) (nI i).toNatClampNeg) := rfl
  rw [e, if_neg (vp_in_nI h (by decide)), nI_clamp (by omega)]
theorem yn_59 : aN 2 (mk c d D) 59 = some 31 := rfl
theorem ya_59 {i : Nat} (h : i < 31) : aD (mk c d D) 59 (nI i) = some (((c.rows 8)) i) := by
  have e : aD (mk c d D) 59 (nI i) = if mOut (nI i) 31 then none else some (((c.rows 8)) (nI i).toNatClampNeg) := rfl
  rw [e, if_neg (vp_in_nI h (by decide)), nI_clamp (by omega)]
theorem yn_60 : aN 2 (mk c d D) 60 = some 31 := rfl
theorem ya_60 {i : Nat} (h : i < 31) : aD (mk c d D) 60 (nI i) = some (((c.rows 9)) i) := by
  have e : aD (mk c d D) 60 (nI i) = if mOut (nI i) 31 then none else some (((c.rows 9)) (nI i).toNatClampNeg) := rfl
  rw [e, if_neg (vp_in_nI h (by decide)), nI_clamp (by omega)]
theorem yn_61 : aN 2 (mk c d D) 61 = some 31 := rfl
theorem ya_61 {i : Nat} (h : i < 31) : aD (mk c d D) 61 (nI i) = some (((c.rows 10)) i) := by
  have e : aD (mk c d D) 61 (nI i) = if mOut (nI i) 31 then none else some (((c.rows 10)) (nI i).toNatClampNeg) := rfl
  rw [e, if_neg (vp_in_nI h (by decide)), nI_clamp (by omega)]
theorem yn_62 : aN 2 (mk c d D) 62 = some 31 := rfl
theorem ya_62 {i : Nat} (h : i < 31) : aD (mk c d D) 62 (nI i) = some (((c.rows 11)) i) := by
  have e : aD (mk c d D) 62 (nI i) = if mOut (nI i) 31 then none else some (((c.rows 11)) (nI i).toNatClampNeg) := rfl
  rw [e, if_neg (vp_in_nI h (by decide)), nI_clamp (by omega)]
theorem yn_63 : aN 2 (mk c d D) 63 = some 31 := rfl
theorem ya_63 {i : Nat} (h : i < 31) : aD (mk c d D) 63 (nI i) = some (((c.rows 12)) i) := by
  have e : aD (mk c d D) 63 (nI i) = if mOut (nI i) 31 then none else some (((c.rows 12)) (nI i).toNatClampNeg) := rfl
  rw [e, if_neg (vp_in_nI h (by decide)), nI_clamp (by omega)]
theorem yn_64 : aN 2 (mk c d D) 64 = some 31 := rfl
theorem ya_64 {i : Nat} (h : i < 31) : aD (mk c d D) 64 (nI i) = some (((c.rows 13)) i) := by
  have e : aD (mk c d D) 64 (nI i) = if mOut (nI i) 31 then none else some (((c.rows 13)) (nI i).toNatClampNeg) := rfl
  rw [e, if_neg (vp_in_nI h (by decide)), nI_clamp (by omega)]
theorem yn_65 : aN 2 (mk c d D) 65 = some 31 := rfl
theorem ya_65 {i : Nat} (h : i < 31) : aD (mk c d D) 65 (nI i) = some (((c.rows 14)) i) := by
  have e : aD (mk c d D) 65 (nI i) = if mOut (nI i) 31 then none else some (((c.rows 14)) (nI i).toNatClampNeg) := rfl
  rw [e, if_neg (vp_in_nI h (by decide)), nI_clamp (by omega)]
theorem yn_66 : aN 2 (mk c d D) 66 = some 31 := rfl
theorem ya_66 {i : Nat} (h : i < 31) : aD (mk c d D) 66 (nI i) = some (((c.rows 15)) i) := by
  have e : aD (mk c d D) 66 (nI i) = if mOut (nI i) 31 then none else some (((c.rows 15)) (nI i).toNatClampNeg) := rfl
  rw [e, if_neg (vp_in_nI h (by decide)), nI_clamp (by omega)]
theorem yn_67 : aN 2 (mk c d D) 67 = some 31 := rfl
theorem ya_67 {i : Nat} (h : i < 31) : aD (mk c d D) 67 (nI i) = some (((c.rows 16)) i) := by
  have e : aD (mk c d D) 67 (nI i) = if mOut (nI i) 31 then none else some (((c.rows 16)) (nI i).toNatClampNeg) := rfl
  rw [e, if_neg (vp_in_nI h (by decide)), nI_clamp (by omega)]
theorem yn_68 : aN 2 (mk c d D) 68 = some 31 := rfl
theorem ya_68 {i : Nat} (h : i < 31) : aD (mk c d D) 68 (nI i) = some (((c.rows 17)) i) := by
  have e : aD (mk c d D) 68 (nI i) = if mOut (nI i) 31 then none else some (((c.rows 17)) (nI i).toNatClampNeg) := rfl
  rw [e, if_neg (vp_in_nI h (by decide)), nI_clamp (by omega)]
theorem yn_69 : aN 2 (mk c d D) 69 = some 31 := rfl
theorem ya_69 {i : Nat} (h : i < 31) : aD (mk c d D) 69 (nI i) = some (((c.rows 18)) i) := by
  have e : aD (mk c d D) 69 (nI i) = if mOut (nI i) 31 then none else some (((c.rows 18)) (nI i).toNatClampNeg) := rfl
  rw [e, if_neg (vp_in_nI h (by decide)), nI_clamp (by omega)]
theorem yn_70 : aN 2 (mk c d D) 70 = some 31 := rfl
theorem ya_70 {i : Nat} (h : i < 31) : aD (mk c d D) 70 (nI i) = some (((c.rows 19)) i) := by
  have e : aD (mk c d D) 70 (nI i) = if mOut (nI i) 31 then none else some (((c.rows 19)) (nI i).toNatClampNeg) := rfl
  rw [e, if_neg (vp_in_nI h (by decide)), nI_clamp (by omega)]
theorem yn_71 : aN 2 (mk c d D) 71 = some 31 := rfl
theorem ya_71 {i : Nat} (h : i < 31) : aD (mk c d D) 71 (nI i) = some (((c.rows 20)) i) := by
  have e : aD (mk c d D) 71 (nI i) = if mOut (nI i) 31 then none else some (((c.rows 20)) (nI i).toNatClampNeg) := rfl
  rw [e, if_neg (vp_in_nI h (by decide)), nI_clamp (by omega)]
theorem yn_72 : aN 2 (mk c d D) 72 = some 6 := rfl
theorem ya_72 {i : Nat} (h : i < 6) : aD (mk c d D) 72 (nI i) = some ((c.nets) i) := by
  have e : aD (mk c d D) 72 (nI i) = if mOut (nI i) 6 then none else some ((c.nets) (nI i).toNatClampNeg) := rfl
  rw [e, if_neg (vp_in_nI h (by decide)), nI_clamp (by omega)]
theorem yo_73 : oO (mk c d D) 73 9 = some () := rfl
theorem yr_73_0 : fR (mk c d D) 73 9 0 = some 11 := rfl
theorem yr_73_1 : fR (mk c d D) 73 9 1 = some 74 := rfl
theorem yn_74 : aN 1 (mk c d D) 74 = some 41 := rfl
theorem ya_74 {i : Nat} (h : i < 41) : aL (mk c d D) 74 (nI i) = some ((c.wrow) i) := by
  have e : aL (mk c d D) 74 (nI i) = if mOut (nI i) 41 then none else some ((c.wrow) (nI i).toNatClampNeg) := rfl
  rw [e, if_neg (vp_in_nI h (by decide)), nI_clamp (by omega)]
theorem yo_75 : oO (mk c d D) 75 1 = some () := rfl
theorem yr_75_0 : fR (mk c d D) 75 1 0 = some 11 := rfl
theorem yr_75_1 : fR (mk c d D) 75 1 1 = some 76 := rfl
theorem yn_76 : aN 2 (mk c d D) 76 = some 41 := rfl
theorem ya_76 {i : Nat} (h : i < 41) : aD (mk c d D) 76 (nI i) = some ((c.crow) i) := by
  have e : aD (mk c d D) 76 (nI i) = if mOut (nI i) 41 then none else some ((c.crow) (nI i).toNatClampNeg) := rfl
  rw [e, if_neg (vp_in_nI h (by decide)), nI_clamp (by omega)]
theorem yo_77 : oO (mk c d D) 77 7 = some () := rfl
theorem yr_77_0 : fR (mk c d D) 77 7 0 = some 78 := rfl
theorem yr_77_1 : fI (mk c d D) 77 7 1 = some (nI c.tsize) := rfl
theorem yr_77_2 : fR (mk c d D) 77 7 2 = some 79 := rfl
theorem yr_77_3 : fI (mk c d D) 77 7 3 = some (nI c.tn) := rfl
theorem yr_77_4 : fI (mk c d D) 77 7 4 = some (nI c.tat) := rfl
theorem yr_77_5 : fI (mk c d D) 77 7 5 = some c.tname := rfl
theorem yr_77_6 : fI (mk c d D) 77 7 6 = some c.tlegs := rfl
theorem yr_77_7 : fI (mk c d D) 77 7 7 = some c.tprice := rfl
theorem yr_77_8 : fI (mk c d D) 77 7 8 = some c.twanted := rfl
theorem yn_78 : aN 0 (mk c d D) 78 = some 120 := rfl
theorem ya_78 {i : Nat} (h : i < 120) : aI 0 (mk c d D) 78 (nI i) = some (c.tb i) := by
  have e : aI 0 (mk c d D) 78 (nI i) = if mOut (nI i) 120 then none else some ((c.tb) (nI i).toNatClampNeg) := rfl
  rw [e, if_neg (vp_in_nI h (by decide)), nI_clamp (by omega)]
theorem yn_79 : aN 6 (mk c d D) 79 = some 12 := rfl
theorem ya_79 {i : Nat} (h : i < 12) : aQ 6 (mk c d D) 79 (nI i) = some ((c.tread) i) := by
  have e : aQ 6 (mk c d D) 79 (nI i) = if mOut (nI i) 12 then none else some ((c.tread) (nI i).toNatClampNeg) := rfl
  rw [e, if_neg (vp_in_nI h (by decide)), nI_clamp (by omega)]
theorem yo_80 : oO (mk c d D) 80 2 = some () := rfl
theorem yr_80_0 : fR (mk c d D) 80 2 0 = some 11 := rfl
theorem yr_80_1 : fR (mk c d D) 80 2 1 = some 49 := rfl
theorem yr_80_2 : fR (mk c d D) 80 2 2 = some 81 := rfl
theorem yr_80_3 : fR (mk c d D) 80 2 3 = some 82 := rfl
theorem yr_80_4 : fI (mk c d D) 80 2 4 = some (nI c.dleft) := rfl
theorem yr_80_5 : fI (mk c d D) 80 2 5 = some (nI c.dasked) := rfl
theorem yr_80_6 : fI (mk c d D) 80 2 6 = some (nI c.dcount) := rfl
theorem yr_80_7 : fI (mk c d D) 80 2 7 = some c.dprices := rfl
theorem yr_80_8 : fI (mk c d D) 80 2 8 = some c.dplaces := rfl
theorem yn_81 : aN 0 (mk c d D) 81 = some 20 := rfl
theorem ya_81 {i : Nat} (h : i < 20) : aI 0 (mk c d D) 81 (nI i) = some (c.pa i) := by
  have e : aI 0 (mk c d D) 81 (nI i) = if mOut (nI i) 20 then none else some ((c.pa) (nI i).toNatClampNeg) := rfl
  rw [e, if_neg (vp_in_nI h (by decide)), nI_clamp (by omega)]
theorem yn_82 : aN 0 (mk c d D) 82 = some 20 := rfl
theorem ya_82 {i : Nat} (h : i < 20) : aI 0 (mk c d D) 82 (nI i) = some (c.ph i) := by
  have e : aI 0 (mk c d D) 82 (nI i) = if mOut (nI i) 20 then none else some ((c.ph) (nI i).toNatClampNeg) := rfl
  rw [e, if_neg (vp_in_nI h (by decide)), nI_clamp (by omega)]
theorem yo_83 : oO (mk c d D) 83 0 = some () := rfl
theorem yr_83_0 : fR (mk c d D) 83 0 0 = some c.pgv := rfl
theorem yr_83_1 : fI (mk c d D) 83 0 1 = some c.pgcd := rfl
theorem yr_83_2 : fI (mk c d D) 83 0 2 = some c.pg2 := rfl
theorem yr_83_3 : fI (mk c d D) 83 0 3 = some (nI c.pgc) := rfl
theorem yn_84 : aN 4 (mk c d D) 84 = some 16 := rfl
theorem ya_84 {i : Nat} (h : i < 16) : aI 4 (mk c d D) 84 (nI i) = some (c.pg0 i) := by
  have e : aI 4 (mk c d D) 84 (nI i) = if mOut (nI i) 16 then none else some ((c.pg0) (nI i).toNatClampNeg) := rfl
  rw [e, if_neg (vp_in_nI h (by decide)), nI_clamp (by omega)]
theorem yn_85 : aN 7 (mk c d D) 85 = some 4 := rfl
theorem ya_85 {i : Nat} (h : i < 4) : aQ 7 (mk c d D) 85 (nI i) = some ((ytar) i) := by
  have e : aQ 7 (mk c d D) 85 (nI i) = if mOut (nI i) 4 then none else some ((ytar) (nI i).toNatClampNeg) := rfl
  rw [e, if_neg (vp_in_nI h (by decide)), nI_clamp (by omega)]
theorem yn_87 : aN 0 (mk c d D) 87 = some 20 := rfl
theorem ya_87 {i : Nat} (h : i < 20) : aI 0 (mk c d D) 87 (nI i) = some ((c.tpl 0) i) := by
  have e : aI 0 (mk c d D) 87 (nI i) = if mOut (nI i) 20 then none else some (((c.tpl 0)) (nI i).toNatClampNeg) := rfl
  rw [e, if_neg (vp_in_nI h (by decide)), nI_clamp (by omega)]
theorem yn_89 : aN 0 (mk c d D) 89 = some 20 := rfl
theorem ya_89 {i : Nat} (h : i < 20) : aI 0 (mk c d D) 89 (nI i) = some ((c.tpl 1) i) := by
  have e : aI 0 (mk c d D) 89 (nI i) = if mOut (nI i) 20 then none else some (((c.tpl 1)) (nI i).toNatClampNeg) := rfl
  rw [e, if_neg (vp_in_nI h (by decide)), nI_clamp (by omega)]
theorem yn_91 : aN 0 (mk c d D) 91 = some 20 := rfl
theorem ya_91 {i : Nat} (h : i < 20) : aI 0 (mk c d D) 91 (nI i) = some ((c.tpl 2) i) := by
  have e : aI 0 (mk c d D) 91 (nI i) = if mOut (nI i) 20 then none else some (((c.tpl 2)) (nI i).toNatClampNeg) := rfl
  rw [e, if_neg (vp_in_nI h (by decide)), nI_clamp (by omega)]
theorem yn_93 : aN 0 (mk c d D) 93 = some 20 := rfl
theorem ya_93 {i : Nat} (h : i < 20) : aI 0 (mk c d D) 93 (nI i) = some ((c.tpl 3) i) := by
  have e : aI 0 (mk c d D) 93 (nI i) = if mOut (nI i) 20 then none else some (((c.tpl 3)) (nI i).toNatClampNeg) := rfl
  rw [e, if_neg (vp_in_nI h (by decide)), nI_clamp (by omega)]
theorem yn_94 : aN 9 (mk c d D) 94 = some 4 := rfl
theorem ya_94 {i : Nat} (h : i < 4) : aQ 9 (mk c d D) 94 (nI i) = some (((fun i => if i < 4 then some (94 + 1 + i) else none)) i) := by
  have e : aQ 9 (mk c d D) 94 (nI i) = if mOut (nI i) 4 then none else some (((fun i => if i < 4 then some (94 + 1 + i) else none)) (nI i).toNatClampNeg) := rfl
  rw [e, if_neg (vp_in_nI h (by decide)), nI_clamp (by omega)]
theorem yn_95 : aN 1 (mk c d D) 95 = some 31 := rfl
theorem ya_95 {i : Nat} (h : i < 31) : aL (mk c d D) 95 (nI i) = some (((c.li 0)) i) := by
  have e : aL (mk c d D) 95 (nI i) = if mOut (nI i) 31 then none else some (((c.li 0)) (nI i).toNatClampNeg) := rfl
  rw [e, if_neg (vp_in_nI h (by decide)), nI_clamp (by omega)]
theorem yn_96 : aN 1 (mk c d D) 96 = some 31 := rfl
theorem ya_96 {i : Nat} (h : i < 31) : aL (mk c d D) 96 (nI i) = some (((c.li 1)) i) := by
  have e : aL (mk c d D) 96 (nI i) = if mOut (nI i) 31 then none else some (((c.li 1)) (nI i).toNatClampNeg) := rfl
  rw [e, if_neg (vp_in_nI h (by decide)), nI_clamp (by omega)]
theorem yn_97 : aN 1 (mk c d D) 97 = some 31 := rfl
theorem ya_97 {i : Nat} (h : i < 31) : aL (mk c d D) 97 (nI i) = some (((c.li 2)) i) := by
  have e : aL (mk c d D) 97 (nI i) = if mOut (nI i) 31 then none else some (((c.li 2)) (nI i).toNatClampNeg) := rfl
  rw [e, if_neg (vp_in_nI h (by decide)), nI_clamp (by omega)]
theorem yn_98 : aN 1 (mk c d D) 98 = some 31 := rfl
theorem ya_98 {i : Nat} (h : i < 31) : aL (mk c d D) 98 (nI i) = some (((c.li 3)) i) := by
  have e : aL (mk c d D) 98 (nI i) = if mOut (nI i) 31 then none else some (((c.li 3)) (nI i).toNatClampNeg) := rfl
  rw [e, if_neg (vp_in_nI h (by decide)), nI_clamp (by omega)]
theorem yn_99 : aN 0 (mk c d D) 99 = some 4 := rfl
theorem ya_99 {i : Nat} (h : i < 4) : aI 0 (mk c d D) 99 (nI i) = some (c.ls i) := by
  have e : aI 0 (mk c d D) 99 (nI i) = if mOut (nI i) 4 then none else some ((c.ls) (nI i).toNatClampNeg) := rfl
  rw [e, if_neg (vp_in_nI h (by decide)), nI_clamp (by omega)]
theorem yo_100 : oO (mk c d D) 100 12 = some () := rfl
theorem yr_100_0 : fR (mk c d D) 100 12 0 = some 101 := rfl
theorem yr_100_1 : fR (mk c d D) 100 12 1 = some 102 := rfl
theorem yr_100_2 : fI (mk c d D) 100 12 2 = some d.hasImage := rfl
theorem yr_100_3 : fI (mk c d D) 100 12 3 = some d.taped := rfl
theorem yr_100_4 : fR (mk c d D) 100 12 4 = some 103 := rfl
theorem yr_100_5 : fI (mk c d D) 100 12 5 = some d.written := rfl
theorem yr_100_6 : fR (mk c d D) 100 12 6 = some 104 := rfl
theorem yr_100_7 : fR (mk c d D) 100 12 7 = some 105 := rfl
theorem yr_100_8 : fR (mk c d D) 100 12 8 = some 106 := rfl
theorem yr_100_9 : fR (mk c d D) 100 12 9 = some 107 := rfl
theorem yr_100_10 : fR (mk c d D) 100 12 10 = some 108 := rfl
theorem yr_100_11 : fR (mk c d D) 100 12 11 = some 109 := rfl
theorem yr_100_12 : fR (mk c d D) 100 12 12 = some 110 := rfl
theorem yr_100_13 : fR (mk c d D) 100 12 13 = some 111 := rfl
theorem yr_100_14 : fR (mk c d D) 100 12 14 = some 112 := rfl
theorem yr_100_15 : fI (mk c d D) 100 12 15 = some d.isOver := rfl
theorem yr_100_16 : fR (mk c d D) 100 12 16 = some 113 := rfl
theorem yr_100_17 : fR (mk c d D) 100 12 17 = some 114 := rfl
theorem yr_100_18 : fR (mk c d D) 100 12 18 = some 115 := rfl
theorem yr_100_19 : fR (mk c d D) 100 12 19 = some 116 := rfl
theorem yr_100_20 : fI (mk c d D) 100 12 20 = some d.left := rfl
theorem yr_100_21 : fI (mk c d D) 100 12 21 = some d.prices := rfl
theorem yr_100_22 : fI (mk c d D) 100 12 22 = some d.askers := rfl
theorem yr_100_23 : fR (mk c d D) 100 12 23 = some 117 := rfl
theorem yr_100_24 : fI (mk c d D) 100 12 24 = some d.at_ := rfl
theorem yr_100_25 : fI (mk c d D) 100 12 25 = some d.fault := rfl
theorem yr_100_26 : fR (mk c d D) 100 12 26 = some 118 := rfl
theorem yr_100_27 : fR (mk c d D) 100 12 27 = some 119 := rfl
theorem yr_100_28 : fI (mk c d D) 100 12 28 = some d.asked := rfl
theorem yn_101 : aN 0 (mk c d D) 101 = some 129 := rfl
theorem ya_101 {i : Nat} (h : i < 129) : aI 0 (mk c d D) 101 (nI i) = some (d.now i) := by
  have e : aI 0 (mk c d D) 101 (nI i) = if mOut (nI i) 129 then none else some ((d.now) (nI i).toNatClampNeg) := rfl
  rw [e, if_neg (vp_in_nI h (by decide)), nI_clamp (by omega)]
theorem yn_102 : aN 0 (mk c d D) 102 = some 129 := rfl
theorem ya_102 {i : Nat} (h : i < 129) : aI 0 (mk c d D) 102 (nI i) = some (d.kept i) := by
  have e : aI 0 (mk c d D) 102 (nI i) = if mOut (nI i) 129 then none else some ((d.kept) (nI i).toNatClampNeg) := rfl
  rw [e, if_neg (vp_in_nI h (by decide)), nI_clamp (by omega)]
theorem yn_103 : aN 0 (mk c d D) 103 = some 120 := rfl
theorem ya_103 {i : Nat} (h : i < 120) : aI 0 (mk c d D) 103 (nI i) = some (d.tape i) := by
  have e : aI 0 (mk c d D) 103 (nI i) = if mOut (nI i) 120 then none else some ((d.tape) (nI i).toNatClampNeg) := rfl
  rw [e, if_neg (vp_in_nI h (by decide)), nI_clamp (by omega)]
theorem yn_104 : aN 0 (mk c d D) 104 = some 260 := rfl
theorem ya_104 {i : Nat} (h : i < 260) : aI 0 (mk c d D) 104 (nI i) = some (d.paper i) := by
  have e : aI 0 (mk c d D) 104 (nI i) = if mOut (nI i) 260 then none else some ((d.paper) (nI i).toNatClampNeg) := rfl
  rw [e, if_neg (vp_in_nI h (by decide)), nI_clamp (by omega)]
theorem yn_105 : aN 0 (mk c d D) 105 = some 4 := rfl
theorem ya_105 {i : Nat} (h : i < 4) : aI 0 (mk c d D) 105 (nI i) = some (d.trayKind i) := by
  have e : aI 0 (mk c d D) 105 (nI i) = if mOut (nI i) 4 then none else some ((d.trayKind) (nI i).toNatClampNeg) := rfl
  rw [e, if_neg (vp_in_nI h (by decide)), nI_clamp (by omega)]
theorem yn_106 : aN 0 (mk c d D) 106 = some 4 := rfl
theorem ya_106 {i : Nat} (h : i < 4) : aI 0 (mk c d D) 106 (nI i) = some (d.traySize i) := by
  have e : aI 0 (mk c d D) 106 (nI i) = if mOut (nI i) 4 then none else some ((d.traySize) (nI i).toNatClampNeg) := rfl
  rw [e, if_neg (vp_in_nI h (by decide)), nI_clamp (by omega)]
theorem yn_107 : aN 0 (mk c d D) 107 = some 80 := rfl
theorem ya_107 {i : Nat} (h : i < 80) : aI 0 (mk c d D) 107 (nI i) = some (d.laid i) := by
  have e : aI 0 (mk c d D) 107 (nI i) = if mOut (nI i) 80 then none else some ((d.laid) (nI i).toNatClampNeg) := rfl
  rw [e, if_neg (vp_in_nI h (by decide)), nI_clamp (by omega)]
theorem yn_108 : aN 0 (mk c d D) 108 = some 4 := rfl
theorem ya_108 {i : Nat} (h : i < 4) : aI 0 (mk c d D) 108 (nI i) = some (d.listSize i) := by
  have e : aI 0 (mk c d D) 108 (nI i) = if mOut (nI i) 4 then none else some ((d.listSize) (nI i).toNatClampNeg) := rfl
  rw [e, if_neg (vp_in_nI h (by decide)), nI_clamp (by omega)]
theorem yn_109 : aN 1 (mk c d D) 109 = some 124 := rfl
theorem ya_109 {i : Nat} (h : i < 124) : aL (mk c d D) 109 (nI i) = some ((d.items) i) := by
  have e : aL (mk c d D) 109 (nI i) = if mOut (nI i) 124 then none else some ((d.items) (nI i).toNatClampNeg) := rfl
  rw [e, if_neg (vp_in_nI h (by decide)), nI_clamp (by omega)]
theorem yn_110 : aN 2 (mk c d D) 110 = some 651 := rfl
theorem ya_110 {i : Nat} (h : i < 651) : aD (mk c d D) 110 (nI i) = some ((d.worths) i) := by
  have e : aD (mk c d D) 110 (nI i) = if mOut (nI i) 651 then none else some ((d.worths) (nI i).toNatClampNeg) := rfl
  rw [e, if_neg (vp_in_nI h (by decide)), nI_clamp (by omega)]
theorem yn_111 : aN 2 (mk c d D) 111 = some 41 := rfl
theorem ya_111 {i : Nat} (h : i < 41) : aD (mk c d D) 111 (nI i) = some ((d.chances) i) := by
  have e : aD (mk c d D) 111 (nI i) = if mOut (nI i) 41 then none else some ((d.chances) (nI i).toNatClampNeg) := rfl
  rw [e, if_neg (vp_in_nI h (by decide)), nI_clamp (by omega)]
theorem yn_112 : aN 2 (mk c d D) 112 = some 41 := rfl
theorem ya_112 {i : Nat} (h : i < 41) : aD (mk c d D) 112 (nI i) = some ((d.fewer) i) := by
  have e : aD (mk c d D) 112 (nI i) = if mOut (nI i) 41 then none else some ((d.fewer) (nI i).toNatClampNeg) := rfl
  rw [e, if_neg (vp_in_nI h (by decide)), nI_clamp (by omega)]
theorem yn_113 : aN 1 (mk c d D) 113 = some 31 := rfl
theorem ya_113 {i : Nat} (h : i < 31) : aL (mk c d D) 113 (nI i) = some ((d.grosses) i) := by
  have e : aL (mk c d D) 113 (nI i) = if mOut (nI i) 31 then none else some ((d.grosses) (nI i).toNatClampNeg) := rfl
  rw [e, if_neg (vp_in_nI h (by decide)), nI_clamp (by omega)]
theorem yn_114 : aN 3 (mk c d D) 114 = some 31 := rfl
theorem ya_114 {i : Nat} (h : i < 31) : aI 3 (mk c d D) 114 (nI i) = some (d.isGreat i) := by
  have e : aI 3 (mk c d D) 114 (nI i) = if mOut (nI i) 31 then none else some ((d.isGreat) (nI i).toNatClampNeg) := rfl
  rw [e, if_neg (vp_in_nI h (by decide)), nI_clamp (by omega)]
theorem yn_115 : aN 1 (mk c d D) 115 = some 41 := rfl
theorem ya_115 {i : Nat} (h : i < 41) : aL (mk c d D) 115 (nI i) = some ((d.sets) i) := by
  have e : aL (mk c d D) 115 (nI i) = if mOut (nI i) 41 then none else some ((d.sets) (nI i).toNatClampNeg) := rfl
  rw [e, if_neg (vp_in_nI h (by decide)), nI_clamp (by omega)]
theorem yn_116 : aN 0 (mk c d D) 116 = some 6 := rfl
theorem ya_116 {i : Nat} (h : i < 6) : aI 0 (mk c d D) 116 (nI i) = some (d.had i) := by
  have e : aI 0 (mk c d D) 116 (nI i) = if mOut (nI i) 6 then none else some ((d.had) (nI i).toNatClampNeg) := rfl
  rw [e, if_neg (vp_in_nI h (by decide)), nI_clamp (by omega)]
theorem yn_117 : aN 3 (mk c d D) 117 = some 12 := rfl
theorem ya_117 {i : Nat} (h : i < 12) : aI 3 (mk c d D) 117 (nI i) = some (d.isGone i) := by
  have e : aI 3 (mk c d D) 117 (nI i) = if mOut (nI i) 12 then none else some ((d.isGone) (nI i).toNatClampNeg) := rfl
  rw [e, if_neg (vp_in_nI h (by decide)), nI_clamp (by omega)]
theorem yn_118 : aN 0 (mk c d D) 118 = some 6 := rfl
theorem ya_118 {i : Nat} (h : i < 6) : aI 0 (mk c d D) 118 (nI i) = some (d.read i) := by
  have e : aI 0 (mk c d D) 118 (nI i) = if mOut (nI i) 6 then none else some ((d.read) (nI i).toNatClampNeg) := rfl
  rw [e, if_neg (vp_in_nI h (by decide)), nI_clamp (by omega)]
theorem yn_119 : aN 0 (mk c d D) 119 = some 129 := rfl
theorem ya_119 {i : Nat} (h : i < 129) : aI 0 (mk c d D) 119 (nI i) = some (d.ahead i) := by
  have e : aI 0 (mk c d D) 119 (nI i) = if mOut (nI i) 129 then none else some ((d.ahead) (nI i).toNatClampNeg) := rfl
  rw [e, if_neg (vp_in_nI h (by decide)), nI_clamp (by omega)]
theorem yw_10_2 {x : Int32} : sV (mk c d D) 10 11 2 (.int x) = some (mk (c.s_pictured (x)) d D) := rfl
theorem yw_11_1 {x : Nat} : sV (mk c d D) 11 5 1 (.int (nI x)) = some (mk (c.s_pl (c.pl.s_n (x))) d D) := rfl
theorem yw_11_4 {x : Int32} : sV (mk c d D) 11 5 4 (.int x) = some (mk (c.s_pl (c.pl.s_seed (x))) d D) := rfl
theorem yu_13 {i : Nat} {x : Nat} (h : i < 4) : uI 0 .int (mk c d D) 13 (nI i) (nI x) = some (mk (c.s_pl (c.pl.s_rules (va_up c.pl.rules i x))) d D) := by
  have e : uI 0 .int (mk c d D) 13 (nI i) (nI x) = if mOut (nI i) 4 then none else some ((mk c d D).set 13 (.inl (0, 4, .inl (va_up ((fun i => nI (c.pl.rules i))) (nI i).toNatClampNeg (vp_nar .int (nI x)))))) := rfl
  rw [e, if_neg (vp_in_nI h (by decide)), nI_clamp (by omega), show vp_nar .int (nI x) = nI x from rfl, yupn]
  rfl
theorem yw_14_3 {x : Nat} : sV (mk c d D) 14 4 3 (.int (nI x)) = some (mk (c.s_pl (c.pl.s_rc (x))) d D) := rfl
theorem yu_15 {i : Nat} {x : Nat} (h : i < 4) : uI 0 .int (mk c d D) 15 (nI i) (nI x) = some (mk (c.s_pl (c.pl.s_len (va_up c.pl.len i x))) d D) := by
  have e : uI 0 .int (mk c d D) 15 (nI i) (nI x) = if mOut (nI i) 4 then none else some ((mk c d D).set 15 (.inl (0, 4, .inl (va_up ((fun i => nI (c.pl.len i))) (nI i).toNatClampNeg (vp_nar .int (nI x)))))) := rfl
  rw [e, if_neg (vp_in_nI h (by decide)), nI_clamp (by omega), show vp_nar .int (nI x) = nI x from rfl, yupn]
  rfl
theorem yu_16 {i : Nat} {x : Nat} (h : i < 4) : uI 0 .int (mk c d D) 16 (nI i) (nI x) = some (mk (c.s_pl (c.pl.s_free (va_up c.pl.free i x))) d D) := by
  have e : uI 0 .int (mk c d D) 16 (nI i) (nI x) = if mOut (nI i) 4 then none else some ((mk c d D).set 16 (.inl (0, 4, .inl (va_up ((fun i => nI (c.pl.free i))) (nI i).toNatClampNeg (vp_nar .int (nI x)))))) := rfl
  rw [e, if_neg (vp_in_nI h (by decide)), nI_clamp (by omega), show vp_nar .int (nI x) = nI x from rfl, yupn]
  rfl
theorem yw_30_1 {x : Nat} : sV (mk c d D) 30 5 1 (.int (nI x)) = some (mk (c.s_pic (c.pic.s_n (x))) d D) := rfl
theorem yw_30_4 {x : Int32} : sV (mk c d D) 30 5 4 (.int x) = some (mk (c.s_pic (c.pic.s_seed (x))) d D) := rfl
theorem yu_32 {i : Nat} {x : Nat} (h : i < 4) : uI 0 .int (mk c d D) 32 (nI i) (nI x) = some (mk (c.s_pic (c.pic.s_rules (va_up c.pic.rules i x))) d D) := by
  have e : uI 0 .int (mk c d D) 32 (nI i) (nI x) = if mOut (nI i) 4 then none else some ((mk c d D).set 32 (.inl (0, 4, .inl (va_up ((fun i => nI (c.pic.rules i))) (nI i).toNatClampNeg (vp_nar .int (nI x)))))) := rfl
  rw [e, if_neg (vp_in_nI h (by decide)), nI_clamp (by omega), show vp_nar .int (nI x) = nI x from rfl, yupn]
  rfl
theorem yw_33_3 {x : Nat} : sV (mk c d D) 33 4 3 (.int (nI x)) = some (mk (c.s_pic (c.pic.s_rc (x))) d D) := rfl
theorem yu_34 {i : Nat} {x : Nat} (h : i < 4) : uI 0 .int (mk c d D) 34 (nI i) (nI x) = some (mk (c.s_pic (c.pic.s_len (va_up c.pic.len i x))) d D) := by
  have e : uI 0 .int (mk c d D) 34 (nI i) (nI x) = if mOut (nI i) 4 then none else some ((mk c d D).set 34 (.inl (0, 4, .inl (va_up ((fun i => nI (c.pic.len i))) (nI i).toNatClampNeg (vp_nar .int (nI x)))))) := rfl
  rw [e, if_neg (vp_in_nI h (by decide)), nI_clamp (by omega), show vp_nar .int (nI x) = nI x from rfl, yupn]
  rfl
theorem yu_35 {i : Nat} {x : Nat} (h : i < 4) : uI 0 .int (mk c d D) 35 (nI i) (nI x) = some (mk (c.s_pic (c.pic.s_free (va_up c.pic.free i x))) d D) := by
  have e : uI 0 .int (mk c d D) 35 (nI i) (nI x) = if mOut (nI i) 4 then none else some ((mk c d D).set 35 (.inl (0, 4, .inl (va_up ((fun i => nI (c.pic.free i))) (nI i).toNatClampNeg (vp_nar .int (nI x)))))) := rfl
  rw [e, if_neg (vp_in_nI h (by decide)), nI_clamp (by omega), show vp_nar .int (nI x) = nI x from rfl, yupn]
  rfl
theorem yw_49_3 {x : Nat} : sV (mk c d D) 49 10 3 (.int (nI x)) = some (mk (c.s_made (x)) d D) := rfl
theorem yu_72 {i : Nat} {x : UInt64} (h : i < 6) : uD (mk c d D) 72 (nI i) x = some (mk (c.s_nets (va_up c.nets i x)) d D) := by
  have e : uD (mk c d D) 72 (nI i) x = if mOut (nI i) 6 then none else some ((mk c d D).set 72 (.inl (2, 6, .inr (.inr (.inr (.inl (va_up c.nets (nI i).toNatClampNeg x))))))) := rfl
  rw [e, if_neg (vp_in_nI h (by decide)), nI_clamp (by omega)]
  rfl
theorem yu_74 {i : Nat} {x : Int64} (h : i < 41) : uL (mk c d D) 74 (nI i) x = some (mk (c.s_wrow (va_up c.wrow i x)) d D) := by
  have e : uL (mk c d D) 74 (nI i) x = if mOut (nI i) 41 then none else some ((mk c d D).set 74 (.inl (1, 41, .inr (.inl (va_up c.wrow (nI i).toNatClampNeg x))))) := rfl
  rw [e, if_neg (vp_in_nI h (by decide)), nI_clamp (by omega)]
  rfl
theorem yu_76 {i : Nat} {x : UInt64} (h : i < 41) : uD (mk c d D) 76 (nI i) x = some (mk (c.s_crow (va_up c.crow i x)) d D) := by
  have e : uD (mk c d D) 76 (nI i) x = if mOut (nI i) 41 then none else some ((mk c d D).set 76 (.inl (2, 41, .inr (.inr (.inr (.inl (va_up c.crow (nI i).toNatClampNeg x))))))) := rfl
  rw [e, if_neg (vp_in_nI h (by decide)), nI_clamp (by omega)]
  rfl
theorem yw_77_1 {x : Nat} : sV (mk c d D) 77 7 1 (.int (nI x)) = some (mk (c.s_tsize (x)) d D) := rfl
theorem yw_77_3 {x : Nat} : sV (mk c d D) 77 7 3 (.int (nI x)) = some (mk (c.s_tn (x)) d D) := rfl
theorem yw_77_4 {x : Nat} : sV (mk c d D) 77 7 4 (.int (nI x)) = some (mk (c.s_tat (x)) d D) := rfl
theorem yw_77_5 {x : Int32} : sV (mk c d D) 77 7 5 (.int x) = some (mk (c.s_tname (x)) d D) := rfl
theorem yw_77_6 {x : Int32} : sV (mk c d D) 77 7 6 (.int x) = some (mk (c.s_tlegs (x)) d D) := rfl
theorem yw_77_7 {x : Int32} : sV (mk c d D) 77 7 7 (.int x) = some (mk (c.s_tprice (x)) d D) := rfl
theorem yw_77_8 {x : Int32} : sV (mk c d D) 77 7 8 (.int x) = some (mk (c.s_twanted (x)) d D) := rfl
theorem yu_78 {i : Nat} {x : Int32} (h : i < 120) : uI 0 .int (mk c d D) 78 (nI i) (x) = some (mk (c.s_tb (va_up c.tb i x)) d D) := by
  have e : uI 0 .int (mk c d D) 78 (nI i) (x) = if mOut (nI i) 120 then none else some ((mk c d D).set 78 (.inl (0, 120, .inl (va_up (c.tb) (nI i).toNatClampNeg (vp_nar .int (x)))))) := rfl
  rw [e, if_neg (vp_in_nI h (by decide)), nI_clamp (by omega)]
  rfl
theorem yw_80_4 {x : Nat} : sV (mk c d D) 80 2 4 (.int (nI x)) = some (mk (c.s_dleft (x)) d D) := rfl
theorem yw_80_5 {x : Nat} : sV (mk c d D) 80 2 5 (.int (nI x)) = some (mk (c.s_dasked (x)) d D) := rfl
theorem yw_80_6 {x : Nat} : sV (mk c d D) 80 2 6 (.int (nI x)) = some (mk (c.s_dcount (x)) d D) := rfl
theorem yw_80_7 {x : Int32} : sV (mk c d D) 80 2 7 (.int x) = some (mk (c.s_dprices (x)) d D) := rfl
theorem yw_80_8 {x : Int32} : sV (mk c d D) 80 2 8 (.int x) = some (mk (c.s_dplaces (x)) d D) := rfl
theorem yu_81 {i : Nat} {x : Int32} (h : i < 20) : uI 0 .int (mk c d D) 81 (nI i) (x) = some (mk (c.s_pa (va_up c.pa i x)) d D) := by
  have e : uI 0 .int (mk c d D) 81 (nI i) (x) = if mOut (nI i) 20 then none else some ((mk c d D).set 81 (.inl (0, 20, .inl (va_up (c.pa) (nI i).toNatClampNeg (vp_nar .int (x)))))) := rfl
  rw [e, if_neg (vp_in_nI h (by decide)), nI_clamp (by omega)]
  rfl
theorem yu_82 {i : Nat} {x : Int32} (h : i < 20) : uI 0 .int (mk c d D) 82 (nI i) (x) = some (mk (c.s_ph (va_up c.ph i x)) d D) := by
  have e : uI 0 .int (mk c d D) 82 (nI i) (x) = if mOut (nI i) 20 then none else some ((mk c d D).set 82 (.inl (0, 20, .inl (va_up (c.ph) (nI i).toNatClampNeg (vp_nar .int (x)))))) := rfl
  rw [e, if_neg (vp_in_nI h (by decide)), nI_clamp (by omega)]
  rfl
theorem yw_83_0 {x : Nat} : sV (mk c d D) 83 0 0 (.ref x) = some (mk (c.s_pgv (x)) d D) := rfl
theorem yw_83_1 {x : Int32} : sV (mk c d D) 83 0 1 (.int x) = some (mk (c.s_pgcd (x)) d D) := rfl
theorem yw_83_2 {x : Int32} : sV (mk c d D) 83 0 2 (.int x) = some (mk (c.s_pg2 (x)) d D) := rfl
theorem yw_83_3 {x : Nat} : sV (mk c d D) 83 0 3 (.int (nI x)) = some (mk (c.s_pgc (x)) d D) := rfl
theorem yu_84 {i : Nat} {x : Int32} (h : i < 16) : uI 4 .byte (mk c d D) 84 (nI i) (x) = some (mk (c.s_pg0 (va_up c.pg0 i (vp_nar .byte x))) d D) := by
  have e : uI 4 .byte (mk c d D) 84 (nI i) (x) = if mOut (nI i) 16 then none else some ((mk c d D).set 84 (.inl (4, 16, .inl (va_up (c.pg0) (nI i).toNatClampNeg (vp_nar .byte (x)))))) := rfl
  rw [e, if_neg (vp_in_nI h (by decide)), nI_clamp (by omega)]
  rfl
theorem yu_99 {i : Nat} {x : Int32} (h : i < 4) : uI 0 .int (mk c d D) 99 (nI i) (x) = some (mk (c.s_ls (va_up c.ls i x)) d D) := by
  have e : uI 0 .int (mk c d D) 99 (nI i) (x) = if mOut (nI i) 4 then none else some ((mk c d D).set 99 (.inl (0, 4, .inl (va_up (c.ls) (nI i).toNatClampNeg (vp_nar .int (x)))))) := rfl
  rw [e, if_neg (vp_in_nI h (by decide)), nI_clamp (by omega)]
  rfl
theorem yw_100_2 {x : Int32} : sV (mk c d D) 100 12 2 (.int x) = some (mk c (d.s_hasImage (x)) D) := rfl
theorem yw_100_3 {x : Int32} : sV (mk c d D) 100 12 3 (.int x) = some (mk c (d.s_taped (x)) D) := rfl
theorem yw_100_5 {x : Int32} : sV (mk c d D) 100 12 5 (.int x) = some (mk c (d.s_written (x)) D) := rfl
theorem yw_100_15 {x : Int32} : sV (mk c d D) 100 12 15 (.int x) = some (mk c (d.s_isOver (x)) D) := rfl
theorem yw_100_20 {x : Int32} : sV (mk c d D) 100 12 20 (.int x) = some (mk c (d.s_left (x)) D) := rfl
theorem yw_100_21 {x : Int32} : sV (mk c d D) 100 12 21 (.int x) = some (mk c (d.s_prices (x)) D) := rfl
theorem yw_100_22 {x : Int32} : sV (mk c d D) 100 12 22 (.int x) = some (mk c (d.s_askers (x)) D) := rfl
theorem yw_100_24 {x : Int32} : sV (mk c d D) 100 12 24 (.int x) = some (mk c (d.s_at_ (x)) D) := rfl
theorem yw_100_25 {x : Int32} : sV (mk c d D) 100 12 25 (.int x) = some (mk c (d.s_fault (x)) D) := rfl
theorem yw_100_28 {x : Int32} : sV (mk c d D) 100 12 28 (.int x) = some (mk c (d.s_asked (x)) D) := rfl
theorem yu_101 {i : Nat} {x : Int32} (h : i < 129) : uI 0 .int (mk c d D) 101 (nI i) (x) = some (mk c (d.s_now (va_up d.now i x)) D) := by
  have e : uI 0 .int (mk c d D) 101 (nI i) (x) = if mOut (nI i) 129 then none else some ((mk c d D).set 101 (.inl (0, 129, .inl (va_up (d.now) (nI i).toNatClampNeg (vp_nar .int (x)))))) := rfl
  rw [e, if_neg (vp_in_nI h (by decide)), nI_clamp (by omega)]
  rfl
theorem yu_102 {i : Nat} {x : Int32} (h : i < 129) : uI 0 .int (mk c d D) 102 (nI i) (x) = some (mk c (d.s_kept (va_up d.kept i x)) D) := by
  have e : uI 0 .int (mk c d D) 102 (nI i) (x) = if mOut (nI i) 129 then none else some ((mk c d D).set 102 (.inl (0, 129, .inl (va_up (d.kept) (nI i).toNatClampNeg (vp_nar .int (x)))))) := rfl
  rw [e, if_neg (vp_in_nI h (by decide)), nI_clamp (by omega)]
  rfl
theorem yu_103 {i : Nat} {x : Int32} (h : i < 120) : uI 0 .int (mk c d D) 103 (nI i) (x) = some (mk c (d.s_tape (va_up d.tape i x)) D) := by
  have e : uI 0 .int (mk c d D) 103 (nI i) (x) = if mOut (nI i) 120 then none else some ((mk c d D).set 103 (.inl (0, 120, .inl (va_up (d.tape) (nI i).toNatClampNeg (vp_nar .int (x)))))) := rfl
  rw [e, if_neg (vp_in_nI h (by decide)), nI_clamp (by omega)]
  rfl
theorem yu_104 {i : Nat} {x : Int32} (h : i < 260) : uI 0 .int (mk c d D) 104 (nI i) (x) = some (mk c (d.s_paper (va_up d.paper i x)) D) := by
  have e : uI 0 .int (mk c d D) 104 (nI i) (x) = if mOut (nI i) 260 then none else some ((mk c d D).set 104 (.inl (0, 260, .inl (va_up (d.paper) (nI i).toNatClampNeg (vp_nar .int (x)))))) := rfl
  rw [e, if_neg (vp_in_nI h (by decide)), nI_clamp (by omega)]
  rfl
theorem yu_105 {i : Nat} {x : Int32} (h : i < 4) : uI 0 .int (mk c d D) 105 (nI i) (x) = some (mk c (d.s_trayKind (va_up d.trayKind i x)) D) := by
  have e : uI 0 .int (mk c d D) 105 (nI i) (x) = if mOut (nI i) 4 then none else some ((mk c d D).set 105 (.inl (0, 4, .inl (va_up (d.trayKind) (nI i).toNatClampNeg (vp_nar .int (x)))))) := rfl
  rw [e, if_neg (vp_in_nI h (by decide)), nI_clamp (by omega)]
  rfl
theorem yu_106 {i : Nat} {x : Int32} (h : i < 4) : uI 0 .int (mk c d D) 106 (nI i) (x) = some (mk c (d.s_traySize (va_up d.traySize i x)) D) := by
  have e : uI 0 .int (mk c d D) 106 (nI i) (x) = if mOut (nI i) 4 then none else some ((mk c d D).set 106 (.inl (0, 4, .inl (va_up (d.traySize) (nI i).toNatClampNeg (vp_nar .int (x)))))) := rfl
  rw [e, if_neg (vp_in_nI h (by decide)), nI_clamp (by omega)]
  rfl
theorem yu_107 {i : Nat} {x : Int32} (h : i < 80) : uI 0 .int (mk c d D) 107 (nI i) (x) = some (mk c (d.s_laid (va_up d.laid i x)) D) := by
  have e : uI 0 .int (mk c d D) 107 (nI i) (x) = if mOut (nI i) 80 then none else some ((mk c d D).set 107 (.inl (0, 80, .inl (va_up (d.laid) (nI i).toNatClampNeg (vp_nar .int (x)))))) := rfl
  rw [e, if_neg (vp_in_nI h (by decide)), nI_clamp (by omega)]
  rfl
theorem yu_108 {i : Nat} {x : Int32} (h : i < 4) : uI 0 .int (mk c d D) 108 (nI i) (x) = some (mk c (d.s_listSize (va_up d.listSize i x)) D) := by
  have e : uI 0 .int (mk c d D) 108 (nI i) (x) = if mOut (nI i) 4 then none else some ((mk c d D).set 108 (.inl (0, 4, .inl (va_up (d.listSize) (nI i).toNatClampNeg (vp_nar .int (x)))))) := rfl
  rw [e, if_neg (vp_in_nI h (by decide)), nI_clamp (by omega)]
  rfl
theorem yu_109 {i : Nat} {x : Int64} (h : i < 124) : uL (mk c d D) 109 (nI i) x = some (mk c (d.s_items (va_up d.items i x)) D) := by
  have e : uL (mk c d D) 109 (nI i) x = if mOut (nI i) 124 then none else some ((mk c d D).set 109 (.inl (1, 124, .inr (.inl (va_up d.items (nI i).toNatClampNeg x))))) := rfl
  rw [e, if_neg (vp_in_nI h (by decide)), nI_clamp (by omega)]
  rfl
theorem yu_110 {i : Nat} {x : UInt64} (h : i < 651) : uD (mk c d D) 110 (nI i) x = some (mk c (d.s_worths (va_up d.worths i x)) D) := by
  have e : uD (mk c d D) 110 (nI i) x = if mOut (nI i) 651 then none else some ((mk c d D).set 110 (.inl (2, 651, .inr (.inr (.inr (.inl (va_up d.worths (nI i).toNatClampNeg x))))))) := rfl
  rw [e, if_neg (vp_in_nI h (by decide)), nI_clamp (by omega)]
  rfl
theorem yu_111 {i : Nat} {x : UInt64} (h : i < 41) : uD (mk c d D) 111 (nI i) x = some (mk c (d.s_chances (va_up d.chances i x)) D) := by
  have e : uD (mk c d D) 111 (nI i) x = if mOut (nI i) 41 then none else some ((mk c d D).set 111 (.inl (2, 41, .inr (.inr (.inr (.inl (va_up d.chances (nI i).toNatClampNeg x))))))) := rfl
  rw [e, if_neg (vp_in_nI h (by decide)), nI_clamp (by omega)]
  rfl
theorem yu_112 {i : Nat} {x : UInt64} (h : i < 41) : uD (mk c d D) 112 (nI i) x = some (mk c (d.s_fewer (va_up d.fewer i x)) D) := by
  have e : uD (mk c d D) 112 (nI i) x = if mOut (nI i) 41 then none else some ((mk c d D).set 112 (.inl (2, 41, .inr (.inr (.inr (.inl (va_up d.fewer (nI i).toNatClampNeg x))))))) := rfl
  rw [e, if_neg (vp_in_nI h (by decide)), nI_clamp (by omega)]
  rfl
theorem yu_113 {i : Nat} {x : Int64} (h : i < 31) : uL (mk c d D) 113 (nI i) x = some (mk c (d.s_grosses (va_up d.grosses i x)) D) := by
  have e : uL (mk c d D) 113 (nI i) x = if mOut (nI i) 31 then none else some ((mk c d D).set 113 (.inl (1, 31, .inr (.inl (va_up d.grosses (nI i).toNatClampNeg x))))) := rfl
  rw [e, if_neg (vp_in_nI h (by decide)), nI_clamp (by omega)]
  rfl
theorem yu_114 {i : Nat} {x : Int32} (h : i < 31) : uI 3 .boolean (mk c d D) 114 (nI i) (x) = some (mk c (d.s_isGreat (va_up d.isGreat i (vp_nar .boolean x))) D) := by
  have e : uI 3 .boolean (mk c d D) 114 (nI i) (x) = if mOut (nI i) 31 then none else some ((mk c d D).set 114 (.inl (3, 31, .inl (va_up (d.isGreat) (nI i).toNatClampNeg (vp_nar .boolean (x)))))) := rfl
  rw [e, if_neg (vp_in_nI h (by decide)), nI_clamp (by omega)]
  rfl
theorem yu_115 {i : Nat} {x : Int64} (h : i < 41) : uL (mk c d D) 115 (nI i) x = some (mk c (d.s_sets (va_up d.sets i x)) D) := by
  have e : uL (mk c d D) 115 (nI i) x = if mOut (nI i) 41 then none else some ((mk c d D).set 115 (.inl (1, 41, .inr (.inl (va_up d.sets (nI i).toNatClampNeg x))))) := rfl
  rw [e, if_neg (vp_in_nI h (by decide)), nI_clamp (by omega)]
  rfl
theorem yu_116 {i : Nat} {x : Int32} (h : i < 6) : uI 0 .int (mk c d D) 116 (nI i) (x) = some (mk c (d.s_had (va_up d.had i x)) D) := by
  have e : uI 0 .int (mk c d D) 116 (nI i) (x) = if mOut (nI i) 6 then none else some ((mk c d D).set 116 (.inl (0, 6, .inl (va_up (d.had) (nI i).toNatClampNeg (vp_nar .int (x)))))) := rfl
  rw [e, if_neg (vp_in_nI h (by decide)), nI_clamp (by omega)]
  rfl
theorem yu_117 {i : Nat} {x : Int32} (h : i < 12) : uI 3 .boolean (mk c d D) 117 (nI i) (x) = some (mk c (d.s_isGone (va_up d.isGone i (vp_nar .boolean x))) D) := by
  have e : uI 3 .boolean (mk c d D) 117 (nI i) (x) = if mOut (nI i) 12 then none else some ((mk c d D).set 117 (.inl (3, 12, .inl (va_up (d.isGone) (nI i).toNatClampNeg (vp_nar .boolean (x)))))) := rfl
  rw [e, if_neg (vp_in_nI h (by decide)), nI_clamp (by omega)]
  rfl
theorem yu_118 {i : Nat} {x : Int32} (h : i < 6) : uI 0 .int (mk c d D) 118 (nI i) (x) = some (mk c (d.s_read (va_up d.read i x)) D) := by
  have e : uI 0 .int (mk c d D) 118 (nI i) (x) = if mOut (nI i) 6 then none else some ((mk c d D).set 118 (.inl (0, 6, .inl (va_up (d.read) (nI i).toNatClampNeg (vp_nar .int (x)))))) := rfl
  rw [e, if_neg (vp_in_nI h (by decide)), nI_clamp (by omega)]
  rfl
theorem yu_119 {i : Nat} {x : Int32} (h : i < 129) : uI 0 .int (mk c d D) 119 (nI i) (x) = some (mk c (d.s_ahead (va_up d.ahead i x)) D) := by
  have e : uI 0 .int (mk c d D) 119 (nI i) (x) = if mOut (nI i) 129 then none else some ((mk c d D).set 119 (.inl (0, 129, .inl (va_up (d.ahead) (nI i).toNatClampNeg (vp_nar .int (x)))))) := rfl
  rw [e, if_neg (vp_in_nI h (by decide)), nI_clamp (by omega)]
  rfl
theorem yfar_R {i : Nat} (h : i < 6) : aR 5 (mk c d D) 12 (nI i) = some (18 + 2 * i) := by
  unfold aR
  rw [ya_12 h]
  exact (match i, h with | 0, _ => rfl | 1, _ => rfl | 2, _ => rfl | 3, _ => rfl | 4, _ => rfl | 5, _ => rfl | k + 6, h => absurd h (by omega) : yfar 18 i = some (18 + 2 * i))
theorem yfo {i : Nat} (h : i < 6) : oO (mk c d D) (18 + 2 * i) 3 = some () :=
  match i, h with
  | 0, _ => rfl
  | 1, _ => rfl
  | 2, _ => rfl
  | 3, _ => rfl
  | 4, _ => rfl
  | 5, _ => rfl
  | k + 6, h => absurd h (by omega)
theorem yf_0 {i : Nat} (h : i < 6) : fR (mk c d D) (18 + 2 * i) 3 0 = some (c.pl.kind i) :=
  match i, h with
  | 0, _ => rfl
  | 1, _ => rfl
  | 2, _ => rfl
  | 3, _ => rfl
  | 4, _ => rfl
  | 5, _ => rfl
  | k + 6, h => absurd h (by omega)
theorem yfw_0 {i x : Nat} (h : i < 6) : sV (mk c d D) (18 + 2 * i) 3 0 (.ref x) = some (mk (c.s_pl (c.pl.s_kind (va_up c.pl.kind i x))) d D) :=
  match i, h with
  | 0, _ => rfl
  | 1, _ => rfl
  | 2, _ => rfl
  | 3, _ => rfl
  | 4, _ => rfl
  | 5, _ => rfl
  | k + 6, h => absurd h (by omega)
theorem yf_1 {i : Nat} (h : i < 6) : fI (mk c d D) (18 + 2 * i) 3 1 = some (nI (c.pl.price i)) :=
  match i, h with
  | 0, _ => rfl
  | 1, _ => rfl
  | 2, _ => rfl
  | 3, _ => rfl
  | 4, _ => rfl
  | 5, _ => rfl
  | k + 6, h => absurd h (by omega)
theorem yfw_1 {i x : Nat} (h : i < 6) : sV (mk c d D) (18 + 2 * i) 3 1 (.int (nI x)) = some (mk (c.s_pl (c.pl.s_price (va_up c.pl.price i x))) d D) :=
  match i, h with
  | 0, _ => rfl
  | 1, _ => rfl
  | 2, _ => rfl
  | 3, _ => rfl
  | 4, _ => rfl
  | 5, _ => rfl
  | k + 6, h => absurd h (by omega)
theorem yf_2 {i : Nat} (h : i < 6) : fI (mk c d D) (18 + 2 * i) 3 2 = some (nI (c.pl.hand i)) :=
  match i, h with
  | 0, _ => rfl
  | 1, _ => rfl
  | 2, _ => rfl
  | 3, _ => rfl
  | 4, _ => rfl
  | 5, _ => rfl
  | k + 6, h => absurd h (by omega)
theorem yfw_2 {i x : Nat} (h : i < 6) : sV (mk c d D) (18 + 2 * i) 3 2 (.int (nI x)) = some (mk (c.s_pl (c.pl.s_hand (va_up c.pl.hand i x))) d D) :=
  match i, h with
  | 0, _ => rfl
  | 1, _ => rfl
  | 2, _ => rfl
  | 3, _ => rfl
  | 4, _ => rfl
  | 5, _ => rfl
  | k + 6, h => absurd h (by omega)
theorem yf_3 {i : Nat} (h : i < 6) : fR (mk c d D) (18 + 2 * i) 3 3 = some (19 + 2 * i) :=
  match i, h with
  | 0, _ => rfl
  | 1, _ => rfl
  | 2, _ => rfl
  | 3, _ => rfl
  | 4, _ => rfl
  | 5, _ => rfl
  | k + 6, h => absurd h (by omega)
theorem yfon {i : Nat} (h : i < 6) : aN 0 (mk c d D) (19 + 2 * i) = some 4 :=
  match i, h with
  | 0, _ => rfl
  | 1, _ => rfl
  | 2, _ => rfl
  | 3, _ => rfl
  | 4, _ => rfl
  | 5, _ => rfl
  | k + 6, h => absurd h (by omega)
theorem yfc {i : Nat} (h : i < 6) : (mk c d D)[19 + 2 * i]? = some (.inl (0, 4, .inl (fun j => nI (c.pl.odds i j)))) :=
  match i, h with
  | 0, _ => rfl
  | 1, _ => rfl
  | 2, _ => rfl
  | 3, _ => rfl
  | 4, _ => rfl
  | 5, _ => rfl
  | k + 6, h => absurd h (by omega)
theorem yfoa {i j : Nat} (h : i < 6) (hj : j < 4) : aI 0 (mk c d D) (19 + 2 * i) (nI j) = some (nI (c.pl.odds i j)) := by
  unfold aI
  rw [yfc h]
  simp only [if_true]
  rw [if_neg (vp_in_nI hj (by decide)), nI_clamp (by omega)]
theorem yfos {i : Nat} {f : Nat → Nat} (h : i < 6) : (mk c d D).set (19 + 2 * i) (.inl (0, 4, .inl (fun j => nI (f j)))) = mk (c.s_pl (c.pl.s_odds (va_up c.pl.odds i f))) d D :=
  match i, h with
  | 0, _ => rfl
  | 1, _ => rfl
  | 2, _ => rfl
  | 3, _ => rfl
  | 4, _ => rfl
  | 5, _ => rfl
  | k + 6, h => absurd h (by omega)
theorem yfou {i j x : Nat} (h : i < 6) (hj : j < 4) : uI 0 .int (mk c d D) (19 + 2 * i) (nI j) (nI x) = some (mk (c.s_pl (c.pl.s_odds (va_up c.pl.odds i (va_up (c.pl.odds i) j x)))) d D) := by
  unfold uI
  rw [yfc h]
  simp only [if_true]
  rw [if_neg (vp_in_nI hj (by decide)), nI_clamp (by omega), show vp_nar .int (nI x) = nI x from rfl, yupn, yfos h]
theorem yfarq_R {i : Nat} (h : i < 6) : aR 5 (mk c d D) 31 (nI i) = some (37 + 2 * i) := by
  unfold aR
  rw [ya_31 h]
  exact (match i, h with | 0, _ => rfl | 1, _ => rfl | 2, _ => rfl | 3, _ => rfl | 4, _ => rfl | 5, _ => rfl | k + 6, h => absurd h (by omega) : yfar 37 i = some (37 + 2 * i))
theorem yfoq {i : Nat} (h : i < 6) : oO (mk c d D) (37 + 2 * i) 3 = some () :=
  match i, h with
  | 0, _ => rfl
  | 1, _ => rfl
  | 2, _ => rfl
  | 3, _ => rfl
  | 4, _ => rfl
  | 5, _ => rfl
  | k + 6, h => absurd h (by omega)
theorem yfq_0 {i : Nat} (h : i < 6) : fR (mk c d D) (37 + 2 * i) 3 0 = some (c.pic.kind i) :=
  match i, h with
  | 0, _ => rfl
  | 1, _ => rfl
  | 2, _ => rfl
  | 3, _ => rfl
  | 4, _ => rfl
  | 5, _ => rfl
  | k + 6, h => absurd h (by omega)
theorem yfwq_0 {i x : Nat} (h : i < 6) : sV (mk c d D) (37 + 2 * i) 3 0 (.ref x) = some (mk (c.s_pic (c.pic.s_kind (va_up c.pic.kind i x))) d D) :=
  match i, h with
  | 0, _ => rfl
  | 1, _ => rfl
  | 2, _ => rfl
  | 3, _ => rfl
  | 4, _ => rfl
  | 5, _ => rfl
  | k + 6, h => absurd h (by omega)
theorem yfq_1 {i : Nat} (h : i < 6) : fI (mk c d D) (37 + 2 * i) 3 1 = some (nI (c.pic.price i)) :=
  match i, h with
  | 0, _ => rfl
  | 1, _ => rfl
  | 2, _ => rfl
  | 3, _ => rfl
  | 4, _ => rfl
  | 5, _ => rfl
  | k + 6, h => absurd h (by omega)
theorem yfwq_1 {i x : Nat} (h : i < 6) : sV (mk c d D) (37 + 2 * i) 3 1 (.int (nI x)) = some (mk (c.s_pic (c.pic.s_price (va_up c.pic.price i x))) d D) :=
  match i, h with
  | 0, _ => rfl
  | 1, _ => rfl
  | 2, _ => rfl
  | 3, _ => rfl
  | 4, _ => rfl
  | 5, _ => rfl
  | k + 6, h => absurd h (by omega)
theorem yfq_2 {i : Nat} (h : i < 6) : fI (mk c d D) (37 + 2 * i) 3 2 = some (nI (c.pic.hand i)) :=
  match i, h with
  | 0, _ => rfl
  | 1, _ => rfl
  | 2, _ => rfl
  | 3, _ => rfl
  | 4, _ => rfl
  | 5, _ => rfl
  | k + 6, h => absurd h (by omega)
theorem yfwq_2 {i x : Nat} (h : i < 6) : sV (mk c d D) (37 + 2 * i) 3 2 (.int (nI x)) = some (mk (c.s_pic (c.pic.s_hand (va_up c.pic.hand i x))) d D) :=
  match i, h with
  | 0, _ => rfl
  | 1, _ => rfl
  | 2, _ => rfl
  | 3, _ => rfl
  | 4, _ => rfl
  | 5, _ => rfl
  | k + 6, h => absurd h (by omega)
theorem yfq_3 {i : Nat} (h : i < 6) : fR (mk c d D) (37 + 2 * i) 3 3 = some (38 + 2 * i) :=
  match i, h with
  | 0, _ => rfl
  | 1, _ => rfl
  | 2, _ => rfl
  | 3, _ => rfl
  | 4, _ => rfl
  | 5, _ => rfl
  | k + 6, h => absurd h (by omega)
theorem yfonq {i : Nat} (h : i < 6) : aN 0 (mk c d D) (38 + 2 * i) = some 4 :=
  match i, h with
  | 0, _ => rfl
  | 1, _ => rfl
  | 2, _ => rfl
  | 3, _ => rfl
  | 4, _ => rfl
  | 5, _ => rfl
  | k + 6, h => absurd h (by omega)
theorem yfcq {i : Nat} (h : i < 6) : (mk c d D)[38 + 2 * i]? = some (.inl (0, 4, .inl (fun j => nI (c.pic.odds i j)))) :=
  match i, h with
  | 0, _ => rfl
  | 1, _ => rfl
  | 2, _ => rfl
  | 3, _ => rfl
  | 4, _ => rfl
  | 5, _ => rfl
  | k + 6, h => absurd h (by omega)
theorem yfoaq {i j : Nat} (h : i < 6) (hj : j < 4) : aI 0 (mk c d D) (38 + 2 * i) (nI j) = some (nI (c.pic.odds i j)) := by
  unfold aI
  rw [yfcq h]
  simp only [if_true]
  rw [if_neg (vp_in_nI hj (by decide)), nI_clamp (by omega)]
theorem yfosq {i : Nat} {f : Nat → Nat} (h : i < 6) : (mk c d D).set (38 + 2 * i) (.inl (0, 4, .inl (fun j => nI (f j)))) = mk (c.s_pic (c.pic.s_odds (va_up c.pic.odds i f))) d D :=
  match i, h with
  | 0, _ => rfl
  | 1, _ => rfl
  | 2, _ => rfl
  | 3, _ => rfl
  | 4, _ => rfl
  | 5, _ => rfl
  | k + 6, h => absurd h (by omega)
theorem yfouq {i j x : Nat} (h : i < 6) (hj : j < 4) : uI 0 .int (mk c d D) (38 + 2 * i) (nI j) (nI x) = some (mk (c.s_pic (c.pic.s_odds (va_up c.pic.odds i (va_up (c.pic.odds i) j x)))) d D) := by
  unfold uI
  rw [yfcq h]
  simp only [if_true]
  rw [if_neg (vp_in_nI hj (by decide)), nI_clamp (by omega), show vp_nar .int (nI x) = nI x from rfl, yupn, yfosq h]
theorem ytr_R {i : Nat} (h : i < 4) : aR 7 (mk c d D) 85 (nI i) = some (86 + 2 * i) := by
  unfold aR
  rw [ya_85 h]
  exact (match i, h with | 0, _ => rfl | 1, _ => rfl | 2, _ => rfl | 3, _ => rfl | k + 4, h => absurd h (by omega) : ytar i = some (86 + 2 * i))
theorem yto {i : Nat} (h : i < 4) : oO (mk c d D) (86 + 2 * i) 8 = some () :=
  match i, h with
  | 0, _ => rfl
  | 1, _ => rfl
  | 2, _ => rfl
  | 3, _ => rfl
  | k + 4, h => absurd h (by omega)
theorem yt_0 {i : Nat} (h : i < 4) : fR (mk c d D) (86 + 2 * i) 8 0 = some (c.tk i) :=
  match i, h with
  | 0, _ => rfl
  | 1, _ => rfl
  | 2, _ => rfl
  | 3, _ => rfl
  | k + 4, h => absurd h (by omega)
theorem yt_1 {i : Nat} (h : i < 4) : fI (mk c d D) (86 + 2 * i) 8 1 = some (c.tsz i) :=
  match i, h with
  | 0, _ => rfl
  | 1, _ => rfl
  | 2, _ => rfl
  | 3, _ => rfl
  | k + 4, h => absurd h (by omega)
theorem yt_2 {i : Nat} (h : i < 4) : fR (mk c d D) (86 + 2 * i) 8 2 = some (87 + 2 * i) :=
  match i, h with
  | 0, _ => rfl
  | 1, _ => rfl
  | 2, _ => rfl
  | 3, _ => rfl
  | k + 4, h => absurd h (by omega)
theorem ytw_0 {i x : Nat} (h : i < 4) : sV (mk c d D) (86 + 2 * i) 8 0 (.ref x) = some (mk (c.s_tk (va_up c.tk i x)) d D) :=
  match i, h with
  | 0, _ => rfl
  | 1, _ => rfl
  | 2, _ => rfl
  | 3, _ => rfl
  | k + 4, h => absurd h (by omega)
theorem ytw_1 {i : Nat} {x : Int32} (h : i < 4) : sV (mk c d D) (86 + 2 * i) 8 1 (.int x) = some (mk (c.s_tsz (va_up c.tsz i x)) d D) :=
  match i, h with
  | 0, _ => rfl
  | 1, _ => rfl
  | 2, _ => rfl
  | 3, _ => rfl
  | k + 4, h => absurd h (by omega)
theorem ytn {i : Nat} (h : i < 4) : aN 0 (mk c d D) (87 + 2 * i) = some 20 :=
  match i, h with
  | 0, _ => rfl
  | 1, _ => rfl
  | 2, _ => rfl
  | 3, _ => rfl
  | k + 4, h => absurd h (by omega)
theorem ytc {i : Nat} (h : i < 4) : (mk c d D)[87 + 2 * i]? = some (.inl (0, 20, .inl (c.tpl i))) :=
  match i, h with
  | 0, _ => rfl
  | 1, _ => rfl
  | 2, _ => rfl
  | 3, _ => rfl
  | k + 4, h => absurd h (by omega)
theorem yts {i : Nat} {f : Nat → Int32} (h : i < 4) : (mk c d D).set (87 + 2 * i) (.inl (0, 20, .inl f)) = mk (c.s_tpl (va_up c.tpl i f)) d D :=
  match i, h with
  | 0, _ => rfl
  | 1, _ => rfl
  | 2, _ => rfl
  | 3, _ => rfl
  | k + 4, h => absurd h (by omega)
theorem yta {i j : Nat} (h : i < 4) (hj : j < 20) : aI 0 (mk c d D) (87 + 2 * i) (nI j) = some (c.tpl i j) := by
  unfold aI
  rw [ytc h]
  simp only [if_true]
  rw [if_neg (vp_in_nI hj (by decide)), nI_clamp (by omega)]
theorem ytu {i j : Nat} {x : Int32} (h : i < 4) (hj : j < 20) : uI 0 .int (mk c d D) (87 + 2 * i) (nI j) x = some (mk (c.s_tpl (va_up c.tpl i (va_up (c.tpl i) j x))) d D) := by
  unfold uI
  rw [ytc h]
  simp only [if_true]
  rw [if_neg (vp_in_nI hj (by decide)), nI_clamp (by omega), show vp_nar .int x = x from rfl, yts h]
theorem yrow_R {i : Nat} (h : i < 21) : aR 8 (mk c d D) 50 (nI i) = some (51 + i) := by
  unfold aR
  rw [ya_50 h]
  show (if i < 21 then some (50 + 1 + i) else none) = _
  rw [if_pos h]
theorem yrc {i : Nat} (h : i < 21) : (mk c d D)[51 + i]? = some (.inl (2, 31, .inr (.inr (.inr (.inl (c.rows i)))))) :=
  match i, h with
  | 0, _ => rfl
  | 1, _ => rfl
  | 2, _ => rfl
  | 3, _ => rfl
  | 4, _ => rfl
  | 5, _ => rfl
  | 6, _ => rfl
  | 7, _ => rfl
  | 8, _ => rfl
  | 9, _ => rfl
  | 10, _ => rfl
  | 11, _ => rfl
  | 12, _ => rfl
  | 13, _ => rfl
  | 14, _ => rfl
  | 15, _ => rfl
  | 16, _ => rfl
  | 17, _ => rfl
  | 18, _ => rfl
  | 19, _ => rfl
  | 20, _ => rfl
  | k + 21, h => absurd h (by omega)
theorem yrs {i : Nat} {f : Nat → UInt64} (h : i < 21) : (mk c d D).set (51 + i) (.inl (2, 31, .inr (.inr (.inr (.inl f))))) = mk (c.s_rows (va_up c.rows i f)) d D :=
  match i, h with
  | 0, _ => rfl
  | 1, _ => rfl
  | 2, _ => rfl
  | 3, _ => rfl
  | 4, _ => rfl
  | 5, _ => rfl
  | 6, _ => rfl
  | 7, _ => rfl
  | 8, _ => rfl
  | 9, _ => rfl
  | 10, _ => rfl
  | 11, _ => rfl
  | 12, _ => rfl
  | 13, _ => rfl
  | 14, _ => rfl
  | 15, _ => rfl
  | 16, _ => rfl
  | 17, _ => rfl
  | 18, _ => rfl
  | 19, _ => rfl
  | 20, _ => rfl
  | k + 21, h => absurd h (by omega)
theorem yra {i j : Nat} (h : i < 21) (hj : j < 31) : aD (mk c d D) (51 + i) (nI j) = some (c.rows i j) := by
  unfold aD
  rw [yrc h]
  simp only [if_true]
  rw [if_neg (vp_in_nI hj (by decide)), nI_clamp (by omega)]
theorem yru {i j : Nat} {x : UInt64} (h : i < 21) (hj : j < 31) : uD (mk c d D) (51 + i) (nI j) x = some (mk (c.s_rows (va_up c.rows i (va_up (c.rows i) j x))) d D) := by
  unfold uD
  rw [yrc h]
  simp only [if_true]
  rw [if_neg (vp_in_nI hj (by decide)), nI_clamp (by omega), yrs h]
theorem yli_R {i : Nat} (h : i < 4) : aR 9 (mk c d D) 94 (nI i) = some (95 + i) := by
  unfold aR
  rw [ya_94 h]
  show (if i < 4 then some (94 + 1 + i) else none) = _
  rw [if_pos h]
theorem ylc {i : Nat} (h : i < 4) : (mk c d D)[95 + i]? = some (.inl (1, 31, .inr (.inl (c.li i)))) :=
  match i, h with
  | 0, _ => rfl
  | 1, _ => rfl
  | 2, _ => rfl
  | 3, _ => rfl
  | k + 4, h => absurd h (by omega)
theorem yls {i : Nat} {f : Nat → Int64} (h : i < 4) : (mk c d D).set (95 + i) (.inl (1, 31, .inr (.inl f))) = mk (c.s_li (va_up c.li i f)) d D :=
  match i, h with
  | 0, _ => rfl
  | 1, _ => rfl
  | 2, _ => rfl
  | 3, _ => rfl
  | k + 4, h => absurd h (by omega)
theorem yln {i : Nat} (h : i < 4) : aN 1 (mk c d D) (95 + i) = some 31 :=
  match i, h with
  | 0, _ => rfl
  | 1, _ => rfl
  | 2, _ => rfl
  | 3, _ => rfl
  | k + 4, h => absurd h (by omega)
theorem yla {i j : Nat} (h : i < 4) (hj : j < 31) : aL (mk c d D) (95 + i) (nI j) = some (c.li i j) := by
  unfold aL
  rw [ylc h]
  simp only [if_true]
  rw [if_neg (vp_in_nI hj (by decide)), nI_clamp (by omega)]
theorem ylu {i j : Nat} {x : Int64} (h : i < 4) (hj : j < 31) : uL (mk c d D) (95 + i) (nI j) x = some (mk (c.s_li (va_up c.li i (va_up (c.li i) j x))) d D) := by
  unfold uL
  rw [ylc h]
  simp only [if_true]
  rw [if_neg (vp_in_nI hj (by decide)), nI_clamp (by omega), yls h]
end

set_option maxRecDepth 100000
structure Rt where
  l0 : Nat
  l1 : Nat
  l2 : Nat
  lg : Nat
  pr : Nat
  wt : Nat
structure PL where
  n : Nat
  rules : Nat → Nat
  len : Nat → Nat
  free : Nat → Nat
  rts : Nat → Option Nat
  rc : Nat
  seed : Int32
  kind : Nat → Nat
  price : Nat → Nat
  hand : Nat → Nat
  odds : Nat → Nat → Nat
structure CS where
  pl : PL
  pic : PL
  pictured : Int32
  made : Nat
  rows : Nat → Nat → UInt64
  nets : Nat → UInt64
  wrow : Nat → Int64
  crow : Nat → UInt64
  tb : Nat → Int32
  tsize : Nat
  tread : Nat → Option Nat
  tn : Nat
  tat : Nat
  tname : Int32
  tlegs : Int32
  tprice : Int32
  twanted : Int32
  pa : Nat → Int32
  ph : Nat → Int32
  dleft : Nat
  dasked : Nat
  dcount : Nat
  dprices : Int32
  dplaces : Int32
  pgv : Nat
  pgcd : Int32
  pg2 : Int32
  pgc : Nat
  pg0 : Nat → Int32
  tk : Nat → Nat
  tsz : Nat → Int32
  tpl : Nat → Nat → Int32
  li : Nat → Nat → Int64
  ls : Nat → Int32
structure MS where
  now : Nat → Int32
  kept : Nat → Int32
  hasImage : Int32
  taped : Int32
  tape : Nat → Int32
  written : Int32
  paper : Nat → Int32
  trayKind : Nat → Int32
  traySize : Nat → Int32
  laid : Nat → Int32
  listSize : Nat → Int32
  items : Nat → Int64
  worths : Nat → UInt64
  chances : Nat → UInt64
  fewer : Nat → UInt64
  isOver : Int32
  grosses : Nat → Int64
  isGreat : Nat → Int32
  sets : Nat → Int64
  had : Nat → Int32
  left : Int32
  prices : Int32
  askers : Int32
  isGone : Nat → Int32
  at_ : Int32
  fault : Int32
  read : Nat → Int32
  ahead : Nat → Int32
  asked : Int32

def yfar (b : Nat) : Nat → Option Nat := va_up (va_up (va_up (va_up (va_up (va_up (fun _ => none) 0 (some b)) 1 (some (b + 2))) 2 (some (b + 4))) 3 (some (b + 6))) 4 (some (b + 8))) 5 (some (b + 10))
def ytar : Nat → Option Nat := va_up (va_up (va_up (va_up (fun _ => none) 0 (some 86)) 1 (some 88)) 2 (some 90)) 3 (some 92)
def mk (c : CS) (d : MS) (D : mM) : mM :=
  m_no ::
  m_no ::
  m_no ::
  m_no ::
  m_no ::
  m_no ::
  m_no ::
  m_no ::
  m_no ::
  m_no ::
  .inr (11, [.ref 11, .ref 30, .int c.pictured, .ref 49, .ref 73, .ref 75, .ref 77, .ref 80, .ref 83, .ref 85, .ref 94, .ref 99]) ::
  .inr (5, [.ref 12, .int (nI c.pl.n), .ref 13, .ref 14, .int c.pl.seed]) ::
  .inl (5, 6, .inr (.inr (.inr (.inr (yfar 18))))) ::
  .inl (0, 4, .inl (fun i => nI (c.pl.rules i))) ::
  .inr (4, [.ref 15, .ref 16, .ref 17, .int (nI c.pl.rc)]) ::
  .inl (0, 4, .inl (fun i => nI (c.pl.len i))) ::
  .inl (0, 4, .inl (fun i => nI (c.pl.free i))) ::
  .inl (6, 12, .inr (.inr (.inr (.inr c.pl.rts)))) ::
  .inr (3, [.ref (c.pl.kind 0), .int (nI (c.pl.price 0)), .int (nI (c.pl.hand 0)), .ref 19]) ::
  .inl (0, 4, .inl (fun i => nI (c.pl.odds 0 i))) ::
  .inr (3, [.ref (c.pl.kind 1), .int (nI (c.pl.price 1)), .int (nI (c.pl.hand 1)), .ref 21]) ::
  .inl (0, 4, .inl (fun i => nI (c.pl.odds 1 i))) ::
  .inr (3, [.ref (c.pl.kind 2), .int (nI (c.pl.price 2)), .int (nI (c.pl.hand 2)), .ref 23]) ::
  .inl (0, 4, .inl (fun i => nI (c.pl.odds 2 i))) ::
  .inr (3, [.ref (c.pl.kind 3), .int (nI (c.pl.price 3)), .int (nI (c.pl.hand 3)), .ref 25]) ::
  .inl (0, 4, .inl (fun i => nI (c.pl.odds 3 i))) ::
  .inr (3, [.ref (c.pl.kind 4), .int (nI (c.pl.price 4)), .int (nI (c.pl.hand 4)), .ref 27]) ::
  .inl (0, 4, .inl (fun i => nI (c.pl.odds 4 i))) ::
  .inr (3, [.ref (c.pl.kind 5), .int (nI (c.pl.price 5)), .int (nI (c.pl.hand 5)), .ref 29]) ::
  .inl (0, 4, .inl (fun i => nI (c.pl.odds 5 i))) ::
  .inr (5, [.ref 31, .int (nI c.pic.n), .ref 32, .ref 33, .int c.pic.seed]) ::
  .inl (5, 6, .inr (.inr (.inr (.inr (yfar 37))))) ::
  .inl (0, 4, .inl (fun i => nI (c.pic.rules i))) ::
  .inr (4, [.ref 34, .ref 35, .ref 36, .int (nI c.pic.rc)]) ::
  .inl (0, 4, .inl (fun i => nI (c.pic.len i))) ::
  .inl (0, 4, .inl (fun i => nI (c.pic.free i))) ::
  .inl (6, 12, .inr (.inr (.inr (.inr c.pic.rts)))) ::
  .inr (3, [.ref (c.pic.kind 0), .int (nI (c.pic.price 0)), .int (nI (c.pic.hand 0)), .ref 38]) ::
  .inl (0, 4, .inl (fun i => nI (c.pic.odds 0 i))) ::
  .inr (3, [.ref (c.pic.kind 1), .int (nI (c.pic.price 1)), .int (nI (c.pic.hand 1)), .ref 40]) ::
  .inl (0, 4, .inl (fun i => nI (c.pic.odds 1 i))) ::
  .inr (3, [.ref (c.pic.kind 2), .int (nI (c.pic.price 2)), .int (nI (c.pic.hand 2)), .ref 42]) ::
  .inl (0, 4, .inl (fun i => nI (c.pic.odds 2 i))) ::
  .inr (3, [.ref (c.pic.kind 3), .int (nI (c.pic.price 3)), .int (nI (c.pic.hand 3)), .ref 44]) ::
  .inl (0, 4, .inl (fun i => nI (c.pic.odds 3 i))) ::
  .inr (3, [.ref (c.pic.kind 4), .int (nI (c.pic.price 4)), .int (nI (c.pic.hand 4)), .ref 46]) ::
  .inl (0, 4, .inl (fun i => nI (c.pic.odds 4 i))) ::
  .inr (3, [.ref (c.pic.kind 5), .int (nI (c.pic.price 5)), .int (nI (c.pic.hand 5)), .ref 48]) ::
  .inl (0, 4, .inl (fun i => nI (c.pic.odds 5 i))) ::
  .inr (10, [.ref 11, .ref 50, .ref 72, .int (nI c.made)]) ::
  .inl (8, 21, .inr (.inr (.inr (.inr (fun i => if i < 21 then some (50 + 1 + i) else none))))) ::
  .inl (2, 31, .inr (.inr (.inr (.inl (c.rows 0))))) ::
  .inl (2, 31, .inr (.inr (.inr (.inl (c.rows 1))))) ::
  .inl (2, 31, .inr (.inr (.inr (.inl (c.rows 2))))) ::
  .inl (2, 31, .inr (.inr (.inr (.inl (c.rows 3))))) ::
  .inl (2, 31, .inr (.inr (.inr (.inl (c.rows 4))))) ::
  .inl (2, 31, .inr (.inr (.inr (.inl (c.rows 5))))) ::
  .inl (2, 31, .inr (.inr (.inr (.inl (c.rows 6))))) ::
  .inl (2, 31, .inr (.inr (.inr (.inl (c.rows 7))))) ::
  .inl (2, 31, .inr (.inr (.inr (.inl (c.rows 8))))) ::
  .inl (2, 31, .inr (.inr (.inr (.inl (c.rows 9))))) ::
  .inl (2, 31, .inr (.inr (.inr (.inl (c.rows 10))))) ::
  .inl (2, 31, .inr (.inr (.inr (.inl (c.rows 11))))) ::
  .inl (2, 31, .inr (.inr (.inr (.inl (c.rows 12))))) ::
  .inl (2, 31, .inr (.inr (.inr (.inl (c.rows 13))))) ::
  .inl (2, 31, .inr (.inr (.inr (.inl (c.rows 14))))) ::
  .inl (2, 31, .inr (.inr (.inr (.inl (c.rows 15))))) ::
  .inl (2, 31, .inr (.inr (.inr (.inl (c.rows 16))))) ::
  .inl (2, 31, .inr (.inr (.inr (.inl (c.rows 17))))) ::
  .inl (2, 31, .inr (.inr (.inr (.inl (c.rows 18))))) ::
  .inl (2, 31, .inr (.inr (.inr (.inl (c.rows 19))))) ::
  .inl (2, 31, .inr (.inr (.inr (.inl (c.rows 20))))) ::
  .inl (2, 6, .inr (.inr (.inr (.inl c.nets)))) ::
  .inr (9, [.ref 11, .ref 74]) ::
  .inl (1, 41, .inr (.inl c.wrow)) ::
  .inr (1, [.ref 11, .ref 76]) ::
  .inl (2, 41, .inr (.inr (.inr (.inl c.crow)))) ::
  .inr (7, [.ref 78, .int (nI c.tsize), .ref 79, .int (nI c.tn), .int (nI c.tat), .int c.tname, .int c.tlegs, .int c.tprice, .int c.twanted]) ::
  .inl (0, 120, .inl c.tb) ::
  .inl (6, 12, .inr (.inr (.inr (.inr c.tread)))) ::
  .inr (2, [.ref 11, .ref 49, .ref 81, .ref 82, .int (nI c.dleft), .int (nI c.dasked), .int (nI c.dcount), .int c.dprices, .int c.dplaces]) ::
  .inl (0, 20, .inl c.pa) ::
  .inl (0, 20, .inl c.ph) ::
  .inr (0, [.ref c.pgv, .int c.pgcd, .int c.pg2, .int (nI c.pgc)]) ::
  .inl (4, 16, .inl c.pg0) ::
  .inl (7, 4, .inr (.inr (.inr (.inr ytar)))) ::
  .inr (8, [.ref (c.tk 0), .int (c.tsz 0), .ref 87]) ::
  .inl (0, 20, .inl (c.tpl 0)) ::
  .inr (8, [.ref (c.tk 1), .int (c.tsz 1), .ref 89]) ::
  .inl (0, 20, .inl (c.tpl 1)) ::
  .inr (8, [.ref (c.tk 2), .int (c.tsz 2), .ref 91]) ::
  .inl (0, 20, .inl (c.tpl 2)) ::
  .inr (8, [.ref (c.tk 3), .int (c.tsz 3), .ref 93]) ::
  .inl (0, 20, .inl (c.tpl 3)) ::
  .inl (9, 4, .inr (.inr (.inr (.inr (fun i => if i < 4 then some (94 + 1 + i) else none))))) ::
  .inl (1, 31, .inr (.inl (c.li 0))) ::
  .inl (1, 31, .inr (.inl (c.li 1))) ::
  .inl (1, 31, .inr (.inl (c.li 2))) ::
  .inl (1, 31, .inr (.inl (c.li 3))) ::
  .inl (0, 4, .inl c.ls) ::
  .inr (12, [.ref 101, .ref 102, .int d.hasImage, .int d.taped, .ref 103, .int d.written, .ref 104, .ref 105, .ref 106, .ref 107, .ref 108, .ref 109, .ref 110, .ref 111, .ref 112, .int d.isOver, .ref 113, .ref 114, .ref 115, .ref 116, .int d.left, .int d.prices, .int d.askers, .ref 117, .int d.at_, .int d.fault, .ref 118, .ref 119, .int d.asked]) ::
  .inl (0, 129, .inl d.now) ::
  .inl (0, 129, .inl d.kept) ::
  .inl (0, 120, .inl d.tape) ::
  .inl (0, 260, .inl d.paper) ::
  .inl (0, 4, .inl d.trayKind) ::
  .inl (0, 4, .inl d.traySize) ::
  .inl (0, 80, .inl d.laid) ::
  .inl (0, 4, .inl d.listSize) ::
  .inl (1, 124, .inr (.inl d.items)) ::
  .inl (2, 651, .inr (.inr (.inr (.inl d.worths)))) ::
  .inl (2, 41, .inr (.inr (.inr (.inl d.chances)))) ::
  .inl (2, 41, .inr (.inr (.inr (.inl d.fewer)))) ::
  .inl (1, 31, .inr (.inl d.grosses)) ::
  .inl (3, 31, .inl d.isGreat) ::
  .inl (1, 41, .inr (.inl d.sets)) ::
  .inl (0, 6, .inl d.had) ::
  .inl (3, 12, .inl d.isGone) ::
  .inl (0, 6, .inl d.read) ::
  .inl (0, 129, .inl d.ahead) :: D
def PL.s_n (c : PL) (x : Nat) : PL := { c with n := x }
def PL.s_rules (c : PL) (x : Nat → Nat) : PL := { c with rules := x }
def PL.s_len (c : PL) (x : Nat → Nat) : PL := { c with len := x }
def PL.s_free (c : PL) (x : Nat → Nat) : PL := { c with free := x }
def PL.s_rts (c : PL) (x : Nat → Option Nat) : PL := { c with rts := x }
def PL.s_rc (c : PL) (x : Nat) : PL := { c with rc := x }
def PL.s_seed (c : PL) (x : Int32) : PL := { c with seed := x }
def PL.s_kind (c : PL) (x : Nat → Nat) : PL := { c with kind := x }
def PL.s_price (c : PL) (x : Nat → Nat) : PL := { c with price := x }
def PL.s_hand (c : PL) (x : Nat → Nat) : PL := { c with hand := x }
def PL.s_odds (c : PL) (x : Nat → Nat → Nat) : PL := { c with odds := x }
def CS.s_pl (c : CS) (x : PL) : CS := { c with pl := x }
def CS.s_pic (c : CS) (x : PL) : CS := { c with pic := x }
def CS.s_pictured (c : CS) (x : Int32) : CS := { c with pictured := x }
def CS.s_made (c : CS) (x : Nat) : CS := { c with made := x }
def CS.s_rows (c : CS) (x : Nat → Nat → UInt64) : CS := { c with rows := x }
def CS.s_nets (c : CS) (x : Nat → UInt64) : CS := { c with nets := x }
def CS.s_wrow (c : CS) (x : Nat → Int64) : CS := { c with wrow := x }
def CS.s_crow (c : CS) (x : Nat → UInt64) : CS := { c with crow := x }
def CS.s_tb (c : CS) (x : Nat → Int32) : CS := { c with tb := x }
def CS.s_tsize (c : CS) (x : Nat) : CS := { c with tsize := x }
def CS.s_tread (c : CS) (x : Nat → Option Nat) : CS := { c with tread := x }
def CS.s_tn (c : CS) (x : Nat) : CS := { c with tn := x }
def CS.s_tat (c : CS) (x : Nat) : CS := { c with tat := x }
def CS.s_tname (c : CS) (x : Int32) : CS := { c with tname := x }
def CS.s_tlegs (c : CS) (x : Int32) : CS := { c with tlegs := x }
def CS.s_tprice (c : CS) (x : Int32) : CS := { c with tprice := x }
def CS.s_twanted (c : CS) (x : Int32) : CS := { c with twanted := x }
def CS.s_pa (c : CS) (x : Nat → Int32) : CS := { c with pa := x }
def CS.s_ph (c : CS) (x : Nat → Int32) : CS := { c with ph := x }
def CS.s_dleft (c : CS) (x : Nat) : CS := { c with dleft := x }
def CS.s_dasked (c : CS) (x : Nat) : CS := { c with dasked := x }
def CS.s_dcount (c : CS) (x : Nat) : CS := { c with dcount := x }
def CS.s_dprices (c : CS) (x : Int32) : CS := { c with dprices := x }
def CS.s_dplaces (c : CS) (x : Int32) : CS := { c with dplaces := x }
def CS.s_pgv (c : CS) (x : Nat) : CS := { c with pgv := x }
def CS.s_pgcd (c : CS) (x : Int32) : CS := { c with pgcd := x }
def CS.s_pg2 (c : CS) (x : Int32) : CS := { c with pg2 := x }
def CS.s_pgc (c : CS) (x : Nat) : CS := { c with pgc := x }
def CS.s_pg0 (c : CS) (x : Nat → Int32) : CS := { c with pg0 := x }
def CS.s_tk (c : CS) (x : Nat → Nat) : CS := { c with tk := x }
def CS.s_tsz (c : CS) (x : Nat → Int32) : CS := { c with tsz := x }
def CS.s_tpl (c : CS) (x : Nat → Nat → Int32) : CS := { c with tpl := x }
def CS.s_li (c : CS) (x : Nat → Nat → Int64) : CS := { c with li := x }
def CS.s_ls (c : CS) (x : Nat → Int32) : CS := { c with ls := x }
def MS.s_now (c : MS) (x : Nat → Int32) : MS := { c with now := x }
def MS.s_kept (c : MS) (x : Nat → Int32) : MS := { c with kept := x }
def MS.s_hasImage (c : MS) (x : Int32) : MS := { c with hasImage := x }
def MS.s_taped (c : MS) (x : Int32) : MS := { c with taped := x }
def MS.s_tape (c : MS) (x : Nat → Int32) : MS := { c with tape := x }
def MS.s_written (c : MS) (x : Int32) : MS := { c with written := x }
def MS.s_paper (c : MS) (x : Nat → Int32) : MS := { c with paper := x }
def MS.s_trayKind (c : MS) (x : Nat → Int32) : MS := { c with trayKind := x }
def MS.s_traySize (c : MS) (x : Nat → Int32) : MS := { c with traySize := x }
def MS.s_laid (c : MS) (x : Nat → Int32) : MS := { c with laid := x }
def MS.s_listSize (c : MS) (x : Nat → Int32) : MS := { c with listSize := x }
def MS.s_items (c : MS) (x : Nat → Int64) : MS := { c with items := x }
def MS.s_worths (c : MS) (x : Nat → UInt64) : MS := { c with worths := x }
def MS.s_chances (c : MS) (x : Nat → UInt64) : MS := { c with chances := x }
def MS.s_fewer (c : MS) (x : Nat → UInt64) : MS := { c with fewer := x }
def MS.s_isOver (c : MS) (x : Int32) : MS := { c with isOver := x }
def MS.s_grosses (c : MS) (x : Nat → Int64) : MS := { c with grosses := x }
def MS.s_isGreat (c : MS) (x : Nat → Int32) : MS := { c with isGreat := x }
def MS.s_sets (c : MS) (x : Nat → Int64) : MS := { c with sets := x }
def MS.s_had (c : MS) (x : Nat → Int32) : MS := { c with had := x }
def MS.s_left (c : MS) (x : Int32) : MS := { c with left := x }
def MS.s_prices (c : MS) (x : Int32) : MS := { c with prices := x }
def MS.s_askers (c : MS) (x : Int32) : MS := { c with askers := x }
def MS.s_isGone (c : MS) (x : Nat → Int32) : MS := { c with isGone := x }
def MS.s_at_ (c : MS) (x : Int32) : MS := { c with at_ := x }
def MS.s_fault (c : MS) (x : Int32) : MS := { c with fault := x }
def MS.s_read (c : MS) (x : Nat → Int32) : MS := { c with read := x }
def MS.s_ahead (c : MS) (x : Nat → Int32) : MS := { c with ahead := x }
def MS.s_asked (c : MS) (x : Int32) : MS := { c with asked := x }
theorem yupn {f : Nat → Nat} {i x : Nat} : va_up (fun i => nI (f i)) i (nI x) = fun j => nI (va_up f i x j) := by
  funext j
  unfold va_up
  split <;> rfl
section
variable {c : CS} {d : MS} {D : mM}
theorem yo_10 : oO (mk c d D) 10 11 = some () := rfl
theorem yr_10_0 : fR (mk c d D) 10 11 0 = some 11 := rfl
theorem yr_10_1 : fR (mk c d D) 10 11 1 = some 30 := rfl
theorem yr_10_2 : fI (mk c d D) 10 11 2 = some c.pictured := rfl
theorem yr_10_3 : fR (mk c d D) 10 11 3 = some 49 := rfl
theorem yr_10_4 : fR (mk c d D) 10 11 4 = some 73 := rfl
theorem yr_10_5 : fR (mk c d D) 10 11 5 = some 75 := rfl
theorem yr_10_6 : fR (mk c d D) 10 11 6 = some 77 := rfl
theorem yr_10_7 : fR (mk c d D) 10 11 7 = some 80 := rfl
theorem yr_10_8 : fR (mk c d D) 10 11 8 = some 83 := rfl
theorem yr_10_9 : fR (mk c d D) 10 11 9 = some 85 := rfl
theorem yr_10_10 : fR (mk c d D) 10 11 10 = some 94 := rfl
theorem yr_10_11 : fR (mk c d D) 10 11 11 = some 99 := rfl
theorem yo_11 : oO (mk c d D) 11 5 = some () := rfl
theorem yr_11_0 : fR (mk c d D) 11 5 0 = some 12 := rfl
theorem yr_11_1 : fI (mk c d D) 11 5 1 = some (nI c.pl.n) := rfl
theorem yr_11_2 : fR (mk c d D) 11 5 2 = some 13 := rfl
theorem yr_11_3 : fR (mk c d D) 11 5 3 = some 14 := rfl
theorem yr_11_4 : fI (mk c d D) 11 5 4 = some c.pl.seed := rfl
theorem yn_12 : aN 5 (mk c d D) 12 = some 6 := rfl
theorem ya_12 {i : Nat} (h : i < 6) : aQ 5 (mk c d D) 12 (nI i) = some (((yfar 18)) i) := by
  have e : aQ 5 (mk c d D) 12 (nI i) = if mOut (nI i) 6 then none else some (((yfar 18)) (nI i).toNatClampNeg) := rfl
  rw [e, if_neg (vp_in_nI h (by decide)), nI_clamp (by omega)]
theorem yn_13 : aN 0 (mk c d D) 13 = some 4 := rfl
theorem ya_13 {i : Nat} (h : i < 4) : aI 0 (mk c d D) 13 (nI i) = some (((fun i => nI (c.pl.rules i))) i) := by
  have e : aI 0 (mk c d D) 13 (nI i) = if mOut (nI i) 4 then none else some (((fun i => nI (c.pl.rules i))) (nI i).toNatClampNeg) := rfl
  rw [e, if_neg (vp_in_nI h (by decide)), nI_clamp (by omega)]
theorem yo_14 : oO (mk c d D) 14 4 = some () := rfl
theorem yr_14_0 : fR (mk c d D) 14 4 0 = some 15 := rfl
theorem yr_14_1 : fR (mk c d D) 14 4 1 = some 16 := rfl
theorem yr_14_2 : fR (mk c d D) 14 4 2 = some 17 := rfl
theorem yr_14_3 : fI (mk c d D) 14 4 3 = some (nI c.pl.rc) := rfl
theorem yn_15 : aN 0 (mk c d D) 15 = some 4 := rfl
theorem ya_15 {i : Nat} (h : i < 4) : aI 0 (mk c d D) 15 (nI i) = some (((fun i => nI (c.pl.len i))) i) := by
  have e : aI 0 (mk c d D) 15 (nI i) = if mOut (nI i) 4 then none else some (((fun i => nI (c.pl.len i))) (nI i).toNatClampNeg) := rfl
  rw [e, if_neg (vp_in_nI h (by decide)), nI_clamp (by omega)]
theorem yn_16 : aN 0 (mk c d D) 16 = some 4 := rfl
theorem ya_16 {i : Nat} (h : i < 4) : aI 0 (mk c d D) 16 (nI i) = some (((fun i => nI (c.pl.free i))) i) := by
  have e : aI 0 (mk c d D) 16 (nI i) = if mOut (nI i) 4 then none else some (((fun i => nI (c.pl.free i))) (nI i).toNatClampNeg) := rfl
  rw [e, if_neg (vp_in_nI h (by decide)), nI_clamp (by omega)]
theorem yn_17 : aN 6 (mk c d D) 17 = some 12 := rfl
theorem ya_17 {i : Nat} (h : i < 12) : aQ 6 (mk c d D) 17 (nI i) = some ((c.pl.rts) i) := by
  have e : aQ 6 (mk c d D) 17 (nI i) = if mOut (nI i) 12 then none else some ((c.pl.rts) (nI i).toNatClampNeg) := rfl
  rw [e, if_neg (vp_in_nI h (by decide)), nI_clamp (by omega)]
theorem yn_19 : aN 0 (mk c d D) 19 = some 4 := rfl
theorem ya_19 {i : Nat} (h : i < 4) : aI 0 (mk c d D) 19 (nI i) = some (((fun i => nI (c.pl.odds 0 i))) i) := by
  have e : aI 0 (mk c d D) 19 (nI i) = if mOut (nI i) 4 then none else some (((fun i => nI (c.pl.odds 0 i))) (nI i).toNatClampNeg) := rfl
  rw [e, if_neg (vp_in_nI h (by decide)), nI_clamp (by omega)]
theorem yn_21 : aN 0 (mk c d D) 21 = some 4 := rfl
theorem ya_21 {i : Nat} (h : i < 4) : aI 0 (mk c d D) 21 (nI i) = some (((fun i => nI (c.pl.odds 1 i))) i) := by
  have e : aI 0 (mk c d D) 21 (nI i) = if mOut (nI i) 4 then none else some (((fun i => nI (c.pl.odds 1 i))) (nI i).toNatClampNeg) := rfl
  rw [e, if_neg (vp_in_nI h (by decide)), nI_clamp (by omega)]
theorem yn_23 : aN 0 (mk c d D) 23 = some 4 := rfl
theorem ya_23 {i : Nat} (h : i < 4) : aI 0 (mk c d D) 23 (nI i) = some (((fun i => nI (c.pl.odds 2 i))) i) := by
  have e : aI 0 (mk c d D) 23 (nI i) = if mOut (nI i) 4 then none else some (((fun i => nI (c.pl.odds 2 i))) (nI i).toNatClampNeg) := rfl
  rw [e, if_neg (vp_in_nI h (by decide)), nI_clamp (by omega)]
theorem yn_25 : aN 0 (mk c d D) 25 = some 4 := rfl
theorem ya_25 {i : Nat} (h : i < 4) : aI 0 (mk c d D) 25 (nI i) = some (((fun i => nI (c.pl.odds 3 i))) i) := by
  have e : aI 0 (mk c d D) 25 (nI i) = if mOut (nI i) 4 then none else some (((fun i => nI (c.pl.odds 3 i))) (nI i).toNatClampNeg) := rfl
  rw [e, if_neg (vp_in_nI h (by decide)), nI_clamp (by omega)]
theorem yn_27 : aN 0 (mk c d D) 27 = some 4 := rfl
theorem ya_27 {i : Nat} (h : i < 4) : aI 0 (mk c d D) 27 (nI i) = some (((fun i => nI (c.pl.odds 4 i))) i) := by
  have e : aI 0 (mk c d D) 27 (nI i) = if mOut (nI i) 4 then none else some (((fun i => nI (c.pl.odds 4 i))) (nI i).toNatClampNeg) := rfl
  rw [e, if_neg (vp_in_nI h (by decide)), nI_clamp (by omega)]
theorem yn_29 : aN 0 (mk c d D) 29 = some 4 := rfl
theorem ya_29 {i : Nat} (h : i < 4) : aI 0 (mk c d D) 29 (nI i) = some (((fun i => nI (c.pl.odds 5 i))) i) := by
  have e : aI 0 (mk c d D) 29 (nI i) = if mOut (nI i) 4 then none else some (((fun i => nI (c.pl.odds 5 i))) (nI i).toNatClampNeg) := rfl
  rw [e, if_neg (vp_in_nI h (by decide)), nI_clamp (by omega)]
theorem yo_30 : oO (mk c d D) 30 5 = some () := rfl
theorem yr_30_0 : fR (mk c d D) 30 5 0 = some 31 := rfl
theorem yr_30_1 : fI (mk c d D) 30 5 1 = some (nI c.pic.n) := rfl
theorem yr_30_2 : fR (mk c d D) 30 5 2 = some 32 := rfl
theorem yr_30_3 : fR (mk c d D) 30 5 3 = some 33 := rfl
theorem yr_30_4 : fI (mk c d D) 30 5 4 = some c.pic.seed := rfl
theorem yn_31 : aN 5 (mk c d D) 31 = some 6 := rfl
theorem ya_31 {i : Nat} (h : i < 6) : aQ 5 (mk c d D) 31 (nI i) = some (((yfar 37)) i) := by
  have e : aQ 5 (mk c d D) 31 (nI i) = if mOut (nI i) 6 then none else some (((yfar 37)) (nI i).toNatClampNeg) := rfl
  rw [e, if_neg (vp_in_nI h (by decide)), nI_clamp (by omega)]
theorem yn_32 : aN 0 (mk c d D) 32 = some 4 := rfl
theorem ya_32 {i : Nat} (h : i < 4) : aI 0 (mk c d D) 32 (nI i) = some (((fun i => nI (c.pic.rules i))) i) := by
  have e : aI 0 (mk c d D) 32 (nI i) = if mOut (nI i) 4 then none else some (((fun i => nI (c.pic.rules i))) (nI i).toNatClampNeg) := rfl
  rw [e, if_neg (vp_in_nI h (by decide)), nI_clamp (by omega)]
theorem yo_33 : oO (mk c d D) 33 4 = some () := rfl
theorem yr_33_0 : fR (mk c d D) 33 4 0 = some 34 := rfl
theorem yr_33_1 : fR (mk c d D) 33 4 1 = some 35 := rfl
theorem yr_33_2 : fR (mk c d D) 33 4 2 = some 36 := rfl
theorem yr_33_3 : fI (mk c d D) 33 4 3 = some (nI c.pic.rc) := rfl
theorem yn_34 : aN 0 (mk c d D) 34 = some 4 := rfl
theorem ya_34 {i : Nat} (h : i < 4) : aI 0 (mk c d D) 34 (nI i) = some (((fun i => nI (c.pic.len i))) i) := by
  have e : aI 0 (mk c d D) 34 (nI i) = if mOut (nI i) 4 then none else some (((fun i => nI (c.pic.len i))) (nI i).toNatClampNeg) := rfl
  rw [e, if_neg (vp_in_nI h (by decide)), nI_clamp (by omega)]
theorem yn_35 : aN 0 (mk c d D) 35 = some 4 := rfl
theorem ya_35 {i : Nat} (h : i < 4) : aI 0 (mk c d D) 35 (nI i) = some (((fun i => nI (c.pic.free i))) i) := by
  have e : aI 0 (mk c d D) 35 (nI i) = if mOut (nI i) 4 then none else some (((fun i => nI (c.pic.free i))) (nI i).toNatClampNeg) := rfl
  rw [e, if_neg (vp_in_nI h (by decide)), nI_clamp (by omega)]
theorem yn_36 : aN 6 (mk c d D) 36 = some 12 := rfl
theorem ya_36 {i : Nat} (h : i < 12) : aQ 6 (mk c d D) 36 (nI i) = some ((c.pic.rts) i) := by
  have e : aQ 6 (mk c d D) 36 (nI i) = if mOut (nI i) 12 then none else some ((c.pic.rts) (nI i).toNatClampNeg) := rfl
  rw [e, if_neg (vp_in_nI h (by decide)), nI_clamp (by omega)]
theorem yn_38 : aN 0 (mk c d D) 38 = some 4 := rfl
theorem ya_38 {i : Nat} (h : i < 4) : aI 0 (mk c d D) 38 (nI i) = some (((fun i => nI (c.pic.odds 0 i))) i) := by
  have e : aI 0 (mk c d D) 38 (nI i) = if mOut (nI i) 4 then none else some (((fun i => nI (c.pic.odds 0 i))) (nI i).toNatClampNeg) := rfl
  rw [e, if_neg (vp_in_nI h (by decide)), nI_clamp (by omega)]
theorem yn_40 : aN 0 (mk c d D) 40 = some 4 := rfl
theorem ya_40 {i : Nat} (h : i < 4) : aI 0 (mk c d D) 40 (nI i) = some (((fun i => nI (c.pic.odds 1 i))) i) := by
  have e : aI 0 (mk c d D) 40 (nI i) = if mOut (nI i) 4 then none else some (((fun i => nI (c.pic.odds 1 i))) (nI i).toNatClampNeg) := rfl
  rw [e, if_neg (vp_in_nI h (by decide)), nI_clamp (by omega)]
theorem yn_42 : aN 0 (mk c d D) 42 = some 4 := rfl
theorem ya_42 {i : Nat} (h : i < 4) : aI 0 (mk c d D) 42 (nI i) = some (((fun i => nI (c.pic.odds 2 i))) i) := by
  have e : aI 0 (mk c d D) 42 (nI i) = if mOut (nI i) 4 then none else some (((fun i => nI (c.pic.odds 2 i))) (nI i).toNatClampNeg) := rfl
  rw [e, if_neg (vp_in_nI h (by decide)), nI_clamp (by omega)]
theorem yn_44 : aN 0 (mk c d D) 44 = some 4 := rfl
theorem ya_44 {i : Nat} (h : i < 4) : aI 0 (mk c d D) 44 (nI i) = some (((fun i => nI (c.pic.odds 3 i))) i) := by
  have e : aI 0 (mk c d D) 44 (nI i) = if mOut (nI i) 4 then none else some (((fun i => nI (c.pic.odds 3 i))) (nI i).toNatClampNeg) := rfl
  rw [e, if_neg (vp_in_nI h (by decide)), nI_clamp (by omega)]
theorem yn_46 : aN 0 (mk c d D) 46 = some 4 := rfl
theorem ya_46 {i : Nat} (h : i < 4) : aI 0 (mk c d D) 46 (nI i) = some (((fun i => nI (c.pic.odds 4 i))) i) := by
  have e : aI 0 (mk c d D) 46 (nI i) = if mOut (nI i) 4 then none else some (((fun i => nI (c.pic.odds 4 i))) (nI i).toNatClampNeg) := rfl
  rw [e, if_neg (vp_in_nI h (by decide)), nI_clamp (by omega)]
theorem yn_48 : aN 0 (mk c d D) 48 = some 4 := rfl
theorem ya_48 {i : Nat} (h : i < 4) : aI 0 (mk c d D) 48 (nI i) = some (((fun i => nI (c.pic.odds 5 i))) i) := by
  have e : aI 0 (mk c d D) 48 (nI i) = if mOut (nI i) 4 then none else some (((fun i => nI (c.pic.odds 5 i))) (nI i).toNatClampNeg) := rfl
  rw [e, if_neg (vp_in_nI h (by decide)), nI_clamp (by omega)]
theorem yo_49 : oO (mk c d D) 49 10 = some () := rfl
theorem yr_49_0 : fR (mk c d D) 49 10 0 = some 11 := rfl
theorem yr_49_1 : fR (mk c d D) 49 10 1 = some 50 := rfl
theorem yr_49_2 : fR (mk c d D) 49 10 2 = some 72 := rfl
theorem yr_49_3 : fI (mk c d D) 49 10 3 = some (nI c.made) := rfl
theorem yn_50 : aN 8 (mk c d D) 50 = some 21 := rfl
theorem ya_50 {i : Nat} (h : i < 21) : aQ 8 (mk c d D) 50 (nI i) = some (((fun i => if i < 21 then some (50 + 1 + i) else none)) i) := by
  have e : aQ 8 (mk c d D) 50 (nI i) = if mOut (nI i) 21 then none else some (((fun i => if i < 21 then some (50 + 1 + i) else none)) (nI i).toNatClampNeg) := rfl
  rw [e, if_neg (vp_in_nI h (by decide)), nI_clamp (by omega)]
theorem yn_51 : aN 2 (mk c d D) 51 = some 31 := rfl
theorem ya_51 {i : Nat} (h : i < 31) : aD (mk c d D) 51 (nI i) = some (((c.rows 0)) i) := by
  have e : aD (mk c d D) 51 (nI i) = if mOut (nI i) 31 then none else some (((c.rows 0)) (nI i).toNatClampNeg) := rfl
  rw [e, if_neg (vp_in_nI h (by decide)), nI_clamp (by omega)]
theorem yn_52 : aN 2 (mk c d D) 52 = some 31 := rfl
theorem ya_52 {i : Nat} (h : i < 31) : aD (mk c d D) 52 (nI i) = some (((c.rows 1)) i) := by
  have e : aD (mk c d D) 52 (nI i) = if mOut (nI i) 31 then none else some (((c.rows 1)) (nI i).toNatClampNeg) := rfl
  rw [e, if_neg (vp_in_nI h (by decide)), nI_clamp (by omega)]
theorem yn_53 : aN 2 (mk c d D) 53 = some 31 := rfl
theorem ya_53 {i : Nat} (h : i < 31) : aD (mk c d D) 53 (nI i) = some (((c.rows 2)) i) := by
  have e : aD (mk c d D) 53 (nI i) = if mOut (nI i) 31 then none else some (((c.rows 2)) (nI i).toNatClampNeg) := rfl
  rw [e, if_neg (vp_in_nI h (by decide)), nI_clamp (by omega)]
theorem yn_54 : aN 2 (mk c d D) 54 = some 31 := rfl
theorem ya_54 {i : Nat} (h : i < 31) : aD (mk c d D) 54 (nI i) = some (((c.rows 3)) i) := by
  have e : aD (mk c d D) 54 (nI i) = if mOut (nI i) 31 then none else some (((c.rows 3)) (nI i).toNatClampNeg) := rfl
  rw [e, if_neg (vp_in_nI h (by decide)), nI_clamp (by omega)]
theorem yn_55 : aN 2 (mk c d D) 55 = some 31 := rfl
theorem ya_55 {i : Nat} (h : i < 31) : aD (mk c d D) 55 (nI i) = some (((c.rows 4)) i) := by
  have e : aD (mk c d D) 55 (nI i) = if mOut (nI i) 31 then none else some (((c.rows 4)) (nI i).toNatClampNeg) := rfl
  rw [e, if_neg (vp_in_nI h (by decide)), nI_clamp (by omega)]
theorem yn_56 : aN 2 (mk c d D) 56 = some 31 := rfl
theorem ya_56 {i : Nat} (h : i < 31) : aD (mk c d D) 56 (nI i) = some (((c.rows 5)) i) := by
  have e : aD (mk c d D) 56 (nI i) = if mOut (nI i) 31 then none else some (((c.rows 5)) (nI i).toNatClampNeg) := rfl
  rw [e, if_neg (vp_in_nI h (by decide)), nI_clamp (by omega)]
theorem yn_57 : aN 2 (mk c d D) 57 = some 31 := rfl
theorem ya_57 {i : Nat} (h : i < 31) : aD (mk c d D) 57 (nI i) = some (((c.rows 6)) i) := by
  have e : aD (mk c d D) 57 (nI i) = if mOut (nI i) 31 then none else some (((c.rows 6)) (nI i).toNatClampNeg) := rfl
  rw [e, if_neg (vp_in_nI h (by decide)), nI_clamp (by omega)]
theorem yn_58 : aN 2 (mk c d D) 58 = some 31 := rfl
theorem ya_58 {i : Nat} (h : i < 31) : aD (mk c d D) 58 (nI i) = some (((c.rows 7)) i) := by
  have e : aD (mk c d D) 58 (nI i) = if mOut (nI i) 31 then none else some (((c.rows 7)) (nI i).toNatClampNeg) := rfl
  rw [e, if_neg (vp_in_nI h (by decide)), nI_clamp (by omega)]
theorem yn_59 : aN 2 (mk c d D) 59 = some 31 := rfl
theorem ya_59 {i : Nat} (h : i < 31) : aD (mk c d D) 59 (nI i) = some (((c.rows 8)) i) := by
  have e : aD (mk c d D) 59 (nI i) = if mOut (nI i) 31 then none else some (((c.rows 8)) (nI i).toNatClampNeg) := rfl
  rw [e, if_neg (vp_in_nI h (by decide)), nI_clamp (by omega)]
theorem yn_60 : aN 2 (mk c d D) 60 = some 31 := rfl
theorem ya_60 {i : Nat} (h : i < 31) : aD (mk c d D) 60 (nI i) = some (((c.rows 9)) i) := by
  have e : aD (mk c d D) 60 (nI i) = if mOut (nI i) 31 then none else some (((c.rows 9)) (nI i).toNatClampNeg) := rfl
  rw [e, if_neg (vp_in_nI h (by decide)), nI_clamp (by omega)]
theorem yn_61 : aN 2 (mk c d D) 61 = some 31 := rfl
theorem ya_61 {i : Nat} (h : i < 31) : aD (mk c d D) 61 (nI i) = some (((c.rows 10)) i) := by
  have e : aD (mk c d D) 61 (nI i) = if mOut (nI i) 31 then none else some (((c.rows 10)) (nI i).toNatClampNeg) := rfl
  rw [e, if_neg (vp_in_nI h (by decide)), nI_clamp (by omega)]
theorem yn_62 : aN 2 (mk c d D) 62 = some 31 := rfl
theorem ya_62 {i : Nat} (h : i < 31) : aD (mk c d D) 62 (nI i) = some (((c.rows 11)) i) := by
  have e : aD (mk c d D) 62 (nI i) = if mOut (nI i) 31 then none else some (((c.rows 11)) (nI i).toNatClampNeg) := rfl
  rw [e, if_neg (vp_in_nI h (by decide)), nI_clamp (by omega)]
theorem yn_63 : aN 2 (mk c d D) 63 = some 31 := rfl
theorem ya_63 {i : Nat} (h : i < 31) : aD (mk c d D) 63 (nI i) = some (((c.rows 12)) i) := by
  have e : aD (mk c d D) 63 (nI i) = if mOut (nI i) 31 then none else some (((c.rows 12)) (nI i).toNatClampNeg) := rfl
  rw [e, if_neg (vp_in_nI h (by decide)), nI_clamp (by omega)]
theorem yn_64 : aN 2 (mk c d D) 64 = some 31 := rfl
theorem ya_64 {i : Nat} (h : i < 31) : aD (mk c d D) 64 (nI i) = some (((c.rows 13)) i) := by
  have e : aD (mk c d D) 64 (nI i) = if mOut (nI i) 31 then none else some (((c.rows 13)) (nI i).toNatClampNeg) := rfl
  rw [e, if_neg (vp_in_nI h (by decide)), nI_clamp (by omega)]
theorem yn_65 : aN 2 (mk c d D) 65 = some 31 := rfl
theorem ya_65 {i : Nat} (h : i < 31) : aD (mk c d D) 65 (nI i) = some (((c.rows 14)) i) := by
  have e : aD (mk c d D) 65 (nI i) = if mOut (nI i) 31 then none else some (((c.rows 14)) (nI i).toNatClampNeg) := rfl
  rw [e, if_neg (vp_in_nI h (by decide)), nI_clamp (by omega)]
theorem yn_66 : aN 2 (mk c d D) 66 = some 31 := rfl
theorem ya_66 {i : Nat} (h : i < 31) : aD (mk c d D) 66 (nI i) = some (((c.rows 15)) i) := by
  have e : aD (mk c d D) 66 (nI i) = if mOut (nI i) 31 then none else some (((c.rows 15)) (nI i).toNatClampNeg) := rfl
  rw [e, if_neg (vp_in_nI h (by decide)), nI_clamp (by omega)]
theorem yn_67 : aN 2 (mk c d D) 67 = some 31 := rfl
theorem ya_67 {i : Nat} (h : i < 31) : aD (mk c d D) 67 (nI i) = some (((c.rows 16)) i) := by
  have e : aD (mk c d D) 67 (nI i) = if mOut (nI i) 31 then none else some (((c.rows 16)) (nI i).toNatClampNeg) := rfl
  rw [e, if_neg (vp_in_nI h (by decide)), nI_clamp (by omega)]
theorem yn_68 : aN 2 (mk c d D) 68 = some 31 := rfl
theorem ya_68 {i : Nat} (h : i < 31) : aD (mk c d D) 68 (nI i) = some (((c.rows 17)) i) := by
  have e : aD (mk c d D) 68 (nI i) = if mOut (nI i) 31 then none else some (((c.rows 17)) (nI i).toNatClampNeg) := rfl
  rw [e, if_neg (vp_in_nI h (by decide)), nI_clamp (by omega)]
theorem yn_69 : aN 2 (mk c d D) 69 = some 31 := rfl
theorem ya_69 {i : Nat} (h : i < 31) : aD (mk c d D) 69 (nI i) = some (((c.rows 18)) i) := by
  have e : aD (mk c d D) 69 (nI i) = if mOut (nI i) 31 then none else some (((c.rows 18)) (nI i).toNatClampNeg) := rfl
  rw [e, if_neg (vp_in_nI h (by decide)), nI_clamp (by omega)]
theorem yn_70 : aN 2 (mk c d D) 70 = some 31 := rfl
theorem ya_70 {i : Nat} (h : i < 31) : aD (mk c d D) 70 (nI i) = some (((c.rows 19)) i) := by
  have e : aD (mk c d D) 70 (nI i) = if mOut (nI i) 31 then none else some (((c.rows 19)) (nI i).toNatClampNeg) := rfl
  rw [e, if_neg (vp_in_nI h (by decide)), nI_clamp (by omega)]
theorem yn_71 : aN 2 (mk c d D) 71 = some 31 := rfl
theorem ya_71 {i : Nat} (h : i < 31) : aD (mk c d D) 71 (nI i) = some (((c.rows 20)) i) := by
  have e : aD (mk c d D) 71 (nI i) = if mOut (nI i) 31 then none else some (((c.rows 20)) (nI i).toNatClampNeg) := rfl
  rw [e, if_neg (vp_in_nI h (by decide)), nI_clamp (by omega)]
theorem yn_72 : aN 2 (mk c d D) 72 = some 6 := rfl
theorem ya_72 {i : Nat} (h : i < 6) : aD (mk c d D) 72 (nI i) = some ((c.nets) i) := by
  have e : aD (mk c d D) 72 (nI i) = if mOut (nI i) 6 then none else some ((c.nets) (nI i).toNatClampNeg) := rfl
  rw [e, if_neg (vp_in_nI h (by decide)), nI_clamp (by omega)]
theorem yo_73 : oO (mk c d D) 73 9 = some () := rfl
theorem yr_73_0 : fR (mk c d D) 73 9 0 = some 11 := rfl
theorem yr_73_1 : fR (mk c d D) 73 9 1 = some 74 := rfl
theorem yn_74 : aN 1 (mk c d D) 74 = some 41 := rfl
theorem ya_74 {i : Nat} (h : i < 41) : aL (mk c d D) 74 (nI i) = some ((c.wrow) i) := by
  have e : aL (mk c d D) 74 (nI i) = if mOut (nI i) 41 then none else some ((c.wrow) (nI i).toNatClampNeg) := rfl
  rw [e, if_neg (vp_in_nI h (by decide)), nI_clamp (by omega)]
theorem yo_75 : oO (mk c d D) 75 1 = some () := rfl
theorem yr_75_0 : fR (mk c d D) 75 1 0 = some 11 := rfl
theorem yr_75_1 : fR (mk c d D) 75 1 1 = some 76 := rfl
theorem yn_76 : aN 2 (mk c d D) 76 = some 41 := rfl
theorem ya_76 {i : Nat} (h : i < 41) : aD (mk c d D) 76 (nI i) = some ((c.crow) i) := by
  have e : aD (mk c d D) 76 (nI i) = if mOut (nI i) 41 then none else some ((c.crow) (nI i).toNatClampNeg) := rfl
  rw [e, if_neg (vp_in_nI h (by decide)), nI_clamp (by omega)]
theorem yo_77 : oO (mk c d D) 77 7 = some () := rfl
theorem yr_77_0 : fR (mk c d D) 77 7 0 = some 78 := rfl
theorem yr_77_1 : fI (mk c d D) 77 7 1 = some (nI c.tsize) := rfl
theorem yr_77_2 : fR (mk c d D) 77 7 2 = some 79 := rfl
theorem yr_77_3 : fI (mk c d D) 77 7 3 = some (nI c.tn) := rfl
theorem yr_77_4 : fI (mk c d D) 77 7 4 = some (nI c.tat) := rfl
theorem yr_77_5 : fI (mk c d D) 77 7 5 = some c.tname := rfl
theorem yr_77_6 : fI (mk c d D) 77 7 6 = some c.tlegs := rfl
theorem yr_77_7 : fI (mk c d D) 77 7 7 = some c.tprice := rfl
theorem yr_77_8 : fI (mk c d D) 77 7 8 = some c.twanted := rfl
theorem yn_78 : aN 0 (mk c d D) 78 = some 120 := rfl
theorem ya_78 {i : Nat} (h : i < 120) : aI 0 (mk c d D) 78 (nI i) = some (c.tb i) := by
  have e : aI 0 (mk c d D) 78 (nI i) = if mOut (nI i) 120 then none else some ((c.tb) (nI i).toNatClampNeg) := rfl
  rw [e, if_neg (vp_in_nI h (by decide)), nI_clamp (by omega)]
theorem yn_79 : aN 6 (mk c d D) 79 = some 12 := rfl
theorem ya_79 {i : Nat} (h : i < 12) : aQ 6 (mk c d D) 79 (nI i) = some ((c.tread) i) := by
  have e : aQ 6 (mk c d D) 79 (nI i) = if mOut (nI i) 12 then none else some ((c.tread) (nI i).toNatClampNeg) := rfl
  rw [e, if_neg (vp_in_nI h (by decide)), nI_clamp (by omega)]
theorem yo_80 : oO (mk c d D) 80 2 = some () := rfl
theorem yr_80_0 : fR (mk c d D) 80 2 0 = some 11 := rfl
theorem yr_80_1 : fR (mk c d D) 80 2 1 = some 49 := rfl
theorem yr_80_2 : fR (mk c d D) 80 2 2 = some 81 := rfl
theorem yr_80_3 : fR (mk c d D) 80 2 3 = some 82 := rfl
theorem yr_80_4 : fI (mk c d D) 80 2 4 = some (nI c.dleft) := rfl
theorem yr_80_5 : fI (mk c d D) 80 2 5 = some (nI c.dasked) := rfl
theorem yr_80_6 : fI (mk c d D) 80 2 6 = some (nI c.dcount) := rfl
theorem yr_80_7 : fI (mk c d D) 80 2 7 = some c.dprices := rfl
theorem yr_80_8 : fI (mk c d D) 80 2 8 = some c.dplaces := rfl
theorem yn_81 : aN 0 (mk c d D) 81 = some 20 := rfl
theorem ya_81 {i : Nat} (h : i < 20) : aI 0 (mk c d D) 81 (nI i) = some (c.pa i) := by
  have e : aI 0 (mk c d D) 81 (nI i) = if mOut (nI i) 20 then none else some ((c.pa) (nI i).toNatClampNeg) := rfl
  rw [e, if_neg (vp_in_nI h (by decide)), nI_clamp (by omega)]
theorem yn_82 : aN 0 (mk c d D) 82 = some 20 := rfl
theorem ya_82 {i : Nat} (h : i < 20) : aI 0 (mk c d D) 82 (nI i) = some (c.ph i) := by
  have e : aI 0 (mk c d D) 82 (nI i) = if mOut (nI i) 20 then none else some ((c.ph) (nI i).toNatClampNeg) := rfl
  rw [e, if_neg (vp_in_nI h (by decide)), nI_clamp (by omega)]
theorem yo_83 : oO (mk c d D) 83 0 = some () := rfl
theorem yr_83_0 : fR (mk c d D) 83 0 0 = some c.pgv := rfl
theorem yr_83_1 : fI (mk c d D) 83 0 1 = some c.pgcd := rfl
theorem yr_83_2 : fI (mk c d D) 83 0 2 = some c.pg2 := rfl
theorem yr_83_3 : fI (mk c d D) 83 0 3 = some (nI c.pgc) := rfl
theorem yn_84 : aN 4 (mk c d D) 84 = some 16 := rfl
theorem ya_84 {i : Nat} (h : i < 16) : aI 4 (mk c d D) 84 (nI i) = some (c.pg0 i) := by
  have e : aI 4 (mk c d D) 84 (nI i) = if mOut (nI i) 16 then none else some ((c.pg0) (nI i).toNatClampNeg) := rfl
  rw [e, if_neg (vp_in_nI h (by decide)), nI_clamp (by omega)]
theorem yn_85 : aN 7 (mk c d D) 85 = some 4 := rfl
theorem ya_85 {i : Nat} (h : i < 4) : aQ 7 (mk c d D) 85 (nI i) = some ((ytar) i) := by
  have e : aQ 7 (mk c d D) 85 (nI i) = if mOut (nI i) 4 then none else some ((ytar) (nI i).toNatClampNeg) := rfl
  rw [e, if_neg (vp_in_nI h (by decide)), nI_clamp (by omega)]
theorem yn_87 : aN 0 (mk c d D) 87 = some 20 := rfl
theorem ya_87 {i : Nat} (h : i < 20) : aI 0 (mk c d D) 87 (nI i) = some ((c.tpl 0) i) := by
  have e : aI 0 (mk c d D) 87 (nI i) = if mOut (nI i) 20 then none else some (((c.tpl 0)) (nI i).toNatClampNeg) := rfl
  rw [e, if_neg (vp_in_nI h (by decide)), nI_clamp (by omega)]
theorem yn_89 : aN 0 (mk c d D) 89 = some 20 := rfl
theorem ya_89 {i : Nat} (h : i < 20) : aI 0 (mk c d D) 89 (nI i) = some ((c.tpl 1) i) := by
  have e : aI 0 (mk c d D) 89 (nI i) = if mOut (nI i) 20 then none else some (((c.tpl 1)) (nI i).toNatClampNeg) := rfl
  rw [e, if_neg (vp_in_nI h (by decide)), nI_clamp (by omega)]
theorem yn_91 : aN 0 (mk c d D) 91 = some 20 := rfl
theorem ya_91 {i : Nat} (h : i < 20) : aI 0 (mk c d D) 91 (nI i) = some ((c.tpl 2) i) := by
  have e : aI 0 (mk c d D) 91 (nI i) = if mOut (nI i) 20 then none else some (((c.tpl 2)) (nI i).toNatClampNeg) := rfl
  rw [e, if_neg (vp_in_nI h (by decide)), nI_clamp (by omega)]
theorem yn_93 : aN 0 (mk c d D) 93 = some 20 := rfl
theorem ya_93 {i : Nat} (h : i < 20) : aI 0 (mk c d D) 93 (nI i) = some ((c.tpl 3) i) := by
  have e : aI 0 (mk c d D) 93 (nI i) = if mOut (nI i) 20 then none else some (((c.tpl 3)) (nI i).toNatClampNeg) := rfl
  rw [e, if_neg (vp_in_nI h (by decide)), nI_clamp (by omega)]
theorem yn_94 : aN 9 (mk c d D) 94 = some 4 := rfl
theorem ya_94 {i : Nat} (h : i < 4) : aQ 9 (mk c d D) 94 (nI i) = some (((fun i => if i < 4 then some (94 + 1 + i) else none)) i) := by
  have e : aQ 9 (mk c d D) 94 (nI i) = if mOut (nI i) 4 then none else some (((fun i => if i < 4 then some (94 + 1 + i) else none)) (nI i).toNatClampNeg) := rfl
  rw [e, if_neg (vp_in_nI h (by decide)), nI_clamp (by omega)]
theorem yn_95 : aN 1 (mk c d D) 95 = some 31 := rfl
theorem ya_95 {i : Nat} (h : i < 31) : aL (mk c d D) 95 (nI i) = some (((c.li 0)) i) := by
  have e : aL (mk c d D) 95 (nI i) = if mOut (nI i) 31 then none else some (((c.li 0)) (nI i).toNatClampNeg) := rfl
  rw [e, if_neg (vp_in_nI h (by decide)), nI_clamp (by omega)]
theorem yn_96 : aN 1 (mk c d D) 96 = some 31 := rfl
theorem ya_96 {i : Nat} (h : i < 31) : aL (mk c d D) 96 (nI i) = some (((c.li 1)) i) := by
  have e : aL (mk c d D) 96 (nI i) = if mOut (nI i) 31 then none else some (((c.li 1)) (nI i).toNatClampNeg) := rfl
  rw [e, if_neg (vp_in_nI h (by decide)), nI_clamp (by omega)]
theorem yn_97 : aN 1 (mk c d D) 97 = some 31 := rfl
theorem ya_97 {i : Nat} (h : i < 31) : aL (mk c d D) 97 (nI i) = some (((c.li 2)) i) := by
  have e : aL (mk c d D) 97 (nI i) = if mOut (nI i) 31 then none else some (((c.li 2)) (nI i).toNatClampNeg) := rfl
  rw [e, if_neg (vp_in_nI h (by decide)), nI_clamp (by omega)]
theorem yn_98 : aN 1 (mk c d D) 98 = some 31 := rfl
theorem ya_98 {i : Nat} (h : i < 31) : aL (mk c d D) 98 (nI i) = some (((c.li 3)) i) := by
  have e : aL (mk c d D) 98 (nI i) = if mOut (nI i) 31 then none else some (((c.li 3)) (nI i).toNatClampNeg) := rfl
  rw [e, if_neg (vp_in_nI h (by decide)), nI_clamp (by omega)]
theorem yn_99 : aN 0 (mk c d D) 99 = some 4 := rfl
theorem ya_99 {i : Nat} (h : i < 4) : aI 0 (mk c d D) 99 (nI i) = some (c.ls i) := by
  have e : aI 0 (mk c d D) 99 (nI i) = if mOut (nI i) 4 then none else some ((c.ls) (nI i).toNatClampNeg) := rfl
  rw [e, if_neg (vp_in_nI h (by decide)), nI_clamp (by omega)]
theorem yo_100 : oO (mk c d D) 100 12 = some () := rfl
theorem yr_100_0 : fR (mk c d D) 100 12 0 = some 101 := rfl
theorem yr_100_1 : fR (mk c d D) 100 12 1 = some 102 := rfl
theorem yr_100_2 : fI (mk c d D) 100 12 2 = some d.hasImage := rfl
theorem yr_100_3 : fI (mk c d D) 100 12 3 = some d.taped := rfl
theorem yr_100_4 : fR (mk c d D) 100 12 4 = some 103 := rfl
theorem yr_100_5 : fI (mk c d D) 100 12 5 = some d.written := rfl
theorem yr_100_6 : fR (mk c d D) 100 12 6 = some 104 := rfl
theorem yr_100_7 : fR (mk c d D) 100 12 7 = some 105 := rfl
theorem yr_100_8 : fR (mk c d D) 100 12 8 = some 106 := rfl
theorem yr_100_9 : fR (mk c d D) 100 12 9 = some 107 := rfl
theorem yr_100_10 : fR (mk c d D) 100 12 10 = some 108 := rfl
theorem yr_100_11 : fR (mk c d D) 100 12 11 = some 109 := rfl
theorem yr_100_12 : fR (mk c d D) 100 12 12 = some 110 := rfl
theorem yr_100_13 : fR (mk c d D) 100 12 13 = some 111 := rfl
theorem yr_100_14 : fR (mk c d D) 100 12 14 = some 112 := rfl
theorem yr_100_15 : fI (mk c d D) 100 12 15 = some d.isOver := rfl
theorem yr_100_16 : fR (mk c d D) 100 12 16 = some 113 := rfl
theorem yr_100_17 : fR (mk c d D) 100 12 17 = some 114 := rfl
theorem yr_100_18 : fR (mk c d D) 100 12 18 = some 115 := rfl
theorem yr_100_19 : fR (mk c d D) 100 12 19 = some 116 := rfl
theorem yr_100_20 : fI (mk c d D) 100 12 20 = some d.left := rfl
theorem yr_100_21 : fI (mk c d D) 100 12 21 = some d.prices := rfl
theorem yr_100_22 : fI (mk c d D) 100 12 22 = some d.askers := rfl
theorem yr_100_23 : fR (mk c d D) 100 12 23 = some 117 := rfl
theorem yr_100_24 : fI (mk c d D) 100 12 24 = some d.at_ := rfl
theorem yr_100_25 : fI (mk c d D) 100 12 25 = some d.fault := rfl
theorem yr_100_26 : fR (mk c d D) 100 12 26 = some 118 := rfl
theorem yr_100_27 : fR (mk c d D) 100 12 27 = some 119 := rfl
theorem yr_100_28 : fI (mk c d D) 100 12 28 = some d.asked := rfl
theorem yn_101 : aN 0 (mk c d D) 101 = some 129 := rfl
theorem ya_101 {i : Nat} (h : i < 129) : aI 0 (mk c d D) 101 (nI i) = some (d.now i) := by
  have e : aI 0 (mk c d D) 101 (nI i) = if mOut (nI i) 129 then none else some ((d.now) (nI i).toNatClampNeg) := rfl
  rw [e, if_neg (vp_in_nI h (by decide)), nI_clamp (by omega)]
theorem yn_102 : aN 0 (mk c d D) 102 = some 129 := rfl
theorem ya_102 {i : Nat} (h : i < 129) : aI 0 (mk c d D) 102 (nI i) = some (d.kept i) := by
  have e : aI 0 (mk c d D) 102 (nI i) = if mOut (nI i) 129 then none else some ((d.kept) (nI i).toNatClampNeg) := rfl
  rw [e, if_neg (vp_in_nI h (by decide)), nI_clamp (by omega)]
theorem yn_103 : aN 0 (mk c d D) 103 = some 120 := rfl
theorem ya_103 {i : Nat} (h : i < 120) : aI 0 (mk c d D) 103 (nI i) = some (d.tape i) := by
  have e : aI 0 (mk c d D) 103 (nI i) = if mOut (nI i) 120 then none else some ((d.tape) (nI i).toNatClampNeg) := rfl
  rw [e, if_neg (vp_in_nI h (by decide)), nI_clamp (by omega)]
theorem yn_104 : aN 0 (mk c d D) 104 = some 260 := rfl
theorem ya_104 {i : Nat} (h : i < 260) : aI 0 (mk c d D) 104 (nI i) = some (d.paper i) := by
  have e : aI 0 (mk c d D) 104 (nI i) = if mOut (nI i) 260 then none else some ((d.paper) (nI i).toNatClampNeg) := rfl
  rw [e, if_neg (vp_in_nI h (by decide)), nI_clamp (by omega)]
theorem yn_105 : aN 0 (mk c d D) 105 = some 4 := rfl
theorem ya_105 {i : Nat} (h : i < 4) : aI 0 (mk c d D) 105 (nI i) = some (d.trayKind i) := by
  have e : aI 0 (mk c d D) 105 (nI i) = if mOut (nI i) 4 then none else some ((d.trayKind) (nI i).toNatClampNeg) := rfl
  rw [e, if_neg (vp_in_nI h (by decide)), nI_clamp (by omega)]
theorem yn_106 : aN 0 (mk c d D) 106 = some 4 := rfl
theorem ya_106 {i : Nat} (h : i < 4) : aI 0 (mk c d D) 106 (nI i) = some (d.traySize i) := by
  have e : aI 0 (mk c d D) 106 (nI i) = if mOut (nI i) 4 then none else some ((d.traySize) (nI i).toNatClampNeg) := rfl
  rw [e, if_neg (vp_in_nI h (by decide)), nI_clamp (by omega)]
theorem yn_107 : aN 0 (mk c d D) 107 = some 80 := rfl
theorem ya_107 {i : Nat} (h : i < 80) : aI 0 (mk c d D) 107 (nI i) = some (d.laid i) := by
  have e : aI 0 (mk c d D) 107 (nI i) = if mOut (nI i) 80 then none else some ((d.laid) (nI i).toNatClampNeg) := rfl
  rw [e, if_neg (vp_in_nI h (by decide)), nI_clamp (by omega)]
theorem yn_108 : aN 0 (mk c d D) 108 = some 4 := rfl
theorem ya_108 {i : Nat} (h : i < 4) : aI 0 (mk c d D) 108 (nI i) = some (d.listSize i) := by
  have e : aI 0 (mk c d D) 108 (nI i) = if mOut (nI i) 4 then none else some ((d.listSize) (nI i).toNatClampNeg) := rfl
  rw [e, if_neg (vp_in_nI h (by decide)), nI_clamp (by omega)]
theorem yn_109 : aN 1 (mk c d D) 109 = some 124 := rfl
theorem ya_109 {i : Nat} (h : i < 124) : aL (mk c d D) 109 (nI i) = some ((d.items) i) := by
  have e : aL (mk c d D) 109 (nI i) = if mOut (nI i) 124 then none else some ((d.items) (nI i).toNatClampNeg) := rfl
  rw [e, if_neg (vp_in_nI h (by decide)), nI_clamp (by omega)]
theorem yn_110 : aN 2 (mk c d D) 110 = some 651 := rfl
theorem ya_110 {i : Nat} (h : i < 651) : aD (mk c d D) 110 (nI i) = some ((d.worths) i) := by
  have e : aD (mk c d D) 110 (nI i) = if mOut (nI i) 651 then none else some ((d.worths) (nI i).toNatClampNeg) := rfl
  rw [e, if_neg (vp_in_nI h (by decide)), nI_clamp (by omega)]
theorem yn_111 : aN 2 (mk c d D) 111 = some 41 := rfl
theorem ya_111 {i : Nat} (h : i < 41) : aD (mk c d D) 111 (nI i) = some ((d.chances) i) := by
  have e : aD (mk c d D) 111 (nI i) = if mOut (nI i) 41 then none else some ((d.chances) (nI i).toNatClampNeg) := rfl
  rw [e, if_neg (vp_in_nI h (by decide)), nI_clamp (by omega)]
theorem yn_112 : aN 2 (mk c d D) 112 = some 41 := rfl
theorem ya_112 {i : Nat} (h : i < 41) : aD (mk c d D) 112 (nI i) = some ((d.fewer) i) := by
  have e : aD (mk c d D) 112 (nI i) = if mOut (nI i) 41 then none else some ((d.fewer) (nI i).toNatClampNeg) := rfl
  rw [e, if_neg (vp_in_nI h (by decide)), nI_clamp (by omega)]
theorem yn_113 : aN 1 (mk c d D) 113 = some 31 := rfl
theorem ya_113 {i : Nat} (h : i < 31) : aL (mk c d D) 113 (nI i) = some ((d.grosses) i) := by
  have e : aL (mk c d D) 113 (nI i) = if mOut (nI i) 31 then none else some ((d.grosses) (nI i).toNatClampNeg) := rfl
  rw [e, if_neg (vp_in_nI h (by decide)), nI_clamp (by omega)]
theorem yn_114 : aN 3 (mk c d D) 114 = some 31 := rfl
theorem ya_114 {i : Nat} (h : i < 31) : aI 3 (mk c d D) 114 (nI i) = some (d.isGreat i) := by
  have e : aI 3 (mk c d D) 114 (nI i) = if mOut (nI i) 31 then none else some ((d.isGreat) (nI i).toNatClampNeg) := rfl
  rw [e, if_neg (vp_in_nI h (by decide)), nI_clamp (by omega)]
theorem yn_115 : aN 1 (mk c d D) 115 = some 41 := rfl
theorem ya_115 {i : Nat} (h : i < 41) : aL (mk c d D) 115 (nI i) = some ((d.sets) i) := by
  have e : aL (mk c d D) 115 (nI i) = if mOut (nI i) 41 then none else some ((d.sets) (nI i).toNatClampNeg) := rfl
  rw [e, if_neg (vp_in_nI h (by decide)), nI_clamp (by omega)]
theorem yn_116 : aN 0 (mk c d D) 116 = some 6 := rfl
theorem ya_116 {i : Nat} (h : i < 6) : aI 0 (mk c d D) 116 (nI i) = some (d.had i) := by
  have e : aI 0 (mk c d D) 116 (nI i) = if mOut (nI i) 6 then none else some ((d.had) (nI i).toNatClampNeg) := rfl
  rw [e, if_neg (vp_in_nI h (by decide)), nI_clamp (by omega)]
theorem yn_117 : aN 3 (mk c d D) 117 = some 12 := rfl
theorem ya_117 {i : Nat} (h : i < 12) : aI 3 (mk c d D) 117 (nI i) = some (d.isGone i) := by
  have e : aI 3 (mk c d D) 117 (nI i) = if mOut (nI i) 12 then none else some ((d.isGone) (nI i).toNatClampNeg) := rfl
  rw [e, if_neg (vp_in_nI h (by decide)), nI_clamp (by omega)]
theorem yn_118 : aN 0 (mk c d D) 118 = some 6 := rfl
theorem ya_118 {i : Nat} (h : i < 6) : aI 0 (mk c d D) 118 (nI i) = some (d.read i) := by
  have e : aI 0 (mk c d D) 118 (nI i) = if mOut (nI i) 6 then none else some ((d.read) (nI i).toNatClampNeg) := rfl
  rw [e, if_neg (vp_in_nI h (by decide)), nI_clamp (by omega)]
theorem yn_119 : aN 0 (mk c d D) 119 = some 129 := rfl
theorem ya_119 {i : Nat} (h : i < 129) : aI 0 (mk c d D) 119 (nI i) = some (d.ahead i) := by
  have e : aI 0 (mk c d D) 119 (nI i) = if mOut (nI i) 129 then none else some ((d.ahead) (nI i).toNatClampNeg) := rfl
  rw [e, if_neg (vp_in_nI h (by decide)), nI_clamp (by omega)]
theorem yw_10_2 {x : Int32} : sV (mk c d D) 10 11 2 (.int x) = some (mk (c.s_pictured (x)) d D) := rfl
theorem yw_11_1 {x : Nat} : sV (mk c d D) 11 5 1 (.int (nI x)) = some (mk (c.s_pl (c.pl.s_n (x))) d D) := rfl
theorem yw_11_4 {x : Int32} : sV (mk c d D) 11 5 4 (.int x) = some (mk (c.s_pl (c.pl.s_seed (x))) d D) := rfl
theorem yu_13 {i : Nat} {x : Nat} (h : i < 4) : uI 0 .int (mk c d D) 13 (nI i) (nI x) = some (mk (c.s_pl (c.pl.s_rules (va_up c.pl.rules i x))) d D) := by
  have e : uI 0 .int (mk c d D) 13 (nI i) (nI x) = if mOut (nI i) 4 then none else some ((mk c d D).set 13 (.inl (0, 4, .inl (va_up ((fun i => nI (c.pl.rules i))) (nI i).toNatClampNeg (vp_nar .int (nI x)))))) := rfl
  rw [e, if_neg (vp_in_nI h (by decide)), nI_clamp (by omega), show vp_nar .int (nI x) = nI x from rfl, yupn]
  rfl
theorem yw_14_3 {x : Nat} : sV (mk c d D) 14 4 3 (.int (nI x)) = some (mk (c.s_pl (c.pl.s_rc (x))) d D) := rfl
theorem yu_15 {i : Nat} {x : Nat} (h : i < 4) : uI 0 .int (mk c d D) 15 (nI i) (nI x) = some (mk (c.s_pl (c.pl.s_len (va_up c.pl.len i x))) d D) := by
  have e : uI 0 .int (mk c d D) 15 (nI i) (nI x) = if mOut (nI i) 4 then none else some ((mk c d D).set 15 (.inl (0, 4, .inl (va_up ((fun i => nI (c.pl.len i))) (nI i).toNatClampNeg (vp_nar .int (nI x)))))) := rfl
  rw [e, if_neg (vp_in_nI h (by decide)), nI_clamp (by omega), show vp_nar .int (nI x) = nI x from rfl, yupn]
  rfl
theorem yu_16 {i : Nat} {x : Nat} (h : i < 4) : uI 0 .int (mk c d D) 16 (nI i) (nI x) = some (mk (c.s_pl (c.pl.s_free (va_up c.pl.free i x))) d D) := by
  have e : uI 0 .int (mk c d D) 16 (nI i) (nI x) = if mOut (nI i) 4 then none else some ((mk c d D).set 16 (.inl (0, 4, .inl (va_up ((fun i => nI (c.pl.free i))) (nI i).toNatClampNeg (vp_nar .int (nI x)))))) := rfl
  rw [e, if_neg (vp_in_nI h (by decide)), nI_clamp (by omega), show vp_nar .int (nI x) = nI x from rfl, yupn]
  rfl
theorem yw_30_1 {x : Nat} : sV (mk c d D) 30 5 1 (.int (nI x)) = some (mk (c.s_pic (c.pic.s_n (x))) d D) := rfl
theorem yw_30_4 {x : Int32} : sV (mk c d D) 30 5 4 (.int x) = some (mk (c.s_pic (c.pic.s_seed (x))) d D) := rfl
theorem yu_32 {i : Nat} {x : Nat} (h : i < 4) : uI 0 .int (mk c d D) 32 (nI i) (nI x) = some (mk (c.s_pic (c.pic.s_rules (va_up c.pic.rules i x))) d D) := by
  have e : uI 0 .int (mk c d D) 32 (nI i) (nI x) = if mOut (nI i) 4 then none else some ((mk c d D).set 32 (.inl (0, 4, .inl (va_up ((fun i => nI (c.pic.rules i))) (nI i).toNatClampNeg (vp_nar .int (nI x)))))) := rfl
  rw [e, if_neg (vp_in_nI h (by decide)), nI_clamp (by omega), show vp_nar .int (nI x) = nI x from rfl, yupn]
  rfl
theorem yw_33_3 {x : Nat} : sV (mk c d D) 33 4 3 (.int (nI x)) = some (mk (c.s_pic (c.pic.s_rc (x))) d D) := rfl
theorem yu_34 {i : Nat} {x : Nat} (h : i < 4) : uI 0 .int (mk c d D) 34 (nI i) (nI x) = some (mk (c.s_pic (c.pic.s_len (va_up c.pic.len i x))) d D) := by
  have e : uI 0 .int (mk c d D) 34 (nI i) (nI x) = if mOut (nI i) 4 then none else some ((mk c d D).set 34 (.inl (0, 4, .inl (va_up ((fun i => nI (c.pic.len i))) (nI i).toNatClampNeg (vp_nar .int (nI x)))))) := rfl
  rw [e, if_neg (vp_in_nI h (by decide)), nI_clamp (by omega), show vp_nar .int (nI x) = nI x from rfl, yupn]
  rfl
theorem yu_35 {i : Nat} {x : Nat} (h : i < 4) : uI 0 .int (mk c d D) 35 (nI i) (nI x) = some (mk (c.s_pic (c.pic.s_free (va_up c.pic.free i x))) d D) := by
  have e : uI 0 .int (mk c d D) 35 (nI i) (nI x) = if mOut (nI i) 4 then none else some ((mk c d D).set 35 (.inl (0, 4, .inl (va_up ((fun i => nI (c.pic.free i))) (nI i).toNatClampNeg (vp_nar .int (nI x)))))) := rfl
  rw [e, if_neg (vp_in_nI h (by decide)), nI_clamp (by omega), show vp_nar .int (nI x) = nI x from rfl, yupn]
  rfl
theorem yw_49_3 {x : Nat} : sV (mk c d D) 49 10 3 (.int (nI x)) = some (mk (c.s_made (x)) d D) := rfl
theorem yu_72 {i : Nat} {x : UInt64} (h : i < 6) : uD (mk c d D) 72 (nI i) x = some (mk (c.s_nets (va_up c.nets i x)) d D) := by
  have e : uD (mk c d D) 72 (nI i) x = if mOut (nI i) 6 then none else some ((mk c d D).set 72 (.inl (2, 6, .inr (.inr (.inr (.inl (va_up c.nets (nI i).toNatClampNeg x))))))) := rfl
  rw [e, if_neg (vp_in_nI h (by decide)), nI_clamp (by omega)]
  rfl
theorem yu_74 {i : Nat} {x : Int64} (h : i < 41) : uL (mk c d D) 74 (nI i) x = some (mk (c.s_wrow (va_up c.wrow i x)) d D) := by
  have e : uL (mk c d D) 74 (nI i) x = if mOut (nI i) 41 then none else some ((mk c d D).set 74 (.inl (1, 41, .inr (.inl (va_up c.wrow (nI i).toNatClampNeg x))))) := rfl
  rw [e, if_neg (vp_in_nI h (by decide)), nI_clamp (by omega)]
  rfl
theorem yu_76 {i : Nat} {x : UInt64} (h : i < 41) : uD (mk c d D) 76 (nI i) x = some (mk (c.s_crow (va_up c.crow i x)) d D) := by
  have e : uD (mk c d D) 76 (nI i) x = if mOut (nI i) 41 then none else some ((mk c d D).set 76 (.inl (2, 41, .inr (.inr (.inr (.inl (va_up c.crow (nI i).toNatClampNeg x))))))) := rfl
  rw [e, if_neg (vp_in_nI h (by decide)), nI_clamp (by omega)]
  rfl
theorem yw_77_1 {x : Nat} : sV (mk c d D) 77 7 1 (.int (nI x)) = some (mk (c.s_tsize (x)) d D) := rfl
theorem yw_77_3 {x : Nat} : sV (mk c d D) 77 7 3 (.int (nI x)) = some (mk (c.s_tn (x)) d D) := rfl
theorem yw_77_4 {x : Nat} : sV (mk c d D) 77 7 4 (.int (nI x)) = some (mk (c.s_tat (x)) d D) := rfl
theorem yw_77_5 {x : Int32} : sV (mk c d D) 77 7 5 (.int x) = some (mk (c.s_tname (x)) d D) := rfl
theorem yw_77_6 {x : Int32} : sV (mk c d D) 77 7 6 (.int x) = some (mk (c.s_tlegs (x)) d D) := rfl
theorem yw_77_7 {x : Int32} : sV (mk c d D) 77 7 7 (.int x) = some (mk (c.s_tprice (x)) d D) := rfl
theorem yw_77_8 {x : Int32} : sV (mk c d D) 77 7 8 (.int x) = some (mk (c.s_twanted (x)) d D) := rfl
theorem yu_78 {i : Nat} {x : Int32} (h : i < 120) : uI 0 .int (mk c d D) 78 (nI i) (x) = some (mk (c.s_tb (va_up c.tb i x)) d D) := by
  have e : uI 0 .int (mk c d D) 78 (nI i) (x) = if mOut (nI i) 120 then none else some ((mk c d D).set 78 (.inl (0, 120, .inl (va_up (c.tb) (nI i).toNatClampNeg (vp_nar .int (x)))))) := rfl
  rw [e, if_neg (vp_in_nI h (by decide)), nI_clamp (by omega)]
  rfl
theorem yw_80_4 {x : Nat} : sV (mk c d D) 80 2 4 (.int (nI x)) = some (mk (c.s_dleft (x)) d D) := rfl
theorem yw_80_5 {x : Nat} : sV (mk c d D) 80 2 5 (.int (nI x)) = some (mk (c.s_dasked (x)) d D) := rfl
theorem yw_80_6 {x : Nat} : sV (mk c d D) 80 2 6 (.int (nI x)) = some (mk (c.s_dcount (x)) d D) := rfl
theorem yw_80_7 {x : Int32} : sV (mk c d D) 80 2 7 (.int x) = some (mk (c.s_dprices (x)) d D) := rfl
theorem yw_80_8 {x : Int32} : sV (mk c d D) 80 2 8 (.int x) = some (mk (c.s_dplaces (x)) d D) := rfl
theorem yu_81 {i : Nat} {x : Int32} (h : i < 20) : uI 0 .int (mk c d D) 81 (nI i) (x) = some (mk (c.s_pa (va_up c.pa i x)) d D) := by
  have e : uI 0 .int (mk c d D) 81 (nI i) (x) = if mOut (nI i) 20 then none else some ((mk c d D).set 81 (.inl (0, 20, .inl (va_up (c.pa) (nI i).toNatClampNeg (vp_nar .int (x)))))) := rfl
  rw [e, if_neg (vp_in_nI h (by decide)), nI_clamp (by omega)]
  rfl
theorem yu_82 {i : Nat} {x : Int32} (h : i < 20) : uI 0 .int (mk c d D) 82 (nI i) (x) = some (mk (c.s_ph (va_up c.ph i x)) d D) := by
  have e : uI 0 .int (mk c d D) 82 (nI i) (x) = if mOut (nI i) 20 then none else some ((mk c d D).set 82 (.inl (0, 20, .inl (va_up (c.ph) (nI i).toNatClampNeg (vp_nar .int (x)))))) := rfl
  rw [e, if_neg (vp_in_nI h (by decide)), nI_clamp (by omega)]
  rfl
theorem yw_83_0 {x : Nat} : sV (mk c d D) 83 0 0 (.ref x) = some (mk (c.s_pgv (x)) d D) := rfl
theorem yw_83_1 {x : Int32} : sV (mk c d D) 83 0 1 (.int x) = some (mk (c.s_pgcd (x)) d D) := rfl
theorem yw_83_2 {x : Int32} : sV (mk c d D) 83 0 2 (.int x) = some (mk (c.s_pg2 (x)) d D) := rfl
theorem yw_83_3 {x : Nat} : sV (mk c d D) 83 0 3 (.int (nI x)) = some (mk (c.s_pgc (x)) d D) := rfl
theorem yu_84 {i : Nat} {x : Int32} (h : i < 16) : uI 4 .byte (mk c d D) 84 (nI i) (x) = some (mk (c.s_pg0 (va_up c.pg0 i (vp_nar .byte x))) d D) := by
  have e : uI 4 .byte (mk c d D) 84 (nI i) (x) = if mOut (nI i) 16 then none else some ((mk c d D).set 84 (.inl (4, 16, .inl (va_up (c.pg0) (nI i).toNatClampNeg (vp_nar .byte (x)))))) := rfl
  rw [e, if_neg (vp_in_nI h (by decide)), nI_clamp (by omega)]
  rfl
theorem yu_99 {i : Nat} {x : Int32} (h : i < 4) : uI 0 .int (mk c d D) 99 (nI i) (x) = some (mk (c.s_ls (va_up c.ls i x)) d D) := by
  have e : uI 0 .int (mk c d D) 99 (nI i) (x) = if mOut (nI i) 4 then none else some ((mk c d D).set 99 (.inl (0, 4, .inl (va_up (c.ls) (nI i).toNatClampNeg (vp_nar .int (x)))))) := rfl
  rw [e, if_neg (vp_in_nI h (by decide)), nI_clamp (by omega)]
  rfl
theorem yw_100_2 {x : Int32} : sV (mk c d D) 100 12 2 (.int x) = some (mk c (d.s_hasImage (x)) D) := rfl
theorem yw_100_3 {x : Int32} : sV (mk c d D) 100 12 3 (.int x) = some (mk c (d.s_taped (x)) D) := rfl
theorem yw_100_5 {x : Int32} : sV (mk c d D) 100 12 5 (.int x) = some (mk c (d.s_written (x)) D) := rfl
theorem yw_100_15 {x : Int32} : sV (mk c d D) 100 12 15 (.int x) = some (mk c (d.s_isOver (x)) D) := rfl
theorem yw_100_20 {x : Int32} : sV (mk c d D) 100 12 20 (.int x) = some (mk c (d.s_left (x)) D) := rfl
theorem yw_100_21 {x : Int32} : sV (mk c d D) 100 12 21 (.int x) = some (mk c (d.s_prices (x)) D) := rfl
theorem yw_100_22 {x : Int32} : sV (mk c d D) 100 12 22 (.int x) = some (mk c (d.s_askers (x)) D) := rfl
theorem yw_100_24 {x : Int32} : sV (mk c d D) 100 12 24 (.int x) = some (mk c (d.s_at_ (x)) D) := rfl
theorem yw_100_25 {x : Int32} : sV (mk c d D) 100 12 25 (.int x) = some (mk c (d.s_fault (x)) D) := rfl
theorem yw_100_28 {x : Int32} : sV (mk c d D) 100 12 28 (.int x) = some (mk c (d.s_asked (x)) D) := rfl
theorem yu_101 {i : Nat} {x : Int32} (h : i < 129) : uI 0 .int (mk c d D) 101 (nI i) (x) = some (mk c (d.s_now (va_up d.now i x)) D) := by
  have e : uI 0 .int (mk c d D) 101 (nI i) (x) = if mOut (nI i) 129 then none else some ((mk c d D).set 101 (.inl (0, 129, .inl (va_up (d.now) (nI i).toNatClampNeg (vp_nar .int (x)))))) := rfl
  rw [e, if_neg (vp_in_nI h (by decide)), nI_clamp (by omega)]
  rfl
theorem yu_102 {i : Nat} {x : Int32} (h : i < 129) : uI 0 .int (mk c d D) 102 (nI i) (x) = some (mk c (d.s_kept (va_up d.kept i x)) D) := by
  have e : uI 0 .int (mk c d D) 102 (nI i) (x) = if mOut (nI i) 129 then none else some ((mk c d D).set 102 (.inl (0, 129, .inl (va_up (d.kept) (nI i).toNatClampNeg (vp_nar .int (x)))))) := rfl
  rw [e, if_neg (vp_in_nI h (by decide)), nI_clamp (by omega)]
  rfl
theorem yu_103 {i : Nat} {x : Int32} (h : i < 120) : uI 0 .int (mk c d D) 103 (nI i) (x) = some (mk c (d.s_tape (va_up d.tape i x)) D) := by
  have e : uI 0 .int (mk c d D) 103 (nI i) (x) = if mOut (nI i) 120 then none else some ((mk c d D).set 103 (.inl (0, 120, .inl (va_up (d.tape) (nI i).toNatClampNeg (vp_nar .int (x)))))) := rfl
  rw [e, if_neg (vp_in_nI h (by decide)), nI_clamp (by omega)]
  rfl
theorem yu_104 {i : Nat} {x : Int32} (h : i < 260) : uI 0 .int (mk c d D) 104 (nI i) (x) = some (mk c (d.s_paper (va_up d.paper i x)) D) := by
  have e : uI 0 .int (mk c d D) 104 (nI i) (x) = if mOut (nI i) 260 then none else some ((mk c d D).set 104 (.inl (0, 260, .inl (va_up (d.paper) (nI i).toNatClampNeg (vp_nar .int (x)))))) := rfl
  rw [e, if_neg (vp_in_nI h (by decide)), nI_clamp (by omega)]
  rfl
theorem yu_105 {i : Nat} {x : Int32} (h : i < 4) : uI 0 .int (mk c d D) 105 (nI i) (x) = some (mk c (d.s_trayKind (va_up d.trayKind i x)) D) := by
  have e : uI 0 .int (mk c d D) 105 (nI i) (x) = if mOut (nI i) 4 then none else some ((mk c d D).set 105 (.inl (0, 4, .inl (va_up (d.trayKind) (nI i).toNatClampNeg (vp_nar .int (x)))))) := rfl
  rw [e, if_neg (vp_in_nI h (by decide)), nI_clamp (by omega)]
  rfl
theorem yu_106 {i : Nat} {x : Int32} (h : i < 4) : uI 0 .int (mk c d D) 106 (nI i) (x) = some (mk c (d.s_traySize (va_up d.traySize i x)) D) := by
  have e : uI 0 .int (mk c d D) 106 (nI i) (x) = if mOut (nI i) 4 then none else some ((mk c d D).set 106 (.inl (0, 4, .inl (va_up (d.traySize) (nI i).toNatClampNeg (vp_nar .int (x)))))) := rfl
  rw [e, if_neg (vp_in_nI h (by decide)), nI_clamp (by omega)]
  rfl
theorem yu_107 {i : Nat} {x : Int32} (h : i < 80) : uI 0 .int (mk c d D) 107 (nI i) (x) = some (mk c (d.s_laid (va_up d.laid i x)) D) := by
  have e : uI 0 .int (mk c d D) 107 (nI i) (x) = if mOut (nI i) 80 then none else some ((mk c d D).set 107 (.inl (0, 80, .inl (va_up (d.laid) (nI i).toNatClampNeg (vp_nar .int (x)))))) := rfl
  rw [e, if_neg (vp_in_nI h (by decide)), nI_clamp (by omega)]
  rfl
theorem yu_108 {i : Nat} {x : Int32} (h : i < 4) : uI 0 .int (mk c d D) 108 (nI i) (x) = some (mk c (d.s_listSize (va_up d.listSize i x)) D) := by
  have e : uI 0 .int (mk c d D) 108 (nI i) (x) = if mOut (nI i) 4 then none else some ((mk c d D).set 108 (.inl (0, 4, .inl (va_up (d.listSize) (nI i).toNatClampNeg (vp_nar .int (x)))))) := rfl
  rw [e, if_neg (vp_in_nI h (by decide)), nI_clamp (by omega)]
  rfl
theorem yu_109 {i : Nat} {x : Int64} (h : i < 124) : uL (mk c d D) 109 (nI i) x = some (mk c (d.s_items (va_up d.items i x)) D) := by
  have e : uL (mk c d D) 109 (nI i) x = if mOut (nI i) 124 then none else some ((mk c d D).set 109 (.inl (1, 124, .inr (.inl (va_up d.items (nI i).toNatClampNeg x))))) := rfl
  rw [e, if_neg (vp_in_nI h (by decide)), nI_clamp (by omega)]
  rfl
theorem yu_110 {i : Nat} {x : UInt64} (h : i < 651) : uD (mk c d D) 110 (nI i) x = some (mk c (d.s_worths (va_up d.worths i x)) D) := by
  have e : uD (mk c d D) 110 (nI i) x = if mOut (nI i) 651 then none else some ((mk c d D).set 110 (.inl (2, 651, .inr (.inr (.inr (.inl (va_up d.worths (nI i).toNatClampNeg x))))))) := rfl
  rw [e, if_neg (vp_in_nI h (by decide)), nI_clamp (by omega)]
  rfl
theorem yu_111 {i : Nat} {x : UInt64} (h : i < 41) : uD (mk c d D) 111 (nI i) x = some (mk c (d.s_chances (va_up d.chances i x)) D) := by
  have e : uD (mk c d D) 111 (nI i) x = if mOut (nI i) 41 then none else some ((mk c d D).set 111 (.inl (2, 41, .inr (.inr (.inr (.inl (va_up d.chances (nI i).toNatClampNeg x))))))) := rfl
  rw [e, if_neg (vp_in_nI h (by decide)), nI_clamp (by omega)]
  rfl
theorem yu_112 {i : Nat} {x : UInt64} (h : i < 41) : uD (mk c d D) 112 (nI i) x = some (mk c (d.s_fewer (va_up d.fewer i x)) D) := by
  have e : uD (mk c d D) 112 (nI i) x = if mOut (nI i) 41 then none else some ((mk c d D).set 112 (.inl (2, 41, .inr (.inr (.inr (.inl (va_up d.fewer (nI i).toNatClampNeg x))))))) := rfl
  rw [e, if_neg (vp_in_nI h (by decide)), nI_clamp (by omega)]
  rfl
theorem yu_113 {i : Nat} {x : Int64} (h : i < 31) : uL (mk c d D) 113 (nI i) x = some (mk c (d.s_grosses (va_up d.grosses i x)) D) := by
  have e : uL (mk c d D) 113 (nI i) x = if mOut (nI i) 31 then none else some ((mk c d D).set 113 (.inl (1, 31, .inr (.inl (va_up d.grosses (nI i).toNatClampNeg x))))) := rfl
  rw [e, if_neg (vp_in_nI h (by decide)), nI_clamp (by omega)]
  rfl
theorem yu_114 {i : Nat} {x : Int32} (h : i < 31) : uI 3 .boolean (mk c d D) 114 (nI i) (x) = some (mk c (d.s_isGreat (va_up d.isGreat i (vp_nar .boolean x))) D) := by
  have e : uI 3 .boolean (mk c d D) 114 (nI i) (x) = if mOut (nI i) 31 then none else some ((mk c d D).set 114 (.inl (3, 31, .inl (va_up (d.isGreat) (nI i).toNatClampNeg (vp_nar .boolean (x)))))) := rfl
  rw [e, if_neg (vp_in_nI h (by decide)), nI_clamp (by omega)]
  rfl
theorem yu_115 {i : Nat} {x : Int64} (h : i < 41) : uL (mk c d D) 115 (nI i) x = some (mk c (d.s_sets (va_up d.sets i x)) D) := by
  have e : uL (mk c d D) 115 (nI i) x = if mOut (nI i) 41 then none else some ((mk c d D).set 115 (.inl (1, 41, .inr (.inl (va_up d.sets (nI i).toNatClampNeg x))))) := rfl
  rw [e, if_neg (vp_in_nI h (by decide)), nI_clamp (by omega)]
  rfl
theorem yu_116 {i : Nat} {x : Int32} (h : i < 6) : uI 0 .int (mk c d D) 116 (nI i) (x) = some (mk c (d.s_had (va_up d.had i x)) D) := by
  have e : uI 0 .int (mk c d D) 116 (nI i) (x) = if mOut (nI i) 6 then none else some ((mk c d D).set 116 (.inl (0, 6, .inl (va_up (d.had) (nI i).toNatClampNeg (vp_nar .int (x)))))) := rfl
  rw [e, if_neg (vp_in_nI h (by decide)), nI_clamp (by omega)]
  rfl
theorem yu_117 {i : Nat} {x : Int32} (h : i < 12) : uI 3 .boolean (mk c d D) 117 (nI i) (x) = some (mk c (d.s_isGone (va_up d.isGone i (vp_nar .boolean x))) D) := by
  have e : uI 3 .boolean (mk c d D) 117 (nI i) (x) = if mOut (nI i) 12 then none else some ((mk c d D).set 117 (.inl (3, 12, .inl (va_up (d.isGone) (nI i).toNatClampNeg (vp_nar .boolean (x)))))) := rfl
  rw [e, if_neg (vp_in_nI h (by decide)), nI_clamp (by omega)]
  rfl
theorem yu_118 {i : Nat} {x : Int32} (h : i < 6) : uI 0 .int (mk c d D) 118 (nI i) (x) = some (mk c (d.s_read (va_up d.read i x)) D) := by
  have e : uI 0 .int (mk c d D) 118 (nI i) (x) = if mOut (nI i) 6 then none else some ((mk c d D).set 118 (.inl (0, 6, .inl (va_up (d.read) (nI i).toNatClampNeg (vp_nar .int (x)))))) := rfl
  rw [e, if_neg (vp_in_nI h (by decide)), nI_clamp (by omega)]
  rfl
theorem yu_119 {i : Nat} {x : Int32} (h : i < 129) : uI 0 .int (mk c d D) 119 (nI i) (x) = some (mk c (d.s_ahead (va_up d.ahead i x)) D) := by
  have e : uI 0 .int (mk c d D) 119 (nI i) (x) = if mOut (nI i) 129 then none else some ((mk c d D).set 119 (.inl (0, 129, .inl (va_up (d.ahead) (nI i).toNatClampNeg (vp_nar .int (x)))))) := rfl
  rw [e, if_neg (vp_in_nI h (by decide)), nI_clamp (by omega)]
  rfl
theorem yfar_R {i : Nat} (h : i < 6) : aR 5 (mk c d D) 12 (nI i) = some (18 + 2 * i) := by
  unfold aR
  rw [ya_12 h]
  exact (match i, h with | 0, _ => rfl | 1, _ => rfl | 2, _ => rfl | 3, _ => rfl | 4, _ => rfl | 5, _ => rfl | k + 6, h => absurd h (by omega) : yfar 18 i = some (18 + 2 * i))
theorem yfo {i : Nat} (h : i < 6) : oO (mk c d D) (18 + 2 * i) 3 = some () :=
  match i, h with
  | 0, _ => rfl
  | 1, _ => rfl
  | 2, _ => rfl
  | 3, _ => rfl
  | 4, _ => rfl
  | 5, _ => rfl
  | k + 6, h => absurd h (by omega)
theorem yf_0 {i : Nat} (h : i < 6) : fR (mk c d D) (18 + 2 * i) 3 0 = some (c.pl.kind i) :=
  match i, h with
  | 0, _ => rfl
  | 1, _ => rfl
  | 2, _ => rfl
  | 3, _ => rfl
  | 4, _ => rfl
  | 5, _ => rfl
  | k + 6, h => absurd h (by omega)
theorem yfw_0 {i x : Nat} (h : i < 6) : sV (mk c d D) (18 + 2 * i) 3 0 (.ref x) = some (mk (c.s_pl (c.pl.s_kind (va_up c.pl.kind i x))) d D) :=
  match i, h with
  | 0, _ => rfl
  | 1, _ => rfl
  | 2, _ => rfl
  | 3, _ => rfl
  | 4, _ => rfl
  | 5, _ => rfl
  | k + 6, h => absurd h (by omega)
theorem yf_1 {i : Nat} (h : i < 6) : fI (mk c d D) (18 + 2 * i) 3 1 = some (nI (c.pl.price i)) :=
  match i, h with
  | 0, _ => rfl
  | 1, _ => rfl
  | 2, _ => rfl
  | 3, _ => rfl
  | 4, _ => rfl
  | 5, _ => rfl
  | k + 6, h => absurd h (by omega)
theorem yfw_1 {i x : Nat} (h : i < 6) : sV (mk c d D) (18 + 2 * i) 3 1 (.int (nI x)) = some (mk (c.s_pl (c.pl.s_price (va_up c.pl.price i x))) d D) :=
  match i, h with
  | 0, _ => rfl
  | 1, _ => rfl
  | 2, _ => rfl
  | 3, _ => rfl
  | 4, _ => rfl
  | 5, _ => rfl
  | k + 6, h => absurd h (by omega)
theorem yf_2 {i : Nat} (h : i < 6) : fI (mk c d D) (18 + 2 * i) 3 2 = some (nI (c.pl.hand i)) :=
  match i, h with
  | 0, _ => rfl
  | 1, _ => rfl
  | 2, _ => rfl
  | 3, _ => rfl
  | 4, _ => rfl
  | 5, _ => rfl
  | k + 6, h => absurd h (by omega)
theorem yfw_2 {i x : Nat} (h : i < 6) : sV (mk c d D) (18 + 2 * i) 3 2 (.int (nI x)) = some (mk (c.s_pl (c.pl.s_hand (va_up c.pl.hand i x))) d D) :=
  match i, h with
  | 0, _ => rfl
  | 1, _ => rfl
  | 2, _ => rfl
  | 3, _ => rfl
  | 4, _ => rfl
  | 5, _ => rfl
  | k + 6, h => absurd h (by omega)
theorem yf_3 {i : Nat} (h : i < 6) : fR (mk c d D) (18 + 2 * i) 3 3 = some (19 + 2 * i) :=
  match i, h with
  | 0, _ => rfl
  | 1, _ => rfl
  | 2, _ => rfl
  | 3, _ => rfl
  | 4, _ => rfl
  | 5, _ => rfl
  | k + 6, h => absurd h (by omega)
theorem yfon {i : Nat} (h : i < 6) : aN 0 (mk c d D) (19 + 2 * i) = some 4 :=
  match i, h with
  | 0, _ => rfl
  | 1, _ => rfl
  | 2, _ => rfl
  | 3, _ => rfl
  | 4, _ => rfl
  | 5, _ => rfl
  | k + 6, h => absurd h (by omega)
theorem yfc {i : Nat} (h : i < 6) : (mk c d D)[19 + 2 * i]? = some (.inl (0, 4, .inl (fun j => nI (c.pl.odds i j)))) :=
  match i, h with
  | 0, _ => rfl
  | 1, _ => rfl
  | 2, _ => rfl
  | 3, _ => rfl
  | 4, _ => rfl
  | 5, _ => rfl
  | k + 6, h => absurd h (by omega)
theorem yfoa {i j : Nat} (h : i < 6) (hj : j < 4) : aI 0 (mk c d D) (19 + 2 * i) (nI j) = some (nI (c.pl.odds i j)) := by
  unfold aI
  rw [yfc h]
  simp only [if_true]
  rw [if_neg (vp_in_nI hj (by decide)), nI_clamp (by omega)]
theorem yfos {i : Nat} {f : Nat → Nat} (h : i < 6) : (mk c d D).set (19 + 2 * i) (.inl (0, 4, .inl (fun j => nI (f j)))) = mk (c.s_pl (c.pl.s_odds (va_up c.pl.odds i f))) d D :=
  match i, h with
  | 0, _ => rfl
  | 1, _ => rfl
  | 2, _ => rfl
  | 3, _ => rfl
  | 4, _ => rfl
  | 5, _ => rfl
  | k + 6, h => absurd h (by omega)
theorem yfou {i j x : Nat} (h : i < 6) (hj : j < 4) : uI 0 .int (mk c d D) (19 + 2 * i) (nI j) (nI x) = some (mk (c.s_pl (c.pl.s_odds (va_up c.pl.odds i (va_up (c.pl.odds i) j x)))) d D) := by
  unfold uI
  rw [yfc h]
  simp only [if_true]
  rw [if_neg (vp_in_nI hj (by decide)), nI_clamp (by omega), show vp_nar .int (nI x) = nI x from rfl, yupn, yfos h]
theorem yfarq_R {i : Nat} (h : i < 6) : aR 5 (mk c d D) 31 (nI i) = some (37 + 2 * i) := by
  unfold aR
  rw [ya_31 h]
  exact (match i, h with | 0, _ => rfl | 1, _ => rfl | 2, _ => rfl | 3, _ => rfl | 4, _ => rfl | 5, _ => rfl | k + 6, h => absurd h (by omega) : yfar 37 i = some (37 + 2 * i))
theorem yfoq {i : Nat} (h : i < 6) : oO (mk c d D) (37 + 2 * i) 3 = some () :=
  match i, h with
  | 0, _ => rfl
  | 1, _ => rfl
  | 2, _ => rfl
  | 3, _ => rfl
  | 4, _ => rfl
  | 5, _ => rfl
  | k + 6, h => absurd h (by omega)
theorem yfq_0 {i : Nat} (h : i < 6) : fR (mk c d D) (37 + 2 * i) 3 0 = some (c.pic.kind i) :=
  match i, h with
  | 0, _ => rfl
  | 1, _ => rfl
  | 2, _ => rfl
  | 3, _ => rfl
  | 4, _ => rfl
  | 5, _ => rfl
  | k + 6, h => absurd h (by omega)
theorem yfwq_0 {i x : Nat} (h : i < 6) : sV (mk c d D) (37 + 2 * i) 3 0 (.ref x) = some (mk (c.s_pic (c.pic.s_kind (va_up c.pic.kind i x))) d D) :=
  match i, h with
  | 0, _ => rfl
  | 1, _ => rfl
  | 2, _ => rfl
  | 3, _ => rfl
  | 4, _ => rfl
  | 5, _ => rfl
  | k + 6, h => absurd h (by omega)
theorem yfq_1 {i : Nat} (h : i < 6) : fI (mk c d D) (37 + 2 * i) 3 1 = some (nI (c.pic.price i)) :=
  match i, h with
  | 0, _ => rfl
  | 1, _ => rfl
  | 2, _ => rfl
  | 3, _ => rfl
  | 4, _ => rfl
  | 5, _ => rfl
  | k + 6, h => absurd h (by omega)
theorem yfwq_1 {i x : Nat} (h : i < 6) : sV (mk c d D) (37 + 2 * i) 3 1 (.int (nI x)) = some (mk (c.s_pic (c.pic.s_price (va_up c.pic.price i x))) d D) :=
  match i, h with
  | 0, _ => rfl
  | 1, _ => rfl
  | 2, _ => rfl
  | 3, _ => rfl
  | 4, _ => rfl
  | 5, _ => rfl
  | k + 6, h => absurd h (by omega)
theorem yfq_2 {i : Nat} (h : i < 6) : fI (mk c d D) (37 + 2 * i) 3 2 = some (nI (c.pic.hand i)) :=
  match i, h with
  | 0, _ => rfl
  | 1, _ => rfl
  | 2, _ => rfl
  | 3, _ => rfl
  | 4, _ => rfl
  | 5, _ => rfl
  | k + 6, h => absurd h (by omega)
theorem yfwq_2 {i x : Nat} (h : i < 6) : sV (mk c d D) (37 + 2 * i) 3 2 (.int (nI x)) = some (mk (c.s_pic (c.pic.s_hand (va_up c.pic.hand i x))) d D) :=
  match i, h with
  | 0, _ => rfl
  | 1, _ => rfl
  | 2, _ => rfl
  | 3, _ => rfl
  | 4, _ => rfl
  | 5, _ => rfl
  | k + 6, h => absurd h (by omega)
theorem yfq_3 {i : Nat} (h : i < 6) : fR (mk c d D) (37 + 2 * i) 3 3 = some (38 + 2 * i) :=
  match i, h with
  | 0, _ => rfl
  | 1, _ => rfl
  | 2, _ => rfl
  | 3, _ => rfl
  | 4, _ => rfl
  | 5, _ => rfl
  | k + 6, h => absurd h (by omega)
theorem yfonq {i : Nat} (h : i < 6) : aN 0 (mk c d D) (38 + 2 * i) = some 4 :=
  match i, h with
  | 0, _ => rfl
  | 1, _ => rfl
  | 2, _ => rfl
  | 3, _ => rfl
  | 4, _ => rfl
  | 5, _ => rfl
  | k + 6, h => absurd h (by omega)
theorem yfcq {i : Nat} (h : i < 6) : (mk c d D)[38 + 2 * i]? = some (.inl (0, 4, .inl (fun j => nI (c.pic.odds i j)))) :=
  match i, h with
  | 0, _ => rfl
  | 1, _ => rfl
  | 2, _ => rfl
  | 3, _ => rfl
  | 4, _ => rfl
  | 5, _ => rfl
  | k + 6, h => absurd h (by omega)
theorem yfoaq {i j : Nat} (h : i < 6) (hj : j < 4) : aI 0 (mk c d D) (38 + 2 * i) (nI j) = some (nI (c.pic.odds i j)) := by
  unfold aI
  rw [yfcq h]
  simp only [if_true]
  rw [if_neg (vp_in_nI hj (by decide)), nI_clamp (by omega)]
theorem yfosq {i : Nat} {f : Nat → Nat} (h : i < 6) : (mk c d D).set (38 + 2 * i) (.inl (0, 4, .inl (fun j => nI (f j)))) = mk (c.s_pic (c.pic.s_odds (va_up c.pic.odds i f))) d D :=
  match i, h with
  | 0, _ => rfl
  | 1, _ => rfl
  | 2, _ => rfl
  | 3, _ => rfl
  | 4, _ => rfl
  | 5, _ => rfl
  | k + 6, h => absurd h (by omega)
theorem yfouq {i j x : Nat} (h : i < 6) (hj : j < 4) : uI 0 .int (mk c d D) (38 + 2 * i) (nI j) (nI x) = some (mk (c.s_pic (c.pic.s_odds (va_up c.pic.odds i (va_up (c.pic.odds i) j x)))) d D) := by
  unfold uI
  rw [yfcq h]
  simp only [if_true]
  rw [if_neg (vp_in_nI hj (by decide)), nI_clamp (by omega), show vp_nar .int (nI x) = nI x from rfl, yupn, yfosq h]
theorem ytr_R {i : Nat} (h : i < 4) : aR 7 (mk c d D) 85 (nI i) = some (86 + 2 * i) := by
  unfold aR
  rw [ya_85 h]
  exact (match i, h with | 0, _ => rfl | 1, _ => rfl | 2, _ => rfl | 3, _ => rfl | k + 4, h => absurd h (by omega) : ytar i = some (86 + 2 * i))
theorem yto {i : Nat} (h : i < 4) : oO (mk c d D) (86 + 2 * i) 8 = some () :=
  match i, h with
  | 0, _ => rfl
  | 1, _ => rfl
  | 2, _ => rfl
  | 3, _ => rfl
  | k + 4, h => absurd h (by omega)
theorem yt_0 {i : Nat} (h : i < 4) : fR (mk c d D) (86 + 2 * i) 8 0 = some (c.tk i) :=
  match i, h with
  | 0, _ => rfl
  | 1, _ => rfl
  | 2, _ => rfl
  | 3, _ => rfl
  | k + 4, h => absurd h (by omega)
theorem yt_1 {i : Nat} (h : i < 4) : fI (mk c d D) (86 + 2 * i) 8 1 = some (c.tsz i) :=
  match i, h with
  | 0, _ => rfl
  | 1, _ => rfl
  | 2, _ => rfl
  | 3, _ => rfl
  | k + 4, h => absurd h (by omega)
theorem yt_2 {i : Nat} (h : i < 4) : fR (mk c d D) (86 + 2 * i) 8 2 = some (87 + 2 * i) :=
  match i, h with
  | 0, _ => rfl
  | 1, _ => rfl
  | 2, _ => rfl
  | 3, _ => rfl
  | k + 4, h => absurd h (by omega)
theorem ytw_0 {i x : Nat} (h : i < 4) : sV (mk c d D) (86 + 2 * i) 8 0 (.ref x) = some (mk (c.s_tk (va_up c.tk i x)) d D) :=
  match i, h with
  | 0, _ => rfl
  | 1, _ => rfl
  | 2, _ => rfl
  | 3, _ => rfl
  | k + 4, h => absurd h (by omega)
theorem ytw_1 {i : Nat} {x : Int32} (h : i < 4) : sV (mk c d D) (86 + 2 * i) 8 1 (.int x) = some (mk (c.s_tsz (va_up c.tsz i x)) d D) :=
  match i, h with
  | 0, _ => rfl
  | 1, _ => rfl
  | 2, _ => rfl
  | 3, _ => rfl
  | k + 4, h => absurd h (by omega)
theorem ytn {i : Nat} (h : i < 4) : aN 0 (mk c d D) (87 + 2 * i) = some 20 :=
  match i, h with
  | 0, _ => rfl
  | 1, _ => rfl
  | 2, _ => rfl
  | 3, _ => rfl
  | k + 4, h => absurd h (by omega)
theorem ytc {i : Nat} (h : i < 4) : (mk c d D)[87 + 2 * i]? = some (.inl (0, 20, .inl (c.tpl i))) :=
  match i, h with
  | 0, _ => rfl
  | 1, _ => rfl
  | 2, _ => rfl
  | 3, _ => rfl
  | k + 4, h => absurd h (by omega)
theorem yts {i : Nat} {f : Nat → Int32} (h : i < 4) : (mk c d D).set (87 + 2 * i) (.inl (0, 20, .inl f)) = mk (c.s_tpl (va_up c.tpl i f)) d D :=
  match i, h with
  | 0, _ => rfl
  | 1, _ => rfl
  | 2, _ => rfl
  | 3, _ => rfl
  | k + 4, h => absurd h (by omega)
theorem yta {i j : Nat} (h : i < 4) (hj : j < 20) : aI 0 (mk c d D) (87 + 2 * i) (nI j) = some (c.tpl i j) := by
  unfold aI
  rw [ytc h]
  simp only [if_true]
  rw [if_neg (vp_in_nI hj (by decide)), nI_clamp (by omega)]
theorem ytu {i j : Nat} {x : Int32} (h : i < 4) (hj : j < 20) : uI 0 .int (mk c d D) (87 + 2 * i) (nI j) x = some (mk (c.s_tpl (va_up c.tpl i (va_up (c.tpl i) j x))) d D) := by
  unfold uI
  rw [ytc h]
  simp only [if_true]
  rw [if_neg (vp_in_nI hj (by decide)), nI_clamp (by omega), show vp_nar .int x = x from rfl, yts h]
theorem yrow_R {i : Nat} (h : i < 21) : aR 8 (mk c d D) 50 (nI i) = some (51 + i) := by
  unfold aR
  rw [ya_50 h]
  show (if i < 21 then some (50 + 1 + i) else none) = _
  rw [if_pos h]
theorem yrc {i : Nat} (h : i < 21) : (mk c d D)[51 + i]? = some (.inl (2, 31, .inr (.inr (.inr (.inl (c.rows i)))))) :=
  match i, h with
  | 0, _ => rfl
  | 1, _ => rfl
  | 2, _ => rfl
  | 3, _ => rfl
  | 4, _ => rfl
  | 5, _ => rfl
  | 6, _ => rfl
  | 7, _ => rfl
  | 8, _ => rfl
  | 9, _ => rfl
  | 10, _ => rfl
  | 11, _ => rfl
  | 12, _ => rfl
  | 13, _ => rfl
  | 14, _ => rfl
  | 15, _ => rfl
  | 16, _ => rfl
  | 17, _ => rfl
  | 18, _ => rfl
  | 19, _ => rfl
  | 20, _ => rfl
  | k + 21, h => absurd h (by omega)
theorem yrs {i : Nat} {f : Nat → UInt64} (h : i < 21) : (mk c d D).set (51 + i) (.inl (2, 31, .inr (.inr (.inr (.inl f))))) = mk (c.s_rows (va_up c.rows i f)) d D :=
  match i, h with
  | 0, _ => rfl
  | 1, _ => rfl
  | 2, _ => rfl
  | 3, _ => rfl
  | 4, _ => rfl
  | 5, _ => rfl
  | 6, _ => rfl
  | 7, _ => rfl
  | 8, _ => rfl
  | 9, _ => rfl
  | 10, _ => rfl
  | 11, _ => rfl
  | 12, _ => rfl
  | 13, _ => rfl
  | 14, _ => rfl
  | 15, _ => rfl
  | 16, _ => rfl
  | 17, _ => rfl
  | 18, _ => rfl
  | 19, _ => rfl
  | 20, _ => rfl
  | k + 21, h => absurd h (by omega)
theorem yra {i j : Nat} (h : i < 21) (hj : j < 31) : aD (mk c d D) (51 + i) (nI j) = some (c.rows i j) := by
  unfold aD
  rw [yrc h]
  simp only [if_true]
  rw [if_neg (vp_in_nI hj (by decide)), nI_clamp (by omega)]
theorem yru {i j : Nat} {x : UInt64} (h : i < 21) (hj : j < 31) : uD (mk c d D) (51 + i) (nI j) x = some (mk (c.s_rows (va_up c.rows i (va_up (c.rows i) j x))) d D) := by
  unfold uD
  rw [yrc h]
  simp only [if_true]
  rw [if_neg (vp_in_nI hj (by decide)), nI_clamp (by omega), yrs h]
theorem yli_R {i : Nat} (h : i < 4) : aR 9 (mk c d D) 94 (nI i) = some (95 + i) := by
  unfold aR
  rw [ya_94 h]
  show (if i < 4 then some (94 + 1 + i) else none) = _
  rw [if_pos h]
theorem ylc {i : Nat} (h : i < 4) : (mk c d D)[95 + i]? = some (.inl (1, 31, .inr (.inl (c.li i)))) :=
  match i, h with
  | 0, _ => rfl
  | 1, _ => rfl
  | 2, _ => rfl
  | 3, _ => rfl
  | k + 4, h => absurd h (by omega)
theorem yls {i : Nat} {f : Nat → Int64} (h : i < 4) : (mk c d D).set (95 + i) (.inl (1, 31, .inr (.inl f))) = mk (c.s_li (va_up c.li i f)) d D :=
  match i, h with
  | 0, _ => rfl
  | 1, _ => rfl
  | 2, _ => rfl
  | 3, _ => rfl
  | k + 4, h => absurd h (by omega)
theorem yln {i : Nat} (h : i < 4) : aN 1 (mk c d D) (95 + i) = some 31 :=
  match i, h with
  | 0, _ => rfl
  | 1, _ => rfl
  | 2, _ => rfl
  | 3, _ => rfl
  | k + 4, h => absurd h (by omega)
theorem yla {i j : Nat} (h : i < 4) (hj : j < 31) : aL (mk c d D) (95 + i) (nI j) = some (c.li i j) := by
  unfold aL
  rw [ylc h]
  simp only [if_true]
  rw [if_neg (vp_in_nI hj (by decide)), nI_clamp (by omega)]
theorem ylu {i j : Nat} {x : Int64} (h : i < 4) (hj : j < 31) : uL (mk c d D) (95 + i) (nI j) x = some (mk (c.s_li (va_up c.li i (va_up (c.li i) j x))) d D) := by
  unfold uL
  rw [ylc h]
  simp only [if_true]
  rw [if_neg (vp_in_nI hj (by decide)), nI_clamp (by omega), yls h]
end

-- the start
set_option maxRecDepth 100000
def rul0 : Nat → Nat := va_up (va_up (va_up (va_up (fun _ => 0) 0 10) 1 0) 2 0) 3 500
def len0 : Nat → Nat := va_up (va_up (va_up (va_up (fun _ => 0) 0 100) 1 100) 2 100) 3 100
def fre0 : Nat → Nat := va_up (va_up (va_up (va_up (fun _ => 0) 0 10) 1 10) 2 10) 3 10
theorem up_nI {f : Nat → Nat} {i x : Nat} : (fun j => nI (va_up f i x j)) = va_up (fun j => nI (f j)) i (nI x) := yupn.symm
theorem rul0_I : (fun i => nI (rul0 i)) = va_up (va_up (va_up (va_up (fun _ => (0 : Int32)) 0 10) 1 0) 2 0) 3 500 := by
  unfold rul0
  rw [up_nI, up_nI, up_nI, up_nI]
  rfl
theorem len0_I : (fun i => nI (len0 i)) = va_up (va_up (va_up (va_up (fun _ => (0 : Int32)) 0 100) 1 100) 2 100) 3 100 := by
  unfold len0
  rw [up_nI, up_nI, up_nI, up_nI]
  rfl
theorem fre0_I : (fun i => nI (fre0 i)) = va_up (va_up (va_up (va_up (fun _ => (0 : Int32)) 0 10) 1 10) 2 10) 3 10 := by
  unfold fre0
  rw [up_nI, up_nI, up_nI, up_nI]
  rfl
def pl0 : PL := { n := 0, rules := rul0, len := len0, free := fre0, rts := fun _ => none, rc := 0, seed := 1, kind := fun _ => 0, price := fun _ => 0, hand := fun _ => 0, odds := fun _ _ => 0 }
def c0 : CS := { pl := pl0, pic := pl0, pictured := 0, made := 0, rows := fun _ _ => 0, nets := fun _ => 0, wrow := fun _ => 0, crow := fun _ => 0, tb := fun _ => 0, tsize := 0, tread := fun _ => none, tn := 0, tat := 0, tname := 0, tlegs := 0, tprice := 0, twanted := 0, pa := fun _ => 0, ph := fun _ => 0, dleft := 0, dasked := 0, dcount := 0, dprices := 0, dplaces := 0, pgv := 84, pgcd := 0, pg2 := 0, pgc := 0, pg0 := fun _ => 0, tk := fun _ => 0, tsz := fun _ => -11, tpl := fun _ _ => 0, li := fun _ _ => 0, ls := va_up (va_up (va_up (va_up (fun _ => 0) 0 (-11)) 1 (-11)) 2 (-11)) 3 (-11) }
def m40 : Nat → Int32 := va_up (va_up (va_up (va_up (fun _ => 0) 0 (-1)) 1 (-1)) 2 (-1)) 3 (-1)
def now0 : Nat → Int32 := va_up (va_up (va_up (va_up (va_up (va_up (va_up (va_up (va_up (va_up (va_up (fun _ => 0) 1 10) 4 500) 128 1) 42 100) 46 10) 43 100) 47 10) 44 100) 48 10) 45 100) 49 10
def d0 : MS := { now := now0, kept := fun _ => 0, hasImage := 0, taped := 0, tape := fun _ => 0, written := 0, paper := fun _ => 0, trayKind := m40, traySize := fun _ => 0, laid := fun _ => 0, listSize := m40, items := fun _ => 0, worths := fun _ => 0, chances := fun _ => 0, fewer := fun _ => 0, isOver := 0, grosses := fun _ => 0, isGreat := fun _ => 0, sets := fun _ => 0, had := fun _ => 0, left := 0, prices := 0, askers := 0, isGone := fun _ => 0, at_ := 0, fault := 0, read := fun _ => 0, ahead := fun _ => 0, asked := 0 }
def M000 : mM := List.replicate 10 m_no
set_option maxHeartbeats 4000000 in
theorem p_init : ((m_X11_init 20000 100 1800 M000.length (M000 ++ [.inr (11, [.null, .null, .int 0, .null, .null, .null, .null, .null, .null, .null, .null, .null])])).bind fun x1 => m_X12_init 20000 30 2000 x1.length (x1 ++ [.inr (12, [.null, .null, .int 0, .int 0, .null, .int 0, .null, .null, .null, .null, .null, .null, .null, .null, .null, .int 0, .null, .null, .null, .null, .int 0, .int 0, .int 0, .null, .int 0, .int 0, .null, .null, .int 0])])) = some (mk c0 d0 []) := by
  unfold mk c0 pl0
  dsimp only
  rw [rul0_I, len0_I, fre0_I]
  rfl

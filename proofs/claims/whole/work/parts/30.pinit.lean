-- the start
set_option maxRecDepth 100000
def rul0 : Nat → Nat := va_up (va_up (va_up (va_up (fun _ => 0) 0 10) 1 0) 2 0) 3 500
def len0 : Nat → Nat := va_up (va_up (va_up (va_up (fun _ => 0) 0 100) 1 100) 2 100) 3 100
def fre0 : Nat → Nat := va_up (va_up (va_up (va_up (fun _ => 0) 0 10) 1 10) 2 10) 3 10
theorem up_nI {f : Nat → Nat} {i x : Nat} : (fun j => nI (va_up f i x j)) = va_up (fun j => nI (f j)) i (nI x) := yupn.symm
theorem rul0_I : (fun i => nI (rul0 i)) = va_up (va_up (va_up (va_up (fun _ => (0 : Int32)) 0 10) 1 0) 2 0) 3 500 := by
  unfold rul0
  rw [up_nI, up_nI, up_nI, up_nI]
  rfl
theorem len0_I : (fun i => nI (len0 i)) = va_up (va_up (va_up (va_up (fun _ => (0 : Int32)) 0 100) 1 100) 2 100) 3 100 := by
  unfold len0
  rw [up_nI, up_nI, up_nI, up_nI]
  rfl
theorem fre0_I : (fun i => nI (fre0 i)) = va_up (va_up (va_up (va_up (fun _ => (0 : Int32)) 0 10) 1 10) 2 10) 3 10 := by
  unfold fre0
  rw [up_nI, up_nI, up_nI, up_nI]
  rfl
def pl0 : PL := (((0, rul0), (len0, (fre0, fun _ => none))), ((0, (1, fun _ => 0)), (fun _ => 0, (fun _ => 0, fun _ _ => 0))))
def c0 : CS := (((((pl0, pl0), (0, 0)), ((fun _ _ => 0, fun _ => 0), (fun _ => 0, fun _ => 0))), (((fun _ => 0, 0), (fun _ => none, 0)), ((0, 0), (0, (0, 0))))), ((((fun _ => 0, fun _ => 0), (0, 0)), ((0, 0), (0, 84))), (((0, 0), (0, fun _ => 0)), ((fun _ => 0, fun _ => -11), (fun _ _ => 0, (fun _ _ => 0, va_up (va_up (va_up (va_up (fun _ => 0) 0 (-11)) 1 (-11)) 2 (-11)) 3 (-11)))))))
def m40 : Nat → Int32 := va_up (va_up (va_up (va_up (fun _ => 0) 0 (-1)) 1 (-1)) 2 (-1)) 3 (-1)
def now0 : Nat → Int32 := va_up (va_up (va_up (va_up (va_up (va_up (va_up (va_up (va_up (va_up (va_up (fun _ => 0) 1 10) 4 500) 128 1) 42 100) 46 10) 43 100) 47 10) 44 100) 48 10) 45 100) 49 10
def d0 : MS := ((((now0, (fun _ => 0, 0)), ((0, fun _ => 0), (0, fun _ => 0))), ((m40, (fun _ => 0, fun _ => 0)), ((m40, fun _ => 0), (fun _ => 0, fun _ => 0)))), (((fun _ => 0, (0, fun _ => 0)), ((fun _ => 0, fun _ => 0), (fun _ => 0, 0))), (((0, 0), (fun _ => 0, 0)), ((0, fun _ => 0), (fun _ => 0, 0)))))
def M000 : mM := List.replicate 10 m_no
set_option maxHeartbeats 4000000 in
theorem p_init : ((m_X11_init 20000 100 1800 M000.length (M000 ++ [.inr (11, [.null, .null, .int 0, .null, .null, .null, .null, .null, .null, .null, .null, .null])])).bind fun x1 => m_X12_init 20000 30 2000 x1.length (x1 ++ [.inr (12, [.null, .null, .int 0, .int 0, .null, .int 0, .null, .null, .null, .null, .null, .null, .null, .null, .null, .int 0, .null, .null, .null, .null, .int 0, .int 0, .int 0, .null, .int 0, .int 0, .null, .null, .int 0])])) = some (mk c0 d0 []) := by
  unfold mk c0 pl0
  dsimp only [PL.rules, PL.len, PL.free, CS.pl, CS.pic]
  rw [rul0_I, len0_I, fre0_I]
  rfl

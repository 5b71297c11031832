/-- what appending k signs to the text of a takes: a new array, where they have no room -/
def bNo (M : mM) (a k : Nat) : Option Nat := (fR M a 0 0).bind fun v => (fI M a 0 3).bind fun c => (aN 4 M v).bind fun n => if c.toNatClampNeg + k ≤ n.toNatClampNeg then none else some (2 * n.toNatClampNeg + 2)
def bC (M : mM) (a k : Nat) : Nat := if (bNo M a k).isSome then 1 else 0
def bS (M : mM) (a k : Nat) : Nat := (bNo M a k).getD 0
def dgN (i : Int32) : Nat := if i < 10 then 1 else if i < 100 then 2 else if i < 1000 then 3 else if i < 10000 then 4 else 11
/-- how many signs a route has, spelled -/
def ltN (nm : Int32) : Nat := (if nm >>> 16 &&& 255 = 0 then 0 else 1) + (if nm >>> 8 &&& 255 = 0 then 0 else 1) + (if nm &&& 255 = 0 then 0 else 1)
def lgN (lg : Int32) : Nat := (if lg &&& 1 = 0 then 0 else 1) + (if lg >>> 1 &&& 1 = 0 then 0 else 1) + (if lg >>> 2 &&& 1 = 0 then 0 else 1) + (if lg >>> 3 &&& 1 = 0 then 0 else 1)
def rl (M : mM) (r : Nat) : Nat := ((fI M r 6 0).bind fun nm => (fI M r 6 1).bind fun lg => (fI M r 6 2).bind fun pr => (fI M r 6 3).bind fun wt => some (ltN nm + 1 + lgN lg + 1 + dgN pr + if wt = 0 then 0 else 1 + dgN wt)).getD 0

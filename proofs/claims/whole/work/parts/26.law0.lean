/-! THE CLAIM OUT OF ONE WALK OF THE LAW'S BODY. Your part is whole_start (and what it stands on); all else here is the same for every law, but numbers. -/
def R_law : String := "FareLimitsLaw"
def lw_P (b : Addr) (xs : List Int32) (args : Array Value) (s : State) : Prop := args = #[.ref b] ∧ s.IntsAt b xs ∧ xs.length ≤ 2560 ∧ (Jvm.Cond.and given_1 narrow_1).before args s = true
/-- what a walk over the start with the record d0 says of its end, said of the start itself -/
theorem lw_closed {s t : State} {o : Outcome} {d0 : Drawn} {L : List Loc} {k n : Nat} (hd0 : s.drawn.sameBut d0 lw_cs) (hv : ∃ v, o = .returned v) (hW : (s.setDrawn d0).WarmedH t.vm) (hs : (s.setDrawn d0).sameButNew ({ t with vm := s.vm } : State) L k n) : State.butDraws s t lw_cs (fun t1 => Framed s o t1 L k n) := by
  have h2 : t.drawn = d0 := congrArg State.drawn hs.1
  refine ⟨⟨hv, hW, State.sameButNew.setDrawn hs s.drawn⟩, ?_, by decide⟩
  rw [h2]
  exact hd0
def lw_Q (_ : Array Value) (s : State) (o : Outcome) (t : State) : Prop := o = .returned (some (.int 1)) ∧ State.butDraws s t lw_cs (fun t1 => Framed s o t1 [] 600000 7302250)
def lw_Z (below : List Frame) (a : Array Value) (s : State) : State → Prop := fun t => ∃ o, t.status = .running ∧ Ended t below o ∧ lw_Q a s o t
/-- the law's own end, with 1 on the stack, nothing written that was there before, its room as the claim has it; d0: the record of draws at this point (at the entry s.drawn: begin with 'refine W.base ?_' and 'have hd0 := Drawn.sameBut.refl s.drawn lw_cs') -/
theorem lw_ret {p : Program} {l : Launch} {e : Env} {s : State} {m : MethodId} {below : List Frame} {meth : Method} {c : Code} {b : Nat} {d0 : Drawn} (hd0 : s.drawn.sameBut d0 lw_cs) (hx : p.tables.exec = Jvm.exec) (hb : c.code = code) (hr : meth.sig.returnType = ret) (hlocks : meth.locks = false) {pc : Nat} {H : Heap} {ls : Array Slot} (hdg : decode code pc = .ok (.ireturn, 1)) : W p l e room_1 (s.setDrawn d0) m #[Value.ref b] below meth c H [] 600000 7302250 (lw_Z below #[Value.ref b] s) (F0 m pc ls [.int 1]) := by
  intro T hT X
  obtain ⟨fs, hret, hrun, hended, hW, hframe⟩ := X.leave (v := some (.int 1)) (hlocks := hlocks) (fun h => by rw [hr] at h; cases h)
  have hmeth' : T.vm.method? m = some meth := X.method'
  refine ⟨T.setFrames fs, ?_, .returned (some (.int 1)), hrun, hended, rfl, lw_closed hd0 ⟨_, rfl⟩ hW hframe⟩
  jvm_step X.here [X.here.top, hx, hb, hdg, hmeth', hr, ret, narrow_b1]
  (try refine ⟨rfl, ?_⟩); (try refine ⟨rfl, ?_⟩)
  first | (intro acts; rw [hret _ acts rfl rfl rfl]) | rw [hret _ _ rfl rfl rfl]
  exact Steps.refl _
/-- what holds at the law's entry: the machine, the code, the tables' words (any of lw_tbl by 'hts w (by decide +kernel)'), the script of L ints xs at the cell b, what the Statement gives of the start (any of its parts by flat_of_before) -/
def lw_At (p : Program) (s : State) (m : MethodId) (meth : Method) (c : Code) (b L : Nat) (xs : Nat → Int32) : Prop :=
  p.tables.exec = Jvm.exec ∧ c.code = code ∧ meth.sig.returnType = ret ∧ c.maxLocals = 4 ∧ s.vm.findClass R_law = some m.cls ∧ (∀ w ∈ lw_tbl, w.before #[Value.ref b] s = true) ∧ va_X b L xs s s.heap ∧ b < s.heap.size ∧ meth.locks = false ∧ (Jvm.Cond.and given_1 narrow_1).before #[Value.ref b] s = true

/-- the law's frame: its room, its end -/
def EXL (X : mX) (L0 : Launch) (mc ms : Nat) : Prop := X.1.2.1 = L0 ∧ xR X = room_1 ∧ mc = 600000 ∧ ms = 7302250 ∧ (xw X).2.2.2.2 = (xs X).heap.size ∧ ∃ b : Nat, X.2.1.1 = #[Value.ref b] ∧ X.2.2.1 = lw_Z X.2.1.2.1 #[Value.ref b] (xs X)
/-- the script -/
def HXP (X : mX) (L : Nat) (sc : Nat → Int32) : Prop := va_X ((xw X).2.2.1 9) L sc (xs X) (xs X).heap ∧ (xw X).2.2.1 9 < (xs X).heap.size ∧ ¬ (xw X).2.2.2.2 ≤ (xw X).2.2.1 9
def sld (sc : Nat → Int32) (L : Nat) (i : Int32) : Option Int32 := if mOut i L then none else some (sc i.toNatClampNeg)
theorem mRoomL {X : mX} {L0 : Launch} {mc ms maxL fr2 lo2 mc2 ms2 kc ks : Nat} (E : EXL X L0 mc ms) (h1 : fr2 + 1 ≤ 2048) (h2 : 8 + (maxL + 11) + lo2 ≤ 84000) (h3 : kc + mc2 ≤ mc) (h4 : ks + ms2 ≤ ms) : mRoom X maxL fr2 lo2 mc2 ms2 kc ks := by
  obtain ⟨-, hR, rfl, rfl, -⟩ := E
  unfold mRoom
  rw [hR]
  exact ⟨h1, h2, h3, h4⟩
theorem mcapL {X : mX} {L0 : Launch} {mc ms a b : Nat} (E : EXL X L0 mc ms) (h : a ≤ mc ∧ b ≤ ms) : a ≤ (xR X).cells ∧ b ≤ (xR X).slots := by
  obtain ⟨-, hR, rfl, rfl, -⟩ := E
  rw [hR]
  exact h
section EVL
variable {X : mX} {own nm : String} {cc : ByteArray} {nL pc kc ks : Nat} {ret : Option FieldType} {l : List (Nat × Value)} {st : List Value} {M : mM} {L mc ms : Nat} {sc : Nat → Int32} {L0 : Launch}
theorem ev_slen (HX : HXP X L sc) (C : CX X own nm cc nL ret) (d : decode cc pc = .ok (.arraylength, 1)) (kk : EV X nL (pc + 1) l (.int (nI L) :: st) kc ks M) : EV X nL pc l (.ref 9 :: st) kc ks M := fun H locs ls hl hM hS => va_slen C.1 C.2.1 HX.1 HX.2.1 HX.2.2 hS d (kk H locs ls hl hM hS)
theorem ev_sld (HX : HXP X L sc) (C : CX X own nm cc nL ret) {i x : Int32} (d : decode cc pc = .ok (.iaload, 1)) (hv : sld sc L i = some x) (kk : EV X nL (pc + 1) l (.int x :: st) kc ks M) : EV X nL pc l (.int i :: .ref 9 :: st) kc ks M := fun H locs ls hl hM hS => by
  unfold sld at hv
  split at hv
  · cases hv
  · next e =>
    cases hv
    exact va_sld C.1 C.2.1 HX.1 HX.2.1 HX.2.2 hS e d (kk H locs ls hl hM hS)
theorem ev_lawret (C : CX X own nm code 4 (some .boolean)) (E : EXL X L0 mc ms) (hk : kc ≤ mc ∧ ks ≤ ms) (d : decode code pc = .ok (.ireturn, 1)) : EV X 4 pc l [.int 1] kc ks M := by
  obtain ⟨-, hR, rfl, rfl, hB, b, hb, hQ⟩ := E
  intro H locs ls hl hM hS
  unfold WX
  rw [hQ, hb]
  refine va_forget (fun q hq => by rw [← hB]; exact hS.2.2 q hq) ?_
  refine W.widen hk.1 hk.2 ?_
  have hR2 : X.1.2.2.2.1 = room_1 := hR
  rw [hR2]
  exact lw_ret (d0 := (xs X).drawn) (Drawn.sameBut.refl _ _) C.1 C.2.1 C.2.2.2.2.2.2.2.2.2.1 C.2.2.2.2.2.1 d
end EVL

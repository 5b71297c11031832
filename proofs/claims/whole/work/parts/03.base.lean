-- the abstract memory: cells by their numbers; 0 .. 7 stand for what was there before (statics), number k from 10 on is the cell at base + (k - 10)
abbrev mC : Type := (Nat × vp_A) ⊕ (Nat × List Value)
abbrev mM : Type := List mC
-- what a world is fixed by: classes and their slots, array classes, the statics' addresses, the value of an opaque static, the base
abbrev mW : Type := va_G × (Nat → ClassId) × (Nat → Nat) × Value × Nat
def m_f (w : mW) (k : Nat) : Nat := if k < 10 then w.2.2.1 k else w.2.2.2.2 + (k - 10)
def m_v (f : Nat → Nat) : Value → Value
  | .ref k => .ref (f k)
  | .retAddr _ => if f 8 = 0 then .null else .ref (f 8 - 1)
  | v => v
def m_d (f : Nat → Nat) (a : vp_A) : vp_A := match a.2 with
  | .inr (.inr (.inr (.inr g))) => (a.1, .inr (.inr (.inr (.inr (fun j => (g j).map f)))))
  | _ => a
-- the kinds of arrays, by number
def tyl : List FieldType := [.int, .long, .double, .boolean, .byte, .object "FareLimits$Fare", .object "FareLimits$Route", .object "FareLimits$Tray", .array .double, .array .long]
def m_at (w : mW) (k : Nat) (c : mC) (H : Heap) : Prop := match c with
  | .inl (t, a) => H[m_f w k]? = some (vp_cell (w.2.1 t) (m_d (m_f w) a))
  | .inr (ci, fs) => ∃ r : vw_C, vwCl[ci]? = some r ∧ t_OB (m_f w k) (w.1.1 ci) r.2.2 (w.1.2 ci) H (vp_V (fs.map (m_v (m_f w))))
def m_no : mC := .inr (99, [])
def m_At (w : mW) (M : mM) (H : Heap) : Prop := H.size + 10 = w.2.2.2.2 + M.length ∧ 10 ≤ M.length ∧ (∀ k, k < 10 → M[k]? = some m_no) ∧ ∀ k c, 10 ≤ k → M[k]? = some c → m_at w k c H
theorem m_v_cat (f : Nat → Nat) (v : Value) : (m_v f v).category = v.category := by
  cases v <;> first | rfl | (simp only [m_v]; split <;> rfl)
theorem m_f_hi {w : mW} {k : Nat} (h : 10 ≤ k) : m_f w k = w.2.2.2.2 + (k - 10) := if_neg (Nat.not_lt.mpr h)
theorem m_f_inj {w : mW} {k j : Nat} (hk : 10 ≤ k) (hj : 10 ≤ j) (h : m_f w k = m_f w j) : k = j := by
  rw [m_f_hi hk, m_f_hi hj] at h
  omega
theorem m_at.kept {w : mW} {k : Nat} {c : mC} {H H1 : Heap} (h : m_at w k c H) (hq : H1[m_f w k]? = H[m_f w k]?) : m_at w k c H1 := by
  cases c with
  | inl x => exact hq.trans h
  | inr o =>
    obtain ⟨r, h1, h2⟩ := h
    exact ⟨r, h1, h2.kept hq⟩
theorem m_At.hi {w : mW} {M : mM} {H : Heap} (h : m_At w M H) {k : Nat} {c : mC} (hk : M[k]? = some c) (hc : c ≠ m_no) : 10 ≤ k := by
  rcases Nat.lt_or_ge k 10 with q | q
  · exact absurd (Option.some.inj (hk.symm.trans (h.2.2.1 k q))) hc
  · exact q
theorem m_At.lt {w : mW} {M : mM} {H : Heap} (h : m_At w M H) {k : Nat} {c : mC} (h8 : 10 ≤ k) (hk : M[k]? = some c) : m_f w k < H.size := by
  have h1 : k < M.length := (List.getElem?_eq_some_iff.mp hk).1
  have h2 := h.1
  rw [m_f_hi h8]
  omega
/-- a cell written -/
theorem m_At.set {w : mW} {M : mM} {H H1 : Heap} (h : m_At w M H) {k : Nat} {c0 c : mC} (h8 : 10 ≤ k) (hk : M[k]? = some c0) (he : m_at w k c H1) (hz : H1.size = H.size) (oq : ∀ q : Nat, q ≠ m_f w k → H1[q]? = H[q]?) : m_At w (M.set k c) H1 := by
  refine ⟨by rw [List.length_set, hz]; exact h.1, by rw [List.length_set]; exact h.2.1, fun j hj => ?_, fun j d hj hd => ?_⟩
  · rw [List.getElem?_set_ne (by omega)]
    exact h.2.2.1 j hj
  · by_cases hjk : k = j
    · subst hjk
      rw [List.getElem?_set_self (List.getElem?_eq_some_iff.mp hk).1] at hd
      cases hd
      exact he
    · rw [List.getElem?_set_ne hjk] at hd
      exact (h.2.2.2 j d hj hd).kept (oq _ (fun z => hjk (m_f_inj h8 hj z.symm)))
/-- a cell made -/
theorem m_At.push {w : mW} {M : mM} {H H1 : Heap} (h : m_At w M H) {c : mC} (he : m_at w M.length c H1) (hz : H1.size = H.size + 1) (oq : ∀ q : Nat, q < H.size → H1[q]? = H[q]?) : m_At w (M ++ [c]) H1 := by
  refine ⟨by rw [hz]; simp only [List.length_append, List.length_singleton]; have := h.1; omega, by simp only [List.length_append, List.length_singleton]; have := h.2.1; omega, fun j hj => ?_, fun j d hj hd => ?_⟩
  · rw [List.getElem?_append_left (by have := h.2.1; omega)]
    exact h.2.2.1 j hj
  · rcases Nat.lt_or_ge j M.length with q | q
    · rw [List.getElem?_append_left q] at hd
      exact (h.2.2.2 j d hj hd).kept (oq _ (h.lt hj hd))
    · rw [List.getElem?_append_right q] at hd
      have h1 := (List.getElem?_eq_some_iff.mp hd).1
      simp only [List.length_singleton] at h1
      have h2 : j = M.length := by omega
      subst h2
      rw [Nat.sub_self] at hd
      cases hd
      exact he
theorem m_At.new {w : mW} {M : mM} {H : Heap} (h : m_At w M H) : m_f w M.length = H.size := by
  rw [m_f_hi h.2.1]
  have := h.1
  have := h.2.1
  omega
-- static facts
def kNm : List String := ["FARE", "OPEN", "SAVER", "GROUP"]
def kF : List (String × String × String × List Int32) := [("FareLimits$Kind", "number", "I", [0, 1, 2, 3]), ("FareLimits$Kind", "above", "I", [-1, 0, 0, 2]), ("FareLimits$Kind", "quartersKept", "I", [2, 0, 4, 3])]
def mostF : Nat → Int32 := fun j => if j = 0 then 30 else if j = 3 then 9999 else 50
def dgO : Nat → Int32 := fun j => nI (48 + j % 10)
def dgT : Nat → Int32 := fun j => nI (48 + j / 10)
def m_nst (U : State) : Prop :=
  va_Nw (.methodLinkNest "FareLimits$Plan" 23 ⟨"FareLimits$Network", "<init>", "()V"⟩ "FareLimits") U ∧ va_Nw (.methodLinkNest "FareLimits$Plan" 32 ⟨"FareLimits$Fare", "<init>", "()V"⟩ "FareLimits") U ∧ va_Nw (.methodLinkNest "FareLimits" 44 ⟨"FareLimits$Tape", "<init>", "()V"⟩ "FareLimits") U ∧ va_Nw (.methodLinkNest "FareLimits" 71 ⟨"FareLimits$Tray", "<init>", "()V"⟩ "FareLimits") U ∧
  va_Nw (.methodLinkNest "FareLimits$Worths" 55 ⟨"FareLimits", "phaseOf", "(I)I"⟩ "FareLimits") U ∧ va_Nw (.methodLinkNest "FareLimits$Whole" 33 ⟨"FareLimits", "phaseOf", "(I)I"⟩ "FareLimits") U ∧ va_Nw (.methodLinkNest "FareLimits$Chances" 42 ⟨"FareLimits", "phaseOf", "(I)I"⟩ "FareLimits") U ∧ va_Nw (.methodLinkNest "FareLimits$Tape" 32 ⟨"FareLimits", "within", "(II)Z"⟩ "FareLimits") U ∧ va_Nw (.methodLinkNest "FareLimits$Day" 79 ⟨"FareLimits", "phaseOf", "(I)I"⟩ "FareLimits") U ∧
  va_Nw (.fieldLinkNest "FareLimits$Kind" 47 "FareLimits" "KINDS" "[LFareLimits$Kind;" "FareLimits") U
theorem m_nst.warm {s U : State} (hW : s.WarmedH U.vm) (h : m_nst s) : m_nst U := by
  obtain ⟨a1, a2, a3, a4, a5, a6, a7, a8, a9, b1⟩ := h
  exact ⟨a1.warmM hW, a2.warmM hW, a3.warmM hW, a4.warmM hW, a5.warmM hW, a6.warmM hW, a7.warmM hW, a8.warmM hW, a9.warmM hW, b1.warmF hW⟩
def m_AOA (t : FieldType) (U : State) : Prop := (Cond.arrayOver (.array t)).before #[] U = true
theorem m_AOA.of {t : FieldType} {A : Array Value} {U : State} (h : (Cond.arrayOver (.array t)).before A U = true) : m_AOA t U := h
theorem m_AOA.use {t : FieldType} {A : Array Value} {U : State} (h : m_AOA t U) : (Cond.arrayOver (.array t)).before A U = true := h
theorem m_AOA.moved {t : FieldType} {u U : State} (hvm : u.vm.Alike U.vm) (h : m_AOA t u) : m_AOA t U := by
  obtain ⟨comp, c, k, h1, h2, h3, h4, h5⟩ := arrayOverA_spec h
  obtain ⟨k', hk', he⟩ := hvm.2.2 _ _ h3
  have hi : (U.vm.classes.findIdx? fun (x : Class) => match x.kind with | .array component _ => component == comp | _ => false) = some c := by
    rw [hvm.findIdx?_eq _ (fun _ => rfl)]
    exact h2
  have hkind : k'.kind = .array comp (.array t) := by rw [he]; exact h4
  have f1 : U.vm.findClass (FieldType.array t).toString = some comp := by rw [hvm.findClass]; exact h1
  have f2 : U.vm.findClass ("[" ++ (FieldType.array t).toString) = some c := by rw [hvm.findClass]; exact h5
  unfold m_AOA Cond.before Cond.holds
  simp only [Cond.value]
  rw [f1, Option.bind_some]
  refine (congrArg (fun o : Option Nat => (o.bind (fun c => (U.vm.classes[c]?).map fun (k : Class) => match k.kind with | .array _ ty => decide (ty = FieldType.array t) && decide (U.vm.findClass ("[" ++ (FieldType.array t).toString) = some c) | _ => false) == some true)) hi).trans ?_
  simp [hk', hkind, f2]
/-- classes, array classes, what arrays are over -/
def m_K (w : mW) (U : State) : Prop := (∀ (c : Nat) (q : vw_C), vwCl[c]? = some q → u_Kn U q.1 q.2.1 q.2.2 (w.1.1 c) (w.1.2 c)) ∧ (∀ (t : Nat) (ty : FieldType), tyl[t]? = some ty → ArrOfT U (w.2.1 t) ty ∧ va_RA U (w.2.1 t) ty) ∧ m_nst U ∧ (va_AO "FareLimits$Fare" U ∧ va_AO "FareLimits$Route" U ∧ va_AO "FareLimits$Tray" U) ∧ (m_AOA .double U ∧ m_AOA .long U)
theorem m_K.warm {w : mW} {s U : State} (hW : s.WarmedH U.vm) (h : m_K w s) : m_K w U := by
  obtain ⟨h1, h2, h3, h4, h5⟩ := h
  have hvm := hW.alike
  exact ⟨fun c q hq => u_Kn_moved hvm (h1 c q hq), fun t ty ht => ⟨arrOfT_moved hvm (h2 t ty ht).1, (h2 t ty ht).2.moved hvm⟩, h3.warm hW, ⟨h4.1.moved hvm, h4.2.1.moved hvm, h4.2.2.moved hvm⟩, h5.1.moved hvm, h5.2.moved hvm⟩
def m_St (w : mW) (U : State) (H : Heap) : Prop :=
  va_En "FareLimits$Kind" "LFareLimits$Kind;" kNm kF w.2.2.1 (fun q => w.2.2.2.2 ≤ q) U H ∧
  va_Z "FareLimits" "KINDS" "[LFareLimits$Kind;" (.ref (w.2.2.1 4)) (fun q => w.2.2.2.2 ≤ q) U H ∧ va_T (.object "FareLimits$Kind") (w.2.2.1 4) 4 (fun j => .ref (w.2.2.1 j)) (fun q => w.2.2.2.2 ≤ q) U H ∧
  va_Z "FareLimits" "MOST_OF_A_RULE" "[I" (.ref (w.2.2.1 5)) (fun q => w.2.2.2.2 ≤ q) U H ∧ va_T .int (w.2.2.1 5) 4 (fun j => .int (mostF j)) (fun q => w.2.2.2.2 ≤ q) U H ∧
  va_Z "java/lang/String" "COMPACT_STRINGS" "Z" (.int 1) (fun q => w.2.2.2.2 ≤ q) U H ∧
  va_Z "java/lang/Integer" "DigitOnes" "[B" (.ref (w.2.2.1 6)) (fun q => w.2.2.2.2 ≤ q) U H ∧ va_T .byte (w.2.2.1 6) 100 (fun j => .int (dgO j)) (fun q => w.2.2.2.2 ≤ q) U H ∧
  va_Z "java/lang/Integer" "DigitTens" "[B" (.ref (w.2.2.1 7)) (fun q => w.2.2.2.2 ≤ q) U H ∧ va_T .byte (w.2.2.1 7) 100 (fun j => .int (dgT j)) (fun q => w.2.2.2.2 ≤ q) U H ∧
  va_Z "jdk/internal/util/Preconditions" "SIOOBE_FORMATTER" "Ljava/util/function/BiFunction;" (m_v (m_f w) (.retAddr 0)) (fun q => w.2.2.2.2 ≤ q) U H
theorem m_St.on {w : mW} {s U : State} {H H1 : Heap} (hvm : s.vm.Alike U.vm) (hq : ∀ a : Nat, a < H.size → ¬ (w.2.2.2.2 ≤ a) → H1[a]? = H[a]?) (h : m_St w s H) : m_St w U H1 := by
  obtain ⟨h1, h2, h3, h4, h5, h6, h7, h8, h9, h10, h11⟩ := h
  exact ⟨(h1.kept hq).moved hvm, (h2.kept hq).moved hvm, (h3.kept hq).moved hvm, (h4.kept hq).moved hvm, (h5.kept hq).moved hvm, (h6.kept hq).moved hvm, (h7.kept hq).moved hvm, (h8.kept hq).moved hvm, (h9.kept hq).moved hvm, (h10.kept hq).moved hvm, (h11.kept hq).moved hvm⟩
/-- what every method finds at its start, and hands on -/
def m_In (w : mW) (M : mM) (U : State) : Prop := m_K w U ∧ m_St w U U.heap ∧ m_At w M U.heap
theorem m_In.base {w : mW} {M : mM} {U : State} (h : m_In w M U) : w.2.2.2.2 ≤ U.heap.size := by
  have h1 := h.2.2.1
  have h2 := h.2.2.2.1
  omega
-- a frame of the walk: its machine, its place, what it is to come to, its world
abbrev mX : Type := (Program × Launch × Env × Room × State × MethodId) × (Array Value × List Frame × Method × Code) × (State → Prop) × mW
abbrev xs (X : mX) : State := X.1.2.2.2.2.1
abbrev xR (X : mX) : Room := X.1.2.2.2.1
abbrev xm (X : mX) : MethodId := X.1.2.2.2.2.2
abbrev xw (X : mX) : mW := X.2.2.2
abbrev xf (X : mX) : Nat → Nat := m_f X.2.2.2
abbrev xA (X : mX) : Nat → Prop := fun q => X.2.2.2.2.2.2.2 ≤ q
def CX (X : mX) (own nm : String) (cc : ByteArray) (nL : Nat) (ret : Option FieldType) : Prop :=
  X.1.1.tables.exec = Jvm.exec ∧ X.2.1.2.2.2.code = cc ∧ X.2.1.2.2.2.maxLocals = nL ∧ (xs X).vm.findClass own = some (xm X).cls ∧ (∀ w ∈ lw_all, w.before X.2.1.1 (xs X) = true) ∧ X.2.1.2.2.1.locks = false ∧ m_K (xw X) (xs X) ∧ m_St (xw X) (xs X) (xs X).heap ∧ (xw X).2.2.2.2 ≤ (xs X).heap.size ∧ X.2.1.2.2.1.sig.returnType = ret ∧ X.2.1.2.2.1.name = nm
def WX (X : mX) (H : Heap) (locs : List Loc) (kc ks : Nat) (g : JFrame) : Prop := W X.1.1 X.1.2.1 X.1.2.2.1 X.1.2.2.2.1 X.1.2.2.2.2.1 X.1.2.2.2.2.2 X.2.1.1 X.2.1.2.1 X.2.1.2.2.1 X.2.1.2.2.2 H locs kc ks X.2.2.1 g
def EV (X : mX) (nL pc : Nat) (l : List (Nat × Value)) (st : List Value) (kc ks : Nat) (M : mM) : Prop :=
  ∀ (H : Heap) (locs : List Loc) (ls : Array Slot), lv_has ls nL (l.map fun q => (q.1, m_v (xf X) q.2)) → m_At (xw X) M H → va_S (xA X) (xs X).heap H locs → WX X H locs kc ks (F0 (xm X) pc ls (st.map (m_v (xf X))))
theorem lv_map {f : Nat → Nat} {l : List (Nat × Value)} {k i : Nat} {v : Value} (h : l[k]? = some (i, v)) : (l.map fun q => (q.1, m_v f q.2))[k]? = some (i, m_v f v) := by
  rw [List.getElem?_map, h]
  rfl
theorem lv_map1 {f : Nat → Nat} {l l' : List (Nat × Value)} {i : Nat} {v : Value} (h : (i, v) :: l.filter (fun q => !(q.1 == i) && !(q.1 + 1 == i && q.2.category == 2)) = l') : (i, m_v f v) :: (l.map fun q => (q.1, m_v f q.2)).filter (fun q => !(q.1 == i) && !(q.1 + 1 == i && q.2.category == 2)) = l'.map fun q => (q.1, m_v f q.2) := by
  subst h
  rw [List.map_cons, List.filter_map]
  refine congrArg (List.cons _) (congrArg (List.map _) ?_)
  congr 1
  funext q
  simp [m_v_cat]
theorem lv_map2 {f : Nat → Nat} {l l' : List (Nat × Value)} {i : Nat} {v : Value} (h : (i, v) :: l.filter (fun q => !(q.1 == i) && (!(q.1 == i + 1) && !(q.1 + 1 == i && q.2.category == 2))) = l') : (i, m_v f v) :: (l.map fun q => (q.1, m_v f q.2)).filter (fun q => !(q.1 == i) && (!(q.1 == i + 1) && !(q.1 + 1 == i && q.2.category == 2))) = l'.map fun q => (q.1, m_v f q.2) := by
  subst h
  rw [List.map_cons, List.filter_map]
  refine congrArg (List.cons _) (congrArg (List.map _) ?_)
  congr 1
  funext q
  simp [m_v_cat]

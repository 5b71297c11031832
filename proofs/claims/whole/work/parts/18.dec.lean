/-! FareLimitsModel spill(III)J -/
theorem dX12_spill_0 : decode prog_14_method_46_code 0 = .ok (.aload_n 0, 1) := by decide +kernel
theorem dX12_spill_1 : decode prog_14_method_46_code 1 = .ok (.iload_n 1, 1) := by decide +kernel
theorem dX12_spill_2 : decode prog_14_method_46_code 2 = .ok (.invokevirtual 82, 3) := by decide +kernel
theorem dX12_spill_5 : decode prog_14_method_46_code 5 = .ok (.ifCond .eq 22, 3) := by decide +kernel
theorem dX12_spill_8 : decode prog_14_method_46_code 8 = .ok (.iload_n 2, 1) := by decide +kernel
theorem dX12_spill_9 : decode prog_14_method_46_code 9 = .ok (.invokestatic 111, 3) := by decide +kernel
theorem dX12_spill_12 : decode prog_14_method_46_code 12 = .ok (.ifCond .eq 15, 3) := by decide +kernel
theorem dX12_spill_15 : decode prog_14_method_46_code 15 = .ok (.iload_n 3, 1) := by decide +kernel
theorem dX12_spill_16 : decode prog_14_method_46_code 16 = .ok (.i2l, 1) := by decide +kernel
theorem dX12_spill_17 : decode prog_14_method_46_code 17 = .ok (.lconst 0, 1) := by decide +kernel
theorem dX12_spill_18 : decode prog_14_method_46_code 18 = .ok (.ldc2_w 94, 3) := by decide +kernel
theorem dX12_spill_21 : decode prog_14_method_46_code 21 = .ok (.invokestatic 72, 3) := by decide +kernel
theorem dX12_spill_24 : decode prog_14_method_46_code 24 = .ok (.ifCond .ne 7, 3) := by decide +kernel
theorem dX12_spill_27 : decode prog_14_method_46_code 27 = .ok (.ldc2_w 120, 3) := by decide +kernel
theorem dX12_spill_30 : decode prog_14_method_46_code 30 = .ok (.lreturn, 1) := by decide +kernel
theorem dX12_spill_31 : decode prog_14_method_46_code 31 = .ok (.aload_n 0, 1) := by decide +kernel
theorem dX12_spill_32 : decode prog_14_method_46_code 32 = .ok (.iload_n 1, 1) := by decide +kernel
theorem dX12_spill_33 : decode prog_14_method_46_code 33 = .ok (.iload_n 2, 1) := by decide +kernel
theorem dX12_spill_34 : decode prog_14_method_46_code 34 = .ok (.invokevirtual 198, 3) := by decide +kernel
theorem dX12_spill_37 : decode prog_14_method_46_code 37 = .ok (.dconst 0, 1) := by decide +kernel
theorem dX12_spill_38 : decode prog_14_method_46_code 38 = .ok (.dstore 4, 2) := by decide +kernel
theorem dX12_spill_40 : decode prog_14_method_46_code 40 = .ok (.iload_n 3, 1) := by decide +kernel
theorem dX12_spill_41 : decode prog_14_method_46_code 41 = .ok (.iconst 1, 1) := by decide +kernel
theorem dX12_spill_42 : decode prog_14_method_46_code 42 = .ok (.iadd, 1) := by decide +kernel
theorem dX12_spill_43 : decode prog_14_method_46_code 43 = .ok (.istore 6, 2) := by decide +kernel
theorem dX12_spill_45 : decode prog_14_method_46_code 45 = .ok (.iload 6, 2) := by decide +kernel
theorem dX12_spill_47 : decode prog_14_method_46_code 47 = .ok (.iload_n 2, 1) := by decide +kernel
theorem dX12_spill_48 : decode prog_14_method_46_code 48 = .ok (.if_icmp .gt 27, 3) := by decide +kernel
theorem dX12_spill_51 : decode prog_14_method_46_code 51 = .ok (.dload 4, 2) := by decide +kernel
theorem dX12_spill_53 : decode prog_14_method_46_code 53 = .ok (.iload 6, 2) := by decide +kernel
theorem dX12_spill_55 : decode prog_14_method_46_code 55 = .ok (.iload_n 3, 1) := by decide +kernel
theorem dX12_spill_56 : decode prog_14_method_46_code 56 = .ok (.isub, 1) := by decide +kernel
theorem dX12_spill_57 : decode prog_14_method_46_code 57 = .ok (.i2d, 1) := by decide +kernel
theorem dX12_spill_58 : decode prog_14_method_46_code 58 = .ok (.aload_n 0, 1) := by decide +kernel
theorem dX12_spill_59 : decode prog_14_method_46_code 59 = .ok (.getfield 44, 3) := by decide +kernel
theorem dX12_spill_62 : decode prog_14_method_46_code 62 = .ok (.iload 6, 2) := by decide +kernel
theorem dX12_spill_64 : decode prog_14_method_46_code 64 = .ok (.daload, 1) := by decide +kernel
theorem dX12_spill_65 : decode prog_14_method_46_code 65 = .ok (.dmul, 1) := by decide +kernel
theorem dX12_spill_66 : decode prog_14_method_46_code 66 = .ok (.dadd, 1) := by decide +kernel
theorem dX12_spill_67 : decode prog_14_method_46_code 67 = .ok (.dstore 4, 2) := by decide +kernel
theorem dX12_spill_69 : decode prog_14_method_46_code 69 = .ok (.iinc 6 1, 3) := by decide +kernel
theorem dX12_spill_72 : decode prog_14_method_46_code 72 = .ok (.goto (-27), 3) := by decide +kernel
theorem dX12_spill_75 : decode prog_14_method_46_code 75 = .ok (.dload 4, 2) := by decide +kernel
theorem dX12_spill_77 : decode prog_14_method_46_code 77 = .ok (.invokestatic 114, 3) := by decide +kernel
theorem dX12_spill_80 : decode prog_14_method_46_code 80 = .ok (.lreturn, 1) := by decide +kernel
def m_X12_spill_L45 (N : Nat)  : Nat → Nat → Int32 → Int32 → UInt64 → Int32 → mM → Option (Int64 × mM)
  | 0, _, _, _, _, _, _ => none
  | n + 1, a0, i2, i3, d4, i6, M =>
    if i2 < i6 then (
      (m_Jxe99ae_doubleToLongBits_ccdee d4).bind fun x1 =>
      some (x1, M)) else (
      (fR M a0 12 13).bind fun x3 =>
      (aD M x3 i6).bind fun x5 =>
      (oD (FP.dmul (FP.i2d (i6 - i3)) x5)).bind fun x7 =>
      (oD (FP.dadd d4 x7)).bind fun x9 =>
      (m_X12_spill_L45 N  n) a0 i2 i3 x9 (i6 + 1) M)
set_option maxHeartbeats 4000000 in
set_option maxRecDepth 100000 in
theorem t_X12_spill_L45 {X : mX} {L0 : Launch} {res : Int64 × mM} {N : Nat} (C : CX X RX12 "spill" prog_14_method_46_code 7 (some .long)) (E : EX X L0 2 61 0 0 (some (.long res.1)) res.2)   : ∀ (n : Nat) (a0 : Nat) (i2 : Int32) (i3 : Int32) (d4 : UInt64) (i6 : Int32) (M : mM), m_X12_spill_L45 N  n a0 i2 i3 d4 i6 M = some res → EV X 7 45 [(0, .ref a0), (2, .int i2), (3, .int i3), (4, .double d4), (6, .int i6)] [] 0 0 M := by
  intro n
  induction n with
  | zero => intro a0 i2 i3 d4 i6 M hf; cases (show (none : Option (Int64 × mM)) = some res from hf)
  | succ n ih =>
    intro a0 i2 i3 d4 i6 M hf
    rw [m_X12_spill_L45] at hf
    refine ev_iload C dX12_spill_45 (q := 4) rfl ?_
    refine ev_iload_n C dX12_spill_47 rfl (q := 1) rfl ?_
    refine ev_icmp_gt (tgt := 75) C dX12_spill_48 (by decide) (fun hc => ?_) (fun hc => ?_)
    · have hf := oit hf hc
      refine ev_dload C dX12_spill_75 (q := 3) rfl ?_
      obtain ⟨x1, e2, hf⟩ := obnd hf
      refine ev_callS0 (As := [.double d4]) (st := []) C (t_Jxe99ae_doubleToLongBits_ccdee e2) hd_Jxe99ae_doubleToLongBits_ccdee rfl kw_1298 kw_1299 kw_89 kw_1300 (mRoom.of E (Nat.le_of_ble_eq_true rfl) (Nat.le_of_ble_eq_true rfl) (Nat.le_refl 0) (Nat.le_refl 0)) (Nat.le_of_ble_eq_true rfl) dX12_spill_77 ?_
      obtain rfl := Option.some.inj hf
      exact ev_lret C E (Nat.le_refl 0) (Nat.le_refl 0) dX12_spill_80
    · have hf := oie hf hc
      refine ev_dload C dX12_spill_51 (q := 3) rfl ?_
      refine ev_iload C dX12_spill_53 (q := 4) rfl ?_
      refine ev_iload_n C dX12_spill_55 rfl (q := 2) rfl ?_
      refine ev_isub C dX12_spill_56 ?_
      refine ev_i2d C dX12_spill_57 ?_
      refine ev_aload_n C dX12_spill_58 rfl (q := 0) rfl ?_
      obtain ⟨x3, e4, hf⟩ := obnd hf
      refine ev_get (k := 13) C ok_12 dX12_spill_59 (by decide) kw_1172 (fR_V e4) ?_
      refine ev_iload C dX12_spill_62 (q := 4) rfl ?_
      obtain ⟨x5, e6, hf⟩ := obnd hf
      refine ev_dald C dX12_spill_64 e6 ?_
      obtain ⟨x7, e8, hf⟩ := obnd hf
      obtain ⟨e8, e8q⟩ := oD_eq e8
      refine ev_dmul C dX12_spill_65 e8 ?_
      rw [← e8q]
      obtain ⟨x9, e10, hf⟩ := obnd hf
      obtain ⟨e10, e10q⟩ := oD_eq e10
      refine ev_dadd C dX12_spill_66 e10 ?_
      rw [← e10q]
      refine ev_dstore (l' := [(4, .double x9), (0, .ref a0), (2, .int i2), (3, .int i3), (6, .int i6)]) C dX12_spill_67 (by decide) rfl ?_
      refine ev_iinc (v := i6 + 1) (l' := [(6, .int (i6 + 1)), (4, .double x9), (0, .ref a0), (2, .int i2), (3, .int i3)]) C dX12_spill_69 (q := 4) rfl rfl (by decide) rfl ?_
      refine ev_goto (tgt := 45) C dX12_spill_72 (by decide) ?_
      refine ev_sub [2, 3, 4, 1, 0] rfl ?_
      exact ih a0 i2 i3 x9 (i6 + 1) M hf
def m_X12_spill (N : Nat) (a0 : Nat) (i1 : Int32) (i2 : Int32) (i3 : Int32) (M : mM) : Option (Int64 × mM) :=
  (oO M a0 12).bind fun _ =>
  (m_X12_isFare a0 i1 M).bind fun x3 =>
  if x3 = 0 then (
    some ((-9223372036854775808), M)) else (
    (m_X12_isStage i2).bind fun x5 =>
    if x5 = 0 then (
      some ((-9223372036854775808), M)) else (
      (m_X12_in i3.toInt64 0 30).bind fun x7 =>
      if x7 = 0 then (
        some ((-9223372036854775808), M)) else (
        (oO M a0 12).bind fun _ =>
        (m_X12_asks N a0 i1 i2 M).bind fun x11 =>
        m_X12_spill_L45 N  N a0 i2 i3 FP.dconst0 (i3 + 1) x11)))
set_option maxHeartbeats 4000000 in
set_option maxRecDepth 100000 in
theorem t_X12_spill {L0 : Launch} {M : mM} {N : Nat} {a0 : Nat} {i1 : Int32} {i2 : Int32} {i3 : Int32} {res : Int64 × mM} (hf : m_X12_spill N a0 i1 i2 i3 M = some res) : CT L0 yX12_spill prog_14_method_46_code 7 (some .long) 2 61 0 0 [.ref a0, .int i1, .int i2, .int i3] M (some (.long res.1)) res.2 := by
  refine CT.of (by decide +kernel) (Nat.le_of_ble_eq_true rfl) fun X C E => ?_
  have C : CX X RX12 "spill" prog_14_method_46_code 7 (some .long) := C
  show EV X 7 0 [(0, .ref a0), (1, .int i1), (2, .int i2), (3, .int i3)] [] 0 0 M
  unfold m_X12_spill at hf
  refine ev_aload_n C dX12_spill_0 rfl (q := 0) rfl ?_
  refine ev_iload_n C dX12_spill_1 rfl (q := 1) rfl ?_
  obtain ⟨_, e1, hf⟩ := obnd hf
  obtain ⟨fs2, e1⟩ := oO_eq e1
  obtain ⟨x3, e4, hf⟩ := obnd hf
  refine ev_callV0 (As := [.int i1]) (st := []) C rfl e1 (t_X12_isFare e4) rfl hd_X12_isFare rfl kw_1261 kw_1263 kw_87 kw_20 kw_1264 (mRoom.of E (Nat.le_of_ble_eq_true rfl) (Nat.le_of_ble_eq_true rfl) (Nat.le_refl 0) (Nat.le_refl 0)) (Nat.le_of_ble_eq_true rfl) dX12_spill_2 ?_
  refine ev_if_eq (tgt := 27) C dX12_spill_5 (by decide) (fun hc => ?_) (fun hc => ?_)
  · have hf := oit hf hc
    refine ev_ldc2 (v := (-9223372036854775808)) C dX12_spill_27 kw_1308 ?_
    obtain rfl := Option.some.inj hf
    exact ev_lret C E (Nat.le_refl 0) (Nat.le_refl 0) dX12_spill_30
  · have hf := oie hf hc
    refine ev_iload_n C dX12_spill_8 rfl (q := 2) rfl ?_
    obtain ⟨x5, e6, hf⟩ := obnd hf
    refine ev_callS0 (As := [.int i2]) (st := []) C (t_X12_isStage e6) hd_X12_isStage rfl kw_1289 kw_1290 kw_87 kw_1291 (mRoom.of E (Nat.le_of_ble_eq_true rfl) (Nat.le_of_ble_eq_true rfl) (Nat.le_refl 0) (Nat.le_refl 0)) (Nat.le_of_ble_eq_true rfl) dX12_spill_9 ?_
    refine ev_if_eq (tgt := 27) C dX12_spill_12 (by decide) (fun hc => ?_) (fun hc => ?_)
    · have hf := oit hf hc
      refine ev_ldc2 (v := (-9223372036854775808)) C dX12_spill_27 kw_1308 ?_
      obtain rfl := Option.some.inj hf
      exact ev_lret C E (Nat.le_refl 0) (Nat.le_refl 0) dX12_spill_30
    · have hf := oie hf hc
      refine ev_iload_n C dX12_spill_15 rfl (q := 3) rfl ?_
      refine ev_i2l C dX12_spill_16 ?_
      refine ev_lconst (v := 0) C dX12_spill_17 (by decide) ?_
      refine ev_ldc2 (v := 30) C dX12_spill_18 kw_1283 ?_
      obtain ⟨x7, e8, hf⟩ := obnd hf
      refine ev_callS0 (As := [.long i3.toInt64, .long 0, .long 30]) (st := []) C (t_X12_in e8) hd_X12_in rfl kw_1253 kw_1254 kw_87 kw_1255 (mRoom.of E (Nat.le_of_ble_eq_true rfl) (Nat.le_of_ble_eq_true rfl) (Nat.le_refl 0) (Nat.le_refl 0)) (Nat.le_of_ble_eq_true rfl) dX12_spill_21 ?_
      refine ev_if_ne (tgt := 31) C dX12_spill_24 (by decide) (fun hc => ?_) (fun hc => ?_)
      · have hf := oie hf hc
        refine ev_aload_n C dX12_spill_31 rfl (q := 0) rfl ?_
        refine ev_iload_n C dX12_spill_32 rfl (q := 1) rfl ?_
        refine ev_iload_n C dX12_spill_33 rfl (q := 2) rfl ?_
        obtain ⟨_, e9, hf⟩ := obnd hf
        obtain ⟨fs10, e9⟩ := oO_eq e9
        obtain ⟨x11, e12, hf⟩ := obnd hf
        refine ev_callV0 (As := [.int i1, .int i2]) (st := []) C rfl e9 (t_X12_asks e12) rfl hd_X12_asks rfl kw_1450 kw_1452 kw_87 kw_38 kw_1453 (mRoom.of E (Nat.le_of_ble_eq_true rfl) (Nat.le_of_ble_eq_true rfl) (Nat.le_refl 0) (Nat.le_refl 0)) (Nat.le_of_ble_eq_true rfl) dX12_spill_34 ?_
        refine ev_dconst0 C dX12_spill_37 ?_
        refine ev_dstore (l' := [(4, .double FP.dconst0), (0, .ref a0), (1, .int i1), (2, .int i2), (3, .int i3)]) C dX12_spill_38 (by decide) rfl ?_
        refine ev_iload_n C dX12_spill_40 rfl (q := 4) rfl ?_
        refine ev_iconst (v := 1) C dX12_spill_41 (by decide) ?_
        refine ev_iadd C dX12_spill_42 ?_
        refine ev_istore (l' := [(6, .int (i3 + 1)), (4, .double FP.dconst0), (0, .ref a0), (1, .int i1), (2, .int i2), (3, .int i3)]) C dX12_spill_43 (by decide) rfl ?_
        refine ev_sub [2, 4, 5, 1, 0] rfl ?_
        exact t_X12_spill_L45 C E   N a0 i2 i3 FP.dconst0 (i3 + 1) x11 hf
      · have hf := oit hf hc
        refine ev_ldc2 (v := (-9223372036854775808)) C dX12_spill_27 kw_1308 ?_
        obtain rfl := Option.some.inj hf
        exact ev_lret C E (Nat.le_refl 0) (Nat.le_refl 0) dX12_spill_30
/-! FareLimitsModel hand(II)I -/
theorem dX12_hand_0 : decode prog_14_method_47_code 0 = .ok (.aload_n 0, 1) := by decide +kernel
theorem dX12_hand_1 : decode prog_14_method_47_code 1 = .ok (.iload_n 1, 1) := by decide +kernel
theorem dX12_hand_2 : decode prog_14_method_47_code 2 = .ok (.invokevirtual 82, 3) := by decide +kernel
theorem dX12_hand_5 : decode prog_14_method_47_code 5 = .ok (.ifCond .ne 5, 3) := by decide +kernel
theorem dX12_hand_8 : decode prog_14_method_47_code 8 = .ok (.iconst (-1), 1) := by decide +kernel
theorem dX12_hand_9 : decode prog_14_method_47_code 9 = .ok (.ireturn, 1) := by decide +kernel
theorem dX12_hand_10 : decode prog_14_method_47_code 10 = .ok (.iload_n 2, 1) := by decide +kernel
theorem dX12_hand_11 : decode prog_14_method_47_code 11 = .ok (.i2l, 1) := by decide +kernel
theorem dX12_hand_12 : decode prog_14_method_47_code 12 = .ok (.lconst 0, 1) := by decide +kernel
theorem dX12_hand_13 : decode prog_14_method_47_code 13 = .ok (.ldc2_w 94, 3) := by decide +kernel
theorem dX12_hand_16 : decode prog_14_method_47_code 16 = .ok (.invokestatic 72, 3) := by decide +kernel
theorem dX12_hand_19 : decode prog_14_method_47_code 19 = .ok (.ifCond .ne 6, 3) := by decide +kernel
theorem dX12_hand_22 : decode prog_14_method_47_code 22 = .ok (.bipush (-2), 2) := by decide +kernel
theorem dX12_hand_24 : decode prog_14_method_47_code 24 = .ok (.ireturn, 1) := by decide +kernel
theorem dX12_hand_25 : decode prog_14_method_47_code 25 = .ok (.aload_n 0, 1) := by decide +kernel
theorem dX12_hand_26 : decode prog_14_method_47_code 26 = .ok (.getfield 9, 3) := by decide +kernel
theorem dX12_hand_29 : decode prog_14_method_47_code 29 = .ok (.bipush 122, 2) := by decide +kernel
theorem dX12_hand_31 : decode prog_14_method_47_code 31 = .ok (.iload_n 1, 1) := by decide +kernel
theorem dX12_hand_32 : decode prog_14_method_47_code 32 = .ok (.iadd, 1) := by decide +kernel
theorem dX12_hand_33 : decode prog_14_method_47_code 33 = .ok (.iaload, 1) := by decide +kernel
theorem dX12_hand_34 : decode prog_14_method_47_code 34 = .ok (.istore_n 3, 1) := by decide +kernel
theorem dX12_hand_35 : decode prog_14_method_47_code 35 = .ok (.aload_n 0, 1) := by decide +kernel
theorem dX12_hand_36 : decode prog_14_method_47_code 36 = .ok (.getfield 9, 3) := by decide +kernel
theorem dX12_hand_39 : decode prog_14_method_47_code 39 = .ok (.bipush 122, 2) := by decide +kernel
theorem dX12_hand_41 : decode prog_14_method_47_code 41 = .ok (.iload_n 1, 1) := by decide +kernel
theorem dX12_hand_42 : decode prog_14_method_47_code 42 = .ok (.iadd, 1) := by decide +kernel
theorem dX12_hand_43 : decode prog_14_method_47_code 43 = .ok (.iload_n 2, 1) := by decide +kernel
theorem dX12_hand_44 : decode prog_14_method_47_code 44 = .ok (.iastore, 1) := by decide +kernel
theorem dX12_hand_45 : decode prog_14_method_47_code 45 = .ok (.iload_n 3, 1) := by decide +kernel
theorem dX12_hand_46 : decode prog_14_method_47_code 46 = .ok (.ireturn, 1) := by decide +kernel
def m_X12_hand (a0 : Nat) (i1 : Int32) (i2 : Int32) (M : mM) : Option (Int32 × mM) :=
  (oO M a0 12).bind fun _ =>
  (m_X12_isFare a0 i1 M).bind fun x3 =>
  if x3 = 0 then (
    some ((-1), M)) else (
    (m_X12_in i2.toInt64 0 30).bind fun x5 =>
    if x5 = 0 then (
      some ((-2), M)) else (
      (fR M a0 12 0).bind fun x7 =>
      (aI 0 M x7 (122 + i1)).bind fun x9 =>
      (fR M a0 12 0).bind fun x11 =>
      (uI 0 .int M x11 (122 + i1) i2).bind fun M13 =>
      some (x9, M13)))
set_option maxHeartbeats 4000000 in
set_option maxRecDepth 100000 in
theorem t_X12_hand {L0 : Launch} {M : mM} {a0 : Nat} {i1 : Int32} {i2 : Int32} {res : Int32 × mM} (hf : m_X12_hand a0 i1 i2 M = some res) : CT L0 yX12_hand prog_14_method_47_code 4 (some .int) 2 46 0 0 [.ref a0, .int i1, .int i2] M (some (.int res.1)) res.2 := by
  refine CT.of (by decide +kernel) (Nat.le_of_ble_eq_true rfl) fun X C E => ?_
  have C : CX X RX12 "hand" prog_14_method_47_code 4 (some .int) := C
  show EV X 4 0 [(0, .ref a0), (1, .int i1), (2, .int i2)] [] 0 0 M
  unfold m_X12_hand at hf
  refine ev_aload_n C dX12_hand_0 rfl (q := 0) rfl ?_
  refine ev_iload_n C dX12_hand_1 rfl (q := 1) rfl ?_
  obtain ⟨_, e1, hf⟩ := obnd hf
  obtain ⟨fs2, e1⟩ := oO_eq e1
  obtain ⟨x3, e4, hf⟩ := obnd hf
  refine ev_callV0 (As := [.int i1]) (st := []) C rfl e1 (t_X12_isFare e4) rfl hd_X12_isFare rfl kw_1261 kw_1263 kw_87 kw_20 kw_1264 (mRoom.of E (Nat.le_of_ble_eq_true rfl) (Nat.le_of_ble_eq_true rfl) (Nat.le_refl 0) (Nat.le_refl 0)) (Nat.le_of_ble_eq_true rfl) dX12_hand_2 ?_
  refine ev_if_ne (tgt := 10) C dX12_hand_5 (by decide) (fun hc => ?_) (fun hc => ?_)
  · have hf := oie hf hc
    refine ev_iload_n C dX12_hand_10 rfl (q := 2) rfl ?_
    refine ev_i2l C dX12_hand_11 ?_
    refine ev_lconst (v := 0) C dX12_hand_12 (by decide) ?_
    refine ev_ldc2 (v := 30) C dX12_hand_13 kw_1283 ?_
    obtain ⟨x5, e6, hf⟩ := obnd hf
    refine ev_callS0 (As := [.long i2.toInt64, .long 0, .long 30]) (st := []) C (t_X12_in e6) hd_X12_in rfl kw_1253 kw_1254 kw_87 kw_1255 (mRoom.of E (Nat.le_of_ble_eq_true rfl) (Nat.le_of_ble_eq_true rfl) (Nat.le_refl 0) (Nat.le_refl 0)) (Nat.le_of_ble_eq_true rfl) dX12_hand_16 ?_
    refine ev_if_ne (tgt := 25) C dX12_hand_19 (by decide) (fun hc => ?_) (fun hc => ?_)
    · have hf := oie hf hc
      refine ev_aload_n C dX12_hand_25 rfl (q := 0) rfl ?_
      obtain ⟨x7, e8, hf⟩ := obnd hf
      refine ev_get (k := 0) C ok_12 dX12_hand_26 (by decide) kw_1159 (fR_V e8) ?_
      refine ev_bipush (v := 122) C dX12_hand_29 (by decide) ?_
      refine ev_iload_n C dX12_hand_31 rfl (q := 1) rfl ?_
      refine ev_iadd C dX12_hand_32 ?_
      obtain ⟨x9, e10, hf⟩ := obnd hf
      refine ev_iald C dX12_hand_33 e10 ?_
      refine ev_istore_n (l' := [(3, .int x9), (0, .ref a0), (1, .int i1), (2, .int i2)]) C dX12_hand_34 rfl (by decide) rfl ?_
      refine ev_aload_n C dX12_hand_35 rfl (q := 1) rfl ?_
      obtain ⟨x11, e12, hf⟩ := obnd hf
      refine ev_get (k := 0) C ok_12 dX12_hand_36 (by decide) kw_1159 (fR_V e12) ?_
      refine ev_bipush (v := 122) C dX12_hand_39 (by decide) ?_
      refine ev_iload_n C dX12_hand_41 rfl (q := 2) rfl ?_
      refine ev_iadd C dX12_hand_42 ?_
      refine ev_iload_n C dX12_hand_43 rfl (q := 3) rfl ?_
      obtain ⟨M13, e14, hf⟩ := obnd hf
      refine ev_iast C dX12_hand_44 e14 ?_
      refine ev_iload_n C dX12_hand_45 rfl (q := 0) rfl ?_
      obtain rfl := Option.some.inj hf
      exact ev_iret C E (Nat.le_refl 0) (Nat.le_refl 0) dX12_hand_46
    · have hf := oit hf hc
      refine ev_bipush (v := (-2)) C dX12_hand_22 (by decide) ?_
      obtain rfl := Option.some.inj hf
      exact ev_iret C E (Nat.le_refl 0) (Nat.le_refl 0) dX12_hand_24
  · have hf := oit hf hc
    refine ev_iconst (v := (-1)) C dX12_hand_8 (by decide) ?_
    obtain rfl := Option.some.inj hf
    exact ev_iret C E (Nat.le_refl 0) (Nat.le_refl 0) dX12_hand_9
/-! FareLimitsModel seed(I)I -/
theorem dX12_seed_0 : decode prog_14_method_48_code 0 = .ok (.aload_n 0, 1) := by decide +kernel
theorem dX12_seed_1 : decode prog_14_method_48_code 1 = .ok (.getfield 9, 3) := by decide +kernel
theorem dX12_seed_4 : decode prog_14_method_48_code 4 = .ok (.sipush 128, 3) := by decide +kernel
theorem dX12_seed_7 : decode prog_14_method_48_code 7 = .ok (.iaload, 1) := by decide +kernel
theorem dX12_seed_8 : decode prog_14_method_48_code 8 = .ok (.istore_n 2, 1) := by decide +kernel
theorem dX12_seed_9 : decode prog_14_method_48_code 9 = .ok (.aload_n 0, 1) := by decide +kernel
theorem dX12_seed_10 : decode prog_14_method_48_code 10 = .ok (.getfield 9, 3) := by decide +kernel
theorem dX12_seed_13 : decode prog_14_method_48_code 13 = .ok (.sipush 128, 3) := by decide +kernel
theorem dX12_seed_16 : decode prog_14_method_48_code 16 = .ok (.iload_n 1, 1) := by decide +kernel
theorem dX12_seed_17 : decode prog_14_method_48_code 17 = .ok (.iastore, 1) := by decide +kernel
theorem dX12_seed_18 : decode prog_14_method_48_code 18 = .ok (.iload_n 2, 1) := by decide +kernel
theorem dX12_seed_19 : decode prog_14_method_48_code 19 = .ok (.ireturn, 1) := by decide +kernel
def m_X12_seed (a0 : Nat) (i1 : Int32) (M : mM) : Option (Int32 × mM) :=
  (fR M a0 12 0).bind fun x1 =>
  (aI 0 M x1 128).bind fun x3 =>
  (fR M a0 12 0).bind fun x5 =>
  (uI 0 .int M x5 128 i1).bind fun M7 =>
  some (x3, M7)
set_option maxHeartbeats 4000000 in
set_option maxRecDepth 100000 in
theorem t_X12_seed {L0 : Launch} {M : mM} {a0 : Nat} {i1 : Int32} {res : Int32 × mM} (hf : m_X12_seed a0 i1 M = some res) : CT L0 yX12_seed prog_14_method_48_code 3 (some .int) 0 0 0 0 [.ref a0, .int i1] M (some (.int res.1)) res.2 := by
  refine CT.of (by decide +kernel) (Nat.le_of_ble_eq_true rfl) fun X C E => ?_
  have C : CX X RX12 "seed" prog_14_method_48_code 3 (some .int) := C
  show EV X 3 0 [(0, .ref a0), (1, .int i1)] [] 0 0 M
  unfold m_X12_seed at hf
  refine ev_aload_n C dX12_seed_0 rfl (q := 0) rfl ?_
  obtain ⟨x1, e2, hf⟩ := obnd hf
  refine ev_get (k := 0) C ok_12 dX12_seed_1 (by decide) kw_1159 (fR_V e2) ?_
  refine ev_sipush (v := 128) C dX12_seed_4 (by decide) ?_
  obtain ⟨x3, e4, hf⟩ := obnd hf
  refine ev_iald C dX12_seed_7 e4 ?_
  refine ev_istore_n (l' := [(2, .int x3), (0, .ref a0), (1, .int i1)]) C dX12_seed_8 rfl (by decide) rfl ?_
  refine ev_aload_n C dX12_seed_9 rfl (q := 1) rfl ?_
  obtain ⟨x5, e6, hf⟩ := obnd hf
  refine ev_get (k := 0) C ok_12 dX12_seed_10 (by decide) kw_1159 (fR_V e6) ?_
  refine ev_sipush (v := 128) C dX12_seed_13 (by decide) ?_
  refine ev_iload_n C dX12_seed_16 rfl (q := 2) rfl ?_
  obtain ⟨M7, e8, hf⟩ := obnd hf
  refine ev_iast C dX12_seed_17 e8 ?_
  refine ev_iload_n C dX12_seed_18 rfl (q := 0) rfl ?_
  obtain rfl := Option.some.inj hf
  exact ev_iret C E (Nat.le_refl 0) (Nat.le_refl 0) dX12_seed_19
/-! FareLimitsModel opens()V -/
theorem dX12_opens_0 : decode prog_14_method_49_code 0 = .ok (.aload_n 0, 1) := by decide +kernel
theorem dX12_opens_1 : decode prog_14_method_49_code 1 = .ok (.aload_n 0, 1) := by decide +kernel
theorem dX12_opens_2 : decode prog_14_method_49_code 2 = .ok (.getfield 9, 3) := by decide +kernel
theorem dX12_opens_5 : decode prog_14_method_49_code 5 = .ok (.iconst 1, 1) := by decide +kernel
theorem dX12_opens_6 : decode prog_14_method_49_code 6 = .ok (.iaload, 1) := by decide +kernel
theorem dX12_opens_7 : decode prog_14_method_49_code 7 = .ok (.putfield 201, 3) := by decide +kernel
theorem dX12_opens_10 : decode prog_14_method_49_code 10 = .ok (.iconst 0, 1) := by decide +kernel
theorem dX12_opens_11 : decode prog_14_method_49_code 11 = .ok (.istore_n 1, 1) := by decide +kernel
theorem dX12_opens_12 : decode prog_14_method_49_code 12 = .ok (.iload_n 1, 1) := by decide +kernel
theorem dX12_opens_13 : decode prog_14_method_49_code 13 = .ok (.bipush 6, 2) := by decide +kernel
theorem dX12_opens_15 : decode prog_14_method_49_code 15 = .ok (.if_icmp .ge 16, 3) := by decide +kernel
theorem dX12_opens_18 : decode prog_14_method_49_code 18 = .ok (.aload_n 0, 1) := by decide +kernel
theorem dX12_opens_19 : decode prog_14_method_49_code 19 = .ok (.getfield 60, 3) := by decide +kernel
theorem dX12_opens_22 : decode prog_14_method_49_code 22 = .ok (.iload_n 1, 1) := by decide +kernel
theorem dX12_opens_23 : decode prog_14_method_49_code 23 = .ok (.iconst 0, 1) := by decide +kernel
theorem dX12_opens_24 : decode prog_14_method_49_code 24 = .ok (.iastore, 1) := by decide +kernel
theorem dX12_opens_25 : decode prog_14_method_49_code 25 = .ok (.iinc 1 1, 3) := by decide +kernel
theorem dX12_opens_28 : decode prog_14_method_49_code 28 = .ok (.goto (-16), 3) := by decide +kernel
theorem dX12_opens_31 : decode prog_14_method_49_code 31 = .ok (.return_, 1) := by decide +kernel
def m_X12_opens_L12 (N : Nat)  : Nat → Nat → Int32 → mM → Option (mM)
  | 0, _, _, _ => none
  | n + 1, a0, i1, M =>
    if 6 ≤ i1 then (
      some M) else (
      (fR M a0 12 19).bind fun x1 =>
      (uI 0 .int M x1 i1 0).bind fun M3 =>
      (m_X12_opens_L12 N  n) a0 (i1 + 1) M3)
set_option maxHeartbeats 4000000 in
set_option maxRecDepth 100000 in
theorem t_X12_opens_L12 {X : mX} {L0 : Launch} {res : mM} {N : Nat} (C : CX X RX12 "opens" prog_14_method_49_code 2 none) (E : EX X L0 0 0 0 0 none res)   : ∀ (n : Nat) (a0 : Nat) (i1 : Int32) (M : mM), m_X12_opens_L12 N  n a0 i1 M = some res → EV X 2 12 [(0, .ref a0), (1, .int i1)] [] 0 0 M := by
  intro n
  induction n with
  | zero => intro a0 i1 M hf; cases (show (none : Option (mM)) = some res from hf)
  | succ n ih =>
    intro a0 i1 M hf
    rw [m_X12_opens_L12] at hf
    refine ev_iload_n C dX12_opens_12 rfl (q := 1) rfl ?_
    refine ev_bipush (v := 6) C dX12_opens_13 (by decide) ?_
    refine ev_icmp_ge (tgt := 31) C dX12_opens_15 (by decide) (fun hc => ?_) (fun hc => ?_)
    · have hf := oit hf hc
      obtain rfl := Option.some.inj hf
      exact ev_vret C E (Nat.le_refl 0) (Nat.le_refl 0) dX12_opens_31
    · have hf := oie hf hc
      refine ev_aload_n C dX12_opens_18 rfl (q := 0) rfl ?_
      obtain ⟨x1, e2, hf⟩ := obnd hf
      refine ev_get (k := 19) C ok_12 dX12_opens_19 (by decide) kw_1178 (fR_V e2) ?_
      refine ev_iload_n C dX12_opens_22 rfl (q := 1) rfl ?_
      refine ev_iconst (v := 0) C dX12_opens_23 (by decide) ?_
      obtain ⟨M3, e4, hf⟩ := obnd hf
      refine ev_iast C dX12_opens_24 e4 ?_
      refine ev_iinc (v := i1 + 1) (l' := [(1, .int (i1 + 1)), (0, .ref a0)]) C dX12_opens_25 (q := 1) rfl rfl (by decide) rfl ?_
      refine ev_goto (tgt := 12) C dX12_opens_28 (by decide) ?_
      refine ev_sub [1, 0] rfl ?_
      exact ih a0 (i1 + 1) M3 hf
def m_X12_opens (N : Nat) (a0 : Nat) (M : mM) : Option (mM) :=
  (fR M a0 12 0).bind fun x1 =>
  (aI 0 M x1 1).bind fun x3 =>
  (sV M a0 12 20 (.int x3)).bind fun M5 =>
  m_X12_opens_L12 N  N a0 0 M5
set_option maxHeartbeats 4000000 in
set_option maxRecDepth 100000 in
theorem t_X12_opens {L0 : Launch} {M : mM} {N : Nat} {a0 : Nat} {res : mM} (hf : m_X12_opens N a0 M = some res) : CT L0 yX12_opens prog_14_method_49_code 2 none 0 0 0 0 [.ref a0] M none res := by
  refine CT.of (by decide +kernel) (Nat.le_of_ble_eq_true rfl) fun X C E => ?_
  have C : CX X RX12 "opens" prog_14_method_49_code 2 none := C
  show EV X 2 0 [(0, .ref a0)] [] 0 0 M
  unfold m_X12_opens at hf
  refine ev_aload_n C dX12_opens_0 rfl (q := 0) rfl ?_
  refine ev_aload_n C dX12_opens_1 rfl (q := 0) rfl ?_
  obtain ⟨x1, e2, hf⟩ := obnd hf
  refine ev_get (k := 0) C ok_12 dX12_opens_2 (by decide) kw_1159 (fR_V e2) ?_
  refine ev_iconst (v := 1) C dX12_opens_5 (by decide) ?_
  obtain ⟨x3, e4, hf⟩ := obnd hf
  refine ev_iald C dX12_opens_6 e4 ?_
  obtain ⟨M5, e6, hf⟩ := obnd hf
  refine ev_put (k := 20) C ok_12 dX12_opens_7 (by decide) kw_1179 rfl ⟨rfl, rfl⟩ e6 ?_
  refine ev_iconst (v := 0) C dX12_opens_10 (by decide) ?_
  refine ev_istore_n (l' := [(1, .int 0), (0, .ref a0)]) C dX12_opens_11 rfl (by decide) rfl ?_
  refine ev_sub [1, 0] rfl ?_
  exact t_X12_opens_L12 C E   N a0 0 M5 hf
/-! FareLimitsModel isByHand(I)Z -/
theorem dX12_isByHand_0 : decode prog_14_method_50_code 0 = .ok (.iconst 0, 1) := by decide +kernel
theorem dX12_isByHand_1 : decode prog_14_method_50_code 1 = .ok (.istore_n 2, 1) := by decide +kernel
theorem dX12_isByHand_2 : decode prog_14_method_50_code 2 = .ok (.iconst 0, 1) := by decide +kernel
theorem dX12_isByHand_3 : decode prog_14_method_50_code 3 = .ok (.istore_n 3, 1) := by decide +kernel
theorem dX12_isByHand_4 : decode prog_14_method_50_code 4 = .ok (.iload_n 3, 1) := by decide +kernel
theorem dX12_isByHand_5 : decode prog_14_method_50_code 5 = .ok (.aload_n 0, 1) := by decide +kernel
theorem dX12_isByHand_6 : decode prog_14_method_50_code 6 = .ok (.getfield 9, 3) := by decide +kernel
theorem dX12_isByHand_9 : decode prog_14_method_50_code 9 = .ok (.iconst 0, 1) := by decide +kernel
theorem dX12_isByHand_10 : decode prog_14_method_50_code 10 = .ok (.iaload, 1) := by decide +kernel
theorem dX12_isByHand_11 : decode prog_14_method_50_code 11 = .ok (.if_icmp .ge 35, 3) := by decide +kernel
theorem dX12_isByHand_14 : decode prog_14_method_50_code 14 = .ok (.iload_n 2, 1) := by decide +kernel
theorem dX12_isByHand_15 : decode prog_14_method_50_code 15 = .ok (.aload_n 0, 1) := by decide +kernel
theorem dX12_isByHand_16 : decode prog_14_method_50_code 16 = .ok (.iload_n 3, 1) := by decide +kernel
theorem dX12_isByHand_17 : decode prog_14_method_50_code 17 = .ok (.invokevirtual 88, 3) := by decide +kernel
theorem dX12_isByHand_20 : decode prog_14_method_50_code 20 = .ok (.aload_n 0, 1) := by decide +kernel
theorem dX12_isByHand_21 : decode prog_14_method_50_code 21 = .ok (.iload_n 1, 1) := by decide +kernel
theorem dX12_isByHand_22 : decode prog_14_method_50_code 22 = .ok (.invokevirtual 88, 3) := by decide +kernel
theorem dX12_isByHand_25 : decode prog_14_method_50_code 25 = .ok (.if_icmp .gt 12, 3) := by decide +kernel
theorem dX12_isByHand_28 : decode prog_14_method_50_code 28 = .ok (.aload_n 0, 1) := by decide +kernel
theorem dX12_isByHand_29 : decode prog_14_method_50_code 29 = .ok (.getfield 60, 3) := by decide +kernel
theorem dX12_isByHand_32 : decode prog_14_method_50_code 32 = .ok (.iload_n 3, 1) := by decide +kernel
theorem dX12_isByHand_33 : decode prog_14_method_50_code 33 = .ok (.iaload, 1) := by decide +kernel
theorem dX12_isByHand_34 : decode prog_14_method_50_code 34 = .ok (.goto 4, 3) := by decide +kernel
theorem dX12_isByHand_37 : decode prog_14_method_50_code 37 = .ok (.iconst 0, 1) := by decide +kernel
theorem dX12_isByHand_38 : decode prog_14_method_50_code 38 = .ok (.iadd, 1) := by decide +kernel
theorem dX12_isByHand_39 : decode prog_14_method_50_code 39 = .ok (.istore_n 2, 1) := by decide +kernel
theorem dX12_isByHand_40 : decode prog_14_method_50_code 40 = .ok (.iinc 3 1, 3) := by decide +kernel
theorem dX12_isByHand_43 : decode prog_14_method_50_code 43 = .ok (.goto (-39), 3) := by decide +kernel
theorem dX12_isByHand_46 : decode prog_14_method_50_code 46 = .ok (.iload_n 2, 1) := by decide +kernel
theorem dX12_isByHand_47 : decode prog_14_method_50_code 47 = .ok (.aload_n 0, 1) := by decide +kernel
theorem dX12_isByHand_48 : decode prog_14_method_50_code 48 = .ok (.getfield 9, 3) := by decide +kernel
theorem dX12_isByHand_51 : decode prog_14_method_50_code 51 = .ok (.bipush 122, 2) := by decide +kernel
theorem dX12_isByHand_53 : decode prog_14_method_50_code 53 = .ok (.iload_n 1, 1) := by decide +kernel
theorem dX12_isByHand_54 : decode prog_14_method_50_code 54 = .ok (.iadd, 1) := by decide +kernel
theorem dX12_isByHand_55 : decode prog_14_method_50_code 55 = .ok (.iaload, 1) := by decide +kernel
theorem dX12_isByHand_56 : decode prog_14_method_50_code 56 = .ok (.if_icmp .ge 7, 3) := by decide +kernel
theorem dX12_isByHand_59 : decode prog_14_method_50_code 59 = .ok (.iconst 1, 1) := by decide +kernel
theorem dX12_isByHand_60 : decode prog_14_method_50_code 60 = .ok (.goto 4, 3) := by decide +kernel
theorem dX12_isByHand_63 : decode prog_14_method_50_code 63 = .ok (.iconst 0, 1) := by decide +kernel
theorem dX12_isByHand_64 : decode prog_14_method_50_code 64 = .ok (.ireturn, 1) := by decide +kernel
def m_X12_isByHand_J38 (N : Nat) (M : mM) (k4 : Nat → Int32 → Int32 → Int32 → Option (Int32)) (a0 : Nat) (i1 : Int32) (i3 : Int32) (si0 : Int32) (si1 : Int32) : Option (Int32) :=
  k4 a0 i1 (si0 + si1) (i3 + 1)
set_option maxHeartbeats 4000000 in
set_option maxRecDepth 100000 in
theorem t_X12_isByHand_J38 {X : mX} {M : mM} {L0 : Launch} {res : Int32} {N : Nat} (C : CX X RX12 "isByHand" prog_14_method_50_code 4 (some .boolean)) (E : EX X L0 1 21 0 0 (some (.int res)) M) (k4 : Nat → Int32 → Int32 → Int32 → Option (Int32)) (Hk4 : ∀ (a0 : Nat) (i1 : Int32) (i2 : Int32) (i3 : Int32), k4 a0 i1 i2 i3 = some res → EV X 4 4 [(0, .ref a0), (1, .int i1), (2, .int i2), (3, .int i3)] [] 0 0 M) (a0 : Nat) (i1 : Int32) (i3 : Int32) (si0 : Int32) (si1 : Int32) (hf : m_X12_isByHand_J38 N M k4 a0 i1 i3 si0 si1 = some res) : EV X 4 38 [(0, .ref a0), (1, .int i1), (3, .int i3)] [.int si1, .int si0] 0 0 M := by
  unfold m_X12_isByHand_J38 at hf
  refine ev_iadd C dX12_isByHand_38 ?_
  refine ev_istore_n (l' := [(2, .int (si0 + si1)), (0, .ref a0), (1, .int i1), (3, .int i3)]) C dX12_isByHand_39 rfl (by decide) rfl ?_
  refine ev_iinc (v := i3 + 1) (l' := [(3, .int (i3 + 1)), (2, .int (si0 + si1)), (0, .ref a0), (1, .int i1)]) C dX12_isByHand_40 (q := 3) rfl rfl (by decide) rfl ?_
  refine ev_goto (tgt := 4) C dX12_isByHand_43 (by decide) ?_
  refine ev_sub [2, 3, 1, 0] rfl ?_
  exact Hk4 a0 i1 (si0 + si1) (i3 + 1) hf
def m_X12_isByHand_L4 (N : Nat) (M : mM)  : Nat → Nat → Int32 → Int32 → Int32 → Option (Int32)
  | 0, _, _, _, _ => none
  | n + 1, a0, i1, i2, i3 =>
    (fR M a0 12 0).bind fun x1 =>
    (aI 0 M x1 0).bind fun x3 =>
    if x3 ≤ i3 then (
      (fR M a0 12 0).bind fun x5 =>
      (aI 0 M x5 (122 + i1)).bind fun x7 =>
      if x7 ≤ i2 then (
        some 0) else (
        some 1)) else (
      (oO M a0 12).bind fun _ =>
      (m_X12_price a0 i3 M).bind fun x11 =>
      (oO M a0 12).bind fun _ =>
      (m_X12_price a0 i1 M).bind fun x15 =>
      if x15 < x11 then (
        m_X12_isByHand_J38 N M (m_X12_isByHand_L4 N M  n) a0 i1 i3 i2 0) else (
        (fR M a0 12 19).bind fun x17 =>
        (aI 0 M x17 i3).bind fun x19 =>
        m_X12_isByHand_J38 N M (m_X12_isByHand_L4 N M  n) a0 i1 i3 i2 x19))
set_option maxHeartbeats 4000000 in
set_option maxRecDepth 100000 in
theorem t_X12_isByHand_L4 {X : mX} {M : mM} {L0 : Launch} {res : Int32} {N : Nat} (C : CX X RX12 "isByHand" prog_14_method_50_code 4 (some .boolean)) (E : EX X L0 1 21 0 0 (some (.int res)) M)   : ∀ (n : Nat) (a0 : Nat) (i1 : Int32) (i2 : Int32) (i3 : Int32), m_X12_isByHand_L4 N M  n a0 i1 i2 i3 = some res → EV X 4 4 [(0, .ref a0), (1, .int i1), (2, .int i2), (3, .int i3)] [] 0 0 M := by
  intro n
  induction n with
  | zero => intro a0 i1 i2 i3 hf; cases (show (none : Option (Int32)) = some res from hf)
  | succ n ih =>
    intro a0 i1 i2 i3 hf
    rw [m_X12_isByHand_L4] at hf
    refine ev_iload_n C dX12_isByHand_4 rfl (q := 3) rfl ?_
    refine ev_aload_n C dX12_isByHand_5 rfl (q := 0) rfl ?_
    obtain ⟨x1, e2, hf⟩ := obnd hf
    refine ev_get (k := 0) C ok_12 dX12_isByHand_6 (by decide) kw_1159 (fR_V e2) ?_
    refine ev_iconst (v := 0) C dX12_isByHand_9 (by decide) ?_
    obtain ⟨x3, e4, hf⟩ := obnd hf
    refine ev_iald C dX12_isByHand_10 e4 ?_
    refine ev_icmp_ge (tgt := 46) C dX12_isByHand_11 (by decide) (fun hc => ?_) (fun hc => ?_)
    · have hf := oit hf hc
      refine ev_iload_n C dX12_isByHand_46 rfl (q := 2) rfl ?_
      refine ev_aload_n C dX12_isByHand_47 rfl (q := 0) rfl ?_
      obtain ⟨x5, e6, hf⟩ := obnd hf
      refine ev_get (k := 0) C ok_12 dX12_isByHand_48 (by decide) kw_1159 (fR_V e6) ?_
      refine ev_bipush (v := 122) C dX12_isByHand_51 (by decide) ?_
      refine ev_iload_n C dX12_isByHand_53 rfl (q := 1) rfl ?_
      refine ev_iadd C dX12_isByHand_54 ?_
      obtain ⟨x7, e8, hf⟩ := obnd hf
      refine ev_iald C dX12_isByHand_55 e8 ?_
      refine ev_icmp_ge (tgt := 63) C dX12_isByHand_56 (by decide) (fun hc => ?_) (fun hc => ?_)
      · have hf := oit hf hc
        refine ev_iconst (v := 0) C dX12_isByHand_63 (by decide) ?_
        obtain rfl := Option.some.inj hf
        exact ev_zret C (by decide) E (Nat.le_refl 0) (Nat.le_refl 0) dX12_isByHand_64
      · have hf := oie hf hc
        refine ev_iconst (v := 1) C dX12_isByHand_59 (by decide) ?_
        refine ev_goto (tgt := 64) C dX12_isByHand_60 (by decide) ?_
        obtain rfl := Option.some.inj hf
        exact ev_zret C (by decide) E (Nat.le_refl 0) (Nat.le_refl 0) dX12_isByHand_64
    · have hf := oie hf hc
      refine ev_iload_n C dX12_isByHand_14 rfl (q := 2) rfl ?_
      refine ev_aload_n C dX12_isByHand_15 rfl (q := 0) rfl ?_
      refine ev_iload_n C dX12_isByHand_16 rfl (q := 3) rfl ?_
      obtain ⟨_, e9, hf⟩ := obnd hf
      obtain ⟨fs10, e9⟩ := oO_eq e9
      obtain ⟨x11, e12, hf⟩ := obnd hf
      refine ev_callV0 (As := [.int i3]) (st := [.int i2]) C rfl e9 (t_X12_price e12) rfl hd_X12_price rfl kw_1266 kw_1268 kw_87 kw_21 kw_1269 (mRoom.of E (Nat.le_of_ble_eq_true rfl) (Nat.le_of_ble_eq_true rfl) (Nat.le_refl 0) (Nat.le_refl 0)) (Nat.le_of_ble_eq_true rfl) dX12_isByHand_17 ?_
      refine ev_aload_n C dX12_isByHand_20 rfl (q := 0) rfl ?_
      refine ev_iload_n C dX12_isByHand_21 rfl (q := 1) rfl ?_
      obtain ⟨_, e13, hf⟩ := obnd hf
      obtain ⟨fs14, e13⟩ := oO_eq e13
      obtain ⟨x15, e16, hf⟩ := obnd hf
      refine ev_callV0 (As := [.int i1]) (st := [.int x11, .int i2]) C rfl e13 (t_X12_price e16) rfl hd_X12_price rfl kw_1266 kw_1268 kw_87 kw_21 kw_1269 (mRoom.of E (Nat.le_of_ble_eq_true rfl) (Nat.le_of_ble_eq_true rfl) (Nat.le_refl 0) (Nat.le_refl 0)) (Nat.le_of_ble_eq_true rfl) dX12_isByHand_22 ?_
      refine ev_icmp_gt (tgt := 37) C dX12_isByHand_25 (by decide) (fun hc => ?_) (fun hc => ?_)
      · have hf := oit hf hc
        refine ev_iconst (v := 0) C dX12_isByHand_37 (by decide) ?_
        refine ev_sub [0, 1, 3] rfl ?_
        exact t_X12_isByHand_J38 C E (m_X12_isByHand_L4 N M  n) ih a0 i1 i3 i2 0 hf
      · have hf := oie hf hc
        refine ev_aload_n C dX12_isByHand_28 rfl (q := 0) rfl ?_
        obtain ⟨x17, e18, hf⟩ := obnd hf
        refine ev_get (k := 19) C ok_12 dX12_isByHand_29 (by decide) kw_1178 (fR_V e18) ?_
        refine ev_iload_n C dX12_isByHand_32 rfl (q := 3) rfl ?_
        obtain ⟨x19, e20, hf⟩ := obnd hf
        refine ev_iald C dX12_isByHand_33 e20 ?_
        refine ev_goto (tgt := 38) C dX12_isByHand_34 (by decide) ?_
        refine ev_sub [0, 1, 3] rfl ?_
        exact t_X12_isByHand_J38 C E (m_X12_isByHand_L4 N M  n) ih a0 i1 i3 i2 x19 hf
def m_X12_isByHand (N : Nat) (a0 : Nat) (i1 : Int32) (M : mM) : Option (Int32) :=
  m_X12_isByHand_L4 N M  N a0 i1 0 0
set_option maxHeartbeats 4000000 in
set_option maxRecDepth 100000 in
theorem t_X12_isByHand {L0 : Launch} {M : mM} {N : Nat} {a0 : Nat} {i1 : Int32} {res : Int32} (hf : m_X12_isByHand N a0 i1 M = some res) : CT L0 yX12_isByHand prog_14_method_50_code 4 (some .boolean) 1 21 0 0 [.ref a0, .int i1] M (some (.int res)) M := by
  refine CT.of (by decide +kernel) (Nat.le_of_ble_eq_true rfl) fun X C E => ?_
  have C : CX X RX12 "isByHand" prog_14_method_50_code 4 (some .boolean) := C
  show EV X 4 0 [(0, .ref a0), (1, .int i1)] [] 0 0 M
  unfold m_X12_isByHand at hf
  refine ev_iconst (v := 0) C dX12_isByHand_0 (by decide) ?_
  refine ev_istore_n (l' := [(2, .int 0), (0, .ref a0), (1, .int i1)]) C dX12_isByHand_1 rfl (by decide) rfl ?_
  refine ev_iconst (v := 0) C dX12_isByHand_2 (by decide) ?_
  refine ev_istore_n (l' := [(3, .int 0), (2, .int 0), (0, .ref a0), (1, .int i1)]) C dX12_isByHand_3 rfl (by decide) rfl ?_
  refine ev_sub [2, 3, 1, 0] rfl ?_
  exact t_X12_isByHand_L4 C E   N a0 i1 0 0 hf
/-! FareLimitsModel has(III)Z -/
theorem dX12_has_0 : decode prog_14_method_51_code 0 = .ok (.aload_n 0, 1) := by decide +kernel
theorem dX12_has_1 : decode prog_14_method_51_code 1 = .ok (.dup, 1) := by decide +kernel
theorem dX12_has_2 : decode prog_14_method_51_code 2 = .ok (.getfield 205, 3) := by decide +kernel
theorem dX12_has_5 : decode prog_14_method_51_code 5 = .ok (.iconst 1, 1) := by decide +kernel
theorem dX12_has_6 : decode prog_14_method_51_code 6 = .ok (.iadd, 1) := by decide +kernel
theorem dX12_has_7 : decode prog_14_method_51_code 7 = .ok (.putfield 205, 3) := by decide +kernel
theorem dX12_has_10 : decode prog_14_method_51_code 10 = .ok (.aload_n 0, 1) := by decide +kernel
theorem dX12_has_11 : decode prog_14_method_51_code 11 = .ok (.getfield 201, 3) := by decide +kernel
theorem dX12_has_14 : decode prog_14_method_51_code 14 = .ok (.ifCond .eq 31, 3) := by decide +kernel
theorem dX12_has_17 : decode prog_14_method_51_code 17 = .ok (.iload_n 3, 1) := by decide +kernel
theorem dX12_has_18 : decode prog_14_method_51_code 18 = .ok (.ifCond .ne 19, 3) := by decide +kernel
theorem dX12_has_21 : decode prog_14_method_51_code 21 = .ok (.aload_n 0, 1) := by decide +kernel
theorem dX12_has_22 : decode prog_14_method_51_code 22 = .ok (.iload_n 1, 1) := by decide +kernel
theorem dX12_has_23 : decode prog_14_method_51_code 23 = .ok (.iload_n 2, 1) := by decide +kernel
theorem dX12_has_24 : decode prog_14_method_51_code 24 = .ok (.aload_n 0, 1) := by decide +kernel
theorem dX12_has_25 : decode prog_14_method_51_code 25 = .ok (.getfield 201, 3) := by decide +kernel
theorem dX12_has_28 : decode prog_14_method_51_code 28 = .ok (.invokevirtual 175, 3) := by decide +kernel
theorem dX12_has_31 : decode prog_14_method_51_code 31 = .ok (.ifCond .eq 14, 3) := by decide +kernel
theorem dX12_has_34 : decode prog_14_method_51_code 34 = .ok (.goto 13, 3) := by decide +kernel
theorem dX12_has_37 : decode prog_14_method_51_code 37 = .ok (.aload_n 0, 1) := by decide +kernel
theorem dX12_has_38 : decode prog_14_method_51_code 38 = .ok (.iload_n 1, 1) := by decide +kernel
theorem dX12_has_39 : decode prog_14_method_51_code 39 = .ok (.invokevirtual 208, 3) := by decide +kernel
theorem dX12_has_42 : decode prog_14_method_51_code 42 = .ok (.ifCond .ne 5, 3) := by decide +kernel
theorem dX12_has_45 : decode prog_14_method_51_code 45 = .ok (.iconst 0, 1) := by decide +kernel
theorem dX12_has_46 : decode prog_14_method_51_code 46 = .ok (.ireturn, 1) := by decide +kernel
theorem dX12_has_47 : decode prog_14_method_51_code 47 = .ok (.aload_n 0, 1) := by decide +kernel
theorem dX12_has_48 : decode prog_14_method_51_code 48 = .ok (.dup, 1) := by decide +kernel
theorem dX12_has_49 : decode prog_14_method_51_code 49 = .ok (.getfield 201, 3) := by decide +kernel
theorem dX12_has_52 : decode prog_14_method_51_code 52 = .ok (.iconst 1, 1) := by decide +kernel
theorem dX12_has_53 : decode prog_14_method_51_code 53 = .ok (.isub, 1) := by decide +kernel
theorem dX12_has_54 : decode prog_14_method_51_code 54 = .ok (.putfield 201, 3) := by decide +kernel
theorem dX12_has_57 : decode prog_14_method_51_code 57 = .ok (.aload_n 0, 1) := by decide +kernel
theorem dX12_has_58 : decode prog_14_method_51_code 58 = .ok (.getfield 60, 3) := by decide +kernel
theorem dX12_has_61 : decode prog_14_method_51_code 61 = .ok (.iload_n 1, 1) := by decide +kernel
theorem dX12_has_62 : decode prog_14_method_51_code 62 = .ok (.dup2, 1) := by decide +kernel
theorem dX12_has_63 : decode prog_14_method_51_code 63 = .ok (.iaload, 1) := by decide +kernel
theorem dX12_has_64 : decode prog_14_method_51_code 64 = .ok (.iconst 1, 1) := by decide +kernel
theorem dX12_has_65 : decode prog_14_method_51_code 65 = .ok (.iadd, 1) := by decide +kernel
theorem dX12_has_66 : decode prog_14_method_51_code 66 = .ok (.iastore, 1) := by decide +kernel
theorem dX12_has_67 : decode prog_14_method_51_code 67 = .ok (.aload_n 0, 1) := by decide +kernel
theorem dX12_has_68 : decode prog_14_method_51_code 68 = .ok (.dup, 1) := by decide +kernel
theorem dX12_has_69 : decode prog_14_method_51_code 69 = .ok (.getfield 211, 3) := by decide +kernel
theorem dX12_has_72 : decode prog_14_method_51_code 72 = .ok (.aload_n 0, 1) := by decide +kernel
theorem dX12_has_73 : decode prog_14_method_51_code 73 = .ok (.iload_n 1, 1) := by decide +kernel
theorem dX12_has_74 : decode prog_14_method_51_code 74 = .ok (.invokevirtual 88, 3) := by decide +kernel
theorem dX12_has_77 : decode prog_14_method_51_code 77 = .ok (.iadd, 1) := by decide +kernel
theorem dX12_has_78 : decode prog_14_method_51_code 78 = .ok (.putfield 211, 3) := by decide +kernel
theorem dX12_has_81 : decode prog_14_method_51_code 81 = .ok (.iconst 1, 1) := by decide +kernel
theorem dX12_has_82 : decode prog_14_method_51_code 82 = .ok (.ireturn, 1) := by decide +kernel
def m_X12_has_J47 (N : Nat)  (a0 : Nat) (i1 : Int32) (M : mM) : Option (Int32 × mM) :=
  (fI M a0 12 20).bind fun x1 =>
  (sV M a0 12 20 (.int (x1 - 1))).bind fun M3 =>
  (fR M3 a0 12 19).bind fun x5 =>
  (aI 0 M3 x5 i1).bind fun x7 =>
  (uI 0 .int M3 x5 i1 (x7 + 1)).bind fun M9 =>
  (fI M9 a0 12 21).bind fun x11 =>
  (oO M9 a0 12).bind fun _ =>
  (m_X12_price a0 i1 M9).bind fun x15 =>
  (sV M9 a0 12 21 (.int (x11 + x15))).bind fun M17 =>
  some (1, M17)
set_option maxHeartbeats 4000000 in
set_option maxRecDepth 100000 in
theorem t_X12_has_J47 {X : mX} {L0 : Launch} {res : Int32 × mM} {N : Nat} (C : CX X RX12 "has" prog_14_method_51_code 4 (some .boolean)) (E : EX X L0 4 98 0 0 (some (.int res.1)) res.2)   (a0 : Nat) (i1 : Int32) (M : mM) (hf : m_X12_has_J47 N  a0 i1 M = some res) : EV X 4 47 [(0, .ref a0), (1, .int i1)] [] 0 0 M := by
  unfold m_X12_has_J47 at hf
  refine ev_aload_n C dX12_has_47 rfl (q := 0) rfl ?_
  refine ev_dup C dX12_has_48 rfl ?_
  obtain ⟨x1, e2, hf⟩ := obnd hf
  refine ev_get (k := 20) C ok_12 dX12_has_49 (by decide) kw_1179 (fI_V e2) ?_
  refine ev_iconst (v := 1) C dX12_has_52 (by decide) ?_
  refine ev_isub C dX12_has_53 ?_
  obtain ⟨M3, e4, hf⟩ := obnd hf
  refine ev_put (k := 20) C ok_12 dX12_has_54 (by decide) kw_1179 rfl ⟨rfl, rfl⟩ e4 ?_
  refine ev_aload_n C dX12_has_57 rfl (q := 0) rfl ?_
  obtain ⟨x5, e6, hf⟩ := obnd hf
  refine ev_get (k := 19) C ok_12 dX12_has_58 (by decide) kw_1178 (fR_V e6) ?_
  refine ev_iload_n C dX12_has_61 rfl (q := 1) rfl ?_
  refine ev_dup2_11 C dX12_has_62 rfl rfl ?_
  obtain ⟨x7, e8, hf⟩ := obnd hf
  refine ev_iald C dX12_has_63 e8 ?_
  refine ev_iconst (v := 1) C dX12_has_64 (by decide) ?_
  refine ev_iadd C dX12_has_65 ?_
  obtain ⟨M9, e10, hf⟩ := obnd hf
  refine ev_iast C dX12_has_66 e10 ?_
  refine ev_aload_n C dX12_has_67 rfl (q := 0) rfl ?_
  refine ev_dup C dX12_has_68 rfl ?_
  obtain ⟨x11, e12, hf⟩ := obnd hf
  refine ev_get (k := 21) C ok_12 dX12_has_69 (by decide) kw_1180 (fI_V e12) ?_
  refine ev_aload_n C dX12_has_72 rfl (q := 0) rfl ?_
  refine ev_iload_n C dX12_has_73 rfl (q := 1) rfl ?_
  obtain ⟨_, e13, hf⟩ := obnd hf
  obtain ⟨fs14, e13⟩ := oO_eq e13
  obtain ⟨x15, e16, hf⟩ := obnd hf
  refine ev_callV0 (As := [.int i1]) (st := [.int x11, .ref a0]) C rfl e13 (t_X12_price e16) rfl hd_X12_price rfl kw_1266 kw_1268 kw_87 kw_21 kw_1269 (mRoom.of E (Nat.le_of_ble_eq_true rfl) (Nat.le_of_ble_eq_true rfl) (Nat.le_refl 0) (Nat.le_refl 0)) (Nat.le_of_ble_eq_true rfl) dX12_has_74 ?_
  refine ev_iadd C dX12_has_77 ?_
  obtain ⟨M17, e18, hf⟩ := obnd hf
  refine ev_put (k := 21) C ok_12 dX12_has_78 (by decide) kw_1180 rfl ⟨rfl, rfl⟩ e18 ?_
  refine ev_iconst (v := 1) C dX12_has_81 (by decide) ?_
  obtain rfl := Option.some.inj hf
  exact ev_zret C (by decide) E (Nat.le_refl 0) (Nat.le_refl 0) dX12_has_82
def m_X12_has (N : Nat) (a0 : Nat) (i1 : Int32) (i2 : Int32) (i3 : Int32) (M : mM) : Option (Int32 × mM) :=
  (fI M a0 12 22).bind fun x1 =>
  (sV M a0 12 22 (.int (x1 + 1))).bind fun M3 =>
  (fI M3 a0 12 20).bind fun x5 =>
  if x5 = 0 then (
    some (0, M3)) else (
    if i3 = 0 then (
      (fI M3 a0 12 20).bind fun x11 =>
      (oO M3 a0 12).bind fun _ =>
      (m_X12_isTaken N a0 i1 i2 x11 M3).bind fun x15 =>
      if x15 = 0 then (
        some (0, M3)) else (
        m_X12_has_J47 N  a0 i1 M3)) else (
      (oO M3 a0 12).bind fun _ =>
      (m_X12_isByHand N a0 i1 M3).bind fun x9 =>
      if x9 = 0 then (
        some (0, M3)) else (
        m_X12_has_J47 N  a0 i1 M3)))
set_option maxHeartbeats 4000000 in
set_option maxRecDepth 100000 in
theorem t_X12_has {L0 : Launch} {M : mM} {N : Nat} {a0 : Nat} {i1 : Int32} {i2 : Int32} {i3 : Int32} {res : Int32 × mM} (hf : m_X12_has N a0 i1 i2 i3 M = some res) : CT L0 yX12_has prog_14_method_51_code 4 (some .boolean) 4 98 0 0 [.ref a0, .int i1, .int i2, .int i3] M (some (.int res.1)) res.2 := by
  refine CT.of (by decide +kernel) (Nat.le_of_ble_eq_true rfl) fun X C E => ?_
  have C : CX X RX12 "has" prog_14_method_51_code 4 (some .boolean) := C
  show EV X 4 0 [(0, .ref a0), (1, .int i1), (2, .int i2), (3, .int i3)] [] 0 0 M
  unfold m_X12_has at hf
  refine ev_aload_n C dX12_has_0 rfl (q := 0) rfl ?_
  refine ev_dup C dX12_has_1 rfl ?_
  obtain ⟨x1, e2, hf⟩ := obnd hf
  refine ev_get (k := 22) C ok_12 dX12_has_2 (by decide) kw_1181 (fI_V e2) ?_
  refine ev_iconst (v := 1) C dX12_has_5 (by decide) ?_
  refine ev_iadd C dX12_has_6 ?_
  obtain ⟨M3, e4, hf⟩ := obnd hf
  refine ev_put (k := 22) C ok_12 dX12_has_7 (by decide) kw_1181 rfl ⟨rfl, rfl⟩ e4 ?_
  refine ev_aload_n C dX12_has_10 rfl (q := 0) rfl ?_
  obtain ⟨x5, e6, hf⟩ := obnd hf
  refine ev_get (k := 20) C ok_12 dX12_has_11 (by decide) kw_1179 (fI_V e6) ?_
  refine ev_if_eq (tgt := 45) C dX12_has_14 (by decide) (fun hc => ?_) (fun hc => ?_)
  · have hf := oit hf hc
    refine ev_iconst (v := 0) C dX12_has_45 (by decide) ?_
    obtain rfl := Option.some.inj hf
    exact ev_zret C (by decide) E (Nat.le_refl 0) (Nat.le_refl 0) dX12_has_46
  · have hf := oie hf hc
    refine ev_iload_n C dX12_has_17 rfl (q := 3) rfl ?_
    refine ev_if_ne (tgt := 37) C dX12_has_18 (by decide) (fun hc => ?_) (fun hc => ?_)
    · have hf := oie hf hc
      refine ev_aload_n C dX12_has_37 rfl (q := 0) rfl ?_
      refine ev_iload_n C dX12_has_38 rfl (q := 1) rfl ?_
      obtain ⟨_, e7, hf⟩ := obnd hf
      obtain ⟨fs8, e7⟩ := oO_eq e7
      obtain ⟨x9, e10, hf⟩ := obnd hf
      refine ev_callV0 (As := [.int i1]) (st := []) C rfl e7 (t_X12_isByHand e10) rfl hd_X12_isByHand rfl kw_1483 kw_1485 kw_87 kw_42 kw_1486 (mRoom.of E (Nat.le_of_ble_eq_true rfl) (Nat.le_of_ble_eq_true rfl) (Nat.le_refl 0) (Nat.le_refl 0)) (Nat.le_of_ble_eq_true rfl) dX12_has_39 ?_
      refine ev_if_ne (tgt := 47) C dX12_has_42 (by decide) (fun hc => ?_) (fun hc => ?_)
      · have hf := oie hf hc
        refine ev_sub [0, 1] rfl ?_
        exact t_X12_has_J47 C E   a0 i1 M3 hf
      · have hf := oit hf hc
        refine ev_iconst (v := 0) C dX12_has_45 (by decide) ?_
        obtain rfl := Option.some.inj hf
        exact ev_zret C (by decide) E (Nat.le_refl 0) (Nat.le_refl 0) dX12_has_46
    · have hf := oit hf hc
      refine ev_aload_n C dX12_has_21 rfl (q := 0) rfl ?_
      refine ev_iload_n C dX12_has_22 rfl (q := 1) rfl ?_
      refine ev_iload_n C dX12_has_23 rfl (q := 2) rfl ?_
      refine ev_aload_n C dX12_has_24 rfl (q := 0) rfl ?_
      obtain ⟨x11, e12, hf⟩ := obnd hf
      refine ev_get (k := 20) C ok_12 dX12_has_25 (by decide) kw_1179 (fI_V e12) ?_
      obtain ⟨_, e13, hf⟩ := obnd hf
      obtain ⟨fs14, e13⟩ := oO_eq e13
      obtain ⟨x15, e16, hf⟩ := obnd hf
      refine ev_callV0 (As := [.int i1, .int i2, .int x11]) (st := []) C rfl e13 (t_X12_isTaken e16) rfl hd_X12_isTaken rfl kw_1393 kw_1395 kw_87 kw_33 kw_1396 (mRoom.of E (Nat.le_of_ble_eq_true rfl) (Nat.le_of_ble_eq_true rfl) (Nat.le_refl 0) (Nat.le_refl 0)) (Nat.le_of_ble_eq_true rfl) dX12_has_28 ?_
      refine ev_if_eq (tgt := 45) C dX12_has_31 (by decide) (fun hc => ?_) (fun hc => ?_)
      · have hf := oit hf hc
        refine ev_iconst (v := 0) C dX12_has_45 (by decide) ?_
        obtain rfl := Option.some.inj hf
        exact ev_zret C (by decide) E (Nat.le_refl 0) (Nat.le_refl 0) dX12_has_46
      · have hf := oie hf hc
        refine ev_goto (tgt := 47) C dX12_has_34 (by decide) ?_
        refine ev_sub [0, 1] rfl ?_
        exact t_X12_has_J47 C E   a0 i1 M3 hf
/-! FareLimitsModel drawnFare(I)I -/
theorem dX12_drawnFare_0 : decode prog_14_method_52_code 0 = .ok (.aload_n 0, 1) := by decide +kernel
theorem dX12_drawnFare_1 : decode prog_14_method_52_code 1 = .ok (.getfield 9, 3) := by decide +kernel
theorem dX12_drawnFare_4 : decode prog_14_method_52_code 4 = .ok (.sipush 128, 3) := by decide +kernel
theorem dX12_drawnFare_7 : decode prog_14_method_52_code 7 = .ok (.aload_n 0, 1) := by decide +kernel
theorem dX12_drawnFare_8 : decode prog_14_method_52_code 8 = .ok (.getfield 9, 3) := by decide +kernel
theorem dX12_drawnFare_11 : decode prog_14_method_52_code 11 = .ok (.sipush 128, 3) := by decide +kernel
theorem dX12_drawnFare_14 : decode prog_14_method_52_code 14 = .ok (.iaload, 1) := by decide +kernel
theorem dX12_drawnFare_15 : decode prog_14_method_52_code 15 = .ok (.ldc 214, 2) := by decide +kernel
theorem dX12_drawnFare_17 : decode prog_14_method_52_code 17 = .ok (.imul, 1) := by decide +kernel
theorem dX12_drawnFare_18 : decode prog_14_method_52_code 18 = .ok (.sipush 12345, 3) := by decide +kernel
theorem dX12_drawnFare_21 : decode prog_14_method_52_code 21 = .ok (.iadd, 1) := by decide +kernel
theorem dX12_drawnFare_22 : decode prog_14_method_52_code 22 = .ok (.iastore, 1) := by decide +kernel
theorem dX12_drawnFare_23 : decode prog_14_method_52_code 23 = .ok (.aload_n 0, 1) := by decide +kernel
theorem dX12_drawnFare_24 : decode prog_14_method_52_code 24 = .ok (.getfield 9, 3) := by decide +kernel
theorem dX12_drawnFare_27 : decode prog_14_method_52_code 27 = .ok (.sipush 128, 3) := by decide +kernel
theorem dX12_drawnFare_30 : decode prog_14_method_52_code 30 = .ok (.iaload, 1) := by decide +kernel
theorem dX12_drawnFare_31 : decode prog_14_method_52_code 31 = .ok (.bipush 16, 2) := by decide +kernel
theorem dX12_drawnFare_33 : decode prog_14_method_52_code 33 = .ok (.iushr, 1) := by decide +kernel
theorem dX12_drawnFare_34 : decode prog_14_method_52_code 34 = .ok (.bipush 100, 2) := by decide +kernel
theorem dX12_drawnFare_36 : decode prog_14_method_52_code 36 = .ok (.irem, 1) := by decide +kernel
theorem dX12_drawnFare_37 : decode prog_14_method_52_code 37 = .ok (.istore_n 2, 1) := by decide +kernel
theorem dX12_drawnFare_38 : decode prog_14_method_52_code 38 = .ok (.iconst 0, 1) := by decide +kernel
theorem dX12_drawnFare_39 : decode prog_14_method_52_code 39 = .ok (.istore_n 3, 1) := by decide +kernel
theorem dX12_drawnFare_40 : decode prog_14_method_52_code 40 = .ok (.iconst 0, 1) := by decide +kernel
theorem dX12_drawnFare_41 : decode prog_14_method_52_code 41 = .ok (.istore 4, 2) := by decide +kernel
theorem dX12_drawnFare_43 : decode prog_14_method_52_code 43 = .ok (.iload 4, 2) := by decide +kernel
theorem dX12_drawnFare_45 : decode prog_14_method_52_code 45 = .ok (.aload_n 0, 1) := by decide +kernel
theorem dX12_drawnFare_46 : decode prog_14_method_52_code 46 = .ok (.getfield 9, 3) := by decide +kernel
theorem dX12_drawnFare_49 : decode prog_14_method_52_code 49 = .ok (.iconst 0, 1) := by decide +kernel
theorem dX12_drawnFare_50 : decode prog_14_method_52_code 50 = .ok (.iaload, 1) := by decide +kernel
theorem dX12_drawnFare_51 : decode prog_14_method_52_code 51 = .ok (.if_icmp .ge 27, 3) := by decide +kernel
theorem dX12_drawnFare_54 : decode prog_14_method_52_code 54 = .ok (.iload_n 3, 1) := by decide +kernel
theorem dX12_drawnFare_55 : decode prog_14_method_52_code 55 = .ok (.aload_n 0, 1) := by decide +kernel
theorem dX12_drawnFare_56 : decode prog_14_method_52_code 56 = .ok (.iload 4, 2) := by decide +kernel
theorem dX12_drawnFare_58 : decode prog_14_method_52_code 58 = .ok (.iload_n 1, 1) := by decide +kernel
theorem dX12_drawnFare_59 : decode prog_14_method_52_code 59 = .ok (.invokevirtual 133, 3) := by decide +kernel
theorem dX12_drawnFare_62 : decode prog_14_method_52_code 62 = .ok (.iadd, 1) := by decide +kernel
theorem dX12_drawnFare_63 : decode prog_14_method_52_code 63 = .ok (.istore_n 3, 1) := by decide +kernel
theorem dX12_drawnFare_64 : decode prog_14_method_52_code 64 = .ok (.iload_n 3, 1) := by decide +kernel
theorem dX12_drawnFare_65 : decode prog_14_method_52_code 65 = .ok (.iload_n 2, 1) := by decide +kernel
theorem dX12_drawnFare_66 : decode prog_14_method_52_code 66 = .ok (.if_icmp .le 6, 3) := by decide +kernel
theorem dX12_drawnFare_69 : decode prog_14_method_52_code 69 = .ok (.iload 4, 2) := by decide +kernel
theorem dX12_drawnFare_71 : decode prog_14_method_52_code 71 = .ok (.ireturn, 1) := by decide +kernel
theorem dX12_drawnFare_72 : decode prog_14_method_52_code 72 = .ok (.iinc 4 1, 3) := by decide +kernel
theorem dX12_drawnFare_75 : decode prog_14_method_52_code 75 = .ok (.goto (-32), 3) := by decide +kernel
theorem dX12_drawnFare_78 : decode prog_14_method_52_code 78 = .ok (.iconst (-1), 1) := by decide +kernel
theorem dX12_drawnFare_79 : decode prog_14_method_52_code 79 = .ok (.ireturn, 1) := by decide +kernel
def m_X12_drawnFare_L43 (N : Nat)  : Nat → Nat → Int32 → Int32 → Int32 → Int32 → mM → Option (Int32 × mM)
  | 0, _, _, _, _, _, _ => none
  | n + 1, a0, i1, i2, i3, i4, M =>
    (fR M a0 12 0).bind fun x1 =>
    (aI 0 M x1 0).bind fun x3 =>
    if x3 ≤ i4 then (
      some ((-1), M)) else (
      (oO M a0 12).bind fun _ =>
      (m_X12_odds a0 i4 i1 M).bind fun x7 =>
      if (i3 + x7) ≤ i2 then (
        (m_X12_drawnFare_L43 N  n) a0 i1 i2 (i3 + x7) (i4 + 1) M) else (
        some (i4, M)))
set_option maxHeartbeats 4000000 in
set_option maxRecDepth 100000 in
theorem t_X12_drawnFare_L43 {X : mX} {L0 : Launch} {res : Int32 × mM} {N : Nat} (C : CX X RX12 "drawnFare" prog_14_method_52_code 5 (some .int)) (E : EX X L0 1 22 0 0 (some (.int res.1)) res.2)   : ∀ (n : Nat) (a0 : Nat) (i1 : Int32) (i2 : Int32) (i3 : Int32) (i4 : Int32) (M : mM), m_X12_drawnFare_L43 N  n a0 i1 i2 i3 i4 M = some res → EV X 5 43 [(0, .ref a0), (1, .int i1), (2, .int i2), (3, .int i3), (4, .int i4)] [] 0 0 M := by
  intro n
  induction n with
  | zero => intro a0 i1 i2 i3 i4 M hf; cases (show (none : Option (Int32 × mM)) = some res from hf)
  | succ n ih =>
    intro a0 i1 i2 i3 i4 M hf
    rw [m_X12_drawnFare_L43] at hf
    refine ev_iload C dX12_drawnFare_43 (q := 4) rfl ?_
    refine ev_aload_n C dX12_drawnFare_45 rfl (q := 0) rfl ?_
    obtain ⟨x1, e2, hf⟩ := obnd hf
    refine ev_get (k := 0) C ok_12 dX12_drawnFare_46 (by decide) kw_1159 (fR_V e2) ?_
    refine ev_iconst (v := 0) C dX12_drawnFare_49 (by decide) ?_
    obtain ⟨x3, e4, hf⟩ := obnd hf
    refine ev_iald C dX12_drawnFare_50 e4 ?_
    refine ev_icmp_ge (tgt := 78) C dX12_drawnFare_51 (by decide) (fun hc => ?_) (fun hc => ?_)
    · have hf := oit hf hc
      refine ev_iconst (v := (-1)) C dX12_drawnFare_78 (by decide) ?_
      obtain rfl := Option.some.inj hf
      exact ev_iret C E (Nat.le_refl 0) (Nat.le_refl 0) dX12_drawnFare_79
    · have hf := oie hf hc
      refine ev_iload_n C dX12_drawnFare_54 rfl (q := 3) rfl ?_
      refine ev_aload_n C dX12_drawnFare_55 rfl (q := 0) rfl ?_
      refine ev_iload C dX12_drawnFare_56 (q := 4) rfl ?_
      refine ev_iload_n C dX12_drawnFare_58 rfl (q := 1) rfl ?_
      obtain ⟨_, e5, hf⟩ := obnd hf
      obtain ⟨fs6, e5⟩ := oO_eq e5
      obtain ⟨x7, e8, hf⟩ := obnd hf
      refine ev_callV0 (As := [.int i4, .int i1]) (st := [.int i3]) C rfl e5 (t_X12_odds e8) rfl hd_X12_odds rfl kw_1346 kw_1348 kw_87 kw_28 kw_1349 (mRoom.of E (Nat.le_of_ble_eq_true rfl) (Nat.le_of_ble_eq_true rfl) (Nat.le_refl 0) (Nat.le_refl 0)) (Nat.le_of_ble_eq_true rfl) dX12_drawnFare_59 ?_
      refine ev_iadd C dX12_drawnFare_62 ?_
      refine ev_istore_n (l' := [(3, .int (i3 + x7)), (0, .ref a0), (1, .int i1), (2, .int i2), (4, .int i4)]) C dX12_drawnFare_63 rfl (by decide) rfl ?_
      refine ev_iload_n C dX12_drawnFare_64 rfl (q := 0) rfl ?_
      refine ev_iload_n C dX12_drawnFare_65 rfl (q := 3) rfl ?_
      refine ev_icmp_le (tgt := 72) C dX12_drawnFare_66 (by decide) (fun hc => ?_) (fun hc => ?_)
      · have hf := oit hf hc
        refine ev_iinc (v := i4 + 1) (l' := [(4, .int (i4 + 1)), (3, .int (i3 + x7)), (0, .ref a0), (1, .int i1), (2, .int i2)]) C dX12_drawnFare_72 (q := 4) rfl rfl (by decide) rfl ?_
        refine ev_goto (tgt := 43) C dX12_drawnFare_75 (by decide) ?_
        refine ev_sub [2, 3, 4, 1, 0] rfl ?_
        exact ih a0 i1 i2 (i3 + x7) (i4 + 1) M hf
      · have hf := oie hf hc
        refine ev_iload C dX12_drawnFare_69 (q := 4) rfl ?_
        obtain rfl := Option.some.inj hf
        exact ev_iret C E (Nat.le_refl 0) (Nat.le_refl 0) dX12_drawnFare_71
def m_X12_drawnFare (N : Nat) (a0 : Nat) (i1 : Int32) (M : mM) : Option (Int32 × mM) :=
  (fR M a0 12 0).bind fun x1 =>
  (fR M a0 12 0).bind fun x3 =>
  (aI 0 M x3 128).bind fun x5 =>
  (uI 0 .int M x1 128 ((x5 * 1103515245) + 12345)).bind fun M7 =>
  (fR M7 a0 12 0).bind fun x9 =>
  (aI 0 M7 x9 128).bind fun x11 =>
  m_X12_drawnFare_L43 N  N a0 i1 (((x11.toUInt32 >>> ((16 : Int32).toUInt32 &&& Int32.toUInt32 31)).toInt32) - ((x11.toUInt32 >>> ((16 : Int32).toUInt32 &&& Int32.toUInt32 31)).toInt32) / 100 * 100) 0 0 M7
set_option maxHeartbeats 4000000 in
set_option maxRecDepth 100000 in
theorem t_X12_drawnFare {L0 : Launch} {M : mM} {N : Nat} {a0 : Nat} {i1 : Int32} {res : Int32 × mM} (hf : m_X12_drawnFare N a0 i1 M = some res) : CT L0 yX12_drawnFare prog_14_method_52_code 5 (some .int) 1 22 0 0 [.ref a0, .int i1] M (some (.int res.1)) res.2 := by
  refine CT.of (by decide +kernel) (Nat.le_of_ble_eq_true rfl) fun X C E => ?_
  have C : CX X RX12 "drawnFare" prog_14_method_52_code 5 (some .int) := C
  show EV X 5 0 [(0, .ref a0), (1, .int i1)] [] 0 0 M
  unfold m_X12_drawnFare at hf
  refine ev_aload_n C dX12_drawnFare_0 rfl (q := 0) rfl ?_
  obtain ⟨x1, e2, hf⟩ := obnd hf
  refine ev_get (k := 0) C ok_12 dX12_drawnFare_1 (by decide) kw_1159 (fR_V e2) ?_
  refine ev_sipush (v := 128) C dX12_drawnFare_4 (by decide) ?_
  refine ev_aload_n C dX12_drawnFare_7 rfl (q := 0) rfl ?_
  obtain ⟨x3, e4, hf⟩ := obnd hf
  refine ev_get (k := 0) C ok_12 dX12_drawnFare_8 (by decide) kw_1159 (fR_V e4) ?_
  refine ev_sipush (v := 128) C dX12_drawnFare_11 (by decide) ?_
  obtain ⟨x5, e6, hf⟩ := obnd hf
  refine ev_iald C dX12_drawnFare_14 e6 ?_
  refine ev_ldc (v := 1103515245) C dX12_drawnFare_15 kw_1478 ?_
  refine ev_imul C dX12_drawnFare_17 ?_
  refine ev_sipush (v := 12345) C dX12_drawnFare_18 (by decide) ?_
  refine ev_iadd C dX12_drawnFare_21 ?_
  obtain ⟨M7, e8, hf⟩ := obnd hf
  refine ev_iast C dX12_drawnFare_22 e8 ?_
  refine ev_aload_n C dX12_drawnFare_23 rfl (q := 0) rfl ?_
  obtain ⟨x9, e10, hf⟩ := obnd hf
  refine ev_get (k := 0) C ok_12 dX12_drawnFare_24 (by decide) kw_1159 (fR_V e10) ?_
  refine ev_sipush (v := 128) C dX12_drawnFare_27 (by decide) ?_
  obtain ⟨x11, e12, hf⟩ := obnd hf
  refine ev_iald C dX12_drawnFare_30 e12 ?_
  refine ev_bipush (v := 16) C dX12_drawnFare_31 (by decide) ?_
  refine ev_iushr C dX12_drawnFare_33 ?_
  refine ev_bipush (v := 100) C dX12_drawnFare_34 (by decide) ?_
  refine ev_irem C dX12_drawnFare_36 (by decide) ?_
  refine ev_istore_n (l' := [(2, .int (((x11.toUInt32 >>> ((16 : Int32).toUInt32 &&& Int32.toUInt32 31)).toInt32) - ((x11.toUInt32 >>> ((16 : Int32).toUInt32 &&& Int32.toUInt32 31)).toInt32) / 100 * 100)), (0, .ref a0), (1, .int i1)]) C dX12_drawnFare_37 rfl (by decide) rfl ?_
  refine ev_iconst (v := 0) C dX12_drawnFare_38 (by decide) ?_
  refine ev_istore_n (l' := [(3, .int 0), (2, .int (((x11.toUInt32 >>> ((16 : Int32).toUInt32 &&& Int32.toUInt32 31)).toInt32) - ((x11.toUInt32 >>> ((16 : Int32).toUInt32 &&& Int32.toUInt32 31)).toInt32) / 100 * 100)), (0, .ref a0), (1, .int i1)]) C dX12_drawnFare_39 rfl (by decide) rfl ?_
  refine ev_iconst (v := 0) C dX12_drawnFare_40 (by decide) ?_
  refine ev_istore (l' := [(4, .int 0), (3, .int 0), (2, .int (((x11.toUInt32 >>> ((16 : Int32).toUInt32 &&& Int32.toUInt32 31)).toInt32) - ((x11.toUInt32 >>> ((16 : Int32).toUInt32 &&& Int32.toUInt32 31)).toInt32) / 100 * 100)), (0, .ref a0), (1, .int i1)]) C dX12_drawnFare_41 (by decide) rfl ?_
  refine ev_sub [3, 4, 2, 1, 0] rfl ?_
  exact t_X12_drawnFare_L43 C E   N a0 i1 (((x11.toUInt32 >>> ((16 : Int32).toUInt32 &&& Int32.toUInt32 31)).toInt32) - ((x11.toUInt32 >>> ((16 : Int32).toUInt32 &&& Int32.toUInt32 31)).toInt32) / 100 * 100) 0 0 M7 hf
/-! FareLimitsModel drawn(IIII)I -/
theorem dX12_drawn_0 : decode prog_14_method_53_code 0 = .ok (.iload_n 3, 1) := by decide +kernel
theorem dX12_drawn_1 : decode prog_14_method_53_code 1 = .ok (.i2l, 1) := by decide +kernel
theorem dX12_drawn_2 : decode prog_14_method_53_code 2 = .ok (.lconst 0, 1) := by decide +kernel
theorem dX12_drawn_3 : decode prog_14_method_53_code 3 = .ok (.lconst 1, 1) := by decide +kernel
theorem dX12_drawn_4 : decode prog_14_method_53_code 4 = .ok (.invokestatic 72, 3) := by decide +kernel
theorem dX12_drawn_7 : decode prog_14_method_53_code 7 = .ok (.ifCond .eq 16, 3) := by decide +kernel
theorem dX12_drawn_10 : decode prog_14_method_53_code 10 = .ok (.iload 4, 2) := by decide +kernel
theorem dX12_drawn_12 : decode prog_14_method_53_code 12 = .ok (.i2l, 1) := by decide +kernel
theorem dX12_drawn_13 : decode prog_14_method_53_code 13 = .ok (.lconst 0, 1) := by decide +kernel
theorem dX12_drawn_14 : decode prog_14_method_53_code 14 = .ok (.ldc2_w 78, 3) := by decide +kernel
theorem dX12_drawn_17 : decode prog_14_method_53_code 17 = .ok (.invokestatic 72, 3) := by decide +kernel
theorem dX12_drawn_20 : decode prog_14_method_53_code 20 = .ok (.ifCond .ne 5, 3) := by decide +kernel
theorem dX12_drawn_23 : decode prog_14_method_53_code 23 = .ok (.iconst (-1), 1) := by decide +kernel
theorem dX12_drawn_24 : decode prog_14_method_53_code 24 = .ok (.ireturn, 1) := by decide +kernel
theorem dX12_drawn_25 : decode prog_14_method_53_code 25 = .ok (.iload_n 1, 1) := by decide +kernel
theorem dX12_drawn_26 : decode prog_14_method_53_code 26 = .ok (.i2l, 1) := by decide +kernel
theorem dX12_drawn_27 : decode prog_14_method_53_code 27 = .ok (.lconst 1, 1) := by decide +kernel
theorem dX12_drawn_28 : decode prog_14_method_53_code 28 = .ok (.ldc2_w 76, 3) := by decide +kernel
theorem dX12_drawn_31 : decode prog_14_method_53_code 31 = .ok (.invokestatic 72, 3) := by decide +kernel
theorem dX12_drawn_34 : decode prog_14_method_53_code 34 = .ok (.ifCond .eq 10, 3) := by decide +kernel
theorem dX12_drawn_37 : decode prog_14_method_53_code 37 = .ok (.iload_n 2, 1) := by decide +kernel
theorem dX12_drawn_38 : decode prog_14_method_53_code 38 = .ok (.invokestatic 172, 3) := by decide +kernel
theorem dX12_drawn_41 : decode prog_14_method_53_code 41 = .ok (.ifCond .ne 6, 3) := by decide +kernel
theorem dX12_drawn_44 : decode prog_14_method_53_code 44 = .ok (.bipush (-2), 2) := by decide +kernel
theorem dX12_drawn_46 : decode prog_14_method_53_code 46 = .ok (.ireturn, 1) := by decide +kernel
theorem dX12_drawn_47 : decode prog_14_method_53_code 47 = .ok (.aload_n 0, 1) := by decide +kernel
theorem dX12_drawn_48 : decode prog_14_method_53_code 48 = .ok (.iload_n 2, 1) := by decide +kernel
theorem dX12_drawn_49 : decode prog_14_method_53_code 49 = .ok (.invokevirtual 140, 3) := by decide +kernel
theorem dX12_drawn_52 : decode prog_14_method_53_code 52 = .ok (.aload_n 0, 1) := by decide +kernel
theorem dX12_drawn_53 : decode prog_14_method_53_code 53 = .ok (.iconst 0, 1) := by decide +kernel
theorem dX12_drawn_54 : decode prog_14_method_53_code 54 = .ok (.putfield 211, 3) := by decide +kernel
theorem dX12_drawn_57 : decode prog_14_method_53_code 57 = .ok (.aload_n 0, 1) := by decide +kernel
theorem dX12_drawn_58 : decode prog_14_method_53_code 58 = .ok (.iconst 0, 1) := by decide +kernel
theorem dX12_drawn_59 : decode prog_14_method_53_code 59 = .ok (.putfield 205, 3) := by decide +kernel
theorem dX12_drawn_62 : decode prog_14_method_53_code 62 = .ok (.iconst 0, 1) := by decide +kernel
theorem dX12_drawn_63 : decode prog_14_method_53_code 63 = .ok (.istore 5, 2) := by decide +kernel
theorem dX12_drawn_65 : decode prog_14_method_53_code 65 = .ok (.iconst 0, 1) := by decide +kernel
theorem dX12_drawn_66 : decode prog_14_method_53_code 66 = .ok (.istore 6, 2) := by decide +kernel
theorem dX12_drawn_68 : decode prog_14_method_53_code 68 = .ok (.iconst 0, 1) := by decide +kernel
theorem dX12_drawn_69 : decode prog_14_method_53_code 69 = .ok (.istore 7, 2) := by decide +kernel
theorem dX12_drawn_71 : decode prog_14_method_53_code 71 = .ok (.iload 7, 2) := by decide +kernel
theorem dX12_drawn_73 : decode prog_14_method_53_code 73 = .ok (.iload_n 1, 1) := by decide +kernel
theorem dX12_drawn_74 : decode prog_14_method_53_code 74 = .ok (.if_icmp .ge 83, 3) := by decide +kernel
theorem dX12_drawn_77 : decode prog_14_method_53_code 77 = .ok (.aload_n 0, 1) := by decide +kernel
theorem dX12_drawn_78 : decode prog_14_method_53_code 78 = .ok (.invokevirtual 215, 3) := by decide +kernel
theorem dX12_drawn_81 : decode prog_14_method_53_code 81 = .ok (.iload_n 2, 1) := by decide +kernel
theorem dX12_drawn_82 : decode prog_14_method_53_code 82 = .ok (.istore 8, 2) := by decide +kernel
theorem dX12_drawn_84 : decode prog_14_method_53_code 84 = .ok (.iload 8, 2) := by decide +kernel
theorem dX12_drawn_86 : decode prog_14_method_53_code 86 = .ok (.ifCond .le 32, 3) := by decide +kernel
theorem dX12_drawn_89 : decode prog_14_method_53_code 89 = .ok (.aload_n 0, 1) := by decide +kernel
theorem dX12_drawn_90 : decode prog_14_method_53_code 90 = .ok (.iload 8, 2) := by decide +kernel
theorem dX12_drawn_92 : decode prog_14_method_53_code 92 = .ok (.invokevirtual 218, 3) := by decide +kernel
theorem dX12_drawn_95 : decode prog_14_method_53_code 95 = .ok (.istore 9, 2) := by decide +kernel
theorem dX12_drawn_97 : decode prog_14_method_53_code 97 = .ok (.iload 9, 2) := by decide +kernel
theorem dX12_drawn_99 : decode prog_14_method_53_code 99 = .ok (.ifCond .lt 13, 3) := by decide +kernel
theorem dX12_drawn_102 : decode prog_14_method_53_code 102 = .ok (.aload_n 0, 1) := by decide +kernel
theorem dX12_drawn_103 : decode prog_14_method_53_code 103 = .ok (.iload 9, 2) := by decide +kernel
theorem dX12_drawn_105 : decode prog_14_method_53_code 105 = .ok (.iload 8, 2) := by decide +kernel
theorem dX12_drawn_107 : decode prog_14_method_53_code 107 = .ok (.iload_n 3, 1) := by decide +kernel
theorem dX12_drawn_108 : decode prog_14_method_53_code 108 = .ok (.invokevirtual 221, 3) := by decide +kernel
theorem dX12_drawn_111 : decode prog_14_method_53_code 111 = .ok (.pop, 1) := by decide +kernel
theorem dX12_drawn_112 : decode prog_14_method_53_code 112 = .ok (.iinc 8 (-1), 3) := by decide +kernel
theorem dX12_drawn_115 : decode prog_14_method_53_code 115 = .ok (.goto (-31), 3) := by decide +kernel
theorem dX12_drawn_118 : decode prog_14_method_53_code 118 = .ok (.iload 5, 2) := by decide +kernel
theorem dX12_drawn_120 : decode prog_14_method_53_code 120 = .ok (.aload_n 0, 1) := by decide +kernel
theorem dX12_drawn_121 : decode prog_14_method_53_code 121 = .ok (.getfield 9, 3) := by decide +kernel
theorem dX12_drawn_124 : decode prog_14_method_53_code 124 = .ok (.iconst 1, 1) := by decide +kernel
theorem dX12_drawn_125 : decode prog_14_method_53_code 125 = .ok (.iaload, 1) := by decide +kernel
theorem dX12_drawn_126 : decode prog_14_method_53_code 126 = .ok (.aload_n 0, 1) := by decide +kernel
theorem dX12_drawn_127 : decode prog_14_method_53_code 127 = .ok (.getfield 201, 3) := by decide +kernel
theorem dX12_drawn_130 : decode prog_14_method_53_code 130 = .ok (.isub, 1) := by decide +kernel
theorem dX12_drawn_131 : decode prog_14_method_53_code 131 = .ok (.iadd, 1) := by decide +kernel
theorem dX12_drawn_132 : decode prog_14_method_53_code 132 = .ok (.istore 5, 2) := by decide +kernel
theorem dX12_drawn_134 : decode prog_14_method_53_code 134 = .ok (.iload 6, 2) := by decide +kernel
theorem dX12_drawn_136 : decode prog_14_method_53_code 136 = .ok (.aload_n 0, 1) := by decide +kernel
theorem dX12_drawn_137 : decode prog_14_method_53_code 137 = .ok (.getfield 201, 3) := by decide +kernel
theorem dX12_drawn_140 : decode prog_14_method_53_code 140 = .ok (.ifCond .ne 7, 3) := by decide +kernel
theorem dX12_drawn_143 : decode prog_14_method_53_code 143 = .ok (.iconst 1, 1) := by decide +kernel
theorem dX12_drawn_144 : decode prog_14_method_53_code 144 = .ok (.goto 4, 3) := by decide +kernel
theorem dX12_drawn_147 : decode prog_14_method_53_code 147 = .ok (.iconst 0, 1) := by decide +kernel
theorem dX12_drawn_148 : decode prog_14_method_53_code 148 = .ok (.iadd, 1) := by decide +kernel
theorem dX12_drawn_149 : decode prog_14_method_53_code 149 = .ok (.istore 6, 2) := by decide +kernel
theorem dX12_drawn_151 : decode prog_14_method_53_code 151 = .ok (.iinc 7 1, 3) := by decide +kernel
theorem dX12_drawn_154 : decode prog_14_method_53_code 154 = .ok (.goto (-83), 3) := by decide +kernel
theorem dX12_drawn_157 : decode prog_14_method_53_code 157 = .ok (.iload 4, 2) := by decide +kernel
theorem dX12_drawn_159 : decode prog_14_method_53_code 159 = .ok (.ifCond .ne 10, 3) := by decide +kernel
theorem dX12_drawn_162 : decode prog_14_method_53_code 162 = .ok (.aload_n 0, 1) := by decide +kernel
theorem dX12_drawn_163 : decode prog_14_method_53_code 163 = .ok (.getfield 211, 3) := by decide +kernel
theorem dX12_drawn_166 : decode prog_14_method_53_code 166 = .ok (.goto 29, 3) := by decide +kernel
theorem dX12_drawn_169 : decode prog_14_method_53_code 169 = .ok (.iload 4, 2) := by decide +kernel
theorem dX12_drawn_171 : decode prog_14_method_53_code 171 = .ok (.iconst 1, 1) := by decide +kernel
theorem dX12_drawn_172 : decode prog_14_method_53_code 172 = .ok (.if_icmp .ne 10, 3) := by decide +kernel
theorem dX12_drawn_175 : decode prog_14_method_53_code 175 = .ok (.aload_n 0, 1) := by decide +kernel
theorem dX12_drawn_176 : decode prog_14_method_53_code 176 = .ok (.getfield 205, 3) := by decide +kernel
theorem dX12_drawn_179 : decode prog_14_method_53_code 179 = .ok (.goto 16, 3) := by decide +kernel
theorem dX12_drawn_182 : decode prog_14_method_53_code 182 = .ok (.iload 4, 2) := by decide +kernel
theorem dX12_drawn_184 : decode prog_14_method_53_code 184 = .ok (.iconst 2, 1) := by decide +kernel
theorem dX12_drawn_185 : decode prog_14_method_53_code 185 = .ok (.if_icmp .ne 8, 3) := by decide +kernel
theorem dX12_drawn_188 : decode prog_14_method_53_code 188 = .ok (.iload 5, 2) := by decide +kernel
theorem dX12_drawn_190 : decode prog_14_method_53_code 190 = .ok (.goto 5, 3) := by decide +kernel
theorem dX12_drawn_193 : decode prog_14_method_53_code 193 = .ok (.iload 6, 2) := by decide +kernel
theorem dX12_drawn_195 : decode prog_14_method_53_code 195 = .ok (.ireturn, 1) := by decide +kernel
def m_X12_drawn_J148 (N : Nat) (k71 : Nat → Int32 → Int32 → Int32 → Int32 → Int32 → Int32 → Int32 → mM → Option (Int32 × mM)) (a0 : Nat) (i1 : Int32) (i2 : Int32) (i3 : Int32) (i4 : Int32) (i5 : Int32) (i7 : Int32) (si0 : Int32) (si1 : Int32) (M : mM) : Option (Int32 × mM) :=
  k71 a0 i1 i2 i3 i4 i5 (si0 + si1) (i7 + 1) M
set_option maxHeartbeats 4000000 in
set_option maxRecDepth 100000 in
theorem t_X12_drawn_J148 {X : mX} {L0 : Launch} {res : Int32 × mM} {N : Nat} (C : CX X RX12 "drawn" prog_14_method_53_code 10 (some .int)) (E : EX X L0 5 121 0 0 (some (.int res.1)) res.2) (k71 : Nat → Int32 → Int32 → Int32 → Int32 → Int32 → Int32 → Int32 → mM → Option (Int32 × mM)) (Hk71 : ∀ (a0 : Nat) (i1 : Int32) (i2 : Int32) (i3 : Int32) (i4 : Int32) (i5 : Int32) (i6 : Int32) (i7 : Int32) (M : mM), k71 a0 i1 i2 i3 i4 i5 i6 i7 M = some res → EV X 10 71 [(0, .ref a0), (1, .int i1), (2, .int i2), (3, .int i3), (4, .int i4), (5, .int i5), (6, .int i6), (7, .int i7)] [] 0 0 M) (a0 : Nat) (i1 : Int32) (i2 : Int32) (i3 : Int32) (i4 : Int32) (i5 : Int32) (i7 : Int32) (si0 : Int32) (si1 : Int32) (M : mM) (hf : m_X12_drawn_J148 N k71 a0 i1 i2 i3 i4 i5 i7 si0 si1 M = some res) : EV X 10 148 [(0, .ref a0), (1, .int i1), (2, .int i2), (3, .int i3), (4, .int i4), (5, .int i5), (7, .int i7)] [.int si1, .int si0] 0 0 M := by
  unfold m_X12_drawn_J148 at hf
  refine ev_iadd C dX12_drawn_148 ?_
  refine ev_istore (l' := [(6, .int (si0 + si1)), (0, .ref a0), (1, .int i1), (2, .int i2), (3, .int i3), (4, .int i4), (5, .int i5), (7, .int i7)]) C dX12_drawn_149 (by decide) rfl ?_
  refine ev_iinc (v := i7 + 1) (l' := [(7, .int (i7 + 1)), (6, .int (si0 + si1)), (0, .ref a0), (1, .int i1), (2, .int i2), (3, .int i3), (4, .int i4), (5, .int i5)]) C dX12_drawn_151 (q := 7) rfl rfl (by decide) rfl ?_
  refine ev_goto (tgt := 71) C dX12_drawn_154 (by decide) ?_
  refine ev_sub [2, 3, 4, 5, 6, 7, 1, 0] rfl ?_
  exact Hk71 a0 i1 i2 i3 i4 i5 (si0 + si1) (i7 + 1) M hf
def m_X12_drawn_J112 (N : Nat) (k84 : Nat → Int32 → Int32 → Int32 → Int32 → Int32 → Int32 → Int32 → Int32 → mM → Option (Int32 × mM)) (a0 : Nat) (i1 : Int32) (i2 : Int32) (i3 : Int32) (i4 : Int32) (i5 : Int32) (i6 : Int32) (i7 : Int32) (i8 : Int32) (M : mM) : Option (Int32 × mM) :=
  k84 a0 i1 i2 i3 i4 i5 i6 i7 (i8 + (-1)) M
set_option maxHeartbeats 4000000 in
set_option maxRecDepth 100000 in
theorem t_X12_drawn_J112 {X : mX} {L0 : Launch} {res : Int32 × mM} {N : Nat} (C : CX X RX12 "drawn" prog_14_method_53_code 10 (some .int)) (E : EX X L0 5 121 0 0 (some (.int res.1)) res.2) (k84 : Nat → Int32 → Int32 → Int32 → Int32 → Int32 → Int32 → Int32 → Int32 → mM → Option (Int32 × mM)) (Hk84 : ∀ (a0 : Nat) (i1 : Int32) (i2 : Int32) (i3 : Int32) (i4 : Int32) (i5 : Int32) (i6 : Int32) (i7 : Int32) (i8 : Int32) (M : mM), k84 a0 i1 i2 i3 i4 i5 i6 i7 i8 M = some res → EV X 10 84 [(0, .ref a0), (1, .int i1), (2, .int i2), (3, .int i3), (4, .int i4), (5, .int i5), (6, .int i6), (7, .int i7), (8, .int i8)] [] 0 0 M) (a0 : Nat) (i1 : Int32) (i2 : Int32) (i3 : Int32) (i4 : Int32) (i5 : Int32) (i6 : Int32) (i7 : Int32) (i8 : Int32) (M : mM) (hf : m_X12_drawn_J112 N k84 a0 i1 i2 i3 i4 i5 i6 i7 i8 M = some res) : EV X 10 112 [(0, .ref a0), (1, .int i1), (2, .int i2), (3, .int i3), (4, .int i4), (5, .int i5), (6, .int i6), (7, .int i7), (8, .int i8)] [] 0 0 M := by
  unfold m_X12_drawn_J112 at hf
  refine ev_iinc (v := i8 + (-1)) (l' := [(8, .int (i8 + (-1))), (0, .ref a0), (1, .int i1), (2, .int i2), (3, .int i3), (4, .int i4), (5, .int i5), (6, .int i6), (7, .int i7)]) C dX12_drawn_112 (q := 8) rfl rfl (by decide) rfl ?_
  refine ev_goto (tgt := 84) C dX12_drawn_115 (by decide) ?_
  refine ev_sub [1, 2, 3, 4, 5, 6, 7, 8, 0] rfl ?_
  exact Hk84 a0 i1 i2 i3 i4 i5 i6 i7 (i8 + (-1)) M hf
def m_X12_drawn_L84 (N : Nat) (k71 : Nat → Int32 → Int32 → Int32 → Int32 → Int32 → Int32 → Int32 → mM → Option (Int32 × mM)) : Nat → Nat → Int32 → Int32 → Int32 → Int32 → Int32 → Int32 → Int32 → Int32 → mM → Option (Int32 × mM)
  | 0, _, _, _, _, _, _, _, _, _, _ => none
  | n + 1, a0, i1, i2, i3, i4, i5, i6, i7, i8, M =>
    if i8 ≤ 0 then (
      (fR M a0 12 0).bind fun x1 =>
      (aI 0 M x1 1).bind fun x3 =>
      (fI M a0 12 20).bind fun x5 =>
      (fI M a0 12 20).bind fun x7 =>
      if x7 = 0 then (
        m_X12_drawn_J148 N k71 a0 i1 i2 i3 i4 (i5 + (x3 - x5)) i7 i6 1 M) else (
        m_X12_drawn_J148 N k71 a0 i1 i2 i3 i4 (i5 + (x3 - x5)) i7 i6 0 M)) else (
      (oO M a0 12).bind fun _ =>
      (m_X12_drawnFare N a0 i8 M).bind fun x11 =>
      if x11.1 < 0 then (
        m_X12_drawn_J112 N (m_X12_drawn_L84 N k71  n) a0 i1 i2 i3 i4 i5 i6 i7 i8 x11.2) else (
        (oO x11.2 a0 12).bind fun _ =>
        (m_X12_has N a0 x11.1 i8 i3 x11.2).bind fun x15 =>
        m_X12_drawn_J112 N (m_X12_drawn_L84 N k71  n) a0 i1 i2 i3 i4 i5 i6 i7 i8 x15.2))
set_option maxHeartbeats 4000000 in
set_option maxRecDepth 100000 in
theorem t_X12_drawn_L84 {X : mX} {L0 : Launch} {res : Int32 × mM} {N : Nat} (C : CX X RX12 "drawn" prog_14_method_53_code 10 (some .int)) (E : EX X L0 5 121 0 0 (some (.int res.1)) res.2) (k71 : Nat → Int32 → Int32 → Int32 → Int32 → Int32 → Int32 → Int32 → mM → Option (Int32 × mM)) (Hk71 : ∀ (a0 : Nat) (i1 : Int32) (i2 : Int32) (i3 : Int32) (i4 : Int32) (i5 : Int32) (i6 : Int32) (i7 : Int32) (M : mM), k71 a0 i1 i2 i3 i4 i5 i6 i7 M = some res → EV X 10 71 [(0, .ref a0), (1, .int i1), (2, .int i2), (3, .int i3), (4, .int i4), (5, .int i5), (6, .int i6), (7, .int i7)] [] 0 0 M) : ∀ (n : Nat) (a0 : Nat) (i1 : Int32) (i2 : Int32) (i3 : Int32) (i4 : Int32) (i5 : Int32) (i6 : Int32) (i7 : Int32) (i8 : Int32) (M : mM), m_X12_drawn_L84 N k71 n a0 i1 i2 i3 i4 i5 i6 i7 i8 M = some res → EV X 10 84 [(0, .ref a0), (1, .int i1), (2, .int i2), (3, .int i3), (4, .int i4), (5, .int i5), (6, .int i6), (7, .int i7), (8, .int i8)] [] 0 0 M := by
  intro n
  induction n with
  | zero => intro a0 i1 i2 i3 i4 i5 i6 i7 i8 M hf; cases (show (none : Option (Int32 × mM)) = some res from hf)
  | succ n ih =>
    intro a0 i1 i2 i3 i4 i5 i6 i7 i8 M hf
    rw [m_X12_drawn_L84] at hf
    refine ev_iload C dX12_drawn_84 (q := 8) rfl ?_
    refine ev_if_le (tgt := 118) C dX12_drawn_86 (by decide) (fun hc => ?_) (fun hc => ?_)
    · have hf := oit hf hc
      refine ev_iload C dX12_drawn_118 (q := 5) rfl ?_
      refine ev_aload_n C dX12_drawn_120 rfl (q := 0) rfl ?_
      obtain ⟨x1, e2, hf⟩ := obnd hf
      refine ev_get (k := 0) C ok_12 dX12_drawn_121 (by decide) kw_1159 (fR_V e2) ?_
      refine ev_iconst (v := 1) C dX12_drawn_124 (by decide) ?_
      obtain ⟨x3, e4, hf⟩ := obnd hf
      refine ev_iald C dX12_drawn_125 e4 ?_
      refine ev_aload_n C dX12_drawn_126 rfl (q := 0) rfl ?_
      obtain ⟨x5, e6, hf⟩ := obnd hf
      refine ev_get (k := 20) C ok_12 dX12_drawn_127 (by decide) kw_1179 (fI_V e6) ?_
      refine ev_isub C dX12_drawn_130 ?_
      refine ev_iadd C dX12_drawn_131 ?_
      refine ev_istore (l' := [(5, .int (i5 + (x3 - x5))), (0, .ref a0), (1, .int i1), (2, .int i2), (3, .int i3), (4, .int i4), (6, .int i6), (7, .int i7), (8, .int i8)]) C dX12_drawn_132 (by decide) rfl ?_
      refine ev_iload C dX12_drawn_134 (q := 6) rfl ?_
      refine ev_aload_n C dX12_drawn_136 rfl (q := 1) rfl ?_
      obtain ⟨x7, e8, hf⟩ := obnd hf
      refine ev_get (k := 20) C ok_12 dX12_drawn_137 (by decide) kw_1179 (fI_V e8) ?_
      refine ev_if_ne (tgt := 147) C dX12_drawn_140 (by decide) (fun hc => ?_) (fun hc => ?_)
      · have hf := oie hf hc
        refine ev_iconst (v := 0) C dX12_drawn_147 (by decide) ?_
        refine ev_sub [1, 2, 3, 4, 5, 0, 7] rfl ?_
        exact t_X12_drawn_J148 C E k71 Hk71 a0 i1 i2 i3 i4 (i5 + (x3 - x5)) i7 i6 0 M hf
      · have hf := oit hf hc
        refine ev_iconst (v := 1) C dX12_drawn_143 (by decide) ?_
        refine ev_goto (tgt := 148) C dX12_drawn_144 (by decide) ?_
        refine ev_sub [1, 2, 3, 4, 5, 0, 7] rfl ?_
        exact t_X12_drawn_J148 C E k71 Hk71 a0 i1 i2 i3 i4 (i5 + (x3 - x5)) i7 i6 1 M hf
    · have hf := oie hf hc
      refine ev_aload_n C dX12_drawn_89 rfl (q := 0) rfl ?_
      refine ev_iload C dX12_drawn_90 (q := 8) rfl ?_
      obtain ⟨_, e9, hf⟩ := obnd hf
      obtain ⟨fs10, e9⟩ := oO_eq e9
      obtain ⟨x11, e12, hf⟩ := obnd hf
      refine ev_callV0 (As := [.int i8]) (st := []) C rfl e9 (t_X12_drawnFare e12) rfl hd_X12_drawnFare rfl kw_1474 kw_1476 kw_87 kw_40 kw_1477 (mRoom.of E (Nat.le_of_ble_eq_true rfl) (Nat.le_of_ble_eq_true rfl) (Nat.le_refl 0) (Nat.le_refl 0)) (Nat.le_of_ble_eq_true rfl) dX12_drawn_92 ?_
      refine ev_istore (l' := [(9, .int x11.1), (0, .ref a0), (1, .int i1), (2, .int i2), (3, .int i3), (4, .int i4), (5, .int i5), (6, .int i6), (7, .int i7), (8, .int i8)]) C dX12_drawn_95 (by decide) rfl ?_
      refine ev_iload C dX12_drawn_97 (q := 0) rfl ?_
      refine ev_if_lt (tgt := 112) C dX12_drawn_99 (by decide) (fun hc => ?_) (fun hc => ?_)
      · have hf := oit hf hc
        refine ev_sub [1, 2, 3, 4, 5, 6, 7, 8, 9] rfl ?_
        exact t_X12_drawn_J112 C E (m_X12_drawn_L84 N k71  n) ih a0 i1 i2 i3 i4 i5 i6 i7 i8 x11.2 hf
      · have hf := oie hf hc
        refine ev_aload_n C dX12_drawn_102 rfl (q := 1) rfl ?_
        refine ev_iload C dX12_drawn_103 (q := 0) rfl ?_
        refine ev_iload C dX12_drawn_105 (q := 9) rfl ?_
        refine ev_iload_n C dX12_drawn_107 rfl (q := 4) rfl ?_
        obtain ⟨_, e13, hf⟩ := obnd hf
        obtain ⟨fs14, e13⟩ := oO_eq e13
        obtain ⟨x15, e16, hf⟩ := obnd hf
        refine ev_callV0 (As := [.int x11.1, .int i8, .int i3]) (st := []) C rfl e13 (t_X12_has e16) rfl hd_X12_has rfl kw_1479 kw_1481 kw_87 kw_41 kw_1482 (mRoom.of E (Nat.le_of_ble_eq_true rfl) (Nat.le_of_ble_eq_true rfl) (Nat.le_refl 0) (Nat.le_refl 0)) (Nat.le_of_ble_eq_true rfl) dX12_drawn_108 ?_
        refine ev_pop C dX12_drawn_111 rfl ?_
        refine ev_sub [1, 2, 3, 4, 5, 6, 7, 8, 9] rfl ?_
        exact t_X12_drawn_J112 C E (m_X12_drawn_L84 N k71  n) ih a0 i1 i2 i3 i4 i5 i6 i7 i8 x15.2 hf
def m_X12_drawn_L71 (N : Nat)  : Nat → Nat → Int32 → Int32 → Int32 → Int32 → Int32 → Int32 → Int32 → mM → Option (Int32 × mM)
  | 0, _, _, _, _, _, _, _, _, _ => none
  | n + 1, a0, i1, i2, i3, i4, i5, i6, i7, M =>
    if i1 ≤ i7 then (
      if i4 = 0 then (
        (fI M a0 12 21).bind fun x3 =>
        some (x3, M)) else (
        if i4 = 1 then (
          (fI M a0 12 22).bind fun x1 =>
          some (x1, M)) else (
          if i4 = 2 then (
            some (i5, M)) else (
            some (i6, M))))) else (
      (oO M a0 12).bind fun _ =>
      (m_X12_opens N a0 M).bind fun x7 =>
      m_X12_drawn_L84 N (m_X12_drawn_L71 N  n) N a0 i1 i2 i3 i4 i5 i6 i7 i2 x7)
set_option maxHeartbeats 4000000 in
set_option maxRecDepth 100000 in
theorem t_X12_drawn_L71 {X : mX} {L0 : Launch} {res : Int32 × mM} {N : Nat} (C : CX X RX12 "drawn" prog_14_method_53_code 10 (some .int)) (E : EX X L0 5 121 0 0 (some (.int res.1)) res.2)   : ∀ (n : Nat) (a0 : Nat) (i1 : Int32) (i2 : Int32) (i3 : Int32) (i4 : Int32) (i5 : Int32) (i6 : Int32) (i7 : Int32) (M : mM), m_X12_drawn_L71 N  n a0 i1 i2 i3 i4 i5 i6 i7 M = some res → EV X 10 71 [(0, .ref a0), (1, .int i1), (2, .int i2), (3, .int i3), (4, .int i4), (5, .int i5), (6, .int i6), (7, .int i7)] [] 0 0 M := by
  intro n
  induction n with
  | zero => intro a0 i1 i2 i3 i4 i5 i6 i7 M hf; cases (show (none : Option (Int32 × mM)) = some res from hf)
  | succ n ih =>
    intro a0 i1 i2 i3 i4 i5 i6 i7 M hf
    rw [m_X12_drawn_L71] at hf
    refine ev_iload C dX12_drawn_71 (q := 7) rfl ?_
    refine ev_iload_n C dX12_drawn_73 rfl (q := 1) rfl ?_
    refine ev_icmp_ge (tgt := 157) C dX12_drawn_74 (by decide) (fun hc => ?_) (fun hc => ?_)
    · have hf := oit hf hc
      refine ev_iload C dX12_drawn_157 (q := 4) rfl ?_
      refine ev_if_ne (tgt := 169) C dX12_drawn_159 (by decide) (fun hc => ?_) (fun hc => ?_)
      · have hf := oie hf hc
        refine ev_iload C dX12_drawn_169 (q := 4) rfl ?_
        refine ev_iconst (v := 1) C dX12_drawn_171 (by decide) ?_
        refine ev_icmp_ne (tgt := 182) C dX12_drawn_172 (by decide) (fun hc => ?_) (fun hc => ?_)
        · have hf := oie hf hc
          refine ev_iload C dX12_drawn_182 (q := 4) rfl ?_
          refine ev_iconst (v := 2) C dX12_drawn_184 (by decide) ?_
          refine ev_icmp_ne (tgt := 193) C dX12_drawn_185 (by decide) (fun hc => ?_) (fun hc => ?_)
          · have hf := oie hf hc
            refine ev_iload C dX12_drawn_193 (q := 6) rfl ?_
            obtain rfl := Option.some.inj hf
            exact ev_iret C E (Nat.le_refl 0) (Nat.le_refl 0) dX12_drawn_195
          · have hf := oit hf hc
            refine ev_iload C dX12_drawn_188 (q := 5) rfl ?_
            refine ev_goto (tgt := 195) C dX12_drawn_190 (by decide) ?_
            obtain rfl := Option.some.inj hf
            exact ev_iret C E (Nat.le_refl 0) (Nat.le_refl 0) dX12_drawn_195
        · have hf := oit hf hc
          refine ev_aload_n C dX12_drawn_175 rfl (q := 0) rfl ?_
          obtain ⟨x1, e2, hf⟩ := obnd hf
          refine ev_get (k := 22) C ok_12 dX12_drawn_176 (by decide) kw_1181 (fI_V e2) ?_
          refine ev_goto (tgt := 195) C dX12_drawn_179 (by decide) ?_
          obtain rfl := Option.some.inj hf
          exact ev_iret C E (Nat.le_refl 0) (Nat.le_refl 0) dX12_drawn_195
      · have hf := oit hf hc
        refine ev_aload_n C dX12_drawn_162 rfl (q := 0) rfl ?_
        obtain ⟨x3, e4, hf⟩ := obnd hf
        refine ev_get (k := 21) C ok_12 dX12_drawn_163 (by decide) kw_1180 (fI_V e4) ?_
        refine ev_goto (tgt := 195) C dX12_drawn_166 (by decide) ?_
        obtain rfl := Option.some.inj hf
        exact ev_iret C E (Nat.le_refl 0) (Nat.le_refl 0) dX12_drawn_195
    · have hf := oie hf hc
      refine ev_aload_n C dX12_drawn_77 rfl (q := 0) rfl ?_
      obtain ⟨_, e5, hf⟩ := obnd hf
      obtain ⟨fs6, e5⟩ := oO_eq e5
      obtain ⟨x7, e8, hf⟩ := obnd hf
      refine ev_callV0 (As := []) (st := []) C rfl e5 (t_X12_opens e8) rfl hd_X12_opens rfl kw_1470 kw_1472 kw_87 kw_39 kw_1473 (mRoom.of E (Nat.le_of_ble_eq_true rfl) (Nat.le_of_ble_eq_true rfl) (Nat.le_refl 0) (Nat.le_refl 0)) (Nat.le_of_ble_eq_true rfl) dX12_drawn_78 ?_
      refine ev_iload_n C dX12_drawn_81 rfl (q := 2) rfl ?_
      refine ev_istore (l' := [(8, .int i2), (0, .ref a0), (1, .int i1), (2, .int i2), (3, .int i3), (4, .int i4), (5, .int i5), (6, .int i6), (7, .int i7)]) C dX12_drawn_82 (by decide) rfl ?_
      refine ev_sub [1, 2, 3, 4, 5, 6, 7, 8, 0] rfl ?_
      exact t_X12_drawn_L84 C E (m_X12_drawn_L71 N  n) ih N a0 i1 i2 i3 i4 i5 i6 i7 i2 x7 hf
def m_X12_drawn (N : Nat) (a0 : Nat) (i1 : Int32) (i2 : Int32) (i3 : Int32) (i4 : Int32) (M : mM) : Option (Int32 × mM) :=
  (m_X12_in i3.toInt64 0 1).bind fun x1 =>
  if x1 = 0 then (
    some ((-1), M)) else (
    (m_X12_in i4.toInt64 0 3).bind fun x3 =>
    if x3 = 0 then (
      some ((-1), M)) else (
      (m_X12_in i1.toInt64 1 20).bind fun x5 =>
      if x5 = 0 then (
        some ((-2), M)) else (
        (m_X12_isToGo i2).bind fun x7 =>
        if x7 = 0 then (
          some ((-2), M)) else (
          (oO M a0 12).bind fun _ =>
          (m_X12_reckons N a0 i2 M).bind fun x11 =>
          (sV x11 a0 12 21 (.int 0)).bind fun M13 =>
          (sV M13 a0 12 22 (.int 0)).bind fun M15 =>
          m_X12_drawn_L71 N  N a0 i1 i2 i3 i4 0 0 0 M15))))
set_option maxHeartbeats 4000000 in
set_option maxRecDepth 100000 in
theorem t_X12_drawn {L0 : Launch} {M : mM} {N : Nat} {a0 : Nat} {i1 : Int32} {i2 : Int32} {i3 : Int32} {i4 : Int32} {res : Int32 × mM} (hf : m_X12_drawn N a0 i1 i2 i3 i4 M = some res) : CT L0 yX12_drawn prog_14_method_53_code 10 (some .int) 5 121 0 0 [.ref a0, .int i1, .int i2, .int i3, .int i4] M (some (.int res.1)) res.2 := by
  refine CT.of (by decide +kernel) (Nat.le_of_ble_eq_true rfl) fun X C E => ?_
  have C : CX X RX12 "drawn" prog_14_method_53_code 10 (some .int) := C
  show EV X 10 0 [(0, .ref a0), (1, .int i1), (2, .int i2), (3, .int i3), (4, .int i4)] [] 0 0 M
  unfold m_X12_drawn at hf
  refine ev_iload_n C dX12_drawn_0 rfl (q := 3) rfl ?_
  refine ev_i2l C dX12_drawn_1 ?_
  refine ev_lconst (v := 0) C dX12_drawn_2 (by decide) ?_
  refine ev_lconst (v := 1) C dX12_drawn_3 (by decide) ?_
  obtain ⟨x1, e2, hf⟩ := obnd hf
  refine ev_callS0 (As := [.long i3.toInt64, .long 0, .long 1]) (st := []) C (t_X12_in e2) hd_X12_in rfl kw_1253 kw_1254 kw_87 kw_1255 (mRoom.of E (Nat.le_of_ble_eq_true rfl) (Nat.le_of_ble_eq_true rfl) (Nat.le_refl 0) (Nat.le_refl 0)) (Nat.le_of_ble_eq_true rfl) dX12_drawn_4 ?_
  refine ev_if_eq (tgt := 23) C dX12_drawn_7 (by decide) (fun hc => ?_) (fun hc => ?_)
  · have hf := oit hf hc
    refine ev_iconst (v := (-1)) C dX12_drawn_23 (by decide) ?_
    obtain rfl := Option.some.inj hf
    exact ev_iret C E (Nat.le_refl 0) (Nat.le_refl 0) dX12_drawn_24
  · have hf := oie hf hc
    refine ev_iload C dX12_drawn_10 (q := 4) rfl ?_
    refine ev_i2l C dX12_drawn_12 ?_
    refine ev_lconst (v := 0) C dX12_drawn_13 (by decide) ?_
    refine ev_ldc2 (v := 3) C dX12_drawn_14 kw_1252 ?_
    obtain ⟨x3, e4, hf⟩ := obnd hf
    refine ev_callS0 (As := [.long i4.toInt64, .long 0, .long 3]) (st := []) C (t_X12_in e4) hd_X12_in rfl kw_1253 kw_1254 kw_87 kw_1255 (mRoom.of E (Nat.le_of_ble_eq_true rfl) (Nat.le_of_ble_eq_true rfl) (Nat.le_refl 0) (Nat.le_refl 0)) (Nat.le_of_ble_eq_true rfl) dX12_drawn_17 ?_
    refine ev_if_ne (tgt := 25) C dX12_drawn_20 (by decide) (fun hc => ?_) (fun hc => ?_)
    · have hf := oie hf hc
      refine ev_iload_n C dX12_drawn_25 rfl (q := 1) rfl ?_
      refine ev_i2l C dX12_drawn_26 ?_
      refine ev_lconst (v := 1) C dX12_drawn_27 (by decide) ?_
      refine ev_ldc2 (v := 20) C dX12_drawn_28 kw_1292 ?_
      obtain ⟨x5, e6, hf⟩ := obnd hf
      refine ev_callS0 (As := [.long i1.toInt64, .long 1, .long 20]) (st := []) C (t_X12_in e6) hd_X12_in rfl kw_1253 kw_1254 kw_87 kw_1255 (mRoom.of E (Nat.le_of_ble_eq_true rfl) (Nat.le_of_ble_eq_true rfl) (Nat.le_refl 0) (Nat.le_refl 0)) (Nat.le_of_ble_eq_true rfl) dX12_drawn_31 ?_
      refine ev_if_eq (tgt := 44) C dX12_drawn_34 (by decide) (fun hc => ?_) (fun hc => ?_)
      · have hf := oit hf hc
        refine ev_bipush (v := (-2)) C dX12_drawn_44 (by decide) ?_
        obtain rfl := Option.some.inj hf
        exact ev_iret C E (Nat.le_refl 0) (Nat.le_refl 0) dX12_drawn_46
      · have hf := oie hf hc
        refine ev_iload_n C dX12_drawn_37 rfl (q := 2) rfl ?_
        obtain ⟨x7, e8, hf⟩ := obnd hf
        refine ev_callS0 (As := [.int i2]) (st := []) C (t_X12_isToGo e8) hd_X12_isToGo rfl kw_1390 kw_1391 kw_87 kw_1392 (mRoom.of E (Nat.le_of_ble_eq_true rfl) (Nat.le_of_ble_eq_true rfl) (Nat.le_refl 0) (Nat.le_refl 0)) (Nat.le_of_ble_eq_true rfl) dX12_drawn_38 ?_
        refine ev_if_ne (tgt := 47) C dX12_drawn_41 (by decide) (fun hc => ?_) (fun hc => ?_)
        · have hf := oie hf hc
          refine ev_aload_n C dX12_drawn_47 rfl (q := 0) rfl ?_
          refine ev_iload_n C dX12_drawn_48 rfl (q := 2) rfl ?_
          obtain ⟨_, e9, hf⟩ := obnd hf
          obtain ⟨fs10, e9⟩ := oO_eq e9
          obtain ⟨x11, e12, hf⟩ := obnd hf
          refine ev_callV0 (As := [.int i2]) (st := []) C rfl e9 (t_X12_reckons e12) rfl hd_X12_reckons rfl kw_1334 kw_1336 kw_87 kw_25 kw_1337 (mRoom.of E (Nat.le_of_ble_eq_true rfl) (Nat.le_of_ble_eq_true rfl) (Nat.le_refl 0) (Nat.le_refl 0)) (Nat.le_of_ble_eq_true rfl) dX12_drawn_49 ?_
          refine ev_aload_n C dX12_drawn_52 rfl (q := 0) rfl ?_
          refine ev_iconst (v := 0) C dX12_drawn_53 (by decide) ?_
          obtain ⟨M13, e14, hf⟩ := obnd hf
          refine ev_put (k := 21) C ok_12 dX12_drawn_54 (by decide) kw_1180 rfl ⟨rfl, rfl⟩ e14 ?_
          refine ev_aload_n C dX12_drawn_57 rfl (q := 0) rfl ?_
          refine ev_iconst (v := 0) C dX12_drawn_58 (by decide) ?_
          obtain ⟨M15, e16, hf⟩ := obnd hf
          refine ev_put (k := 22) C ok_12 dX12_drawn_59 (by decide) kw_1181 rfl ⟨rfl, rfl⟩ e16 ?_
          refine ev_iconst (v := 0) C dX12_drawn_62 (by decide) ?_
          refine ev_istore (l' := [(5, .int 0), (0, .ref a0), (1, .int i1), (2, .int i2), (3, .int i3), (4, .int i4)]) C dX12_drawn_63 (by decide) rfl ?_
          refine ev_iconst (v := 0) C dX12_drawn_65 (by decide) ?_
          refine ev_istore (l' := [(6, .int 0), (5, .int 0), (0, .ref a0), (1, .int i1), (2, .int i2), (3, .int i3), (4, .int i4)]) C dX12_drawn_66 (by decide) rfl ?_
          refine ev_iconst (v := 0) C dX12_drawn_68 (by decide) ?_
          refine ev_istore (l' := [(7, .int 0), (6, .int 0), (5, .int 0), (0, .ref a0), (1, .int i1), (2, .int i2), (3, .int i3), (4, .int i4)]) C dX12_drawn_69 (by decide) rfl ?_
          refine ev_sub [3, 4, 5, 6, 7, 2, 1, 0] rfl ?_
          exact t_X12_drawn_L71 C E   N a0 i1 i2 i3 i4 0 0 0 M15 hf
        · have hf := oit hf hc
          refine ev_bipush (v := (-2)) C dX12_drawn_44 (by decide) ?_
          obtain rfl := Option.some.inj hf
          exact ev_iret C E (Nat.le_refl 0) (Nat.le_refl 0) dX12_drawn_46
    · have hf := oit hf hc
      refine ev_iconst (v := (-1)) C dX12_drawn_23 (by decide) ?_
      obtain rfl := Option.some.inj hf
      exact ev_iret C E (Nat.le_refl 0) (Nat.le_refl 0) dX12_drawn_24
/-! FareLimitsModel isLeg(I)Z -/
theorem dX12_isLeg_0 : decode prog_14_method_54_code 0 = .ok (.iload_n 0, 1) := by decide +kernel
theorem dX12_isLeg_1 : decode prog_14_method_54_code 1 = .ok (.i2l, 1) := by decide +kernel
theorem dX12_isLeg_2 : decode prog_14_method_54_code 2 = .ok (.lconst 0, 1) := by decide +kernel
theorem dX12_isLeg_3 : decode prog_14_method_54_code 3 = .ok (.ldc2_w 78, 3) := by decide +kernel
theorem dX12_isLeg_6 : decode prog_14_method_54_code 6 = .ok (.invokestatic 72, 3) := by decide +kernel
theorem dX12_isLeg_9 : decode prog_14_method_54_code 9 = .ok (.ireturn, 1) := by decide +kernel
def m_X12_isLeg (i0 : Int32) : Option (Int32) :=
  (m_X12_in i0.toInt64 0 3).bind fun x1 =>
  (oif (x1 = 0 ∨ x1 = 1)).bind fun _ =>
  some x1
set_option maxHeartbeats 4000000 in
set_option maxRecDepth 100000 in
theorem t_X12_isLeg {L0 : Launch} {M : mM} {i0 : Int32} {res : Int32} (hf : m_X12_isLeg i0 = some res) : CT L0 yX12_isLeg prog_14_method_54_code 1 (some .boolean) 1 25 0 0 [.int i0] M (some (.int res)) M := by
  refine CT.of (by decide +kernel) (Nat.le_of_ble_eq_true rfl) fun X C E => ?_
  have C : CX X RX12 "isLeg" prog_14_method_54_code 1 (some .boolean) := C
  show EV X 1 0 [(0, .int i0)] [] 0 0 M
  unfold m_X12_isLeg at hf
  refine ev_iload_n C dX12_isLeg_0 rfl (q := 0) rfl ?_
  refine ev_i2l C dX12_isLeg_1 ?_
  refine ev_lconst (v := 0) C dX12_isLeg_2 (by decide) ?_
  refine ev_ldc2 (v := 3) C dX12_isLeg_3 kw_1252 ?_
  obtain ⟨x1, e2, hf⟩ := obnd hf
  refine ev_callS0 (As := [.long i0.toInt64, .long 0, .long 3]) (st := []) C (t_X12_in e2) hd_X12_in rfl kw_1253 kw_1254 kw_87 kw_1255 (mRoom.of E (Nat.le_of_ble_eq_true rfl) (Nat.le_of_ble_eq_true rfl) (Nat.le_refl 0) (Nat.le_refl 0)) (Nat.le_of_ble_eq_true rfl) dX12_isLeg_6 ?_
  obtain ⟨_, e3, hf⟩ := obnd hf
  obtain rfl := Option.some.inj hf
  exact ev_zret C (oif_eq e3) E (Nat.le_refl 0) (Nat.le_refl 0) dX12_isLeg_9
/-! FareLimitsModel leg(III)I -/
theorem dX12_leg_0 : decode prog_14_method_55_code 0 = .ok (.iload_n 1, 1) := by decide +kernel
theorem dX12_leg_1 : decode prog_14_method_55_code 1 = .ok (.invokestatic 224, 3) := by decide +kernel
theorem dX12_leg_4 : decode prog_14_method_55_code 4 = .ok (.ifCond .eq 13, 3) := by decide +kernel
theorem dX12_leg_7 : decode prog_14_method_55_code 7 = .ok (.iload_n 2, 1) := by decide +kernel
theorem dX12_leg_8 : decode prog_14_method_55_code 8 = .ok (.i2l, 1) := by decide +kernel
theorem dX12_leg_9 : decode prog_14_method_55_code 9 = .ok (.lconst 0, 1) := by decide +kernel
theorem dX12_leg_10 : decode prog_14_method_55_code 10 = .ok (.lconst 1, 1) := by decide +kernel
theorem dX12_leg_11 : decode prog_14_method_55_code 11 = .ok (.invokestatic 72, 3) := by decide +kernel
theorem dX12_leg_14 : decode prog_14_method_55_code 14 = .ok (.ifCond .ne 5, 3) := by decide +kernel
theorem dX12_leg_17 : decode prog_14_method_55_code 17 = .ok (.iconst (-1), 1) := by decide +kernel
theorem dX12_leg_18 : decode prog_14_method_55_code 18 = .ok (.ireturn, 1) := by decide +kernel
theorem dX12_leg_19 : decode prog_14_method_55_code 19 = .ok (.iload_n 3, 1) := by decide +kernel
theorem dX12_leg_20 : decode prog_14_method_55_code 20 = .ok (.i2l, 1) := by decide +kernel
theorem dX12_leg_21 : decode prog_14_method_55_code 21 = .ok (.iload_n 2, 1) := by decide +kernel
theorem dX12_leg_22 : decode prog_14_method_55_code 22 = .ok (.ifCond .ne 7, 3) := by decide +kernel
theorem dX12_leg_25 : decode prog_14_method_55_code 25 = .ok (.lconst 1, 1) := by decide +kernel
theorem dX12_leg_26 : decode prog_14_method_55_code 26 = .ok (.goto 4, 3) := by decide +kernel
theorem dX12_leg_29 : decode prog_14_method_55_code 29 = .ok (.lconst 0, 1) := by decide +kernel
theorem dX12_leg_30 : decode prog_14_method_55_code 30 = .ok (.iload_n 2, 1) := by decide +kernel
theorem dX12_leg_31 : decode prog_14_method_55_code 31 = .ok (.ifCond .ne 9, 3) := by decide +kernel
theorem dX12_leg_34 : decode prog_14_method_55_code 34 = .ok (.ldc2_w 80, 3) := by decide +kernel
theorem dX12_leg_37 : decode prog_14_method_55_code 37 = .ok (.goto 6, 3) := by decide +kernel
theorem dX12_leg_40 : decode prog_14_method_55_code 40 = .ok (.ldc2_w 227, 3) := by decide +kernel
theorem dX12_leg_43 : decode prog_14_method_55_code 43 = .ok (.invokestatic 72, 3) := by decide +kernel
theorem dX12_leg_46 : decode prog_14_method_55_code 46 = .ok (.ifCond .ne 6, 3) := by decide +kernel
theorem dX12_leg_49 : decode prog_14_method_55_code 49 = .ok (.bipush (-2), 2) := by decide +kernel
theorem dX12_leg_51 : decode prog_14_method_55_code 51 = .ok (.ireturn, 1) := by decide +kernel
theorem dX12_leg_52 : decode prog_14_method_55_code 52 = .ok (.iload_n 2, 1) := by decide +kernel
theorem dX12_leg_53 : decode prog_14_method_55_code 53 = .ok (.ifCond .ne 8, 3) := by decide +kernel
theorem dX12_leg_56 : decode prog_14_method_55_code 56 = .ok (.bipush 42, 2) := by decide +kernel
theorem dX12_leg_58 : decode prog_14_method_55_code 58 = .ok (.goto 5, 3) := by decide +kernel
theorem dX12_leg_61 : decode prog_14_method_55_code 61 = .ok (.bipush 46, 2) := by decide +kernel
theorem dX12_leg_63 : decode prog_14_method_55_code 63 = .ok (.iload_n 1, 1) := by decide +kernel
theorem dX12_leg_64 : decode prog_14_method_55_code 64 = .ok (.iadd, 1) := by decide +kernel
theorem dX12_leg_65 : decode prog_14_method_55_code 65 = .ok (.istore 4, 2) := by decide +kernel
theorem dX12_leg_67 : decode prog_14_method_55_code 67 = .ok (.aload_n 0, 1) := by decide +kernel
theorem dX12_leg_68 : decode prog_14_method_55_code 68 = .ok (.getfield 9, 3) := by decide +kernel
theorem dX12_leg_71 : decode prog_14_method_55_code 71 = .ok (.iload 4, 2) := by decide +kernel
theorem dX12_leg_73 : decode prog_14_method_55_code 73 = .ok (.iaload, 1) := by decide +kernel
theorem dX12_leg_74 : decode prog_14_method_55_code 74 = .ok (.istore 5, 2) := by decide +kernel
theorem dX12_leg_76 : decode prog_14_method_55_code 76 = .ok (.aload_n 0, 1) := by decide +kernel
theorem dX12_leg_77 : decode prog_14_method_55_code 77 = .ok (.getfield 9, 3) := by decide +kernel
theorem dX12_leg_80 : decode prog_14_method_55_code 80 = .ok (.iload 4, 2) := by decide +kernel
theorem dX12_leg_82 : decode prog_14_method_55_code 82 = .ok (.iload_n 3, 1) := by decide +kernel
theorem dX12_leg_83 : decode prog_14_method_55_code 83 = .ok (.iastore, 1) := by decide +kernel
theorem dX12_leg_84 : decode prog_14_method_55_code 84 = .ok (.iload 5, 2) := by decide +kernel
theorem dX12_leg_86 : decode prog_14_method_55_code 86 = .ok (.ireturn, 1) := by decide +kernel
def m_X12_leg_J63  (a0 : Nat) (i1 : Int32) (i3 : Int32) (si0 : Int32) (M : mM) : Option (Int32 × mM) :=
  (fR M a0 12 0).bind fun x1 =>
  (aI 0 M x1 (si0 + i1)).bind fun x3 =>
  (fR M a0 12 0).bind fun x5 =>
  (uI 0 .int M x5 (si0 + i1) i3).bind fun M7 =>
  some (x3, M7)
set_option maxHeartbeats 4000000 in
set_option maxRecDepth 100000 in
theorem t_X12_leg_J63 {X : mX} {L0 : Launch} {res : Int32 × mM} (C : CX X RX12 "leg" prog_14_method_55_code 6 (some .int)) (E : EX X L0 2 45 0 0 (some (.int res.1)) res.2)   (a0 : Nat) (i1 : Int32) (i3 : Int32) (si0 : Int32) (M : mM) (hf : m_X12_leg_J63  a0 i1 i3 si0 M = some res) : EV X 6 63 [(0, .ref a0), (1, .int i1), (3, .int i3)] [.int si0] 0 0 M := by
  unfold m_X12_leg_J63 at hf
  refine ev_iload_n C dX12_leg_63 rfl (q := 1) rfl ?_
  refine ev_iadd C dX12_leg_64 ?_
  refine ev_istore (l' := [(4, .int (si0 + i1)), (0, .ref a0), (1, .int i1), (3, .int i3)]) C dX12_leg_65 (by decide) rfl ?_
  refine ev_aload_n C dX12_leg_67 rfl (q := 1) rfl ?_
  obtain ⟨x1, e2, hf⟩ := obnd hf
  refine ev_get (k := 0) C ok_12 dX12_leg_68 (by decide) kw_1159 (fR_V e2) ?_
  refine ev_iload C dX12_leg_71 (q := 0) rfl ?_
  obtain ⟨x3, e4, hf⟩ := obnd hf
  refine ev_iald C dX12_leg_73 e4 ?_
  refine ev_istore (l' := [(5, .int x3), (4, .int (si0 + i1)), (0, .ref a0), (1, .int i1), (3, .int i3)]) C dX12_leg_74 (by decide) rfl ?_
  refine ev_aload_n C dX12_leg_76 rfl (q := 2) rfl ?_
  obtain ⟨x5, e6, hf⟩ := obnd hf
  refine ev_get (k := 0) C ok_12 dX12_leg_77 (by decide) kw_1159 (fR_V e6) ?_
  refine ev_iload C dX12_leg_80 (q := 1) rfl ?_
  refine ev_iload_n C dX12_leg_82 rfl (q := 4) rfl ?_
  obtain ⟨M7, e8, hf⟩ := obnd hf
  refine ev_iast C dX12_leg_83 e8 ?_
  refine ev_iload C dX12_leg_84 (q := 0) rfl ?_
  obtain rfl := Option.some.inj hf
  exact ev_iret C E (Nat.le_refl 0) (Nat.le_refl 0) dX12_leg_86
def m_X12_leg_J43  (a0 : Nat) (i1 : Int32) (i2 : Int32) (i3 : Int32) (sj0 : Int64) (sj1 : Int64) (sj2 : Int64) (M : mM) : Option (Int32 × mM) :=
  (m_X12_in sj0 sj1 sj2).bind fun x1 =>
  if x1 = 0 then (
    some ((-2), M)) else (
    if i2 = 0 then (
      m_X12_leg_J63  a0 i1 i3 42 M) else (
      m_X12_leg_J63  a0 i1 i3 46 M))
set_option maxHeartbeats 4000000 in
set_option maxRecDepth 100000 in
theorem t_X12_leg_J43 {X : mX} {L0 : Launch} {res : Int32 × mM} (C : CX X RX12 "leg" prog_14_method_55_code 6 (some .int)) (E : EX X L0 2 45 0 0 (some (.int res.1)) res.2)   (a0 : Nat) (i1 : Int32) (i2 : Int32) (i3 : Int32) (sj0 : Int64) (sj1 : Int64) (sj2 : Int64) (M : mM) (hf : m_X12_leg_J43  a0 i1 i2 i3 sj0 sj1 sj2 M = some res) : EV X 6 43 [(0, .ref a0), (1, .int i1), (2, .int i2), (3, .int i3)] [.long sj2, .long sj1, .long sj0] 0 0 M := by
  unfold m_X12_leg_J43 at hf
  obtain ⟨x1, e2, hf⟩ := obnd hf
  refine ev_callS0 (As := [.long sj0, .long sj1, .long sj2]) (st := []) C (t_X12_in e2) hd_X12_in rfl kw_1253 kw_1254 kw_87 kw_1255 (mRoom.of E (Nat.le_of_ble_eq_true rfl) (Nat.le_of_ble_eq_true rfl) (Nat.le_refl 0) (Nat.le_refl 0)) (Nat.le_of_ble_eq_true rfl) dX12_leg_43 ?_
  refine ev_if_ne (tgt := 52) C dX12_leg_46 (by decide) (fun hc => ?_) (fun hc => ?_)
  · have hf := oie hf hc
    refine ev_iload_n C dX12_leg_52 rfl (q := 2) rfl ?_
    refine ev_if_ne (tgt := 61) C dX12_leg_53 (by decide) (fun hc => ?_) (fun hc => ?_)
    · have hf := oie hf hc
      refine ev_bipush (v := 46) C dX12_leg_61 (by decide) ?_
      refine ev_sub [0, 1, 3] rfl ?_
      exact t_X12_leg_J63 C E   a0 i1 i3 46 M hf
    · have hf := oit hf hc
      refine ev_bipush (v := 42) C dX12_leg_56 (by decide) ?_
      refine ev_goto (tgt := 63) C dX12_leg_58 (by decide) ?_
      refine ev_sub [0, 1, 3] rfl ?_
      exact t_X12_leg_J63 C E   a0 i1 i3 42 M hf
  · have hf := oit hf hc
    refine ev_bipush (v := (-2)) C dX12_leg_49 (by decide) ?_
    obtain rfl := Option.some.inj hf
    exact ev_iret C E (Nat.le_refl 0) (Nat.le_refl 0) dX12_leg_51
def m_X12_leg_J30  (a0 : Nat) (i1 : Int32) (i2 : Int32) (i3 : Int32) (sj0 : Int64) (sj1 : Int64) (M : mM) : Option (Int32 × mM) :=
  if i2 = 0 then (
    m_X12_leg_J43  a0 i1 i2 i3 sj0 sj1 9999 M) else (
    m_X12_leg_J43  a0 i1 i2 i3 sj0 sj1 99 M)
set_option maxHeartbeats 4000000 in
set_option maxRecDepth 100000 in
theorem t_X12_leg_J30 {X : mX} {L0 : Launch} {res : Int32 × mM} (C : CX X RX12 "leg" prog_14_method_55_code 6 (some .int)) (E : EX X L0 2 45 0 0 (some (.int res.1)) res.2)   (a0 : Nat) (i1 : Int32) (i2 : Int32) (i3 : Int32) (sj0 : Int64) (sj1 : Int64) (M : mM) (hf : m_X12_leg_J30  a0 i1 i2 i3 sj0 sj1 M = some res) : EV X 6 30 [(0, .ref a0), (1, .int i1), (2, .int i2), (3, .int i3)] [.long sj1, .long sj0] 0 0 M := by
  unfold m_X12_leg_J30 at hf
  refine ev_iload_n C dX12_leg_30 rfl (q := 2) rfl ?_
  refine ev_if_ne (tgt := 40) C dX12_leg_31 (by decide) (fun hc => ?_) (fun hc => ?_)
  · have hf := oie hf hc
    refine ev_ldc2 (v := 99) C dX12_leg_40 kw_1494 ?_
    exact t_X12_leg_J43 C E   a0 i1 i2 i3 sj0 sj1 99 M hf
  · have hf := oit hf hc
    refine ev_ldc2 (v := 9999) C dX12_leg_34 kw_1256 ?_
    refine ev_goto (tgt := 43) C dX12_leg_37 (by decide) ?_
    exact t_X12_leg_J43 C E   a0 i1 i2 i3 sj0 sj1 9999 M hf
def m_X12_leg (a0 : Nat) (i1 : Int32) (i2 : Int32) (i3 : Int32) (M : mM) : Option (Int32 × mM) :=
  (m_X12_isLeg i1).bind fun x1 =>
  if x1 = 0 then (
    some ((-1), M)) else (
    (m_X12_in i2.toInt64 0 1).bind fun x3 =>
    if x3 = 0 then (
      some ((-1), M)) else (
      if i2 = 0 then (
        m_X12_leg_J30  a0 i1 i2 i3 i3.toInt64 1 M) else (
        m_X12_leg_J30  a0 i1 i2 i3 i3.toInt64 0 M)))
set_option maxHeartbeats 4000000 in
set_option maxRecDepth 100000 in
theorem t_X12_leg {L0 : Launch} {M : mM} {a0 : Nat} {i1 : Int32} {i2 : Int32} {i3 : Int32} {res : Int32 × mM} (hf : m_X12_leg a0 i1 i2 i3 M = some res) : CT L0 yX12_leg prog_14_method_55_code 6 (some .int) 2 45 0 0 [.ref a0, .int i1, .int i2, .int i3] M (some (.int res.1)) res.2 := by
  refine CT.of (by decide +kernel) (Nat.le_of_ble_eq_true rfl) fun X C E => ?_
  have C : CX X RX12 "leg" prog_14_method_55_code 6 (some .int) := C
  show EV X 6 0 [(0, .ref a0), (1, .int i1), (2, .int i2), (3, .int i3)] [] 0 0 M
  unfold m_X12_leg at hf
  refine ev_iload_n C dX12_leg_0 rfl (q := 1) rfl ?_
  obtain ⟨x1, e2, hf⟩ := obnd hf
  refine ev_callS0 (As := [.int i1]) (st := []) C (t_X12_isLeg e2) hd_X12_isLeg rfl kw_1491 kw_1492 kw_87 kw_1493 (mRoom.of E (Nat.le_of_ble_eq_true rfl) (Nat.le_of_ble_eq_true rfl) (Nat.le_refl 0) (Nat.le_refl 0)) (Nat.le_of_ble_eq_true rfl) dX12_leg_1 ?_
  refine ev_if_eq (tgt := 17) C dX12_leg_4 (by decide) (fun hc => ?_) (fun hc => ?_)
  · have hf := oit hf hc
    refine ev_iconst (v := (-1)) C dX12_leg_17 (by decide) ?_
    obtain rfl := Option.some.inj hf
    exact ev_iret C E (Nat.le_refl 0) (Nat.le_refl 0) dX12_leg_18
  · have hf := oie hf hc
    refine ev_iload_n C dX12_leg_7 rfl (q := 2) rfl ?_
    refine ev_i2l C dX12_leg_8 ?_
    refine ev_lconst (v := 0) C dX12_leg_9 (by decide) ?_
    refine ev_lconst (v := 1) C dX12_leg_10 (by decide) ?_
    obtain ⟨x3, e4, hf⟩ := obnd hf
    refine ev_callS0 (As := [.long i2.toInt64, .long 0, .long 1]) (st := []) C (t_X12_in e4) hd_X12_in rfl kw_1253 kw_1254 kw_87 kw_1255 (mRoom.of E (Nat.le_of_ble_eq_true rfl) (Nat.le_of_ble_eq_true rfl) (Nat.le_refl 0) (Nat.le_refl 0)) (Nat.le_of_ble_eq_true rfl) dX12_leg_11 ?_
    refine ev_if_ne (tgt := 19) C dX12_leg_14 (by decide) (fun hc => ?_) (fun hc => ?_)
    · have hf := oie hf hc
      refine ev_iload_n C dX12_leg_19 rfl (q := 3) rfl ?_
      refine ev_i2l C dX12_leg_20 ?_
      refine ev_iload_n C dX12_leg_21 rfl (q := 2) rfl ?_
      refine ev_if_ne (tgt := 29) C dX12_leg_22 (by decide) (fun hc => ?_) (fun hc => ?_)
      · have hf := oie hf hc
        refine ev_lconst (v := 0) C dX12_leg_29 (by decide) ?_
        exact t_X12_leg_J30 C E   a0 i1 i2 i3 i3.toInt64 0 M hf
      · have hf := oit hf hc
        refine ev_lconst (v := 1) C dX12_leg_25 (by decide) ?_
        refine ev_goto (tgt := 30) C dX12_leg_26 (by decide) ?_
        exact t_X12_leg_J30 C E   a0 i1 i2 i3 i3.toInt64 1 M hf
    · have hf := oit hf hc
      refine ev_iconst (v := (-1)) C dX12_leg_17 (by decide) ?_
      obtain rfl := Option.some.inj hf
      exact ev_iret C E (Nat.le_refl 0) (Nat.le_refl 0) dX12_leg_18
/-! FareLimitsModel isRoute(I)Z -/
theorem dX12_isRoute_0 : decode prog_14_method_56_code 0 = .ok (.iload_n 1, 1) := by decide +kernel
theorem dX12_isRoute_1 : decode prog_14_method_56_code 1 = .ok (.i2l, 1) := by decide +kernel
theorem dX12_isRoute_2 : decode prog_14_method_56_code 2 = .ok (.lconst 0, 1) := by decide +kernel
theorem dX12_isRoute_3 : decode prog_14_method_56_code 3 = .ok (.aload_n 0, 1) := by decide +kernel
theorem dX12_isRoute_4 : decode prog_14_method_56_code 4 = .ok (.getfield 9, 3) := by decide +kernel
theorem dX12_isRoute_7 : decode prog_14_method_56_code 7 = .ok (.iconst 5, 1) := by decide +kernel
theorem dX12_isRoute_8 : decode prog_14_method_56_code 8 = .ok (.iaload, 1) := by decide +kernel
theorem dX12_isRoute_9 : decode prog_14_method_56_code 9 = .ok (.iconst 1, 1) := by decide +kernel
theorem dX12_isRoute_10 : decode prog_14_method_56_code 10 = .ok (.isub, 1) := by decide +kernel
theorem dX12_isRoute_11 : decode prog_14_method_56_code 11 = .ok (.i2l, 1) := by decide +kernel
theorem dX12_isRoute_12 : decode prog_14_method_56_code 12 = .ok (.invokestatic 72, 3) := by decide +kernel
theorem dX12_isRoute_15 : decode prog_14_method_56_code 15 = .ok (.ireturn, 1) := by decide +kernel
def m_X12_isRoute (a0 : Nat) (i1 : Int32) (M : mM) : Option (Int32) :=
  (fR M a0 12 0).bind fun x1 =>
  (aI 0 M x1 5).bind fun x3 =>
  (m_X12_in i1.toInt64 0 ((x3 - 1).toInt64)).bind fun x5 =>
  (oif (x5 = 0 ∨ x5 = 1)).bind fun _ =>
  some x5
set_option maxHeartbeats 4000000 in
set_option maxRecDepth 100000 in
theorem t_X12_isRoute {L0 : Launch} {M : mM} {a0 : Nat} {i1 : Int32} {res : Int32} (hf : m_X12_isRoute a0 i1 M = some res) : CT L0 yX12_isRoute prog_14_method_56_code 2 (some .boolean) 1 25 0 0 [.ref a0, .int i1] M (some (.int res)) M := by
  refine CT.of (by decide +kernel) (Nat.le_of_ble_eq_true rfl) fun X C E => ?_
  have C : CX X RX12 "isRoute" prog_14_method_56_code 2 (some .boolean) := C
  show EV X 2 0 [(0, .ref a0), (1, .int i1)] [] 0 0 M
  unfold m_X12_isRoute at hf
  refine ev_iload_n C dX12_isRoute_0 rfl (q := 1) rfl ?_
  refine ev_i2l C dX12_isRoute_1 ?_
  refine ev_lconst (v := 0) C dX12_isRoute_2 (by decide) ?_
  refine ev_aload_n C dX12_isRoute_3 rfl (q := 0) rfl ?_
  obtain ⟨x1, e2, hf⟩ := obnd hf
  refine ev_get (k := 0) C ok_12 dX12_isRoute_4 (by decide) kw_1159 (fR_V e2) ?_
  refine ev_iconst (v := 5) C dX12_isRoute_7 (by decide) ?_
  obtain ⟨x3, e4, hf⟩ := obnd hf
  refine ev_iald C dX12_isRoute_8 e4 ?_
  refine ev_iconst (v := 1) C dX12_isRoute_9 (by decide) ?_
  refine ev_isub C dX12_isRoute_10 ?_
  refine ev_i2l C dX12_isRoute_11 ?_
  obtain ⟨x5, e6, hf⟩ := obnd hf
  refine ev_callS0 (As := [.long i1.toInt64, .long 0, .long ((x3 - 1).toInt64)]) (st := []) C (t_X12_in e6) hd_X12_in rfl kw_1253 kw_1254 kw_87 kw_1255 (mRoom.of E (Nat.le_of_ble_eq_true rfl) (Nat.le_of_ble_eq_true rfl) (Nat.le_refl 0) (Nat.le_refl 0)) (Nat.le_of_ble_eq_true rfl) dX12_isRoute_12 ?_
  obtain ⟨_, e7, hf⟩ := obnd hf
  obtain rfl := Option.some.inj hf
  exact ev_zret C (oif_eq e7) E (Nat.le_refl 0) (Nat.le_refl 0) dX12_isRoute_15
/-! FareLimitsModel legs(I)I -/
theorem dX12_legs_0 : decode prog_14_method_57_code 0 = .ok (.aload_n 0, 1) := by decide +kernel
theorem dX12_legs_1 : decode prog_14_method_57_code 1 = .ok (.getfield 9, 3) := by decide +kernel
theorem dX12_legs_4 : decode prog_14_method_57_code 4 = .ok (.bipush 50, 2) := by decide +kernel
theorem dX12_legs_6 : decode prog_14_method_57_code 6 = .ok (.bipush 6, 2) := by decide +kernel
theorem dX12_legs_8 : decode prog_14_method_57_code 8 = .ok (.iload_n 1, 1) := by decide +kernel
theorem dX12_legs_9 : decode prog_14_method_57_code 9 = .ok (.imul, 1) := by decide +kernel
theorem dX12_legs_10 : decode prog_14_method_57_code 10 = .ok (.iadd, 1) := by decide +kernel
theorem dX12_legs_11 : decode prog_14_method_57_code 11 = .ok (.iconst 3, 1) := by decide +kernel
theorem dX12_legs_12 : decode prog_14_method_57_code 12 = .ok (.iadd, 1) := by decide +kernel
theorem dX12_legs_13 : decode prog_14_method_57_code 13 = .ok (.iaload, 1) := by decide +kernel
theorem dX12_legs_14 : decode prog_14_method_57_code 14 = .ok (.ireturn, 1) := by decide +kernel
def m_X12_legs (a0 : Nat) (i1 : Int32) (M : mM) : Option (Int32) :=
  (fR M a0 12 0).bind fun x1 =>
  (aI 0 M x1 ((50 + (6 * i1)) + 3)).bind fun x3 =>
  some x3
set_option maxHeartbeats 4000000 in
set_option maxRecDepth 100000 in
theorem t_X12_legs {L0 : Launch} {M : mM} {a0 : Nat} {i1 : Int32} {res : Int32} (hf : m_X12_legs a0 i1 M = some res) : CT L0 yX12_legs prog_14_method_57_code 2 (some .int) 0 0 0 0 [.ref a0, .int i1] M (some (.int res)) M := by
  refine CT.of (by decide +kernel) (Nat.le_of_ble_eq_true rfl) fun X C E => ?_
  have C : CX X RX12 "legs" prog_14_method_57_code 2 (some .int) := C
  show EV X 2 0 [(0, .ref a0), (1, .int i1)] [] 0 0 M
  unfold m_X12_legs at hf
  refine ev_aload_n C dX12_legs_0 rfl (q := 0) rfl ?_
  obtain ⟨x1, e2, hf⟩ := obnd hf
  refine ev_get (k := 0) C ok_12 dX12_legs_1 (by decide) kw_1159 (fR_V e2) ?_
  refine ev_bipush (v := 50) C dX12_legs_4 (by decide) ?_
  refine ev_bipush (v := 6) C dX12_legs_6 (by decide) ?_
  refine ev_iload_n C dX12_legs_8 rfl (q := 1) rfl ?_
  refine ev_imul C dX12_legs_9 ?_
  refine ev_iadd C dX12_legs_10 ?_
  refine ev_iconst (v := 3) C dX12_legs_11 (by decide) ?_
  refine ev_iadd C dX12_legs_12 ?_
  obtain ⟨x3, e4, hf⟩ := obnd hf
  refine ev_iald C dX12_legs_13 e4 ?_
  obtain rfl := Option.some.inj hf
  exact ev_iret C E (Nat.le_refl 0) (Nat.le_refl 0) dX12_legs_14
/-! FareLimitsModel isOver(II)Z -/
theorem dX12_isOver_0 : decode prog_14_method_58_code 0 = .ok (.aload_n 0, 1) := by decide +kernel
theorem dX12_isOver_1 : decode prog_14_method_58_code 1 = .ok (.iload_n 1, 1) := by decide +kernel
theorem dX12_isOver_2 : decode prog_14_method_58_code 2 = .ok (.invokevirtual 229, 3) := by decide +kernel
theorem dX12_isOver_5 : decode prog_14_method_58_code 5 = .ok (.iload_n 2, 1) := by decide +kernel
theorem dX12_isOver_6 : decode prog_14_method_58_code 6 = .ok (.ishr, 1) := by decide +kernel
theorem dX12_isOver_7 : decode prog_14_method_58_code 7 = .ok (.iconst 1, 1) := by decide +kernel
theorem dX12_isOver_8 : decode prog_14_method_58_code 8 = .ok (.iand, 1) := by decide +kernel
theorem dX12_isOver_9 : decode prog_14_method_58_code 9 = .ok (.iconst 1, 1) := by decide +kernel
theorem dX12_isOver_10 : decode prog_14_method_58_code 10 = .ok (.if_icmp .ne 7, 3) := by decide +kernel
theorem dX12_isOver_13 : decode prog_14_method_58_code 13 = .ok (.iconst 1, 1) := by decide +kernel
theorem dX12_isOver_14 : decode prog_14_method_58_code 14 = .ok (.goto 4, 3) := by decide +kernel
theorem dX12_isOver_17 : decode prog_14_method_58_code 17 = .ok (.iconst 0, 1) := by decide +kernel
theorem dX12_isOver_18 : decode prog_14_method_58_code 18 = .ok (.ireturn, 1) := by decide +kernel
def m_X12_isOver (a0 : Nat) (i1 : Int32) (i2 : Int32) (M : mM) : Option (Int32) :=
  (oO M a0 12).bind fun _ =>
  (m_X12_legs a0 i1 M).bind fun x3 =>
  if ((x3 >>> (i2 &&& 31)) &&& 1) = 1 then (
    some 1) else (
    some 0)
set_option maxHeartbeats 4000000 in
set_option maxRecDepth 100000 in
theorem t_X12_isOver {L0 : Launch} {M : mM} {a0 : Nat} {i1 : Int32} {i2 : Int32} {res : Int32} (hf : m_X12_isOver a0 i1 i2 M = some res) : CT L0 yX12_isOver prog_14_method_58_code 3 (some .boolean) 1 21 0 0 [.ref a0, .int i1, .int i2] M (some (.int res)) M := by
  refine CT.of (by decide +kernel) (Nat.le_of_ble_eq_true rfl) fun X C E => ?_
  have C : CX X RX12 "isOver" prog_14_method_58_code 3 (some .boolean) := C
  show EV X 3 0 [(0, .ref a0), (1, .int i1), (2, .int i2)] [] 0 0 M
  unfold m_X12_isOver at hf
  refine ev_aload_n C dX12_isOver_0 rfl (q := 0) rfl ?_
  refine ev_iload_n C dX12_isOver_1 rfl (q := 1) rfl ?_
  obtain ⟨_, e1, hf⟩ := obnd hf
  obtain ⟨fs2, e1⟩ := oO_eq e1
  obtain ⟨x3, e4, hf⟩ := obnd hf
  refine ev_callV0 (As := [.int i1]) (st := []) C rfl e1 (t_X12_legs e4) rfl hd_X12_legs rfl kw_1507 kw_1509 kw_87 kw_45 kw_1510 (mRoom.of E (Nat.le_of_ble_eq_true rfl) (Nat.le_of_ble_eq_true rfl) (Nat.le_refl 0) (Nat.le_refl 0)) (Nat.le_of_ble_eq_true rfl) dX12_isOver_2 ?_
  refine ev_iload_n C dX12_isOver_5 rfl (q := 2) rfl ?_
  refine ev_ishr C dX12_isOver_6 ?_
  refine ev_iconst (v := 1) C dX12_isOver_7 (by decide) ?_
  refine ev_iand C dX12_isOver_8 ?_
  refine ev_iconst (v := 1) C dX12_isOver_9 (by decide) ?_
  refine ev_icmp_ne (tgt := 17) C dX12_isOver_10 (by decide) (fun hc => ?_) (fun hc => ?_)
  · have hf := oie hf hc
    refine ev_iconst (v := 0) C dX12_isOver_17 (by decide) ?_
    obtain rfl := Option.some.inj hf
    exact ev_zret C (by decide) E (Nat.le_refl 0) (Nat.le_refl 0) dX12_isOver_18
  · have hf := oit hf hc
    refine ev_iconst (v := 1) C dX12_isOver_13 (by decide) ?_
    refine ev_goto (tgt := 18) C dX12_isOver_14 (by decide) ?_
    obtain rfl := Option.some.inj hf
    exact ev_zret C (by decide) E (Nat.le_refl 0) (Nat.le_refl 0) dX12_isOver_18
/-! FareLimitsModel fee(I)I -/
theorem dX12_fee_0 : decode prog_14_method_59_code 0 = .ok (.aload_n 0, 1) := by decide +kernel
theorem dX12_fee_1 : decode prog_14_method_59_code 1 = .ok (.getfield 9, 3) := by decide +kernel
theorem dX12_fee_4 : decode prog_14_method_59_code 4 = .ok (.bipush 50, 2) := by decide +kernel
theorem dX12_fee_6 : decode prog_14_method_59_code 6 = .ok (.bipush 6, 2) := by decide +kernel
theorem dX12_fee_8 : decode prog_14_method_59_code 8 = .ok (.iload_n 1, 1) := by decide +kernel
theorem dX12_fee_9 : decode prog_14_method_59_code 9 = .ok (.imul, 1) := by decide +kernel
theorem dX12_fee_10 : decode prog_14_method_59_code 10 = .ok (.iadd, 1) := by decide +kernel
theorem dX12_fee_11 : decode prog_14_method_59_code 11 = .ok (.iconst 4, 1) := by decide +kernel
theorem dX12_fee_12 : decode prog_14_method_59_code 12 = .ok (.iadd, 1) := by decide +kernel
theorem dX12_fee_13 : decode prog_14_method_59_code 13 = .ok (.iaload, 1) := by decide +kernel
theorem dX12_fee_14 : decode prog_14_method_59_code 14 = .ok (.ireturn, 1) := by decide +kernel
def m_X12_fee (a0 : Nat) (i1 : Int32) (M : mM) : Option (Int32) :=
  (fR M a0 12 0).bind fun x1 =>
  (aI 0 M x1 ((50 + (6 * i1)) + 4)).bind fun x3 =>
  some x3
set_option maxHeartbeats 4000000 in
set_option maxRecDepth 100000 in
theorem t_X12_fee {L0 : Launch} {M : mM} {a0 : Nat} {i1 : Int32} {res : Int32} (hf : m_X12_fee a0 i1 M = some res) : CT L0 yX12_fee prog_14_method_59_code 2 (some .int) 0 0 0 0 [.ref a0, .int i1] M (some (.int res)) M := by
  refine CT.of (by decide +kernel) (Nat.le_of_ble_eq_true rfl) fun X C E => ?_
  have C : CX X RX12 "fee" prog_14_method_59_code 2 (some .int) := C
  show EV X 2 0 [(0, .ref a0), (1, .int i1)] [] 0 0 M
  unfold m_X12_fee at hf
  refine ev_aload_n C dX12_fee_0 rfl (q := 0) rfl ?_
  obtain ⟨x1, e2, hf⟩ := obnd hf
  refine ev_get (k := 0) C ok_12 dX12_fee_1 (by decide) kw_1159 (fR_V e2) ?_
  refine ev_bipush (v := 50) C dX12_fee_4 (by decide) ?_
  refine ev_bipush (v := 6) C dX12_fee_6 (by decide) ?_
  refine ev_iload_n C dX12_fee_8 rfl (q := 1) rfl ?_
  refine ev_imul C dX12_fee_9 ?_
  refine ev_iadd C dX12_fee_10 ?_
  refine ev_iconst (v := 4) C dX12_fee_11 (by decide) ?_
  refine ev_iadd C dX12_fee_12 ?_
  obtain ⟨x3, e4, hf⟩ := obnd hf
  refine ev_iald C dX12_fee_13 e4 ?_
  obtain rfl := Option.some.inj hf
  exact ev_iret C E (Nat.le_refl 0) (Nat.le_refl 0) dX12_fee_14
/-! FareLimitsModel wanted(I)I -/
theorem dX12_wanted_0 : decode prog_14_method_60_code 0 = .ok (.aload_n 0, 1) := by decide +kernel
theorem dX12_wanted_1 : decode prog_14_method_60_code 1 = .ok (.getfield 9, 3) := by decide +kernel
theorem dX12_wanted_4 : decode prog_14_method_60_code 4 = .ok (.bipush 50, 2) := by decide +kernel
theorem dX12_wanted_6 : decode prog_14_method_60_code 6 = .ok (.bipush 6, 2) := by decide +kernel
theorem dX12_wanted_8 : decode prog_14_method_60_code 8 = .ok (.iload_n 1, 1) := by decide +kernel
theorem dX12_wanted_9 : decode prog_14_method_60_code 9 = .ok (.imul, 1) := by decide +kernel
theorem dX12_wanted_10 : decode prog_14_method_60_code 10 = .ok (.iadd, 1) := by decide +kernel
theorem dX12_wanted_11 : decode prog_14_method_60_code 11 = .ok (.iconst 5, 1) := by decide +kernel
theorem dX12_wanted_12 : decode prog_14_method_60_code 12 = .ok (.iadd, 1) := by decide +kernel
theorem dX12_wanted_13 : decode prog_14_method_60_code 13 = .ok (.iaload, 1) := by decide +kernel
theorem dX12_wanted_14 : decode prog_14_method_60_code 14 = .ok (.ireturn, 1) := by decide +kernel
def m_X12_wanted (a0 : Nat) (i1 : Int32) (M : mM) : Option (Int32) :=
  (fR M a0 12 0).bind fun x1 =>
  (aI 0 M x1 ((50 + (6 * i1)) + 5)).bind fun x3 =>
  some x3
set_option maxHeartbeats 4000000 in
set_option maxRecDepth 100000 in
theorem t_X12_wanted {L0 : Launch} {M : mM} {a0 : Nat} {i1 : Int32} {res : Int32} (hf : m_X12_wanted a0 i1 M = some res) : CT L0 yX12_wanted prog_14_method_60_code 2 (some .int) 0 0 0 0 [.ref a0, .int i1] M (some (.int res)) M := by
  refine CT.of (by decide +kernel) (Nat.le_of_ble_eq_true rfl) fun X C E => ?_
  have C : CX X RX12 "wanted" prog_14_method_60_code 2 (some .int) := C
  show EV X 2 0 [(0, .ref a0), (1, .int i1)] [] 0 0 M
  unfold m_X12_wanted at hf
  refine ev_aload_n C dX12_wanted_0 rfl (q := 0) rfl ?_
  obtain ⟨x1, e2, hf⟩ := obnd hf
  refine ev_get (k := 0) C ok_12 dX12_wanted_1 (by decide) kw_1159 (fR_V e2) ?_
  refine ev_bipush (v := 50) C dX12_wanted_4 (by decide) ?_
  refine ev_bipush (v := 6) C dX12_wanted_6 (by decide) ?_
  refine ev_iload_n C dX12_wanted_8 rfl (q := 1) rfl ?_
  refine ev_imul C dX12_wanted_9 ?_
  refine ev_iadd C dX12_wanted_10 ?_
  refine ev_iconst (v := 5) C dX12_wanted_11 (by decide) ?_
  refine ev_iadd C dX12_wanted_12 ?_
  obtain ⟨x3, e4, hf⟩ := obnd hf
  refine ev_iald C dX12_wanted_13 e4 ?_
  obtain rfl := Option.some.inj hf
  exact ev_iret C E (Nat.le_refl 0) (Nat.le_refl 0) dX12_wanted_14
/-! FareLimitsModel partOf(II)F -/
theorem dX12_partOf_0 : decode prog_14_method_61_code 0 = .ok (.iconst 0, 1) := by decide +kernel
theorem dX12_partOf_1 : decode prog_14_method_61_code 1 = .ok (.istore_n 3, 1) := by decide +kernel
theorem dX12_partOf_2 : decode prog_14_method_61_code 2 = .ok (.iconst 0, 1) := by decide +kernel
theorem dX12_partOf_3 : decode prog_14_method_61_code 3 = .ok (.istore 4, 2) := by decide +kernel
theorem dX12_partOf_5 : decode prog_14_method_61_code 5 = .ok (.iload 4, 2) := by decide +kernel
theorem dX12_partOf_7 : decode prog_14_method_61_code 7 = .ok (.iconst 4, 1) := by decide +kernel
theorem dX12_partOf_8 : decode prog_14_method_61_code 8 = .ok (.if_icmp .ge 36, 3) := by decide +kernel
theorem dX12_partOf_11 : decode prog_14_method_61_code 11 = .ok (.iload_n 3, 1) := by decide +kernel
theorem dX12_partOf_12 : decode prog_14_method_61_code 12 = .ok (.aload_n 0, 1) := by decide +kernel
theorem dX12_partOf_13 : decode prog_14_method_61_code 13 = .ok (.iload_n 1, 1) := by decide +kernel
theorem dX12_partOf_14 : decode prog_14_method_61_code 14 = .ok (.iload 4, 2) := by decide +kernel
theorem dX12_partOf_16 : decode prog_14_method_61_code 16 = .ok (.invokevirtual 232, 3) := by decide +kernel
theorem dX12_partOf_19 : decode prog_14_method_61_code 19 = .ok (.ifCond .eq 16, 3) := by decide +kernel
theorem dX12_partOf_22 : decode prog_14_method_61_code 22 = .ok (.aload_n 0, 1) := by decide +kernel
theorem dX12_partOf_23 : decode prog_14_method_61_code 23 = .ok (.getfield 9, 3) := by decide +kernel
theorem dX12_partOf_26 : decode prog_14_method_61_code 26 = .ok (.bipush 42, 2) := by decide +kernel
theorem dX12_partOf_28 : decode prog_14_method_61_code 28 = .ok (.iload 4, 2) := by decide +kernel
theorem dX12_partOf_30 : decode prog_14_method_61_code 30 = .ok (.iadd, 1) := by decide +kernel
theorem dX12_partOf_31 : decode prog_14_method_61_code 31 = .ok (.iaload, 1) := by decide +kernel
theorem dX12_partOf_32 : decode prog_14_method_61_code 32 = .ok (.goto 4, 3) := by decide +kernel
theorem dX12_partOf_35 : decode prog_14_method_61_code 35 = .ok (.iconst 0, 1) := by decide +kernel
theorem dX12_partOf_36 : decode prog_14_method_61_code 36 = .ok (.iadd, 1) := by decide +kernel
theorem dX12_partOf_37 : decode prog_14_method_61_code 37 = .ok (.istore_n 3, 1) := by decide +kernel
theorem dX12_partOf_38 : decode prog_14_method_61_code 38 = .ok (.iinc 4 1, 3) := by decide +kernel
theorem dX12_partOf_41 : decode prog_14_method_61_code 41 = .ok (.goto (-36), 3) := by decide +kernel
theorem dX12_partOf_44 : decode prog_14_method_61_code 44 = .ok (.aload_n 0, 1) := by decide +kernel
theorem dX12_partOf_45 : decode prog_14_method_61_code 45 = .ok (.iload_n 1, 1) := by decide +kernel
theorem dX12_partOf_46 : decode prog_14_method_61_code 46 = .ok (.invokevirtual 235, 3) := by decide +kernel
theorem dX12_partOf_49 : decode prog_14_method_61_code 49 = .ok (.i2f, 1) := by decide +kernel
theorem dX12_partOf_50 : decode prog_14_method_61_code 50 = .ok (.aload_n 0, 1) := by decide +kernel
theorem dX12_partOf_51 : decode prog_14_method_61_code 51 = .ok (.getfield 9, 3) := by decide +kernel
theorem dX12_partOf_54 : decode prog_14_method_61_code 54 = .ok (.bipush 42, 2) := by decide +kernel
theorem dX12_partOf_56 : decode prog_14_method_61_code 56 = .ok (.iload_n 2, 1) := by decide +kernel
theorem dX12_partOf_57 : decode prog_14_method_61_code 57 = .ok (.iadd, 1) := by decide +kernel
theorem dX12_partOf_58 : decode prog_14_method_61_code 58 = .ok (.iaload, 1) := by decide +kernel
theorem dX12_partOf_59 : decode prog_14_method_61_code 59 = .ok (.i2f, 1) := by decide +kernel
theorem dX12_partOf_60 : decode prog_14_method_61_code 60 = .ok (.fmul, 1) := by decide +kernel
theorem dX12_partOf_61 : decode prog_14_method_61_code 61 = .ok (.iload_n 3, 1) := by decide +kernel
theorem dX12_partOf_62 : decode prog_14_method_61_code 62 = .ok (.i2f, 1) := by decide +kernel
theorem dX12_partOf_63 : decode prog_14_method_61_code 63 = .ok (.fdiv, 1) := by decide +kernel
theorem dX12_partOf_64 : decode prog_14_method_61_code 64 = .ok (.freturn, 1) := by decide +kernel
def m_X12_partOf_J36 (N : Nat) (M : mM) (k5 : Nat → Int32 → Int32 → Int32 → Int32 → Option (UInt32)) (a0 : Nat) (i1 : Int32) (i2 : Int32) (i4 : Int32) (si0 : Int32) (si1 : Int32) : Option (UInt32) :=
  k5 a0 i1 i2 (si0 + si1) (i4 + 1)
set_option maxHeartbeats 4000000 in
set_option maxRecDepth 100000 in
theorem t_X12_partOf_J36 {X : mX} {M : mM} {L0 : Launch} {res : UInt32} {N : Nat} (C : CX X RX12 "partOf" prog_14_method_61_code 5 (some .float)) (E : EX X L0 2 43 0 0 (some (.float res)) M) (k5 : Nat → Int32 → Int32 → Int32 → Int32 → Option (UInt32)) (Hk5 : ∀ (a0 : Nat) (i1 : Int32) (i2 : Int32) (i3 : Int32) (i4 : Int32), k5 a0 i1 i2 i3 i4 = some res → EV X 5 5 [(0, .ref a0), (1, .int i1), (2, .int i2), (3, .int i3), (4, .int i4)] [] 0 0 M) (a0 : Nat) (i1 : Int32) (i2 : Int32) (i4 : Int32) (si0 : Int32) (si1 : Int32) (hf : m_X12_partOf_J36 N M k5 a0 i1 i2 i4 si0 si1 = some res) : EV X 5 36 [(0, .ref a0), (1, .int i1), (2, .int i2), (4, .int i4)] [.int si1, .int si0] 0 0 M := by
  unfold m_X12_partOf_J36 at hf
  refine ev_iadd C dX12_partOf_36 ?_
  refine ev_istore_n (l' := [(3, .int (si0 + si1)), (0, .ref a0), (1, .int i1), (2, .int i2), (4, .int i4)]) C dX12_partOf_37 rfl (by decide) rfl ?_
  refine ev_iinc (v := i4 + 1) (l' := [(4, .int (i4 + 1)), (3, .int (si0 + si1)), (0, .ref a0), (1, .int i1), (2, .int i2)]) C dX12_partOf_38 (q := 4) rfl rfl (by decide) rfl ?_
  refine ev_goto (tgt := 5) C dX12_partOf_41 (by decide) ?_
  refine ev_sub [2, 3, 4, 1, 0] rfl ?_
  exact Hk5 a0 i1 i2 (si0 + si1) (i4 + 1) hf
def m_X12_partOf_L5 (N : Nat) (M : mM)  : Nat → Nat → Int32 → Int32 → Int32 → Int32 → Option (UInt32)
  | 0, _, _, _, _, _ => none
  | n + 1, a0, i1, i2, i3, i4 =>
    if 4 ≤ i4 then (
      (oO M a0 12).bind fun _ =>
      (m_X12_fee a0 i1 M).bind fun x3 =>
      (fR M a0 12 0).bind fun x5 =>
      (aI 0 M x5 (42 + i2)).bind fun x7 =>
      (oF (FP.fmul (FP.i2f x3) (FP.i2f x7))).bind fun x9 =>
      (oF (FP.fdiv x9 (FP.i2f i3))).bind fun x11 =>
      some x11) else (
      (oO M a0 12).bind fun _ =>
      (m_X12_isOver a0 i1 i4 M).bind fun x15 =>
      if x15 = 0 then (
        m_X12_partOf_J36 N M (m_X12_partOf_L5 N M  n) a0 i1 i2 i4 i3 0) else (
        (fR M a0 12 0).bind fun x17 =>
        (aI 0 M x17 (42 + i4)).bind fun x19 =>
        m_X12_partOf_J36 N M (m_X12_partOf_L5 N M  n) a0 i1 i2 i4 i3 x19))
set_option maxHeartbeats 4000000 in
set_option maxRecDepth 100000 in
theorem t_X12_partOf_L5 {X : mX} {M : mM} {L0 : Launch} {res : UInt32} {N : Nat} (C : CX X RX12 "partOf" prog_14_method_61_code 5 (some .float)) (E : EX X L0 2 43 0 0 (some (.float res)) M)   : ∀ (n : Nat) (a0 : Nat) (i1 : Int32) (i2 : Int32) (i3 : Int32) (i4 : Int32), m_X12_partOf_L5 N M  n a0 i1 i2 i3 i4 = some res → EV X 5 5 [(0, .ref a0), (1, .int i1), (2, .int i2), (3, .int i3), (4, .int i4)] [] 0 0 M := by
  intro n
  induction n with
  | zero => intro a0 i1 i2 i3 i4 hf; cases (show (none : Option (UInt32)) = some res from hf)
  | succ n ih =>
    intro a0 i1 i2 i3 i4 hf
    rw [m_X12_partOf_L5] at hf
    refine ev_iload C dX12_partOf_5 (q := 4) rfl ?_
    refine ev_iconst (v := 4) C dX12_partOf_7 (by decide) ?_
    refine ev_icmp_ge (tgt := 44) C dX12_partOf_8 (by decide) (fun hc => ?_) (fun hc => ?_)
    · have hf := oit hf hc
      refine ev_aload_n C dX12_partOf_44 rfl (q := 0) rfl ?_
      refine ev_iload_n C dX12_partOf_45 rfl (q := 1) rfl ?_
      obtain ⟨_, e1, hf⟩ := obnd hf
      obtain ⟨fs2, e1⟩ := oO_eq e1
      obtain ⟨x3, e4, hf⟩ := obnd hf
      refine ev_callV0 (As := [.int i1]) (st := []) C rfl e1 (t_X12_fee e4) rfl hd_X12_fee rfl kw_1515 kw_1517 kw_87 kw_47 kw_1518 (mRoom.of E (Nat.le_of_ble_eq_true rfl) (Nat.le_of_ble_eq_true rfl) (Nat.le_refl 0) (Nat.le_refl 0)) (Nat.le_of_ble_eq_true rfl) dX12_partOf_46 ?_
      refine ev_i2f C dX12_partOf_49 ?_
      refine ev_aload_n C dX12_partOf_50 rfl (q := 0) rfl ?_
      obtain ⟨x5, e6, hf⟩ := obnd hf
      refine ev_get (k := 0) C ok_12 dX12_partOf_51 (by decide) kw_1159 (fR_V e6) ?_
      refine ev_bipush (v := 42) C dX12_partOf_54 (by decide) ?_
      refine ev_iload_n C dX12_partOf_56 rfl (q := 2) rfl ?_
      refine ev_iadd C dX12_partOf_57 ?_
      obtain ⟨x7, e8, hf⟩ := obnd hf
      refine ev_iald C dX12_partOf_58 e8 ?_
      refine ev_i2f C dX12_partOf_59 ?_
      obtain ⟨x9, e10, hf⟩ := obnd hf
      obtain ⟨e10, e10q⟩ := oF_eq e10
      refine ev_fmul C dX12_partOf_60 e10 ?_
      rw [← e10q]
      refine ev_iload_n C dX12_partOf_61 rfl (q := 3) rfl ?_
      refine ev_i2f C dX12_partOf_62 ?_
      obtain ⟨x11, e12, hf⟩ := obnd hf
      obtain ⟨e12, e12q⟩ := oF_eq e12
      refine ev_fdiv C dX12_partOf_63 e12 ?_
      rw [← e12q]
      obtain rfl := Option.some.inj hf
      exact ev_fret C E (Nat.le_refl 0) (Nat.le_refl 0) dX12_partOf_64
    · have hf := oie hf hc
      refine ev_iload_n C dX12_partOf_11 rfl (q := 3) rfl ?_
      refine ev_aload_n C dX12_partOf_12 rfl (q := 0) rfl ?_
      refine ev_iload_n C dX12_partOf_13 rfl (q := 1) rfl ?_
      refine ev_iload C dX12_partOf_14 (q := 4) rfl ?_
      obtain ⟨_, e13, hf⟩ := obnd hf
      obtain ⟨fs14, e13⟩ := oO_eq e13
      obtain ⟨x15, e16, hf⟩ := obnd hf
      refine ev_callV0 (As := [.int i1, .int i4]) (st := [.int i3]) C rfl e13 (t_X12_isOver e16) rfl hd_X12_isOver rfl kw_1503 kw_1505 kw_87 kw_44 kw_1506 (mRoom.of E (Nat.le_of_ble_eq_true rfl) (Nat.le_of_ble_eq_true rfl) (Nat.le_refl 0) (Nat.le_refl 0)) (Nat.le_of_ble_eq_true rfl) dX12_partOf_16 ?_
      refine ev_if_eq (tgt := 35) C dX12_partOf_19 (by decide) (fun hc => ?_) (fun hc => ?_)
      · have hf := oit hf hc
        refine ev_iconst (v := 0) C dX12_partOf_35 (by decide) ?_
        refine ev_sub [0, 1, 2, 4] rfl ?_
        exact t_X12_partOf_J36 C E (m_X12_partOf_L5 N M  n) ih a0 i1 i2 i4 i3 0 hf
      · have hf := oie hf hc
        refine ev_aload_n C dX12_partOf_22 rfl (q := 0) rfl ?_
        obtain ⟨x17, e18, hf⟩ := obnd hf
        refine ev_get (k := 0) C ok_12 dX12_partOf_23 (by decide) kw_1159 (fR_V e18) ?_
        refine ev_bipush (v := 42) C dX12_partOf_26 (by decide) ?_
        refine ev_iload C dX12_partOf_28 (q := 4) rfl ?_
        refine ev_iadd C dX12_partOf_30 ?_
        obtain ⟨x19, e20, hf⟩ := obnd hf
        refine ev_iald C dX12_partOf_31 e20 ?_
        refine ev_goto (tgt := 36) C dX12_partOf_32 (by decide) ?_
        refine ev_sub [0, 1, 2, 4] rfl ?_
        exact t_X12_partOf_J36 C E (m_X12_partOf_L5 N M  n) ih a0 i1 i2 i4 i3 x19 hf
def m_X12_partOf (N : Nat) (a0 : Nat) (i1 : Int32) (i2 : Int32) (M : mM) : Option (UInt32) :=
  m_X12_partOf_L5 N M  N a0 i1 i2 0 0
set_option maxHeartbeats 4000000 in
set_option maxRecDepth 100000 in
theorem t_X12_partOf {L0 : Launch} {M : mM} {N : Nat} {a0 : Nat} {i1 : Int32} {i2 : Int32} {res : UInt32} (hf : m_X12_partOf N a0 i1 i2 M = some res) : CT L0 yX12_partOf prog_14_method_61_code 5 (some .float) 2 43 0 0 [.ref a0, .int i1, .int i2] M (some (.float res)) M := by
  refine CT.of (by decide +kernel) (Nat.le_of_ble_eq_true rfl) fun X C E => ?_
  have C : CX X RX12 "partOf" prog_14_method_61_code 5 (some .float) := C
  show EV X 5 0 [(0, .ref a0), (1, .int i1), (2, .int i2)] [] 0 0 M
  unfold m_X12_partOf at hf
  refine ev_iconst (v := 0) C dX12_partOf_0 (by decide) ?_
  refine ev_istore_n (l' := [(3, .int 0), (0, .ref a0), (1, .int i1), (2, .int i2)]) C dX12_partOf_1 rfl (by decide) rfl ?_
  refine ev_iconst (v := 0) C dX12_partOf_2 (by decide) ?_
  refine ev_istore (l' := [(4, .int 0), (3, .int 0), (0, .ref a0), (1, .int i1), (2, .int i2)]) C dX12_partOf_3 (by decide) rfl ?_
  refine ev_sub [2, 3, 4, 1, 0] rfl ?_
  exact t_X12_partOf_L5 C E   N a0 i1 i2 0 0 hf
/-! FareLimitsModel costOf(I)F -/
theorem dX12_costOf_0 : decode prog_14_method_62_code 0 = .ok (.iconst 0, 1) := by decide +kernel
theorem dX12_costOf_1 : decode prog_14_method_62_code 1 = .ok (.istore_n 2, 1) := by decide +kernel
theorem dX12_costOf_2 : decode prog_14_method_62_code 2 = .ok (.iconst 0, 1) := by decide +kernel
theorem dX12_costOf_3 : decode prog_14_method_62_code 3 = .ok (.istore_n 3, 1) := by decide +kernel
theorem dX12_costOf_4 : decode prog_14_method_62_code 4 = .ok (.iload_n 3, 1) := by decide +kernel
theorem dX12_costOf_5 : decode prog_14_method_62_code 5 = .ok (.aload_n 0, 1) := by decide +kernel
theorem dX12_costOf_6 : decode prog_14_method_62_code 6 = .ok (.getfield 9, 3) := by decide +kernel
theorem dX12_costOf_9 : decode prog_14_method_62_code 9 = .ok (.iconst 5, 1) := by decide +kernel
theorem dX12_costOf_10 : decode prog_14_method_62_code 10 = .ok (.iaload, 1) := by decide +kernel
theorem dX12_costOf_11 : decode prog_14_method_62_code 11 = .ok (.if_icmp .ge 29, 3) := by decide +kernel
theorem dX12_costOf_14 : decode prog_14_method_62_code 14 = .ok (.aload_n 0, 1) := by decide +kernel
theorem dX12_costOf_15 : decode prog_14_method_62_code 15 = .ok (.getfield 63, 3) := by decide +kernel
theorem dX12_costOf_18 : decode prog_14_method_62_code 18 = .ok (.iload_n 3, 1) := by decide +kernel
theorem dX12_costOf_19 : decode prog_14_method_62_code 19 = .ok (.aload_n 0, 1) := by decide +kernel
theorem dX12_costOf_20 : decode prog_14_method_62_code 20 = .ok (.iload_n 3, 1) := by decide +kernel
theorem dX12_costOf_21 : decode prog_14_method_62_code 21 = .ok (.iload_n 1, 1) := by decide +kernel
theorem dX12_costOf_22 : decode prog_14_method_62_code 22 = .ok (.invokevirtual 232, 3) := by decide +kernel
theorem dX12_costOf_25 : decode prog_14_method_62_code 25 = .ok (.ifCond .ne 7, 3) := by decide +kernel
theorem dX12_costOf_28 : decode prog_14_method_62_code 28 = .ok (.iconst 1, 1) := by decide +kernel
theorem dX12_costOf_29 : decode prog_14_method_62_code 29 = .ok (.goto 4, 3) := by decide +kernel
theorem dX12_costOf_32 : decode prog_14_method_62_code 32 = .ok (.iconst 0, 1) := by decide +kernel
theorem dX12_costOf_33 : decode prog_14_method_62_code 33 = .ok (.bastore, 1) := by decide +kernel
theorem dX12_costOf_34 : decode prog_14_method_62_code 34 = .ok (.iinc 3 1, 3) := by decide +kernel
theorem dX12_costOf_37 : decode prog_14_method_62_code 37 = .ok (.goto (-33), 3) := by decide +kernel
theorem dX12_costOf_40 : decode prog_14_method_62_code 40 = .ok (.iconst 0, 1) := by decide +kernel
theorem dX12_costOf_41 : decode prog_14_method_62_code 41 = .ok (.istore_n 3, 1) := by decide +kernel
theorem dX12_costOf_42 : decode prog_14_method_62_code 42 = .ok (.iload_n 3, 1) := by decide +kernel
theorem dX12_costOf_43 : decode prog_14_method_62_code 43 = .ok (.aload_n 0, 1) := by decide +kernel
theorem dX12_costOf_44 : decode prog_14_method_62_code 44 = .ok (.getfield 9, 3) := by decide +kernel
theorem dX12_costOf_47 : decode prog_14_method_62_code 47 = .ok (.iconst 5, 1) := by decide +kernel
theorem dX12_costOf_48 : decode prog_14_method_62_code 48 = .ok (.iaload, 1) := by decide +kernel
theorem dX12_costOf_49 : decode prog_14_method_62_code 49 = .ok (.if_icmp .ge 114, 3) := by decide +kernel
theorem dX12_costOf_52 : decode prog_14_method_62_code 52 = .ok (.iconst (-1), 1) := by decide +kernel
theorem dX12_costOf_53 : decode prog_14_method_62_code 53 = .ok (.istore 4, 2) := by decide +kernel
theorem dX12_costOf_55 : decode prog_14_method_62_code 55 = .ok (.iconst 0, 1) := by decide +kernel
theorem dX12_costOf_56 : decode prog_14_method_62_code 56 = .ok (.istore 5, 2) := by decide +kernel
theorem dX12_costOf_58 : decode prog_14_method_62_code 58 = .ok (.iload 5, 2) := by decide +kernel
theorem dX12_costOf_60 : decode prog_14_method_62_code 60 = .ok (.aload_n 0, 1) := by decide +kernel
theorem dX12_costOf_61 : decode prog_14_method_62_code 61 = .ok (.getfield 9, 3) := by decide +kernel
theorem dX12_costOf_64 : decode prog_14_method_62_code 64 = .ok (.iconst 5, 1) := by decide +kernel
theorem dX12_costOf_65 : decode prog_14_method_62_code 65 = .ok (.iaload, 1) := by decide +kernel
theorem dX12_costOf_66 : decode prog_14_method_62_code 66 = .ok (.if_icmp .ge 46, 3) := by decide +kernel
theorem dX12_costOf_69 : decode prog_14_method_62_code 69 = .ok (.aload_n 0, 1) := by decide +kernel
theorem dX12_costOf_70 : decode prog_14_method_62_code 70 = .ok (.getfield 63, 3) := by decide +kernel
theorem dX12_costOf_73 : decode prog_14_method_62_code 73 = .ok (.iload 5, 2) := by decide +kernel
theorem dX12_costOf_75 : decode prog_14_method_62_code 75 = .ok (.baload, 1) := by decide +kernel
theorem dX12_costOf_76 : decode prog_14_method_62_code 76 = .ok (.ifCond .ne 30, 3) := by decide +kernel
theorem dX12_costOf_79 : decode prog_14_method_62_code 79 = .ok (.iload 4, 2) := by decide +kernel
theorem dX12_costOf_81 : decode prog_14_method_62_code 81 = .ok (.ifCond .lt 21, 3) := by decide +kernel
theorem dX12_costOf_84 : decode prog_14_method_62_code 84 = .ok (.aload_n 0, 1) := by decide +kernel
theorem dX12_costOf_85 : decode prog_14_method_62_code 85 = .ok (.iload 5, 2) := by decide +kernel
theorem dX12_costOf_87 : decode prog_14_method_62_code 87 = .ok (.iload_n 1, 1) := by decide +kernel
theorem dX12_costOf_88 : decode prog_14_method_62_code 88 = .ok (.invokevirtual 238, 3) := by decide +kernel
theorem dX12_costOf_91 : decode prog_14_method_62_code 91 = .ok (.aload_n 0, 1) := by decide +kernel
theorem dX12_costOf_92 : decode prog_14_method_62_code 92 = .ok (.iload 4, 2) := by decide +kernel
theorem dX12_costOf_94 : decode prog_14_method_62_code 94 = .ok (.iload_n 1, 1) := by decide +kernel
theorem dX12_costOf_95 : decode prog_14_method_62_code 95 = .ok (.invokevirtual 238, 3) := by decide +kernel
theorem dX12_costOf_98 : decode prog_14_method_62_code 98 = .ok (.fcmp .l, 1) := by decide +kernel
theorem dX12_costOf_99 : decode prog_14_method_62_code 99 = .ok (.ifCond .le 7, 3) := by decide +kernel
theorem dX12_costOf_102 : decode prog_14_method_62_code 102 = .ok (.iload 5, 2) := by decide +kernel
theorem dX12_costOf_104 : decode prog_14_method_62_code 104 = .ok (.istore 4, 2) := by decide +kernel
theorem dX12_costOf_106 : decode prog_14_method_62_code 106 = .ok (.iinc 5 1, 3) := by decide +kernel
theorem dX12_costOf_109 : decode prog_14_method_62_code 109 = .ok (.goto (-51), 3) := by decide +kernel
theorem dX12_costOf_112 : decode prog_14_method_62_code 112 = .ok (.iload 4, 2) := by decide +kernel
theorem dX12_costOf_114 : decode prog_14_method_62_code 114 = .ok (.ifCond .ge 5, 3) := by decide +kernel
theorem dX12_costOf_117 : decode prog_14_method_62_code 117 = .ok (.fconst 0, 1) := by decide +kernel
theorem dX12_costOf_118 : decode prog_14_method_62_code 118 = .ok (.freturn, 1) := by decide +kernel
theorem dX12_costOf_119 : decode prog_14_method_62_code 119 = .ok (.aload_n 0, 1) := by decide +kernel
theorem dX12_costOf_120 : decode prog_14_method_62_code 120 = .ok (.getfield 63, 3) := by decide +kernel
theorem dX12_costOf_123 : decode prog_14_method_62_code 123 = .ok (.iload 4, 2) := by decide +kernel
theorem dX12_costOf_125 : decode prog_14_method_62_code 125 = .ok (.iconst 1, 1) := by decide +kernel
theorem dX12_costOf_126 : decode prog_14_method_62_code 126 = .ok (.bastore, 1) := by decide +kernel
theorem dX12_costOf_127 : decode prog_14_method_62_code 127 = .ok (.iload_n 2, 1) := by decide +kernel
theorem dX12_costOf_128 : decode prog_14_method_62_code 128 = .ok (.aload_n 0, 1) := by decide +kernel
theorem dX12_costOf_129 : decode prog_14_method_62_code 129 = .ok (.iload 4, 2) := by decide +kernel
theorem dX12_costOf_131 : decode prog_14_method_62_code 131 = .ok (.invokevirtual 242, 3) := by decide +kernel
theorem dX12_costOf_134 : decode prog_14_method_62_code 134 = .ok (.iadd, 1) := by decide +kernel
theorem dX12_costOf_135 : decode prog_14_method_62_code 135 = .ok (.istore_n 2, 1) := by decide +kernel
theorem dX12_costOf_136 : decode prog_14_method_62_code 136 = .ok (.iload_n 2, 1) := by decide +kernel
theorem dX12_costOf_137 : decode prog_14_method_62_code 137 = .ok (.aload_n 0, 1) := by decide +kernel
theorem dX12_costOf_138 : decode prog_14_method_62_code 138 = .ok (.getfield 9, 3) := by decide +kernel
theorem dX12_costOf_141 : decode prog_14_method_62_code 141 = .ok (.bipush 46, 2) := by decide +kernel
theorem dX12_costOf_143 : decode prog_14_method_62_code 143 = .ok (.iload_n 1, 1) := by decide +kernel
theorem dX12_costOf_144 : decode prog_14_method_62_code 144 = .ok (.iadd, 1) := by decide +kernel
theorem dX12_costOf_145 : decode prog_14_method_62_code 145 = .ok (.iaload, 1) := by decide +kernel
theorem dX12_costOf_146 : decode prog_14_method_62_code 146 = .ok (.if_icmp .le 11, 3) := by decide +kernel
theorem dX12_costOf_149 : decode prog_14_method_62_code 149 = .ok (.aload_n 0, 1) := by decide +kernel
theorem dX12_costOf_150 : decode prog_14_method_62_code 150 = .ok (.iload 4, 2) := by decide +kernel
theorem dX12_costOf_152 : decode prog_14_method_62_code 152 = .ok (.iload_n 1, 1) := by decide +kernel
theorem dX12_costOf_153 : decode prog_14_method_62_code 153 = .ok (.invokevirtual 238, 3) := by decide +kernel
theorem dX12_costOf_156 : decode prog_14_method_62_code 156 = .ok (.freturn, 1) := by decide +kernel
theorem dX12_costOf_157 : decode prog_14_method_62_code 157 = .ok (.iinc 3 1, 3) := by decide +kernel
theorem dX12_costOf_160 : decode prog_14_method_62_code 160 = .ok (.goto (-118), 3) := by decide +kernel
theorem dX12_costOf_163 : decode prog_14_method_62_code 163 = .ok (.fconst 0, 1) := by decide +kernel
theorem dX12_costOf_164 : decode prog_14_method_62_code 164 = .ok (.freturn, 1) := by decide +kernel
def m_X12_costOf_J106 (N : Nat) (k58 : Nat → Int32 → Int32 → Int32 → Int32 → Int32 → mM → Option (UInt32 × mM)) (a0 : Nat) (i1 : Int32) (i2 : Int32) (i3 : Int32) (i4 : Int32) (i5 : Int32) (M : mM) : Option (UInt32 × mM) :=
  k58 a0 i1 i2 i3 i4 (i5 + 1) M
set_option maxHeartbeats 4000000 in
set_option maxRecDepth 100000 in
theorem t_X12_costOf_J106 {X : mX} {L0 : Launch} {res : UInt32 × mM} {N : Nat} (C : CX X RX12 "costOf" prog_14_method_62_code 6 (some .float)) (E : EX X L0 3 67 0 0 (some (.float res.1)) res.2) (k58 : Nat → Int32 → Int32 → Int32 → Int32 → Int32 → mM → Option (UInt32 × mM)) (Hk58 : ∀ (a0 : Nat) (i1 : Int32) (i2 : Int32) (i3 : Int32) (i4 : Int32) (i5 : Int32) (M : mM), k58 a0 i1 i2 i3 i4 i5 M = some res → EV X 6 58 [(0, .ref a0), (1, .int i1), (2, .int i2), (3, .int i3), (4, .int i4), (5, .int i5)] [] 0 0 M) (a0 : Nat) (i1 : Int32) (i2 : Int32) (i3 : Int32) (i4 : Int32) (i5 : Int32) (M : mM) (hf : m_X12_costOf_J106 N k58 a0 i1 i2 i3 i4 i5 M = some res) : EV X 6 106 [(0, .ref a0), (1, .int i1), (2, .int i2), (3, .int i3), (4, .int i4), (5, .int i5)] [] 0 0 M := by
  unfold m_X12_costOf_J106 at hf
  refine ev_iinc (v := i5 + 1) (l' := [(5, .int (i5 + 1)), (0, .ref a0), (1, .int i1), (2, .int i2), (3, .int i3), (4, .int i4)]) C dX12_costOf_106 (q := 5) rfl rfl (by decide) rfl ?_
  refine ev_goto (tgt := 58) C dX12_costOf_109 (by decide) ?_
  refine ev_sub [1, 2, 3, 4, 5, 0] rfl ?_
  exact Hk58 a0 i1 i2 i3 i4 (i5 + 1) M hf
def m_X12_costOf_J102 (N : Nat) (k58 : Nat → Int32 → Int32 → Int32 → Int32 → Int32 → mM → Option (UInt32 × mM)) (a0 : Nat) (i1 : Int32) (i2 : Int32) (i3 : Int32) (i5 : Int32) (M : mM) : Option (UInt32 × mM) :=
  m_X12_costOf_J106 N k58 a0 i1 i2 i3 i5 i5 M
set_option maxHeartbeats 4000000 in
set_option maxRecDepth 100000 in
theorem t_X12_costOf_J102 {X : mX} {L0 : Launch} {res : UInt32 × mM} {N : Nat} (C : CX X RX12 "costOf" prog_14_method_62_code 6 (some .float)) (E : EX X L0 3 67 0 0 (some (.float res.1)) res.2) (k58 : Nat → Int32 → Int32 → Int32 → Int32 → Int32 → mM → Option (UInt32 × mM)) (Hk58 : ∀ (a0 : Nat) (i1 : Int32) (i2 : Int32) (i3 : Int32) (i4 : Int32) (i5 : Int32) (M : mM), k58 a0 i1 i2 i3 i4 i5 M = some res → EV X 6 58 [(0, .ref a0), (1, .int i1), (2, .int i2), (3, .int i3), (4, .int i4), (5, .int i5)] [] 0 0 M) (a0 : Nat) (i1 : Int32) (i2 : Int32) (i3 : Int32) (i5 : Int32) (M : mM) (hf : m_X12_costOf_J102 N k58 a0 i1 i2 i3 i5 M = some res) : EV X 6 102 [(0, .ref a0), (1, .int i1), (2, .int i2), (3, .int i3), (5, .int i5)] [] 0 0 M := by
  unfold m_X12_costOf_J102 at hf
  refine ev_iload C dX12_costOf_102 (q := 4) rfl ?_
  refine ev_istore (l' := [(4, .int i5), (0, .ref a0), (1, .int i1), (2, .int i2), (3, .int i3), (5, .int i5)]) C dX12_costOf_104 (by decide) rfl ?_
  refine ev_sub [1, 2, 3, 4, 0, 5] rfl ?_
  exact t_X12_costOf_J106 C E k58 Hk58 a0 i1 i2 i3 i5 i5 M hf
def m_X12_costOf_L58 (N : Nat) (k42 : Nat → Int32 → Int32 → Int32 → mM → Option (UInt32 × mM)) : Nat → Nat → Int32 → Int32 → Int32 → Int32 → Int32 → mM → Option (UInt32 × mM)
  | 0, _, _, _, _, _, _, _ => none
  | n + 1, a0, i1, i2, i3, i4, i5, M =>
    (fR M a0 12 0).bind fun x1 =>
    (aI 0 M x1 5).bind fun x3 =>
    if x3 ≤ i5 then (
      if 0 ≤ i4 then (
        (fR M a0 12 23).bind fun x5 =>
        (uI 3 .boolean M x5 i4 1).bind fun M7 =>
        (oO M7 a0 12).bind fun _ =>
        (m_X12_wanted a0 i4 M7).bind fun x11 =>
        (fR M7 a0 12 0).bind fun x13 =>
        (aI 0 M7 x13 (46 + i1)).bind fun x15 =>
        if (i2 + x11) ≤ x15 then (
          k42 a0 i1 (i2 + x11) (i3 + 1) M7) else (
          (oO M7 a0 12).bind fun _ =>
          (m_X12_partOf N a0 i4 i1 M7).bind fun x19 =>
          some (x19, M7))) else (
        some (FP.fconst0, M))) else (
      (fR M a0 12 23).bind fun x21 =>
      (aI 3 M x21 i5).bind fun x23 =>
      if x23 = 0 then (
        if i4 < 0 then (
          m_X12_costOf_J102 N (m_X12_costOf_L58 N k42  n) a0 i1 i2 i3 i5 M) else (
          (oO M a0 12).bind fun _ =>
          (m_X12_partOf N a0 i5 i1 M).bind fun x27 =>
          (oO M a0 12).bind fun _ =>
          (m_X12_partOf N a0 i4 i1 M).bind fun x31 =>
          if (Op.cmpValue (FP.fcmp x27 x31) CmpOp.l) ≤ 0 then (
            m_X12_costOf_J106 N (m_X12_costOf_L58 N k42  n) a0 i1 i2 i3 i4 i5 M) else (
            m_X12_costOf_J102 N (m_X12_costOf_L58 N k42  n) a0 i1 i2 i3 i5 M))) else (
        m_X12_costOf_J106 N (m_X12_costOf_L58 N k42  n) a0 i1 i2 i3 i4 i5 M))
set_option maxHeartbeats 4000000 in
set_option maxRecDepth 100000 in
theorem t_X12_costOf_L58 {X : mX} {L0 : Launch} {res : UInt32 × mM} {N : Nat} (C : CX X RX12 "costOf" prog_14_method_62_code 6 (some .float)) (E : EX X L0 3 67 0 0 (some (.float res.1)) res.2) (k42 : Nat → Int32 → Int32 → Int32 → mM → Option (UInt32 × mM)) (Hk42 : ∀ (a0 : Nat) (i1 : Int32) (i2 : Int32) (i3 : Int32) (M : mM), k42 a0 i1 i2 i3 M = some res → EV X 6 42 [(0, .ref a0), (1, .int i1), (2, .int i2), (3, .int i3)] [] 0 0 M) : ∀ (n : Nat) (a0 : Nat) (i1 : Int32) (i2 : Int32) (i3 : Int32) (i4 : Int32) (i5 : Int32) (M : mM), m_X12_costOf_L58 N k42 n a0 i1 i2 i3 i4 i5 M = some res → EV X 6 58 [(0, .ref a0), (1, .int i1), (2, .int i2), (3, .int i3), (4, .int i4), (5, .int i5)] [] 0 0 M := by
  intro n
  induction n with
  | zero => intro a0 i1 i2 i3 i4 i5 M hf; cases (show (none : Option (UInt32 × mM)) = some res from hf)
  | succ n ih =>
    intro a0 i1 i2 i3 i4 i5 M hf
    rw [m_X12_costOf_L58] at hf
    refine ev_iload C dX12_costOf_58 (q := 5) rfl ?_
    refine ev_aload_n C dX12_costOf_60 rfl (q := 0) rfl ?_
    obtain ⟨x1, e2, hf⟩ := obnd hf
    refine ev_get (k := 0) C ok_12 dX12_costOf_61 (by decide) kw_1159 (fR_V e2) ?_
    refine ev_iconst (v := 5) C dX12_costOf_64 (by decide) ?_
    obtain ⟨x3, e4, hf⟩ := obnd hf
    refine ev_iald C dX12_costOf_65 e4 ?_
    refine ev_icmp_ge (tgt := 112) C dX12_costOf_66 (by decide) (fun hc => ?_) (fun hc => ?_)
    · have hf := oit hf hc
      refine ev_iload C dX12_costOf_112 (q := 4) rfl ?_
      refine ev_if_ge (tgt := 119) C dX12_costOf_114 (by decide) (fun hc => ?_) (fun hc => ?_)
      · have hf := oit hf hc
        refine ev_aload_n C dX12_costOf_119 rfl (q := 0) rfl ?_
        obtain ⟨x5, e6, hf⟩ := obnd hf
        refine ev_get (k := 23) C ok_12 dX12_costOf_120 (by decide) kw_1182 (fR_V e6) ?_
        refine ev_iload C dX12_costOf_123 (q := 4) rfl ?_
        refine ev_iconst (v := 1) C dX12_costOf_125 (by decide) ?_
        obtain ⟨M7, e8, hf⟩ := obnd hf
        refine ev_zast C dX12_costOf_126 e8 ?_
        refine ev_iload_n C dX12_costOf_127 rfl (q := 2) rfl ?_
        refine ev_aload_n C dX12_costOf_128 rfl (q := 0) rfl ?_
        refine ev_iload C dX12_costOf_129 (q := 4) rfl ?_
        obtain ⟨_, e9, hf⟩ := obnd hf
        obtain ⟨fs10, e9⟩ := oO_eq e9
        obtain ⟨x11, e12, hf⟩ := obnd hf
        refine ev_callV0 (As := [.int i4]) (st := [.int i2]) C rfl e9 (t_X12_wanted e12) rfl hd_X12_wanted rfl kw_1527 kw_1529 kw_87 kw_49 kw_1530 (mRoom.of E (Nat.le_of_ble_eq_true rfl) (Nat.le_of_ble_eq_true rfl) (Nat.le_refl 0) (Nat.le_refl 0)) (Nat.le_of_ble_eq_true rfl) dX12_costOf_131 ?_
        refine ev_iadd C dX12_costOf_134 ?_
        refine ev_istore_n (l' := [(2, .int (i2 + x11)), (0, .ref a0), (1, .int i1), (3, .int i3), (4, .int i4), (5, .int i5)]) C dX12_costOf_135 rfl (by decide) rfl ?_
        refine ev_iload_n C dX12_costOf_136 rfl (q := 0) rfl ?_
        refine ev_aload_n C dX12_costOf_137 rfl (q := 1) rfl ?_
        obtain ⟨x13, e14, hf⟩ := obnd hf
        refine ev_get (k := 0) C ok_12 dX12_costOf_138 (by decide) kw_1159 (fR_V e14) ?_
        refine ev_bipush (v := 46) C dX12_costOf_141 (by decide) ?_
        refine ev_iload_n C dX12_costOf_143 rfl (q := 2) rfl ?_
        refine ev_iadd C dX12_costOf_144 ?_
        obtain ⟨x15, e16, hf⟩ := obnd hf
        refine ev_iald C dX12_costOf_145 e16 ?_
        refine ev_icmp_le (tgt := 157) C dX12_costOf_146 (by decide) (fun hc => ?_) (fun hc => ?_)
        · have hf := oit hf hc
          refine ev_iinc (v := i3 + 1) (l' := [(3, .int (i3 + 1)), (2, .int (i2 + x11)), (0, .ref a0), (1, .int i1), (4, .int i4), (5, .int i5)]) C dX12_costOf_157 (q := 3) rfl rfl (by decide) rfl ?_
          refine ev_goto (tgt := 42) C dX12_costOf_160 (by decide) ?_
          refine ev_sub [2, 3, 1, 0] rfl ?_
          exact Hk42 a0 i1 (i2 + x11) (i3 + 1) M7 hf
        · have hf := oie hf hc
          refine ev_aload_n C dX12_costOf_149 rfl (q := 1) rfl ?_
          refine ev_iload C dX12_costOf_150 (q := 4) rfl ?_
          refine ev_iload_n C dX12_costOf_152 rfl (q := 2) rfl ?_
          obtain ⟨_, e17, hf⟩ := obnd hf
          obtain ⟨fs18, e17⟩ := oO_eq e17
          obtain ⟨x19, e20, hf⟩ := obnd hf
          refine ev_callV0 (As := [.int i4, .int i1]) (st := []) C rfl e17 (t_X12_partOf e20) rfl hd_X12_partOf rfl kw_1511 kw_1513 kw_87 kw_46 kw_1514 (mRoom.of E (Nat.le_of_ble_eq_true rfl) (Nat.le_of_ble_eq_true rfl) (Nat.le_refl 0) (Nat.le_refl 0)) (Nat.le_of_ble_eq_true rfl) dX12_costOf_153 ?_
          obtain rfl := Option.some.inj hf
          exact ev_fret C E (Nat.le_refl 0) (Nat.le_refl 0) dX12_costOf_156
      · have hf := oie hf hc
        refine ev_fconst0 C dX12_costOf_117 ?_
        obtain rfl := Option.some.inj hf
        exact ev_fret C E (Nat.le_refl 0) (Nat.le_refl 0) dX12_costOf_118
    · have hf := oie hf hc
      refine ev_aload_n C dX12_costOf_69 rfl (q := 0) rfl ?_
      obtain ⟨x21, e22, hf⟩ := obnd hf
      refine ev_get (k := 23) C ok_12 dX12_costOf_70 (by decide) kw_1182 (fR_V e22) ?_
      refine ev_iload C dX12_costOf_73 (q := 5) rfl ?_
      obtain ⟨x23, e24, hf⟩ := obnd hf
      refine ev_zald C dX12_costOf_75 e24 ?_
      refine ev_if_ne (tgt := 106) C dX12_costOf_76 (by decide) (fun hc => ?_) (fun hc => ?_)
      · have hf := oie hf hc
        exact t_X12_costOf_J106 C E (m_X12_costOf_L58 N k42  n) ih a0 i1 i2 i3 i4 i5 M hf
      · have hf := oit hf hc
        refine ev_iload C dX12_costOf_79 (q := 4) rfl ?_
        refine ev_if_lt (tgt := 102) C dX12_costOf_81 (by decide) (fun hc => ?_) (fun hc => ?_)
        · have hf := oit hf hc
          refine ev_sub [0, 1, 2, 3, 5] rfl ?_
          exact t_X12_costOf_J102 C E (m_X12_costOf_L58 N k42  n) ih a0 i1 i2 i3 i5 M hf
        · have hf := oie hf hc
          refine ev_aload_n C dX12_costOf_84 rfl (q := 0) rfl ?_
          refine ev_iload C dX12_costOf_85 (q := 5) rfl ?_
          refine ev_iload_n C dX12_costOf_87 rfl (q := 1) rfl ?_
          obtain ⟨_, e25, hf⟩ := obnd hf
          obtain ⟨fs26, e25⟩ := oO_eq e25
          obtain ⟨x27, e28, hf⟩ := obnd hf
          refine ev_callV0 (As := [.int i5, .int i1]) (st := []) C rfl e25 (t_X12_partOf e28) rfl hd_X12_partOf rfl kw_1511 kw_1513 kw_87 kw_46 kw_1514 (mRoom.of E (Nat.le_of_ble_eq_true rfl) (Nat.le_of_ble_eq_true rfl) (Nat.le_refl 0) (Nat.le_refl 0)) (Nat.le_of_ble_eq_true rfl) dX12_costOf_88 ?_
          refine ev_aload_n C dX12_costOf_91 rfl (q := 0) rfl ?_
          refine ev_iload C dX12_costOf_92 (q := 4) rfl ?_
          refine ev_iload_n C dX12_costOf_94 rfl (q := 1) rfl ?_
          obtain ⟨_, e29, hf⟩ := obnd hf
          obtain ⟨fs30, e29⟩ := oO_eq e29
          obtain ⟨x31, e32, hf⟩ := obnd hf
          refine ev_callV0 (As := [.int i4, .int i1]) (st := [.float x27]) C rfl e29 (t_X12_partOf e32) rfl hd_X12_partOf rfl kw_1511 kw_1513 kw_87 kw_46 kw_1514 (mRoom.of E (Nat.le_of_ble_eq_true rfl) (Nat.le_of_ble_eq_true rfl) (Nat.le_refl 0) (Nat.le_refl 0)) (Nat.le_of_ble_eq_true rfl) dX12_costOf_95 ?_
          refine ev_fcmp C dX12_costOf_98 ?_
          refine ev_if_le (tgt := 106) C dX12_costOf_99 (by decide) (fun hc => ?_) (fun hc => ?_)
          · have hf := oit hf hc
            exact t_X12_costOf_J106 C E (m_X12_costOf_L58 N k42  n) ih a0 i1 i2 i3 i4 i5 M hf
          · have hf := oie hf hc
            refine ev_sub [0, 1, 2, 3, 5] rfl ?_
            exact t_X12_costOf_J102 C E (m_X12_costOf_L58 N k42  n) ih a0 i1 i2 i3 i5 M hf
def m_X12_costOf_L42 (N : Nat)  : Nat → Nat → Int32 → Int32 → Int32 → mM → Option (UInt32 × mM)
  | 0, _, _, _, _, _ => none
  | n + 1, a0, i1, i2, i3, M =>
    (fR M a0 12 0).bind fun x1 =>
    (aI 0 M x1 5).bind fun x3 =>
    if x3 ≤ i3 then (
      some (FP.fconst0, M)) else (
      m_X12_costOf_L58 N (m_X12_costOf_L42 N  n) N a0 i1 i2 i3 (-1) 0 M)
set_option maxHeartbeats 4000000 in
set_option maxRecDepth 100000 in
theorem t_X12_costOf_L42 {X : mX} {L0 : Launch} {res : UInt32 × mM} {N : Nat} (C : CX X RX12 "costOf" prog_14_method_62_code 6 (some .float)) (E : EX X L0 3 67 0 0 (some (.float res.1)) res.2)   : ∀ (n : Nat) (a0 : Nat) (i1 : Int32) (i2 : Int32) (i3 : Int32) (M : mM), m_X12_costOf_L42 N  n a0 i1 i2 i3 M = some res → EV X 6 42 [(0, .ref a0), (1, .int i1), (2, .int i2), (3, .int i3)] [] 0 0 M := by
  intro n
  induction n with
  | zero => intro a0 i1 i2 i3 M hf; cases (show (none : Option (UInt32 × mM)) = some res from hf)
  | succ n ih =>
    intro a0 i1 i2 i3 M hf
    rw [m_X12_costOf_L42] at hf
    refine ev_iload_n C dX12_costOf_42 rfl (q := 3) rfl ?_
    refine ev_aload_n C dX12_costOf_43 rfl (q := 0) rfl ?_
    obtain ⟨x1, e2, hf⟩ := obnd hf
    refine ev_get (k := 0) C ok_12 dX12_costOf_44 (by decide) kw_1159 (fR_V e2) ?_
    refine ev_iconst (v := 5) C dX12_costOf_47 (by decide) ?_
    obtain ⟨x3, e4, hf⟩ := obnd hf
    refine ev_iald C dX12_costOf_48 e4 ?_
    refine ev_icmp_ge (tgt := 163) C dX12_costOf_49 (by decide) (fun hc => ?_) (fun hc => ?_)
    · have hf := oit hf hc
      refine ev_fconst0 C dX12_costOf_163 ?_
      obtain rfl := Option.some.inj hf
      exact ev_fret C E (Nat.le_refl 0) (Nat.le_refl 0) dX12_costOf_164
    · have hf := oie hf hc
      refine ev_iconst (v := (-1)) C dX12_costOf_52 (by decide) ?_
      refine ev_istore (l' := [(4, .int (-1)), (0, .ref a0), (1, .int i1), (2, .int i2), (3, .int i3)]) C dX12_costOf_53 (by decide) rfl ?_
      refine ev_iconst (v := 0) C dX12_costOf_55 (by decide) ?_
      refine ev_istore (l' := [(5, .int 0), (4, .int (-1)), (0, .ref a0), (1, .int i1), (2, .int i2), (3, .int i3)]) C dX12_costOf_56 (by decide) rfl ?_
      refine ev_sub [2, 3, 4, 5, 1, 0] rfl ?_
      exact t_X12_costOf_L58 C E (m_X12_costOf_L42 N  n) ih N a0 i1 i2 i3 (-1) 0 M hf
def m_X12_costOf_J33 (N : Nat) (k4 : Nat → Int32 → Int32 → Int32 → mM → Option (UInt32 × mM)) (a0 : Nat) (i1 : Int32) (i2 : Int32) (i3 : Int32) (sa0 : Nat) (si1 : Int32) (si2 : Int32) (M : mM) : Option (UInt32 × mM) :=
  (uI 3 .boolean M sa0 si1 si2).bind fun M1 =>
  k4 a0 i1 i2 (i3 + 1) M1
set_option maxHeartbeats 4000000 in
set_option maxRecDepth 100000 in
theorem t_X12_costOf_J33 {X : mX} {L0 : Launch} {res : UInt32 × mM} {N : Nat} (C : CX X RX12 "costOf" prog_14_method_62_code 6 (some .float)) (E : EX X L0 3 67 0 0 (some (.float res.1)) res.2) (k4 : Nat → Int32 → Int32 → Int32 → mM → Option (UInt32 × mM)) (Hk4 : ∀ (a0 : Nat) (i1 : Int32) (i2 : Int32) (i3 : Int32) (M : mM), k4 a0 i1 i2 i3 M = some res → EV X 6 4 [(0, .ref a0), (1, .int i1), (2, .int i2), (3, .int i3)] [] 0 0 M) (a0 : Nat) (i1 : Int32) (i2 : Int32) (i3 : Int32) (sa0 : Nat) (si1 : Int32) (si2 : Int32) (M : mM) (hf : m_X12_costOf_J33 N k4 a0 i1 i2 i3 sa0 si1 si2 M = some res) : EV X 6 33 [(0, .ref a0), (1, .int i1), (2, .int i2), (3, .int i3)] [.int si2, .int si1, .ref sa0] 0 0 M := by
  unfold m_X12_costOf_J33 at hf
  obtain ⟨M1, e2, hf⟩ := obnd hf
  refine ev_zast C dX12_costOf_33 e2 ?_
  refine ev_iinc (v := i3 + 1) (l' := [(3, .int (i3 + 1)), (0, .ref a0), (1, .int i1), (2, .int i2)]) C dX12_costOf_34 (q := 3) rfl rfl (by decide) rfl ?_
  refine ev_goto (tgt := 4) C dX12_costOf_37 (by decide) ?_
  refine ev_sub [1, 2, 3, 0] rfl ?_
  exact Hk4 a0 i1 i2 (i3 + 1) M1 hf
def m_X12_costOf_L4 (N : Nat)  : Nat → Nat → Int32 → Int32 → Int32 → mM → Option (UInt32 × mM)
  | 0, _, _, _, _, _ => none
  | n + 1, a0, i1, i2, i3, M =>
    (fR M a0 12 0).bind fun x1 =>
    (aI 0 M x1 5).bind fun x3 =>
    if x3 ≤ i3 then (
      m_X12_costOf_L42 N  N a0 i1 i2 0 M) else (
      (fR M a0 12 23).bind fun x5 =>
      (oO M a0 12).bind fun _ =>
      (m_X12_isOver a0 i3 i1 M).bind fun x9 =>
      if x9 = 0 then (
        m_X12_costOf_J33 N (m_X12_costOf_L4 N  n) a0 i1 i2 i3 x5 i3 1 M) else (
        m_X12_costOf_J33 N (m_X12_costOf_L4 N  n) a0 i1 i2 i3 x5 i3 0 M))
set_option maxHeartbeats 4000000 in
set_option maxRecDepth 100000 in
theorem t_X12_costOf_L4 {X : mX} {L0 : Launch} {res : UInt32 × mM} {N : Nat} (C : CX X RX12 "costOf" prog_14_method_62_code 6 (some .float)) (E : EX X L0 3 67 0 0 (some (.float res.1)) res.2)   : ∀ (n : Nat) (a0 : Nat) (i1 : Int32) (i2 : Int32) (i3 : Int32) (M : mM), m_X12_costOf_L4 N  n a0 i1 i2 i3 M = some res → EV X 6 4 [(0, .ref a0), (1, .int i1), (2, .int i2), (3, .int i3)] [] 0 0 M := by
  intro n
  induction n with
  | zero => intro a0 i1 i2 i3 M hf; cases (show (none : Option (UInt32 × mM)) = some res from hf)
  | succ n ih =>
    intro a0 i1 i2 i3 M hf
    rw [m_X12_costOf_L4] at hf
    refine ev_iload_n C dX12_costOf_4 rfl (q := 3) rfl ?_
    refine ev_aload_n C dX12_costOf_5 rfl (q := 0) rfl ?_
    obtain ⟨x1, e2, hf⟩ := obnd hf
    refine ev_get (k := 0) C ok_12 dX12_costOf_6 (by decide) kw_1159 (fR_V e2) ?_
    refine ev_iconst (v := 5) C dX12_costOf_9 (by decide) ?_
    obtain ⟨x3, e4, hf⟩ := obnd hf
    refine ev_iald C dX12_costOf_10 e4 ?_
    refine ev_icmp_ge (tgt := 40) C dX12_costOf_11 (by decide) (fun hc => ?_) (fun hc => ?_)
    · have hf := oit hf hc
      refine ev_iconst (v := 0) C dX12_costOf_40 (by decide) ?_
      refine ev_istore_n (l' := [(3, .int 0), (0, .ref a0), (1, .int i1), (2, .int i2)]) C dX12_costOf_41 rfl (by decide) rfl ?_
      refine ev_sub [1, 2, 3, 0] rfl ?_
      exact t_X12_costOf_L42 C E   N a0 i1 i2 0 M hf
    · have hf := oie hf hc
      refine ev_aload_n C dX12_costOf_14 rfl (q := 0) rfl ?_
      obtain ⟨x5, e6, hf⟩ := obnd hf
      refine ev_get (k := 23) C ok_12 dX12_costOf_15 (by decide) kw_1182 (fR_V e6) ?_
      refine ev_iload_n C dX12_costOf_18 rfl (q := 3) rfl ?_
      refine ev_aload_n C dX12_costOf_19 rfl (q := 0) rfl ?_
      refine ev_iload_n C dX12_costOf_20 rfl (q := 3) rfl ?_
      refine ev_iload_n C dX12_costOf_21 rfl (q := 1) rfl ?_
      obtain ⟨_, e7, hf⟩ := obnd hf
      obtain ⟨fs8, e7⟩ := oO_eq e7
      obtain ⟨x9, e10, hf⟩ := obnd hf
      refine ev_callV0 (As := [.int i3, .int i1]) (st := [.int i3, .ref x5]) C rfl e7 (t_X12_isOver e10) rfl hd_X12_isOver rfl kw_1503 kw_1505 kw_87 kw_44 kw_1506 (mRoom.of E (Nat.le_of_ble_eq_true rfl) (Nat.le_of_ble_eq_true rfl) (Nat.le_refl 0) (Nat.le_refl 0)) (Nat.le_of_ble_eq_true rfl) dX12_costOf_22 ?_
      refine ev_if_ne (tgt := 32) C dX12_costOf_25 (by decide) (fun hc => ?_) (fun hc => ?_)
      · have hf := oie hf hc
        refine ev_iconst (v := 0) C dX12_costOf_32 (by decide) ?_
        exact t_X12_costOf_J33 C E (m_X12_costOf_L4 N  n) ih a0 i1 i2 i3 x5 i3 0 M hf
      · have hf := oit hf hc
        refine ev_iconst (v := 1) C dX12_costOf_28 (by decide) ?_
        refine ev_goto (tgt := 33) C dX12_costOf_29 (by decide) ?_
        exact t_X12_costOf_J33 C E (m_X12_costOf_L4 N  n) ih a0 i1 i2 i3 x5 i3 1 M hf
def m_X12_costOf (N : Nat) (a0 : Nat) (i1 : Int32) (M : mM) : Option (UInt32 × mM) :=
  m_X12_costOf_L4 N  N a0 i1 0 0 M
set_option maxHeartbeats 4000000 in
set_option maxRecDepth 100000 in
theorem t_X12_costOf {L0 : Launch} {M : mM} {N : Nat} {a0 : Nat} {i1 : Int32} {res : UInt32 × mM} (hf : m_X12_costOf N a0 i1 M = some res) : CT L0 yX12_costOf prog_14_method_62_code 6 (some .float) 3 67 0 0 [.ref a0, .int i1] M (some (.float res.1)) res.2 := by
  refine CT.of (by decide +kernel) (Nat.le_of_ble_eq_true rfl) fun X C E => ?_
  have C : CX X RX12 "costOf" prog_14_method_62_code 6 (some .float) := C
  show EV X 6 0 [(0, .ref a0), (1, .int i1)] [] 0 0 M
  unfold m_X12_costOf at hf
  refine ev_iconst (v := 0) C dX12_costOf_0 (by decide) ?_
  refine ev_istore_n (l' := [(2, .int 0), (0, .ref a0), (1, .int i1)]) C dX12_costOf_1 rfl (by decide) rfl ?_
  refine ev_iconst (v := 0) C dX12_costOf_2 (by decide) ?_
  refine ev_istore_n (l' := [(3, .int 0), (2, .int 0), (0, .ref a0), (1, .int i1)]) C dX12_costOf_3 rfl (by decide) rfl ?_
  refine ev_sub [2, 3, 1, 0] rfl ?_
  exact t_X12_costOf_L4 C E   N a0 i1 0 0 M hf
/-! FareLimitsModel isIn(I)Z -/
theorem dX12_isIn_0 : decode prog_14_method_63_code 0 = .ok (.dconst 0, 1) := by decide +kernel
theorem dX12_isIn_1 : decode prog_14_method_63_code 1 = .ok (.dstore_n 2, 1) := by decide +kernel
theorem dX12_isIn_2 : decode prog_14_method_63_code 2 = .ok (.iconst 0, 1) := by decide +kernel
theorem dX12_isIn_3 : decode prog_14_method_63_code 3 = .ok (.istore 4, 2) := by decide +kernel
theorem dX12_isIn_5 : decode prog_14_method_63_code 5 = .ok (.iload 4, 2) := by decide +kernel
theorem dX12_isIn_7 : decode prog_14_method_63_code 7 = .ok (.iconst 4, 1) := by decide +kernel
theorem dX12_isIn_8 : decode prog_14_method_63_code 8 = .ok (.if_icmp .ge 33, 3) := by decide +kernel
theorem dX12_isIn_11 : decode prog_14_method_63_code 11 = .ok (.aload_n 0, 1) := by decide +kernel
theorem dX12_isIn_12 : decode prog_14_method_63_code 12 = .ok (.iload_n 1, 1) := by decide +kernel
theorem dX12_isIn_13 : decode prog_14_method_63_code 13 = .ok (.iload 4, 2) := by decide +kernel
theorem dX12_isIn_15 : decode prog_14_method_63_code 15 = .ok (.invokevirtual 232, 3) := by decide +kernel
theorem dX12_isIn_18 : decode prog_14_method_63_code 18 = .ok (.ifCond .eq 15, 3) := by decide +kernel
theorem dX12_isIn_21 : decode prog_14_method_63_code 21 = .ok (.dload_n 2, 1) := by decide +kernel
theorem dX12_isIn_22 : decode prog_14_method_63_code 22 = .ok (.aload_n 0, 1) := by decide +kernel
theorem dX12_isIn_23 : decode prog_14_method_63_code 23 = .ok (.iload 4, 2) := by decide +kernel
theorem dX12_isIn_25 : decode prog_14_method_63_code 25 = .ok (.invokevirtual 245, 3) := by decide +kernel
theorem dX12_isIn_28 : decode prog_14_method_63_code 28 = .ok (.f2d, 1) := by decide +kernel
theorem dX12_isIn_29 : decode prog_14_method_63_code 29 = .ok (.dadd, 1) := by decide +kernel
theorem dX12_isIn_30 : decode prog_14_method_63_code 30 = .ok (.goto 4, 3) := by decide +kernel
theorem dX12_isIn_33 : decode prog_14_method_63_code 33 = .ok (.dload_n 2, 1) := by decide +kernel
theorem dX12_isIn_34 : decode prog_14_method_63_code 34 = .ok (.dstore_n 2, 1) := by decide +kernel
theorem dX12_isIn_35 : decode prog_14_method_63_code 35 = .ok (.iinc 4 1, 3) := by decide +kernel
theorem dX12_isIn_38 : decode prog_14_method_63_code 38 = .ok (.goto (-33), 3) := by decide +kernel
theorem dX12_isIn_41 : decode prog_14_method_63_code 41 = .ok (.aload_n 0, 1) := by decide +kernel
theorem dX12_isIn_42 : decode prog_14_method_63_code 42 = .ok (.iload_n 1, 1) := by decide +kernel
theorem dX12_isIn_43 : decode prog_14_method_63_code 43 = .ok (.invokevirtual 235, 3) := by decide +kernel
theorem dX12_isIn_46 : decode prog_14_method_63_code 46 = .ok (.i2d, 1) := by decide +kernel
theorem dX12_isIn_47 : decode prog_14_method_63_code 47 = .ok (.dload_n 2, 1) := by decide +kernel
theorem dX12_isIn_48 : decode prog_14_method_63_code 48 = .ok (.dcmp .l, 1) := by decide +kernel
theorem dX12_isIn_49 : decode prog_14_method_63_code 49 = .ok (.ifCond .lt 7, 3) := by decide +kernel
theorem dX12_isIn_52 : decode prog_14_method_63_code 52 = .ok (.iconst 1, 1) := by decide +kernel
theorem dX12_isIn_53 : decode prog_14_method_63_code 53 = .ok (.goto 4, 3) := by decide +kernel
theorem dX12_isIn_56 : decode prog_14_method_63_code 56 = .ok (.iconst 0, 1) := by decide +kernel
theorem dX12_isIn_57 : decode prog_14_method_63_code 57 = .ok (.ireturn, 1) := by decide +kernel
def m_X12_isIn_J34 (N : Nat) (k5 : Nat → Int32 → UInt64 → Int32 → mM → Option (Int32 × mM)) (a0 : Nat) (i1 : Int32) (i4 : Int32) (sd0 : UInt64) (M : mM) : Option (Int32 × mM) :=
  k5 a0 i1 sd0 (i4 + 1) M
set_option maxHeartbeats 4000000 in
set_option maxRecDepth 100000 in
theorem t_X12_isIn_J34 {X : mX} {L0 : Launch} {res : Int32 × mM} {N : Nat} (C : CX X RX12 "isIn" prog_14_method_63_code 5 (some .boolean)) (E : EX X L0 4 92 0 0 (some (.int res.1)) res.2) (k5 : Nat → Int32 → UInt64 → Int32 → mM → Option (Int32 × mM)) (Hk5 : ∀ (a0 : Nat) (i1 : Int32) (d2 : UInt64) (i4 : Int32) (M : mM), k5 a0 i1 d2 i4 M = some res → EV X 5 5 [(0, .ref a0), (1, .int i1), (2, .double d2), (4, .int i4)] [] 0 0 M) (a0 : Nat) (i1 : Int32) (i4 : Int32) (sd0 : UInt64) (M : mM) (hf : m_X12_isIn_J34 N k5 a0 i1 i4 sd0 M = some res) : EV X 5 34 [(0, .ref a0), (1, .int i1), (4, .int i4)] [.double sd0] 0 0 M := by
  unfold m_X12_isIn_J34 at hf
  refine ev_dstore_n (l' := [(2, .double sd0), (0, .ref a0), (1, .int i1), (4, .int i4)]) C dX12_isIn_34 rfl (by decide) rfl ?_
  refine ev_iinc (v := i4 + 1) (l' := [(4, .int (i4 + 1)), (2, .double sd0), (0, .ref a0), (1, .int i1)]) C dX12_isIn_35 (q := 3) rfl rfl (by decide) rfl ?_
  refine ev_goto (tgt := 5) C dX12_isIn_38 (by decide) ?_
  refine ev_sub [2, 3, 1, 0] rfl ?_
  exact Hk5 a0 i1 sd0 (i4 + 1) M hf
def m_X12_isIn_L5 (N : Nat)  : Nat → Nat → Int32 → UInt64 → Int32 → mM → Option (Int32 × mM)
  | 0, _, _, _, _, _ => none
  | n + 1, a0, i1, d2, i4, M =>
    if 4 ≤ i4 then (
      (oO M a0 12).bind fun _ =>
      (m_X12_fee a0 i1 M).bind fun x3 =>
      if (Op.cmpValue (FP.dcmp (FP.i2d x3) d2) CmpOp.l) < 0 then (
        some (0, M)) else (
        some (1, M))) else (
      (oO M a0 12).bind fun _ =>
      (m_X12_isOver a0 i1 i4 M).bind fun x7 =>
      if x7 = 0 then (
        m_X12_isIn_J34 N (m_X12_isIn_L5 N  n) a0 i1 i4 d2 M) else (
        (oO M a0 12).bind fun _ =>
        (m_X12_costOf N a0 i4 M).bind fun x11 =>
        (oD (FP.f2d x11.1)).bind fun x13 =>
        (oD (FP.dadd d2 x13)).bind fun x15 =>
        m_X12_isIn_J34 N (m_X12_isIn_L5 N  n) a0 i1 i4 x15 x11.2))
set_option maxHeartbeats 4000000 in
set_option maxRecDepth 100000 in
theorem t_X12_isIn_L5 {X : mX} {L0 : Launch} {res : Int32 × mM} {N : Nat} (C : CX X RX12 "isIn" prog_14_method_63_code 5 (some .boolean)) (E : EX X L0 4 92 0 0 (some (.int res.1)) res.2)   : ∀ (n : Nat) (a0 : Nat) (i1 : Int32) (d2 : UInt64) (i4 : Int32) (M : mM), m_X12_isIn_L5 N  n a0 i1 d2 i4 M = some res → EV X 5 5 [(0, .ref a0), (1, .int i1), (2, .double d2), (4, .int i4)] [] 0 0 M := by
  intro n
  induction n with
  | zero => intro a0 i1 d2 i4 M hf; cases (show (none : Option (Int32 × mM)) = some res from hf)
  | succ n ih =>
    intro a0 i1 d2 i4 M hf
    rw [m_X12_isIn_L5] at hf
    refine ev_iload C dX12_isIn_5 (q := 3) rfl ?_
    refine ev_iconst (v := 4) C dX12_isIn_7 (by decide) ?_
    refine ev_icmp_ge (tgt := 41) C dX12_isIn_8 (by decide) (fun hc => ?_) (fun hc => ?_)
    · have hf := oit hf hc
      refine ev_aload_n C dX12_isIn_41 rfl (q := 0) rfl ?_
      refine ev_iload_n C dX12_isIn_42 rfl (q := 1) rfl ?_
      obtain ⟨_, e1, hf⟩ := obnd hf
      obtain ⟨fs2, e1⟩ := oO_eq e1
      obtain ⟨x3, e4, hf⟩ := obnd hf
      refine ev_callV0 (As := [.int i1]) (st := []) C rfl e1 (t_X12_fee e4) rfl hd_X12_fee rfl kw_1515 kw_1517 kw_87 kw_47 kw_1518 (mRoom.of E (Nat.le_of_ble_eq_true rfl) (Nat.le_of_ble_eq_true rfl) (Nat.le_refl 0) (Nat.le_refl 0)) (Nat.le_of_ble_eq_true rfl) dX12_isIn_43 ?_
      refine ev_i2d C dX12_isIn_46 ?_
      refine ev_dload_n C dX12_isIn_47 rfl (q := 2) rfl ?_
      refine ev_dcmp C dX12_isIn_48 ?_
      refine ev_if_lt (tgt := 56) C dX12_isIn_49 (by decide) (fun hc => ?_) (fun hc => ?_)
      · have hf := oit hf hc
        refine ev_iconst (v := 0) C dX12_isIn_56 (by decide) ?_
        obtain rfl := Option.some.inj hf
        exact ev_zret C (by decide) E (Nat.le_refl 0) (Nat.le_refl 0) dX12_isIn_57
      · have hf := oie hf hc
        refine ev_iconst (v := 1) C dX12_isIn_52 (by decide) ?_
        refine ev_goto (tgt := 57) C dX12_isIn_53 (by decide) ?_
        obtain rfl := Option.some.inj hf
        exact ev_zret C (by decide) E (Nat.le_refl 0) (Nat.le_refl 0) dX12_isIn_57
    · have hf := oie hf hc
      refine ev_aload_n C dX12_isIn_11 rfl (q := 0) rfl ?_
      refine ev_iload_n C dX12_isIn_12 rfl (q := 1) rfl ?_
      refine ev_iload C dX12_isIn_13 (q := 3) rfl ?_
      obtain ⟨_, e5, hf⟩ := obnd hf
      obtain ⟨fs6, e5⟩ := oO_eq e5
      obtain ⟨x7, e8, hf⟩ := obnd hf
      refine ev_callV0 (As := [.int i1, .int i4]) (st := []) C rfl e5 (t_X12_isOver e8) rfl hd_X12_isOver rfl kw_1503 kw_1505 kw_87 kw_44 kw_1506 (mRoom.of E (Nat.le_of_ble_eq_true rfl) (Nat.le_of_ble_eq_true rfl) (Nat.le_refl 0) (Nat.le_refl 0)) (Nat.le_of_ble_eq_true rfl) dX12_isIn_15 ?_
      refine ev_if_eq (tgt := 33) C dX12_isIn_18 (by decide) (fun hc => ?_) (fun hc => ?_)
      · have hf := oit hf hc
        refine ev_dload_n C dX12_isIn_33 rfl (q := 2) rfl ?_
        refine ev_sub [0, 1, 3] rfl ?_
        exact t_X12_isIn_J34 C E (m_X12_isIn_L5 N  n) ih a0 i1 i4 d2 M hf
      · have hf := oie hf hc
        refine ev_dload_n C dX12_isIn_21 rfl (q := 2) rfl ?_
        refine ev_aload_n C dX12_isIn_22 rfl (q := 0) rfl ?_
        refine ev_iload C dX12_isIn_23 (q := 3) rfl ?_
        obtain ⟨_, e9, hf⟩ := obnd hf
        obtain ⟨fs10, e9⟩ := oO_eq e9
        obtain ⟨x11, e12, hf⟩ := obnd hf
        refine ev_callV0 (As := [.int i4]) (st := [.double d2]) C rfl e9 (t_X12_costOf e12) rfl hd_X12_costOf rfl kw_1523 kw_1525 kw_87 kw_48 kw_1526 (mRoom.of E (Nat.le_of_ble_eq_true rfl) (Nat.le_of_ble_eq_true rfl) (Nat.le_refl 0) (Nat.le_refl 0)) (Nat.le_of_ble_eq_true rfl) dX12_isIn_25 ?_
        obtain ⟨x13, e14, hf⟩ := obnd hf
        obtain ⟨e14, e14q⟩ := oD_eq e14
        refine ev_f2d C dX12_isIn_28 e14 ?_
        rw [← e14q]
        obtain ⟨x15, e16, hf⟩ := obnd hf
        obtain ⟨e16, e16q⟩ := oD_eq e16
        refine ev_dadd C dX12_isIn_29 e16 ?_
        rw [← e16q]
        refine ev_goto (tgt := 34) C dX12_isIn_30 (by decide) ?_
        refine ev_sub [0, 1, 3] rfl ?_
        exact t_X12_isIn_J34 C E (m_X12_isIn_L5 N  n) ih a0 i1 i4 x15 x11.2 hf
def m_X12_isIn (N : Nat) (a0 : Nat) (i1 : Int32) (M : mM) : Option (Int32 × mM) :=
  m_X12_isIn_L5 N  N a0 i1 FP.dconst0 0 M
set_option maxHeartbeats 4000000 in
set_option maxRecDepth 100000 in
theorem t_X12_isIn {L0 : Launch} {M : mM} {N : Nat} {a0 : Nat} {i1 : Int32} {res : Int32 × mM} (hf : m_X12_isIn N a0 i1 M = some res) : CT L0 yX12_isIn prog_14_method_63_code 5 (some .boolean) 4 92 0 0 [.ref a0, .int i1] M (some (.int res.1)) res.2 := by
  refine CT.of (by decide +kernel) (Nat.le_of_ble_eq_true rfl) fun X C E => ?_
  have C : CX X RX12 "isIn" prog_14_method_63_code 5 (some .boolean) := C
  show EV X 5 0 [(0, .ref a0), (1, .int i1)] [] 0 0 M
  unfold m_X12_isIn at hf
  refine ev_dconst0 C dX12_isIn_0 ?_
  refine ev_dstore_n (l' := [(2, .double FP.dconst0), (0, .ref a0), (1, .int i1)]) C dX12_isIn_1 rfl (by decide) rfl ?_
  refine ev_iconst (v := 0) C dX12_isIn_2 (by decide) ?_
  refine ev_istore (l' := [(4, .int 0), (2, .double FP.dconst0), (0, .ref a0), (1, .int i1)]) C dX12_isIn_3 (by decide) rfl ?_
  refine ev_sub [2, 3, 1, 0] rfl ?_
  exact t_X12_isIn_L5 C E   N a0 i1 FP.dconst0 0 M hf
/-! FareLimitsModel part(II)I -/
theorem dX12_part_0 : decode prog_14_method_64_code 0 = .ok (.aload_n 0, 1) := by decide +kernel
theorem dX12_part_1 : decode prog_14_method_64_code 1 = .ok (.iload_n 1, 1) := by decide +kernel
theorem dX12_part_2 : decode prog_14_method_64_code 2 = .ok (.invokevirtual 249, 3) := by decide +kernel
theorem dX12_part_5 : decode prog_14_method_64_code 5 = .ok (.ifCond .eq 10, 3) := by decide +kernel
theorem dX12_part_8 : decode prog_14_method_64_code 8 = .ok (.iload_n 2, 1) := by decide +kernel
theorem dX12_part_9 : decode prog_14_method_64_code 9 = .ok (.invokestatic 224, 3) := by decide +kernel
theorem dX12_part_12 : decode prog_14_method_64_code 12 = .ok (.ifCond .ne 5, 3) := by decide +kernel
theorem dX12_part_15 : decode prog_14_method_64_code 15 = .ok (.iconst (-1), 1) := by decide +kernel
theorem dX12_part_16 : decode prog_14_method_64_code 16 = .ok (.ireturn, 1) := by decide +kernel
theorem dX12_part_17 : decode prog_14_method_64_code 17 = .ok (.aload_n 0, 1) := by decide +kernel
theorem dX12_part_18 : decode prog_14_method_64_code 18 = .ok (.iload_n 1, 1) := by decide +kernel
theorem dX12_part_19 : decode prog_14_method_64_code 19 = .ok (.iload_n 2, 1) := by decide +kernel
theorem dX12_part_20 : decode prog_14_method_64_code 20 = .ok (.invokevirtual 232, 3) := by decide +kernel
theorem dX12_part_23 : decode prog_14_method_64_code 23 = .ok (.ifCond .eq 15, 3) := by decide +kernel
theorem dX12_part_26 : decode prog_14_method_64_code 26 = .ok (.aload_n 0, 1) := by decide +kernel
theorem dX12_part_27 : decode prog_14_method_64_code 27 = .ok (.iload_n 1, 1) := by decide +kernel
theorem dX12_part_28 : decode prog_14_method_64_code 28 = .ok (.iload_n 2, 1) := by decide +kernel
theorem dX12_part_29 : decode prog_14_method_64_code 29 = .ok (.invokevirtual 238, 3) := by decide +kernel
theorem dX12_part_32 : decode prog_14_method_64_code 32 = .ok (.invokestatic 144, 3) := by decide +kernel
theorem dX12_part_35 : decode prog_14_method_64_code 35 = .ok (.goto 4, 3) := by decide +kernel
theorem dX12_part_38 : decode prog_14_method_64_code 38 = .ok (.iconst 0, 1) := by decide +kernel
theorem dX12_part_39 : decode prog_14_method_64_code 39 = .ok (.ireturn, 1) := by decide +kernel
def m_X12_part (N : Nat) (a0 : Nat) (i1 : Int32) (i2 : Int32) (M : mM) : Option (Int32) :=
  (oO M a0 12).bind fun _ =>
  (m_X12_isRoute a0 i1 M).bind fun x3 =>
  if x3 = 0 then (
    some (-1)) else (
    (m_X12_isLeg i2).bind fun x5 =>
    if x5 = 0 then (
      some (-1)) else (
      (oO M a0 12).bind fun _ =>
      (m_X12_isOver a0 i1 i2 M).bind fun x9 =>
      if x9 = 0 then (
        some 0) else (
        (oO M a0 12).bind fun _ =>
        (m_X12_partOf N a0 i1 i2 M).bind fun x13 =>
        (m_Jxf58ca_floatToIntBits_5c35a x13).bind fun x15 =>
        some x15)))
set_option maxHeartbeats 4000000 in
set_option maxRecDepth 100000 in
theorem t_X12_part {L0 : Launch} {M : mM} {N : Nat} {a0 : Nat} {i1 : Int32} {i2 : Int32} {res : Int32} (hf : m_X12_part N a0 i1 i2 M = some res) : CT L0 yX12_part prog_14_method_64_code 3 (some .int) 3 67 0 0 [.ref a0, .int i1, .int i2] M (some (.int res)) M := by
  refine CT.of (by decide +kernel) (Nat.le_of_ble_eq_true rfl) fun X C E => ?_
  have C : CX X RX12 "part" prog_14_method_64_code 3 (some .int) := C
  show EV X 3 0 [(0, .ref a0), (1, .int i1), (2, .int i2)] [] 0 0 M
  unfold m_X12_part at hf
  refine ev_aload_n C dX12_part_0 rfl (q := 0) rfl ?_
  refine ev_iload_n C dX12_part_1 rfl (q := 1) rfl ?_
  obtain ⟨_, e1, hf⟩ := obnd hf
  obtain ⟨fs2, e1⟩ := oO_eq e1
  obtain ⟨x3, e4, hf⟩ := obnd hf
  refine ev_callV0 (As := [.int i1]) (st := []) C rfl e1 (t_X12_isRoute e4) rfl hd_X12_isRoute rfl kw_1499 kw_1501 kw_87 kw_43 kw_1502 (mRoom.of E (Nat.le_of_ble_eq_true rfl) (Nat.le_of_ble_eq_true rfl) (Nat.le_refl 0) (Nat.le_refl 0)) (Nat.le_of_ble_eq_true rfl) dX12_part_2 ?_
  refine ev_if_eq (tgt := 15) C dX12_part_5 (by decide) (fun hc => ?_) (fun hc => ?_)
  · have hf := oit hf hc
    refine ev_iconst (v := (-1)) C dX12_part_15 (by decide) ?_
    obtain rfl := Option.some.inj hf
    exact ev_iret C E (Nat.le_refl 0) (Nat.le_refl 0) dX12_part_16
  · have hf := oie hf hc
    refine ev_iload_n C dX12_part_8 rfl (q := 2) rfl ?_
    obtain ⟨x5, e6, hf⟩ := obnd hf
    refine ev_callS0 (As := [.int i2]) (st := []) C (t_X12_isLeg e6) hd_X12_isLeg rfl kw_1491 kw_1492 kw_87 kw_1493 (mRoom.of E (Nat.le_of_ble_eq_true rfl) (Nat.le_of_ble_eq_true rfl) (Nat.le_refl 0) (Nat.le_refl 0)) (Nat.le_of_ble_eq_true rfl) dX12_part_9 ?_
    refine ev_if_ne (tgt := 17) C dX12_part_12 (by decide) (fun hc => ?_) (fun hc => ?_)
    · have hf := oie hf hc
      refine ev_aload_n C dX12_part_17 rfl (q := 0) rfl ?_
      refine ev_iload_n C dX12_part_18 rfl (q := 1) rfl ?_
      refine ev_iload_n C dX12_part_19 rfl (q := 2) rfl ?_
      obtain ⟨_, e7, hf⟩ := obnd hf
      obtain ⟨fs8, e7⟩ := oO_eq e7
      obtain ⟨x9, e10, hf⟩ := obnd hf
      refine ev_callV0 (As := [.int i1, .int i2]) (st := []) C rfl e7 (t_X12_isOver e10) rfl hd_X12_isOver rfl kw_1503 kw_1505 kw_87 kw_44 kw_1506 (mRoom.of E (Nat.le_of_ble_eq_true rfl) (Nat.le_of_ble_eq_true rfl) (Nat.le_refl 0) (Nat.le_refl 0)) (Nat.le_of_ble_eq_true rfl) dX12_part_20 ?_
      refine ev_if_eq (tgt := 38) C dX12_part_23 (by decide) (fun hc => ?_) (fun hc => ?_)
      · have hf := oit hf hc
        refine ev_iconst (v := 0) C dX12_part_38 (by decide) ?_
        obtain rfl := Option.some.inj hf
        exact ev_iret C E (Nat.le_refl 0) (Nat.le_refl 0) dX12_part_39
      · have hf := oie hf hc
        refine ev_aload_n C dX12_part_26 rfl (q := 0) rfl ?_
        refine ev_iload_n C dX12_part_27 rfl (q := 1) rfl ?_
        refine ev_iload_n C dX12_part_28 rfl (q := 2) rfl ?_
        obtain ⟨_, e11, hf⟩ := obnd hf
        obtain ⟨fs12, e11⟩ := oO_eq e11
        obtain ⟨x13, e14, hf⟩ := obnd hf
        refine ev_callV0 (As := [.int i1, .int i2]) (st := []) C rfl e11 (t_X12_partOf e14) rfl hd_X12_partOf rfl kw_1511 kw_1513 kw_87 kw_46 kw_1514 (mRoom.of E (Nat.le_of_ble_eq_true rfl) (Nat.le_of_ble_eq_true rfl) (Nat.le_refl 0) (Nat.le_refl 0)) (Nat.le_of_ble_eq_true rfl) dX12_part_29 ?_
        obtain ⟨x15, e16, hf⟩ := obnd hf
        refine ev_callS0 (As := [.float x13]) (st := []) C (t_Jxf58ca_floatToIntBits_5c35a e16) hd_Jxf58ca_floatToIntBits_5c35a rfl kw_1354 kw_1355 kw_91 kw_1356 (mRoom.of E (Nat.le_of_ble_eq_true rfl) (Nat.le_of_ble_eq_true rfl) (Nat.le_refl 0) (Nat.le_refl 0)) (Nat.le_of_ble_eq_true rfl) dX12_part_32 ?_
        refine ev_goto (tgt := 39) C dX12_part_35 (by decide) ?_
        obtain rfl := Option.some.inj hf
        exact ev_iret C E (Nat.le_refl 0) (Nat.le_refl 0) dX12_part_39
    · have hf := oit hf hc
      refine ev_iconst (v := (-1)) C dX12_part_15 (by decide) ?_
      obtain rfl := Option.some.inj hf
      exact ev_iret C E (Nat.le_refl 0) (Nat.le_refl 0) dX12_part_16
/-! FareLimitsModel cost(I)I -/
theorem dX12_cost_0 : decode prog_14_method_65_code 0 = .ok (.iload_n 1, 1) := by decide +kernel
theorem dX12_cost_1 : decode prog_14_method_65_code 1 = .ok (.invokestatic 224, 3) := by decide +kernel
theorem dX12_cost_4 : decode prog_14_method_65_code 4 = .ok (.ifCond .eq 14, 3) := by decide +kernel
theorem dX12_cost_7 : decode prog_14_method_65_code 7 = .ok (.aload_n 0, 1) := by decide +kernel
theorem dX12_cost_8 : decode prog_14_method_65_code 8 = .ok (.iload_n 1, 1) := by decide +kernel
theorem dX12_cost_9 : decode prog_14_method_65_code 9 = .ok (.invokevirtual 245, 3) := by decide +kernel
theorem dX12_cost_12 : decode prog_14_method_65_code 12 = .ok (.invokestatic 144, 3) := by decide +kernel
theorem dX12_cost_15 : decode prog_14_method_65_code 15 = .ok (.goto 4, 3) := by decide +kernel
theorem dX12_cost_18 : decode prog_14_method_65_code 18 = .ok (.iconst (-1), 1) := by decide +kernel
theorem dX12_cost_19 : decode prog_14_method_65_code 19 = .ok (.ireturn, 1) := by decide +kernel
def m_X12_cost (N : Nat) (a0 : Nat) (i1 : Int32) (M : mM) : Option (Int32 × mM) :=
  (m_X12_isLeg i1).bind fun x1 =>
  if x1 = 0 then (
    some ((-1), M)) else (
    (oO M a0 12).bind fun _ =>
    (m_X12_costOf N a0 i1 M).bind fun x5 =>
    (m_Jxf58ca_floatToIntBits_5c35a x5.1).bind fun x7 =>
    some (x7, x5.2))
set_option maxHeartbeats 4000000 in
set_option maxRecDepth 100000 in
theorem t_X12_cost {L0 : Launch} {M : mM} {N : Nat} {a0 : Nat} {i1 : Int32} {res : Int32 × mM} (hf : m_X12_cost N a0 i1 M = some res) : CT L0 yX12_cost prog_14_method_65_code 2 (some .int) 4 92 0 0 [.ref a0, .int i1] M (some (.int res.1)) res.2 := by
  refine CT.of (by decide +kernel) (Nat.le_of_ble_eq_true rfl) fun X C E => ?_
  have C : CX X RX12 "cost" prog_14_method_65_code 2 (some .int) := C
  show EV X 2 0 [(0, .ref a0), (1, .int i1)] [] 0 0 M
  unfold m_X12_cost at hf
  refine ev_iload_n C dX12_cost_0 rfl (q := 1) rfl ?_
  obtain ⟨x1, e2, hf⟩ := obnd hf
  refine ev_callS0 (As := [.int i1]) (st := []) C (t_X12_isLeg e2) hd_X12_isLeg rfl kw_1491 kw_1492 kw_87 kw_1493 (mRoom.of E (Nat.le_of_ble_eq_true rfl) (Nat.le_of_ble_eq_true rfl) (Nat.le_refl 0) (Nat.le_refl 0)) (Nat.le_of_ble_eq_true rfl) dX12_cost_1 ?_
  refine ev_if_eq (tgt := 18) C dX12_cost_4 (by decide) (fun hc => ?_) (fun hc => ?_)
  · have hf := oit hf hc
    refine ev_iconst (v := (-1)) C dX12_cost_18 (by decide) ?_
    obtain rfl := Option.some.inj hf
    exact ev_iret C E (Nat.le_refl 0) (Nat.le_refl 0) dX12_cost_19
  · have hf := oie hf hc
    refine ev_aload_n C dX12_cost_7 rfl (q := 0) rfl ?_
    refine ev_iload_n C dX12_cost_8 rfl (q := 1) rfl ?_
    obtain ⟨_, e3, hf⟩ := obnd hf
    obtain ⟨fs4, e3⟩ := oO_eq e3
    obtain ⟨x5, e6, hf⟩ := obnd hf
    refine ev_callV0 (As := [.int i1]) (st := []) C rfl e3 (t_X12_costOf e6) rfl hd_X12_costOf rfl kw_1523 kw_1525 kw_87 kw_48 kw_1526 (mRoom.of E (Nat.le_of_ble_eq_true rfl) (Nat.le_of_ble_eq_true rfl) (Nat.le_refl 0) (Nat.le_refl 0)) (Nat.le_of_ble_eq_true rfl) dX12_cost_9 ?_
    obtain ⟨x7, e8, hf⟩ := obnd hf
    refine ev_callS0 (As := [.float x5.1]) (st := []) C (t_Jxf58ca_floatToIntBits_5c35a e8) hd_Jxf58ca_floatToIntBits_5c35a rfl kw_1354 kw_1355 kw_91 kw_1356 (mRoom.of E (Nat.le_of_ble_eq_true rfl) (Nat.le_of_ble_eq_true rfl) (Nat.le_refl 0) (Nat.le_refl 0)) (Nat.le_of_ble_eq_true rfl) dX12_cost_12 ?_
    refine ev_goto (tgt := 19) C dX12_cost_15 (by decide) ?_
    obtain rfl := Option.some.inj hf
    exact ev_iret C E (Nat.le_refl 0) (Nat.le_refl 0) dX12_cost_19
/-! FareLimitsModel letters(I)I -/
theorem dX12_letters_0 : decode prog_14_method_66_code 0 = .ok (.iconst 0, 1) := by decide +kernel
theorem dX12_letters_1 : decode prog_14_method_66_code 1 = .ok (.istore_n 2, 1) := by decide +kernel
theorem dX12_letters_2 : decode prog_14_method_66_code 2 = .ok (.iload_n 2, 1) := by decide +kernel
theorem dX12_letters_3 : decode prog_14_method_66_code 3 = .ok (.iconst 3, 1) := by decide +kernel
theorem dX12_letters_4 : decode prog_14_method_66_code 4 = .ok (.if_icmp .ge 26, 3) := by decide +kernel
theorem dX12_letters_7 : decode prog_14_method_66_code 7 = .ok (.aload_n 0, 1) := by decide +kernel
theorem dX12_letters_8 : decode prog_14_method_66_code 8 = .ok (.getfield 9, 3) := by decide +kernel
theorem dX12_letters_11 : decode prog_14_method_66_code 11 = .ok (.bipush 50, 2) := by decide +kernel
theorem dX12_letters_13 : decode prog_14_method_66_code 13 = .ok (.bipush 6, 2) := by decide +kernel
theorem dX12_letters_15 : decode prog_14_method_66_code 15 = .ok (.iload_n 1, 1) := by decide +kernel
theorem dX12_letters_16 : decode prog_14_method_66_code 16 = .ok (.imul, 1) := by decide +kernel
theorem dX12_letters_17 : decode prog_14_method_66_code 17 = .ok (.iadd, 1) := by decide +kernel
theorem dX12_letters_18 : decode prog_14_method_66_code 18 = .ok (.iload_n 2, 1) := by decide +kernel
theorem dX12_letters_19 : decode prog_14_method_66_code 19 = .ok (.iadd, 1) := by decide +kernel
theorem dX12_letters_20 : decode prog_14_method_66_code 20 = .ok (.iaload, 1) := by decide +kernel
theorem dX12_letters_21 : decode prog_14_method_66_code 21 = .ok (.ifCond .le 9, 3) := by decide +kernel
theorem dX12_letters_24 : decode prog_14_method_66_code 24 = .ok (.iinc 2 1, 3) := by decide +kernel
theorem dX12_letters_27 : decode prog_14_method_66_code 27 = .ok (.goto (-25), 3) := by decide +kernel
theorem dX12_letters_30 : decode prog_14_method_66_code 30 = .ok (.iload_n 2, 1) := by decide +kernel
theorem dX12_letters_31 : decode prog_14_method_66_code 31 = .ok (.ireturn, 1) := by decide +kernel
def m_X12_letters_L2 (N : Nat) (M : mM)  : Nat → Nat → Int32 → Int32 → Option (Int32)
  | 0, _, _, _ => none
  | n + 1, a0, i1, i2 =>
    if 3 ≤ i2 then (
      some i2) else (
      (fR M a0 12 0).bind fun x1 =>
      (aI 0 M x1 ((50 + (6 * i1)) + i2)).bind fun x3 =>
      if x3 ≤ 0 then (
        some i2) else (
        (m_X12_letters_L2 N M  n) a0 i1 (i2 + 1)))
set_option maxHeartbeats 4000000 in
set_option maxRecDepth 100000 in
theorem t_X12_letters_L2 {X : mX} {M : mM} {L0 : Launch} {res : Int32} {N : Nat} (C : CX X RX12 "letters" prog_14_method_66_code 3 (some .int)) (E : EX X L0 0 0 0 0 (some (.int res)) M)   : ∀ (n : Nat) (a0 : Nat) (i1 : Int32) (i2 : Int32), m_X12_letters_L2 N M  n a0 i1 i2 = some res → EV X 3 2 [(0, .ref a0), (1, .int i1), (2, .int i2)] [] 0 0 M := by
  intro n
  induction n with
  | zero => intro a0 i1 i2 hf; cases (show (none : Option (Int32)) = some res from hf)
  | succ n ih =>
    intro a0 i1 i2 hf
    rw [m_X12_letters_L2] at hf
    refine ev_iload_n C dX12_letters_2 rfl (q := 2) rfl ?_
    refine ev_iconst (v := 3) C dX12_letters_3 (by decide) ?_
    refine ev_icmp_ge (tgt := 30) C dX12_letters_4 (by decide) (fun hc => ?_) (fun hc => ?_)
    · have hf := oit hf hc
      refine ev_iload_n C dX12_letters_30 rfl (q := 2) rfl ?_
      obtain rfl := Option.some.inj hf
      exact ev_iret C E (Nat.le_refl 0) (Nat.le_refl 0) dX12_letters_31
    · have hf := oie hf hc
      refine ev_aload_n C dX12_letters_7 rfl (q := 0) rfl ?_
      obtain ⟨x1, e2, hf⟩ := obnd hf
      refine ev_get (k := 0) C ok_12 dX12_letters_8 (by decide) kw_1159 (fR_V e2) ?_
      refine ev_bipush (v := 50) C dX12_letters_11 (by decide) ?_
      refine ev_bipush (v := 6) C dX12_letters_13 (by decide) ?_
      refine ev_iload_n C dX12_letters_15 rfl (q := 1) rfl ?_
      refine ev_imul C dX12_letters_16 ?_
      refine ev_iadd C dX12_letters_17 ?_
      refine ev_iload_n C dX12_letters_18 rfl (q := 2) rfl ?_
      refine ev_iadd C dX12_letters_19 ?_
      obtain ⟨x3, e4, hf⟩ := obnd hf
      refine ev_iald C dX12_letters_20 e4 ?_
      refine ev_if_le (tgt := 30) C dX12_letters_21 (by decide) (fun hc => ?_) (fun hc => ?_)
      · have hf := oit hf hc
        refine ev_iload_n C dX12_letters_30 rfl (q := 2) rfl ?_
        obtain rfl := Option.some.inj hf
        exact ev_iret C E (Nat.le_refl 0) (Nat.le_refl 0) dX12_letters_31
      · have hf := oie hf hc
        refine ev_iinc (v := i2 + 1) (l' := [(2, .int (i2 + 1)), (0, .ref a0), (1, .int i1)]) C dX12_letters_24 (q := 2) rfl rfl (by decide) rfl ?_
        refine ev_goto (tgt := 2) C dX12_letters_27 (by decide) ?_
        refine ev_sub [1, 2, 0] rfl ?_
        exact ih a0 i1 (i2 + 1) hf
def m_X12_letters (N : Nat) (a0 : Nat) (i1 : Int32) (M : mM) : Option (Int32) :=
  m_X12_letters_L2 N M  N a0 i1 0
set_option maxHeartbeats 4000000 in
set_option maxRecDepth 100000 in
theorem t_X12_letters {L0 : Launch} {M : mM} {N : Nat} {a0 : Nat} {i1 : Int32} {res : Int32} (hf : m_X12_letters N a0 i1 M = some res) : CT L0 yX12_letters prog_14_method_66_code 3 (some .int) 0 0 0 0 [.ref a0, .int i1] M (some (.int res)) M := by
  refine CT.of (by decide +kernel) (Nat.le_of_ble_eq_true rfl) fun X C E => ?_
  have C : CX X RX12 "letters" prog_14_method_66_code 3 (some .int) := C
  show EV X 3 0 [(0, .ref a0), (1, .int i1)] [] 0 0 M
  unfold m_X12_letters at hf
  refine ev_iconst (v := 0) C dX12_letters_0 (by decide) ?_
  refine ev_istore_n (l' := [(2, .int 0), (0, .ref a0), (1, .int i1)]) C dX12_letters_1 rfl (by decide) rfl ?_
  refine ev_sub [1, 2, 0] rfl ?_
  exact t_X12_letters_L2 C E   N a0 i1 0 hf
/-! FareLimitsModel route(II)I -/
theorem dX12_route_0 : decode prog_14_method_67_code 0 = .ok (.aload_n 0, 1) := by decide +kernel
theorem dX12_route_1 : decode prog_14_method_67_code 1 = .ok (.iload_n 1, 1) := by decide +kernel
theorem dX12_route_2 : decode prog_14_method_67_code 2 = .ok (.invokevirtual 249, 3) := by decide +kernel
theorem dX12_route_5 : decode prog_14_method_67_code 5 = .ok (.ifCond .ne 5, 3) := by decide +kernel
theorem dX12_route_8 : decode prog_14_method_67_code 8 = .ok (.iconst (-1), 1) := by decide +kernel
theorem dX12_route_9 : decode prog_14_method_67_code 9 = .ok (.ireturn, 1) := by decide +kernel
theorem dX12_route_10 : decode prog_14_method_67_code 10 = .ok (.iload_n 2, 1) := by decide +kernel
theorem dX12_route_11 : decode prog_14_method_67_code 11 = .ok (.bipush 10, 2) := by decide +kernel
theorem dX12_route_13 : decode prog_14_method_67_code 13 = .ok (.if_icmp .lt 37, 3) := by decide +kernel
theorem dX12_route_16 : decode prog_14_method_67_code 16 = .ok (.iload_n 2, 1) := by decide +kernel
theorem dX12_route_17 : decode prog_14_method_67_code 17 = .ok (.bipush 10, 2) := by decide +kernel
theorem dX12_route_19 : decode prog_14_method_67_code 19 = .ok (.isub, 1) := by decide +kernel
theorem dX12_route_20 : decode prog_14_method_67_code 20 = .ok (.aload_n 0, 1) := by decide +kernel
theorem dX12_route_21 : decode prog_14_method_67_code 21 = .ok (.iload_n 1, 1) := by decide +kernel
theorem dX12_route_22 : decode prog_14_method_67_code 22 = .ok (.invokevirtual 252, 3) := by decide +kernel
theorem dX12_route_25 : decode prog_14_method_67_code 25 = .ok (.if_icmp .ge 23, 3) := by decide +kernel
theorem dX12_route_28 : decode prog_14_method_67_code 28 = .ok (.aload_n 0, 1) := by decide +kernel
theorem dX12_route_29 : decode prog_14_method_67_code 29 = .ok (.getfield 9, 3) := by decide +kernel
theorem dX12_route_32 : decode prog_14_method_67_code 32 = .ok (.bipush 50, 2) := by decide +kernel
theorem dX12_route_34 : decode prog_14_method_67_code 34 = .ok (.bipush 6, 2) := by decide +kernel
theorem dX12_route_36 : decode prog_14_method_67_code 36 = .ok (.iload_n 1, 1) := by decide +kernel
theorem dX12_route_37 : decode prog_14_method_67_code 37 = .ok (.imul, 1) := by decide +kernel
theorem dX12_route_38 : decode prog_14_method_67_code 38 = .ok (.iadd, 1) := by decide +kernel
theorem dX12_route_39 : decode prog_14_method_67_code 39 = .ok (.iload_n 2, 1) := by decide +kernel
theorem dX12_route_40 : decode prog_14_method_67_code 40 = .ok (.iadd, 1) := by decide +kernel
theorem dX12_route_41 : decode prog_14_method_67_code 41 = .ok (.bipush 10, 2) := by decide +kernel
theorem dX12_route_43 : decode prog_14_method_67_code 43 = .ok (.isub, 1) := by decide +kernel
theorem dX12_route_44 : decode prog_14_method_67_code 44 = .ok (.iaload, 1) := by decide +kernel
theorem dX12_route_45 : decode prog_14_method_67_code 45 = .ok (.goto 4, 3) := by decide +kernel
theorem dX12_route_48 : decode prog_14_method_67_code 48 = .ok (.iconst (-1), 1) := by decide +kernel
theorem dX12_route_49 : decode prog_14_method_67_code 49 = .ok (.ireturn, 1) := by decide +kernel
theorem dX12_route_50 : decode prog_14_method_67_code 50 = .ok (.iload_n 2, 1) := by decide +kernel
theorem dX12_route_51 : decode prog_14_method_67_code 51 = .ok (.tableswitch 71 0 4 #[33, 39, 45, 51, 65], 33) := by decide +kernel
theorem dX12_route_84 : decode prog_14_method_67_code 84 = .ok (.aload_n 0, 1) := by decide +kernel
theorem dX12_route_85 : decode prog_14_method_67_code 85 = .ok (.iload_n 1, 1) := by decide +kernel
theorem dX12_route_86 : decode prog_14_method_67_code 86 = .ok (.invokevirtual 229, 3) := by decide +kernel
theorem dX12_route_89 : decode prog_14_method_67_code 89 = .ok (.ireturn, 1) := by decide +kernel
theorem dX12_route_90 : decode prog_14_method_67_code 90 = .ok (.aload_n 0, 1) := by decide +kernel
theorem dX12_route_91 : decode prog_14_method_67_code 91 = .ok (.iload_n 1, 1) := by decide +kernel
theorem dX12_route_92 : decode prog_14_method_67_code 92 = .ok (.invokevirtual 235, 3) := by decide +kernel
theorem dX12_route_95 : decode prog_14_method_67_code 95 = .ok (.ireturn, 1) := by decide +kernel
theorem dX12_route_96 : decode prog_14_method_67_code 96 = .ok (.aload_n 0, 1) := by decide +kernel
theorem dX12_route_97 : decode prog_14_method_67_code 97 = .ok (.iload_n 1, 1) := by decide +kernel
theorem dX12_route_98 : decode prog_14_method_67_code 98 = .ok (.invokevirtual 242, 3) := by decide +kernel
theorem dX12_route_101 : decode prog_14_method_67_code 101 = .ok (.ireturn, 1) := by decide +kernel
theorem dX12_route_102 : decode prog_14_method_67_code 102 = .ok (.aload_n 0, 1) := by decide +kernel
theorem dX12_route_103 : decode prog_14_method_67_code 103 = .ok (.iload_n 1, 1) := by decide +kernel
theorem dX12_route_104 : decode prog_14_method_67_code 104 = .ok (.invokevirtual 255, 3) := by decide +kernel
theorem dX12_route_107 : decode prog_14_method_67_code 107 = .ok (.ifCond .eq 7, 3) := by decide +kernel
theorem dX12_route_110 : decode prog_14_method_67_code 110 = .ok (.iconst 1, 1) := by decide +kernel
theorem dX12_route_111 : decode prog_14_method_67_code 111 = .ok (.goto 4, 3) := by decide +kernel
theorem dX12_route_114 : decode prog_14_method_67_code 114 = .ok (.iconst 0, 1) := by decide +kernel
theorem dX12_route_115 : decode prog_14_method_67_code 115 = .ok (.ireturn, 1) := by decide +kernel
theorem dX12_route_116 : decode prog_14_method_67_code 116 = .ok (.aload_n 0, 1) := by decide +kernel
theorem dX12_route_117 : decode prog_14_method_67_code 117 = .ok (.iload_n 1, 1) := by decide +kernel
theorem dX12_route_118 : decode prog_14_method_67_code 118 = .ok (.invokevirtual 252, 3) := by decide +kernel
theorem dX12_route_121 : decode prog_14_method_67_code 121 = .ok (.ireturn, 1) := by decide +kernel
theorem dX12_route_122 : decode prog_14_method_67_code 122 = .ok (.iconst (-1), 1) := by decide +kernel
theorem dX12_route_123 : decode prog_14_method_67_code 123 = .ok (.ireturn, 1) := by decide +kernel
def m_X12_route (N : Nat) (a0 : Nat) (i1 : Int32) (i2 : Int32) (M : mM) : Option (Int32 × mM) :=
  (oO M a0 12).bind fun _ =>
  (m_X12_isRoute a0 i1 M).bind fun x3 =>
  if x3 = 0 then (
    some ((-1), M)) else (
    if i2 < 10 then (
      if i2 = 0 then (
        (oO M a0 12).bind fun _ =>
        (m_X12_legs a0 i1 M).bind fun x23 =>
        some (x23, M)) else (
        if i2 = 1 then (
          (oO M a0 12).bind fun _ =>
          (m_X12_fee a0 i1 M).bind fun x19 =>
          some (x19, M)) else (
          if i2 = 2 then (
            (oO M a0 12).bind fun _ =>
            (m_X12_wanted a0 i1 M).bind fun x15 =>
            some (x15, M)) else (
            if i2 = 3 then (
              (oO M a0 12).bind fun _ =>
              (m_X12_isIn N a0 i1 M).bind fun x11 =>
              if x11.1 = 0 then (
                some (0, x11.2)) else (
                some (1, x11.2))) else (
              if i2 = 4 then (
                (oO M a0 12).bind fun _ =>
                (m_X12_letters N a0 i1 M).bind fun x7 =>
                some (x7, M)) else (
                some ((-1), M))))))) else (
      (oO M a0 12).bind fun _ =>
      (m_X12_letters N a0 i1 M).bind fun x27 =>
      if x27 ≤ (i2 - 10) then (
        some ((-1), M)) else (
        (fR M a0 12 0).bind fun x29 =>
        (aI 0 M x29 (((50 + (6 * i1)) + i2) - 10)).bind fun x31 =>
        some (x31, M))))
set_option maxHeartbeats 4000000 in
set_option maxRecDepth 100000 in
theorem t_X12_route {L0 : Launch} {M : mM} {N : Nat} {a0 : Nat} {i1 : Int32} {i2 : Int32} {res : Int32 × mM} (hf : m_X12_route N a0 i1 i2 M = some res) : CT L0 yX12_route prog_14_method_67_code 3 (some .int) 5 116 0 0 [.ref a0, .int i1, .int i2] M (some (.int res.1)) res.2 := by
  refine CT.of (by decide +kernel) (Nat.le_of_ble_eq_true rfl) fun X C E => ?_
  have C : CX X RX12 "route" prog_14_method_67_code 3 (some .int) := C
  show EV X 3 0 [(0, .ref a0), (1, .int i1), (2, .int i2)] [] 0 0 M
  unfold m_X12_route at hf
  refine ev_aload_n C dX12_route_0 rfl (q := 0) rfl ?_
  refine ev_iload_n C dX12_route_1 rfl (q := 1) rfl ?_
  obtain ⟨_, e1, hf⟩ := obnd hf
  obtain ⟨fs2, e1⟩ := oO_eq e1
  obtain ⟨x3, e4, hf⟩ := obnd hf
  refine ev_callV0 (As := [.int i1]) (st := []) C rfl e1 (t_X12_isRoute e4) rfl hd_X12_isRoute rfl kw_1499 kw_1501 kw_87 kw_43 kw_1502 (mRoom.of E (Nat.le_of_ble_eq_true rfl) (Nat.le_of_ble_eq_true rfl) (Nat.le_refl 0) (Nat.le_refl 0)) (Nat.le_of_ble_eq_true rfl) dX12_route_2 ?_
  refine ev_if_ne (tgt := 10) C dX12_route_5 (by decide) (fun hc => ?_) (fun hc => ?_)
  · have hf := oie hf hc
    refine ev_iload_n C dX12_route_10 rfl (q := 2) rfl ?_
    refine ev_bipush (v := 10) C dX12_route_11 (by decide) ?_
    refine ev_icmp_lt (tgt := 50) C dX12_route_13 (by decide) (fun hc => ?_) (fun hc => ?_)
    · have hf := oit hf hc
      refine ev_iload_n C dX12_route_50 rfl (q := 2) rfl ?_
      by_cases h0 : i2 = 0
      · have hf := oit hf h0
        refine ev_tableIn (off := 33) (tgt := 84) C dX12_route_51 (by rw [h0]; decide) (by rw [h0]; decide) (by rw [h0]; rfl) (by decide) ?_
        refine ev_aload_n C dX12_route_84 rfl (q := 0) rfl ?_
        refine ev_iload_n C dX12_route_85 rfl (q := 1) rfl ?_
        obtain ⟨_, e21, hf⟩ := obnd hf
        obtain ⟨fs22, e21⟩ := oO_eq e21
        obtain ⟨x23, e24, hf⟩ := obnd hf
        refine ev_callV0 (As := [.int i1]) (st := []) C rfl e21 (t_X12_legs e24) rfl hd_X12_legs rfl kw_1507 kw_1509 kw_87 kw_45 kw_1510 (mRoom.of E (Nat.le_of_ble_eq_true rfl) (Nat.le_of_ble_eq_true rfl) (Nat.le_refl 0) (Nat.le_refl 0)) (Nat.le_of_ble_eq_true rfl) dX12_route_86 ?_
        obtain rfl := Option.some.inj hf
        exact ev_iret C E (Nat.le_refl 0) (Nat.le_refl 0) dX12_route_89
      · have hf := oie hf h0
        by_cases h1 : i2 = 1
        · have hf := oit hf h1
          refine ev_tableIn (off := 39) (tgt := 90) C dX12_route_51 (by rw [h1]; decide) (by rw [h1]; decide) (by rw [h1]; rfl) (by decide) ?_
          refine ev_aload_n C dX12_route_90 rfl (q := 0) rfl ?_
          refine ev_iload_n C dX12_route_91 rfl (q := 1) rfl ?_
          obtain ⟨_, e17, hf⟩ := obnd hf
          obtain ⟨fs18, e17⟩ := oO_eq e17
          obtain ⟨x19, e20, hf⟩ := obnd hf
          refine ev_callV0 (As := [.int i1]) (st := []) C rfl e17 (t_X12_fee e20) rfl hd_X12_fee rfl kw_1515 kw_1517 kw_87 kw_47 kw_1518 (mRoom.of E (Nat.le_of_ble_eq_true rfl) (Nat.le_of_ble_eq_true rfl) (Nat.le_refl 0) (Nat.le_refl 0)) (Nat.le_of_ble_eq_true rfl) dX12_route_92 ?_
          obtain rfl := Option.some.inj hf
          exact ev_iret C E (Nat.le_refl 0) (Nat.le_refl 0) dX12_route_95
        · have hf := oie hf h1
          by_cases h2 : i2 = 2
          · have hf := oit hf h2
            refine ev_tableIn (off := 45) (tgt := 96) C dX12_route_51 (by rw [h2]; decide) (by rw [h2]; decide) (by rw [h2]; rfl) (by decide) ?_
            refine ev_aload_n C dX12_route_96 rfl (q := 0) rfl ?_
            refine ev_iload_n C dX12_route_97 rfl (q := 1) rfl ?_
            obtain ⟨_, e13, hf⟩ := obnd hf
            obtain ⟨fs14, e13⟩ := oO_eq e13
            obtain ⟨x15, e16, hf⟩ := obnd hf
            refine ev_callV0 (As := [.int i1]) (st := []) C rfl e13 (t_X12_wanted e16) rfl hd_X12_wanted rfl kw_1527 kw_1529 kw_87 kw_49 kw_1530 (mRoom.of E (Nat.le_of_ble_eq_true rfl) (Nat.le_of_ble_eq_true rfl) (Nat.le_refl 0) (Nat.le_refl 0)) (Nat.le_of_ble_eq_true rfl) dX12_route_98 ?_
            obtain rfl := Option.some.inj hf
            exact ev_iret C E (Nat.le_refl 0) (Nat.le_refl 0) dX12_route_101
          · have hf := oie hf h2
            by_cases h3 : i2 = 3
            · have hf := oit hf h3
              refine ev_tableIn (off := 51) (tgt := 102) C dX12_route_51 (by rw [h3]; decide) (by rw [h3]; decide) (by rw [h3]; rfl) (by decide) ?_
              refine ev_aload_n C dX12_route_102 rfl (q := 0) rfl ?_
              refine ev_iload_n C dX12_route_103 rfl (q := 1) rfl ?_
              obtain ⟨_, e9, hf⟩ := obnd hf
              obtain ⟨fs10, e9⟩ := oO_eq e9
              obtain ⟨x11, e12, hf⟩ := obnd hf
              refine ev_callV0 (As := [.int i1]) (st := []) C rfl e9 (t_X12_isIn e12) rfl hd_X12_isIn rfl kw_1539 kw_1541 kw_87 kw_51 kw_1542 (mRoom.of E (Nat.le_of_ble_eq_true rfl) (Nat.le_of_ble_eq_true rfl) (Nat.le_refl 0) (Nat.le_refl 0)) (Nat.le_of_ble_eq_true rfl) dX12_route_104 ?_
              refine ev_if_eq (tgt := 114) C dX12_route_107 (by decide) (fun hc => ?_) (fun hc => ?_)
              · have hf := oit hf hc
                refine ev_iconst (v := 0) C dX12_route_114 (by decide) ?_
                obtain rfl := Option.some.inj hf
                exact ev_iret C E (Nat.le_refl 0) (Nat.le_refl 0) dX12_route_115
              · have hf := oie hf hc
                refine ev_iconst (v := 1) C dX12_route_110 (by decide) ?_
                refine ev_goto (tgt := 115) C dX12_route_111 (by decide) ?_
                obtain rfl := Option.some.inj hf
                exact ev_iret C E (Nat.le_refl 0) (Nat.le_refl 0) dX12_route_115
            · have hf := oie hf h3
              by_cases h4 : i2 = 4
              · have hf := oit hf h4
                refine ev_tableIn (off := 65) (tgt := 116) C dX12_route_51 (by rw [h4]; decide) (by rw [h4]; decide) (by rw [h4]; rfl) (by decide) ?_
                refine ev_aload_n C dX12_route_116 rfl (q := 0) rfl ?_
                refine ev_iload_n C dX12_route_117 rfl (q := 1) rfl ?_
                obtain ⟨_, e5, hf⟩ := obnd hf
                obtain ⟨fs6, e5⟩ := oO_eq e5
                obtain ⟨x7, e8, hf⟩ := obnd hf
                refine ev_callV0 (As := [.int i1]) (st := []) C rfl e5 (t_X12_letters e8) rfl hd_X12_letters rfl kw_1535 kw_1537 kw_87 kw_50 kw_1538 (mRoom.of E (Nat.le_of_ble_eq_true rfl) (Nat.le_of_ble_eq_true rfl) (Nat.le_refl 0) (Nat.le_refl 0)) (Nat.le_of_ble_eq_true rfl) dX12_route_118 ?_
                obtain rfl := Option.some.inj hf
                exact ev_iret C E (Nat.le_refl 0) (Nat.le_refl 0) dX12_route_121
              · have hf := oie hf h4
                refine ev_tableOut (tgt := 122) C dX12_route_51 (tab_out (lo := 0) (n := 5) (lt_s (lt_s (lt_s (lt_s (lt_s lt_0 h0) h1) h2) h3) h4) (by decide) (by decide)) (by decide) ?_
                refine ev_iconst (v := (-1)) C dX12_route_122 (by decide) ?_
                obtain rfl := Option.some.inj hf
                exact ev_iret C E (Nat.le_refl 0) (Nat.le_refl 0) dX12_route_123
    · have hf := oie hf hc
      refine ev_iload_n C dX12_route_16 rfl (q := 2) rfl ?_
      refine ev_bipush (v := 10) C dX12_route_17 (by decide) ?_
      refine ev_isub C dX12_route_19 ?_
      refine ev_aload_n C dX12_route_20 rfl (q := 0) rfl ?_
      refine ev_iload_n C dX12_route_21 rfl (q := 1) rfl ?_
      obtain ⟨_, e25, hf⟩ := obnd hf
      obtain ⟨fs26, e25⟩ := oO_eq e25
      obtain ⟨x27, e28, hf⟩ := obnd hf
      refine ev_callV0 (As := [.int i1]) (st := [.int (i2 - 10)]) C rfl e25 (t_X12_letters e28) rfl hd_X12_letters rfl kw_1535 kw_1537 kw_87 kw_50 kw_1538 (mRoom.of E (Nat.le_of_ble_eq_true rfl) (Nat.le_of_ble_eq_true rfl) (Nat.le_refl 0) (Nat.le_refl 0)) (Nat.le_of_ble_eq_true rfl) dX12_route_22 ?_
      refine ev_icmp_ge (tgt := 48) C dX12_route_25 (by decide) (fun hc => ?_) (fun hc => ?_)
      · have hf := oit hf hc
        refine ev_iconst (v := (-1)) C dX12_route_48 (by decide) ?_
        obtain rfl := Option.some.inj hf
        exact ev_iret C E (Nat.le_refl 0) (Nat.le_refl 0) dX12_route_49
      · have hf := oie hf hc
        refine ev_aload_n C dX12_route_28 rfl (q := 0) rfl ?_
        obtain ⟨x29, e30, hf⟩ := obnd hf
        refine ev_get (k := 0) C ok_12 dX12_route_29 (by decide) kw_1159 (fR_V e30) ?_
        refine ev_bipush (v := 50) C dX12_route_32 (by decide) ?_
        refine ev_bipush (v := 6) C dX12_route_34 (by decide) ?_
        refine ev_iload_n C dX12_route_36 rfl (q := 1) rfl ?_
        refine ev_imul C dX12_route_37 ?_
        refine ev_iadd C dX12_route_38 ?_
        refine ev_iload_n C dX12_route_39 rfl (q := 2) rfl ?_
        refine ev_iadd C dX12_route_40 ?_
        refine ev_bipush (v := 10) C dX12_route_41 (by decide) ?_
        refine ev_isub C dX12_route_43 ?_
        obtain ⟨x31, e32, hf⟩ := obnd hf
        refine ev_iald C dX12_route_44 e32 ?_
        refine ev_goto (tgt := 49) C dX12_route_45 (by decide) ?_
        obtain rfl := Option.some.inj hf
        exact ev_iret C E (Nat.le_refl 0) (Nat.le_refl 0) dX12_route_49
  · have hf := oit hf hc
    refine ev_iconst (v := (-1)) C dX12_route_8 (by decide) ?_
    obtain rfl := Option.some.inj hf
    exact ev_iret C E (Nat.le_refl 0) (Nat.le_refl 0) dX12_route_9

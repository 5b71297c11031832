/-! FareLimits$Route <init>(IIII)V -/
theorem dX6_init_0 : decode prog_8_method_1_code 0 = .ok (.aload_n 0, 1) := by decide +kernel
theorem dX6_init_1 : decode prog_8_method_1_code 1 = .ok (.invokespecial 3, 3) := by decide +kernel
theorem dX6_init_4 : decode prog_8_method_1_code 4 = .ok (.aload_n 0, 1) := by decide +kernel
theorem dX6_init_5 : decode prog_8_method_1_code 5 = .ok (.iload_n 1, 1) := by decide +kernel
theorem dX6_init_6 : decode prog_8_method_1_code 6 = .ok (.putfield 9, 3) := by decide +kernel
theorem dX6_init_9 : decode prog_8_method_1_code 9 = .ok (.aload_n 0, 1) := by decide +kernel
theorem dX6_init_10 : decode prog_8_method_1_code 10 = .ok (.iload_n 2, 1) := by decide +kernel
theorem dX6_init_11 : decode prog_8_method_1_code 11 = .ok (.putfield 15, 3) := by decide +kernel
theorem dX6_init_14 : decode prog_8_method_1_code 14 = .ok (.aload_n 0, 1) := by decide +kernel
theorem dX6_init_15 : decode prog_8_method_1_code 15 = .ok (.iload_n 3, 1) := by decide +kernel
theorem dX6_init_16 : decode prog_8_method_1_code 16 = .ok (.putfield 18, 3) := by decide +kernel
theorem dX6_init_19 : decode prog_8_method_1_code 19 = .ok (.aload_n 0, 1) := by decide +kernel
theorem dX6_init_20 : decode prog_8_method_1_code 20 = .ok (.iload 4, 2) := by decide +kernel
theorem dX6_init_22 : decode prog_8_method_1_code 22 = .ok (.putfield 21, 3) := by decide +kernel
theorem dX6_init_25 : decode prog_8_method_1_code 25 = .ok (.return_, 1) := by decide +kernel
def m_X6_init (a0 : Nat) (i1 : Int32) (i2 : Int32) (i3 : Int32) (i4 : Int32) (M : mM) : Option (mM) :=
  (sV M a0 6 0 (.int i1)).bind fun M1 =>
  (sV M1 a0 6 1 (.int i2)).bind fun M3 =>
  (sV M3 a0 6 2 (.int i3)).bind fun M5 =>
  (sV M5 a0 6 3 (.int i4)).bind fun M7 =>
  some M7
set_option maxHeartbeats 4000000 in
set_option maxRecDepth 100000 in
theorem t_X6_init {L0 : Launch} {M : mM} {a0 : Nat} {i1 : Int32} {i2 : Int32} {i3 : Int32} {i4 : Int32} {res : mM} (hf : m_X6_init a0 i1 i2 i3 i4 M = some res) : CT L0 yX6_init prog_8_method_1_code 5 none 1 20 0 0 [.ref a0, .int i1, .int i2, .int i3, .int i4] M none res := by
  refine CT.of (by decide +kernel) (Nat.le_of_ble_eq_true rfl) fun X C E => ?_
  have C : CX X RX6 "<init>" prog_8_method_1_code 5 none := C
  show EV X 5 0 [(0, .ref a0), (1, .int i1), (2, .int i2), (3, .int i3), (4, .int i4)] [] 0 0 M
  unfold m_X6_init at hf
  refine ev_aload_n C dX6_init_0 rfl (q := 0) rfl ?_
  refine ev_objInit C kw_746 kw_104 kw_105 (mfr E (by decide)) (mlo E (by decide)) (Nat.le_of_ble_eq_true rfl) dX6_init_1 ?_
  refine ev_aload_n C dX6_init_4 rfl (q := 0) rfl ?_
  refine ev_iload_n C dX6_init_5 rfl (q := 1) rfl ?_
  obtain ⟨M1, e2, hf⟩ := obnd hf
  refine ev_putF (k := 0) C ok_6 dX6_init_6 (by decide) kw_747 rfl rfl ⟨rfl, rfl⟩ e2 ?_
  refine ev_aload_n C dX6_init_9 rfl (q := 0) rfl ?_
  refine ev_iload_n C dX6_init_10 rfl (q := 2) rfl ?_
  obtain ⟨M3, e4, hf⟩ := obnd hf
  refine ev_putF (k := 1) C ok_6 dX6_init_11 (by decide) kw_750 rfl rfl ⟨rfl, rfl⟩ e4 ?_
  refine ev_aload_n C dX6_init_14 rfl (q := 0) rfl ?_
  refine ev_iload_n C dX6_init_15 rfl (q := 3) rfl ?_
  obtain ⟨M5, e6, hf⟩ := obnd hf
  refine ev_putF (k := 2) C ok_6 dX6_init_16 (by decide) kw_752 rfl rfl ⟨rfl, rfl⟩ e6 ?_
  refine ev_aload_n C dX6_init_19 rfl (q := 0) rfl ?_
  refine ev_iload C dX6_init_20 (q := 4) rfl ?_
  obtain ⟨M7, e8, hf⟩ := obnd hf
  refine ev_putF (k := 3) C ok_6 dX6_init_22 (by decide) kw_755 rfl rfl ⟨rfl, rfl⟩ e8 ?_
  obtain rfl := Option.some.inj hf
  exact ev_vret C E (Nat.le_refl 0) (Nat.le_refl 0) dX6_init_25
/-! FareLimits$Tape faultAsBook(LFareLimits$Network;)I -/
theorem dX7_faultAsBook_0 : decode prog_9_method_8_code 0 = .ok (.aload_n 0, 1) := by decide +kernel
theorem dX7_faultAsBook_1 : decode prog_9_method_8_code 1 = .ok (.iconst 0, 1) := by decide +kernel
theorem dX7_faultAsBook_2 : decode prog_9_method_8_code 2 = .ok (.putfield 40, 3) := by decide +kernel
theorem dX7_faultAsBook_5 : decode prog_9_method_8_code 5 = .ok (.aload_n 0, 1) := by decide +kernel
theorem dX7_faultAsBook_6 : decode prog_9_method_8_code 6 = .ok (.iconst 0, 1) := by decide +kernel
theorem dX7_faultAsBook_7 : decode prog_9_method_8_code 7 = .ok (.putfield 43, 3) := by decide +kernel
theorem dX7_faultAsBook_10 : decode prog_9_method_8_code 10 = .ok (.iconst 0, 1) := by decide +kernel
theorem dX7_faultAsBook_11 : decode prog_9_method_8_code 11 = .ok (.istore_n 2, 1) := by decide +kernel
theorem dX7_faultAsBook_12 : decode prog_9_method_8_code 12 = .ok (.iload_n 2, 1) := by decide +kernel
theorem dX7_faultAsBook_13 : decode prog_9_method_8_code 13 = .ok (.bipush 13, 2) := by decide +kernel
theorem dX7_faultAsBook_15 : decode prog_9_method_8_code 15 = .ok (.if_icmp .ge 105, 3) := by decide +kernel
theorem dX7_faultAsBook_18 : decode prog_9_method_8_code 18 = .ok (.aload_n 0, 1) := by decide +kernel
theorem dX7_faultAsBook_19 : decode prog_9_method_8_code 19 = .ok (.aload_n 1, 1) := by decide +kernel
theorem dX7_faultAsBook_20 : decode prog_9_method_8_code 20 = .ok (.invokevirtual 46, 3) := by decide +kernel
theorem dX7_faultAsBook_23 : decode prog_9_method_8_code 23 = .ok (.istore_n 3, 1) := by decide +kernel
theorem dX7_faultAsBook_24 : decode prog_9_method_8_code 24 = .ok (.iload_n 3, 1) := by decide +kernel
theorem dX7_faultAsBook_25 : decode prog_9_method_8_code 25 = .ok (.iconst (-1), 1) := by decide +kernel
theorem dX7_faultAsBook_26 : decode prog_9_method_8_code 26 = .ok (.if_icmp .eq 5, 3) := by decide +kernel
theorem dX7_faultAsBook_29 : decode prog_9_method_8_code 29 = .ok (.iload_n 3, 1) := by decide +kernel
theorem dX7_faultAsBook_30 : decode prog_9_method_8_code 30 = .ok (.ireturn, 1) := by decide +kernel
theorem dX7_faultAsBook_31 : decode prog_9_method_8_code 31 = .ok (.aload_n 0, 1) := by decide +kernel
theorem dX7_faultAsBook_32 : decode prog_9_method_8_code 32 = .ok (.getfield 17, 3) := by decide +kernel
theorem dX7_faultAsBook_35 : decode prog_9_method_8_code 35 = .ok (.aload_n 0, 1) := by decide +kernel
theorem dX7_faultAsBook_36 : decode prog_9_method_8_code 36 = .ok (.getfield 43, 3) := by decide +kernel
theorem dX7_faultAsBook_39 : decode prog_9_method_8_code 39 = .ok (.new 15, 3) := by decide +kernel
theorem dX7_faultAsBook_42 : decode prog_9_method_8_code 42 = .ok (.dup, 1) := by decide +kernel
theorem dX7_faultAsBook_43 : decode prog_9_method_8_code 43 = .ok (.aload_n 0, 1) := by decide +kernel
theorem dX7_faultAsBook_44 : decode prog_9_method_8_code 44 = .ok (.getfield 50, 3) := by decide +kernel
theorem dX7_faultAsBook_47 : decode prog_9_method_8_code 47 = .ok (.aload_n 0, 1) := by decide +kernel
theorem dX7_faultAsBook_48 : decode prog_9_method_8_code 48 = .ok (.getfield 53, 3) := by decide +kernel
theorem dX7_faultAsBook_51 : decode prog_9_method_8_code 51 = .ok (.aload_n 0, 1) := by decide +kernel
theorem dX7_faultAsBook_52 : decode prog_9_method_8_code 52 = .ok (.getfield 56, 3) := by decide +kernel
theorem dX7_faultAsBook_55 : decode prog_9_method_8_code 55 = .ok (.aload_n 0, 1) := by decide +kernel
theorem dX7_faultAsBook_56 : decode prog_9_method_8_code 56 = .ok (.getfield 59, 3) := by decide +kernel
theorem dX7_faultAsBook_59 : decode prog_9_method_8_code 59 = .ok (.invokespecial 62, 3) := by decide +kernel
theorem dX7_faultAsBook_62 : decode prog_9_method_8_code 62 = .ok (.aastore, 1) := by decide +kernel
theorem dX7_faultAsBook_63 : decode prog_9_method_8_code 63 = .ok (.aload_n 0, 1) := by decide +kernel
theorem dX7_faultAsBook_64 : decode prog_9_method_8_code 64 = .ok (.dup, 1) := by decide +kernel
theorem dX7_faultAsBook_65 : decode prog_9_method_8_code 65 = .ok (.getfield 43, 3) := by decide +kernel
theorem dX7_faultAsBook_68 : decode prog_9_method_8_code 68 = .ok (.iconst 1, 1) := by decide +kernel
theorem dX7_faultAsBook_69 : decode prog_9_method_8_code 69 = .ok (.iadd, 1) := by decide +kernel
theorem dX7_faultAsBook_70 : decode prog_9_method_8_code 70 = .ok (.putfield 43, 3) := by decide +kernel
theorem dX7_faultAsBook_73 : decode prog_9_method_8_code 73 = .ok (.aload_n 0, 1) := by decide +kernel
theorem dX7_faultAsBook_74 : decode prog_9_method_8_code 74 = .ok (.getfield 40, 3) := by decide +kernel
theorem dX7_faultAsBook_77 : decode prog_9_method_8_code 77 = .ok (.aload_n 0, 1) := by decide +kernel
theorem dX7_faultAsBook_78 : decode prog_9_method_8_code 78 = .ok (.getfield 21, 3) := by decide +kernel
theorem dX7_faultAsBook_81 : decode prog_9_method_8_code 81 = .ok (.if_icmp .ne 5, 3) := by decide +kernel
theorem dX7_faultAsBook_84 : decode prog_9_method_8_code 84 = .ok (.iconst (-1), 1) := by decide +kernel
theorem dX7_faultAsBook_85 : decode prog_9_method_8_code 85 = .ok (.ireturn, 1) := by decide +kernel
theorem dX7_faultAsBook_86 : decode prog_9_method_8_code 86 = .ok (.aload_n 0, 1) := by decide +kernel
theorem dX7_faultAsBook_87 : decode prog_9_method_8_code 87 = .ok (.aload_n 0, 1) := by decide +kernel
theorem dX7_faultAsBook_88 : decode prog_9_method_8_code 88 = .ok (.getfield 40, 3) := by decide +kernel
theorem dX7_faultAsBook_91 : decode prog_9_method_8_code 91 = .ok (.invokevirtual 25, 3) := by decide +kernel
theorem dX7_faultAsBook_94 : decode prog_9_method_8_code 94 = .ok (.bipush 59, 2) := by decide +kernel
theorem dX7_faultAsBook_96 : decode prog_9_method_8_code 96 = .ok (.if_icmp .eq 8, 3) := by decide +kernel
theorem dX7_faultAsBook_99 : decode prog_9_method_8_code 99 = .ok (.aload_n 0, 1) := by decide +kernel
theorem dX7_faultAsBook_100 : decode prog_9_method_8_code 100 = .ok (.getfield 40, 3) := by decide +kernel
theorem dX7_faultAsBook_103 : decode prog_9_method_8_code 103 = .ok (.ireturn, 1) := by decide +kernel
theorem dX7_faultAsBook_104 : decode prog_9_method_8_code 104 = .ok (.aload_n 0, 1) := by decide +kernel
theorem dX7_faultAsBook_105 : decode prog_9_method_8_code 105 = .ok (.dup, 1) := by decide +kernel
theorem dX7_faultAsBook_106 : decode prog_9_method_8_code 106 = .ok (.getfield 40, 3) := by decide +kernel
theorem dX7_faultAsBook_109 : decode prog_9_method_8_code 109 = .ok (.iconst 1, 1) := by decide +kernel
theorem dX7_faultAsBook_110 : decode prog_9_method_8_code 110 = .ok (.iadd, 1) := by decide +kernel
theorem dX7_faultAsBook_111 : decode prog_9_method_8_code 111 = .ok (.putfield 40, 3) := by decide +kernel
theorem dX7_faultAsBook_114 : decode prog_9_method_8_code 114 = .ok (.iinc 2 1, 3) := by decide +kernel
theorem dX7_faultAsBook_117 : decode prog_9_method_8_code 117 = .ok (.goto (-105), 3) := by decide +kernel
theorem dX7_faultAsBook_120 : decode prog_9_method_8_code 120 = .ok (.aload_n 0, 1) := by decide +kernel
theorem dX7_faultAsBook_121 : decode prog_9_method_8_code 121 = .ok (.getfield 40, 3) := by decide +kernel
theorem dX7_faultAsBook_124 : decode prog_9_method_8_code 124 = .ok (.ireturn, 1) := by decide +kernel
def m_X7_faultAsBook_L12 (N : Nat) (mc ms : Nat)  : Nat → Nat → Nat → Int32 → mM → Nat → Nat → Option (Int32 × mM)
  | 0, _, _, _, _, _, _ => none
  | n + 1, a0, a1, i2, M, kc, ks =>
    if 13 ≤ i2 then (
      (fI M a0 7 4).bind fun x1 =>
      some (x1, M)) else (
      (oO M a0 7).bind fun _ =>
      (m_X7_faultOfPart N a0 a1 M).bind fun x5 =>
      if x5.1 = (-1) then (
        (fR x5.2 a0 7 2).bind fun x7 =>
        (fI x5.2 a0 7 3).bind fun x9 =>
        (oif (kc + 1 ≤ mc ∧ ks + 4 ≤ ms)).bind fun _ =>
        (fI (x5.2 ++ [.inr (6, [.int 0, .int 0, .int 0, .int 0])]) a0 7 5).bind fun x11 =>
        (fI (x5.2 ++ [.inr (6, [.int 0, .int 0, .int 0, .int 0])]) a0 7 6).bind fun x13 =>
        (fI (x5.2 ++ [.inr (6, [.int 0, .int 0, .int 0, .int 0])]) a0 7 7).bind fun x15 =>
        (fI (x5.2 ++ [.inr (6, [.int 0, .int 0, .int 0, .int 0])]) a0 7 8).bind fun x17 =>
        (m_X6_init x5.2.length x11 x13 x15 x17 (x5.2 ++ [.inr (6, [.int 0, .int 0, .int 0, .int 0])])).bind fun x19 =>
        (uQ 6 6 x19 x7 x9 (some x5.2.length)).bind fun M21 =>
        (fI M21 a0 7 3).bind fun x23 =>
        (sV M21 a0 7 3 (.int (x23 + 1))).bind fun M25 =>
        (fI M25 a0 7 4).bind fun x27 =>
        (fI M25 a0 7 1).bind fun x29 =>
        if x27 = x29 then (
          some ((-1), M25)) else (
          (fI M25 a0 7 4).bind fun x31 =>
          (oO M25 a0 7).bind fun _ =>
          (m_X7_byteAt a0 x31 M25).bind fun x35 =>
          if x35 = 59 then (
            (fI M25 a0 7 4).bind fun x37 =>
            (sV M25 a0 7 4 (.int (x37 + 1))).bind fun M39 =>
            (m_X7_faultAsBook_L12 N mc ms  n) a0 a1 (i2 + 1) M39 (kc + 1) (ks + 4)) else (
            (fI M25 a0 7 4).bind fun x41 =>
            some (x41, M25)))) else (
        some (x5.1, x5.2)))
set_option maxHeartbeats 4000000 in
set_option maxRecDepth 100000 in
theorem t_X7_faultAsBook_L12 {X : mX} {L0 : Launch} {res : Int32 × mM} {N : Nat} {mc ms : Nat} (C : CX X RX7 "faultAsBook" prog_9_method_8_code 4 (some .int)) (E : EX X L0 4 87 mc ms (some (.int res.1)) res.2)   : ∀ (n : Nat) (a0 : Nat) (a1 : Nat) (i2 : Int32) (M : mM) (kc ks : Nat) (hk : kc ≤ mc ∧ ks ≤ ms), m_X7_faultAsBook_L12 N mc ms  n a0 a1 i2 M kc ks = some res → EV X 4 12 [(0, .ref a0), (1, .ref a1), (2, .int i2)] [] kc ks M := by
  intro n
  induction n with
  | zero => intro a0 a1 i2 M kc ks hk hf; cases (show (none : Option (Int32 × mM)) = some res from hf)
  | succ n ih =>
    intro a0 a1 i2 M kc ks hk hf
    rw [m_X7_faultAsBook_L12] at hf
    refine ev_iload_n C dX7_faultAsBook_12 rfl (q := 2) rfl ?_
    refine ev_bipush (v := 13) C dX7_faultAsBook_13 (by decide) ?_
    refine ev_icmp_ge (tgt := 120) C dX7_faultAsBook_15 (by decide) (fun hc => ?_) (fun hc => ?_)
    · have hf := oit hf hc
      refine ev_aload_n C dX7_faultAsBook_120 rfl (q := 0) rfl ?_
      obtain ⟨x1, e2, hf⟩ := obnd hf
      refine ev_get (k := 4) C ok_7 dX7_faultAsBook_121 (by decide) kw_271 (fI_V e2) ?_
      obtain rfl := Option.some.inj hf
      exact ev_iret C E hk.1 hk.2 dX7_faultAsBook_124
    · have hf := oie hf hc
      refine ev_aload_n C dX7_faultAsBook_18 rfl (q := 0) rfl ?_
      refine ev_aload_n C dX7_faultAsBook_19 rfl (q := 1) rfl ?_
      obtain ⟨_, e3, hf⟩ := obnd hf
      obtain ⟨fs4, e3⟩ := oO_eq e3
      obtain ⟨x5, e6, hf⟩ := obnd hf
      refine ev_callV0 (As := [.ref a1]) (st := []) C rfl e3 (t_X7_faultOfPart e6) rfl hd_X7_faultOfPart rfl kw_699 kw_701 kw_79 kw_6 kw_702 (mRoom.of E (Nat.le_of_ble_eq_true rfl) (Nat.le_of_ble_eq_true rfl) hk.1 hk.2) (Nat.le_of_ble_eq_true rfl) dX7_faultAsBook_20 ?_
      refine ev_istore_n (l' := [(3, .int x5.1), (0, .ref a0), (1, .ref a1), (2, .int i2)]) C dX7_faultAsBook_23 rfl (by decide) rfl ?_
      refine ev_iload_n C dX7_faultAsBook_24 rfl (q := 0) rfl ?_
      refine ev_iconst (v := (-1)) C dX7_faultAsBook_25 (by decide) ?_
      refine ev_icmp_eq (tgt := 31) C dX7_faultAsBook_26 (by decide) (fun hc => ?_) (fun hc => ?_)
      · have hf := oit hf hc
        refine ev_aload_n C dX7_faultAsBook_31 rfl (q := 1) rfl ?_
        obtain ⟨x7, e8, hf⟩ := obnd hf
        refine ev_get (k := 2) C ok_7 dX7_faultAsBook_32 (by decide) kw_267 (fR_V e8) ?_
        refine ev_aload_n C dX7_faultAsBook_35 rfl (q := 1) rfl ?_
        obtain ⟨x9, e10, hf⟩ := obnd hf
        refine ev_get (k := 3) C ok_7 dX7_faultAsBook_36 (by decide) kw_269 (fI_V e10) ?_
        obtain ⟨_, hk, hf⟩ := obnd hf
        have hk := oif_eq hk
        refine ev_new (fs := [.int 0, .int 0, .int 0, .int 0]) C ok_6 dX7_faultAsBook_39 kw_263 kw_742 kw_92 (fun j hj => newf_6 _ j hj) (mcap E hk).1 (mcap E hk).2 ?_
        refine ev_dup C dX7_faultAsBook_42 rfl ?_
        refine ev_aload_n C dX7_faultAsBook_43 rfl (q := 1) rfl ?_
        obtain ⟨x11, e12, hf⟩ := obnd hf
        refine ev_get (k := 5) C ok_7 dX7_faultAsBook_44 (by decide) kw_272 (fI_V e12) ?_
        refine ev_aload_n C dX7_faultAsBook_47 rfl (q := 1) rfl ?_
        obtain ⟨x13, e14, hf⟩ := obnd hf
        refine ev_get (k := 6) C ok_7 dX7_faultAsBook_48 (by decide) kw_273 (fI_V e14) ?_
        refine ev_aload_n C dX7_faultAsBook_51 rfl (q := 1) rfl ?_
        obtain ⟨x15, e16, hf⟩ := obnd hf
        refine ev_get (k := 7) C ok_7 dX7_faultAsBook_52 (by decide) kw_274 (fI_V e16) ?_
        refine ev_aload_n C dX7_faultAsBook_55 rfl (q := 1) rfl ?_
        obtain ⟨x17, e18, hf⟩ := obnd hf
        refine ev_get (k := 8) C ok_7 dX7_faultAsBook_56 (by decide) kw_275 (fI_V e18) ?_
        obtain ⟨x19, e20, hf⟩ := obnd hf
        refine ev_callI0 (As := [.int x11, .int x13, .int x15, .int x17]) (st := [.ref x5.2.length, .int x9, .ref x7]) C (t_X6_init e20) rfl hd_X6_init rfl kw_743 kw_744 kw_92 kw_745 (mRoom.of E (Nat.le_of_ble_eq_true rfl) (Nat.le_of_ble_eq_true rfl) hk.1 hk.2) (Nat.le_of_ble_eq_true rfl) dX7_faultAsBook_59 ?_
        obtain ⟨M21, e22, hf⟩ := obnd hf
        refine ev_astr C (t := 6) (ci := 6) rfl rfl dX7_faultAsBook_62 e22 ?_
        refine ev_aload_n C dX7_faultAsBook_63 rfl (q := 1) rfl ?_
        refine ev_dup C dX7_faultAsBook_64 rfl ?_
        obtain ⟨x23, e24, hf⟩ := obnd hf
        refine ev_get (k := 3) C ok_7 dX7_faultAsBook_65 (by decide) kw_269 (fI_V e24) ?_
        refine ev_iconst (v := 1) C dX7_faultAsBook_68 (by decide) ?_
        refine ev_iadd C dX7_faultAsBook_69 ?_
        obtain ⟨M25, e26, hf⟩ := obnd hf
        refine ev_put (k := 3) C ok_7 dX7_faultAsBook_70 (by decide) kw_269 rfl ⟨rfl, rfl⟩ e26 ?_
        refine ev_aload_n C dX7_faultAsBook_73 rfl (q := 1) rfl ?_
        obtain ⟨x27, e28, hf⟩ := obnd hf
        refine ev_get (k := 4) C ok_7 dX7_faultAsBook_74 (by decide) kw_271 (fI_V e28) ?_
        refine ev_aload_n C dX7_faultAsBook_77 rfl (q := 1) rfl ?_
        obtain ⟨x29, e30, hf⟩ := obnd hf
        refine ev_get (k := 1) C ok_7 dX7_faultAsBook_78 (by decide) kw_265 (fI_V e30) ?_
        refine ev_icmp_ne (tgt := 86) C dX7_faultAsBook_81 (by decide) (fun hc => ?_) (fun hc => ?_)
        · have hf := oie hf hc
          refine ev_aload_n C dX7_faultAsBook_86 rfl (q := 1) rfl ?_
          refine ev_aload_n C dX7_faultAsBook_87 rfl (q := 1) rfl ?_
          obtain ⟨x31, e32, hf⟩ := obnd hf
          refine ev_get (k := 4) C ok_7 dX7_faultAsBook_88 (by decide) kw_271 (fI_V e32) ?_
          obtain ⟨_, e33, hf⟩ := obnd hf
          obtain ⟨fs34, e33⟩ := oO_eq e33
          obtain ⟨x35, e36, hf⟩ := obnd hf
          refine ev_callV0 (As := [.int x31]) (st := []) C rfl e33 (t_X7_byteAt e36) rfl hd_X7_byteAt rfl kw_707 kw_709 kw_79 kw_8 kw_710 (mRoom.of E (Nat.le_of_ble_eq_true rfl) (Nat.le_of_ble_eq_true rfl) hk.1 hk.2) (Nat.le_of_ble_eq_true rfl) dX7_faultAsBook_91 ?_
          refine ev_bipush (v := 59) C dX7_faultAsBook_94 (by decide) ?_
          refine ev_icmp_eq (tgt := 104) C dX7_faultAsBook_96 (by decide) (fun hc => ?_) (fun hc => ?_)
          · have hf := oit hf hc
            refine ev_aload_n C dX7_faultAsBook_104 rfl (q := 1) rfl ?_
            refine ev_dup C dX7_faultAsBook_105 rfl ?_
            obtain ⟨x37, e38, hf⟩ := obnd hf
            refine ev_get (k := 4) C ok_7 dX7_faultAsBook_106 (by decide) kw_271 (fI_V e38) ?_
            refine ev_iconst (v := 1) C dX7_faultAsBook_109 (by decide) ?_
            refine ev_iadd C dX7_faultAsBook_110 ?_
            obtain ⟨M39, e40, hf⟩ := obnd hf
            refine ev_put (k := 4) C ok_7 dX7_faultAsBook_111 (by decide) kw_271 rfl ⟨rfl, rfl⟩ e40 ?_
            refine ev_iinc (v := i2 + 1) (l' := [(2, .int (i2 + 1)), (3, .int x5.1), (0, .ref a0), (1, .ref a1)]) C dX7_faultAsBook_114 (q := 3) rfl rfl (by decide) rfl ?_
            refine ev_goto (tgt := 12) C dX7_faultAsBook_117 (by decide) ?_
            refine ev_sub [2, 3, 0] rfl ?_
            exact ih a0 a1 (i2 + 1) M39 (kc + 1) (ks + 4) hk hf
          · have hf := oie hf hc
            refine ev_aload_n C dX7_faultAsBook_99 rfl (q := 1) rfl ?_
            obtain ⟨x41, e42, hf⟩ := obnd hf
            refine ev_get (k := 4) C ok_7 dX7_faultAsBook_100 (by decide) kw_271 (fI_V e42) ?_
            obtain rfl := Option.some.inj hf
            exact ev_iret C E hk.1 hk.2 dX7_faultAsBook_103
        · have hf := oit hf hc
          refine ev_iconst (v := (-1)) C dX7_faultAsBook_84 (by decide) ?_
          obtain rfl := Option.some.inj hf
          exact ev_iret C E hk.1 hk.2 dX7_faultAsBook_85
      · have hf := oie hf hc
        refine ev_iload_n C dX7_faultAsBook_29 rfl (q := 0) rfl ?_
        obtain rfl := Option.some.inj hf
        exact ev_iret C E hk.1 hk.2 dX7_faultAsBook_30
def m_X7_faultAsBook (N : Nat) (mc ms : Nat) (a0 : Nat) (a1 : Nat) (M : mM) : Option (Int32 × mM) :=
  (sV M a0 7 4 (.int 0)).bind fun M1 =>
  (sV M1 a0 7 3 (.int 0)).bind fun M3 =>
  m_X7_faultAsBook_L12 N mc ms  N a0 a1 0 M3 0 0
set_option maxHeartbeats 4000000 in
set_option maxRecDepth 100000 in
theorem t_X7_faultAsBook {L0 : Launch} {M : mM} {N : Nat} {mc ms : Nat} {a0 : Nat} {a1 : Nat} {res : Int32 × mM} (hf : m_X7_faultAsBook N mc ms a0 a1 M = some res) : CT L0 yX7_faultAsBook prog_9_method_8_code 4 (some .int) 4 87 mc ms [.ref a0, .ref a1] M (some (.int res.1)) res.2 := by
  refine CT.of (by decide +kernel) (Nat.le_of_ble_eq_true rfl) fun X C E => ?_
  have C : CX X RX7 "faultAsBook" prog_9_method_8_code 4 (some .int) := C
  show EV X 4 0 [(0, .ref a0), (1, .ref a1)] [] 0 0 M
  unfold m_X7_faultAsBook at hf
  have hk : 0 ≤ mc ∧ 0 ≤ ms := ⟨Nat.zero_le _, Nat.zero_le _⟩
  refine ev_aload_n C dX7_faultAsBook_0 rfl (q := 0) rfl ?_
  refine ev_iconst (v := 0) C dX7_faultAsBook_1 (by decide) ?_
  obtain ⟨M1, e2, hf⟩ := obnd hf
  refine ev_put (k := 4) C ok_7 dX7_faultAsBook_2 (by decide) kw_271 rfl ⟨rfl, rfl⟩ e2 ?_
  refine ev_aload_n C dX7_faultAsBook_5 rfl (q := 0) rfl ?_
  refine ev_iconst (v := 0) C dX7_faultAsBook_6 (by decide) ?_
  obtain ⟨M3, e4, hf⟩ := obnd hf
  refine ev_put (k := 3) C ok_7 dX7_faultAsBook_7 (by decide) kw_269 rfl ⟨rfl, rfl⟩ e4 ?_
  refine ev_iconst (v := 0) C dX7_faultAsBook_10 (by decide) ?_
  refine ev_istore_n (l' := [(2, .int 0), (0, .ref a0), (1, .ref a1)]) C dX7_faultAsBook_11 rfl (by decide) rfl ?_
  refine ev_sub [1, 2, 0] rfl ?_
  exact t_X7_faultAsBook_L12 C E   N a0 a1 0 M3 0 0 hk hf
/-! FareLimits$Network add(LFareLimits$Route;)V -/
theorem dX4_add_0 : decode prog_6_method_4_code 0 = .ok (.aload_n 0, 1) := by decide +kernel
theorem dX4_add_1 : decode prog_6_method_4_code 1 = .ok (.getfield 30, 3) := by decide +kernel
theorem dX4_add_4 : decode prog_6_method_4_code 4 = .ok (.bipush 12, 2) := by decide +kernel
theorem dX4_add_6 : decode prog_6_method_4_code 6 = .ok (.if_icmp .lt 4, 3) := by decide +kernel
theorem dX4_add_9 : decode prog_6_method_4_code 9 = .ok (.return_, 1) := by decide +kernel
theorem dX4_add_10 : decode prog_6_method_4_code 10 = .ok (.aload_n 0, 1) := by decide +kernel
theorem dX4_add_11 : decode prog_6_method_4_code 11 = .ok (.getfield 30, 3) := by decide +kernel
theorem dX4_add_14 : decode prog_6_method_4_code 14 = .ok (.istore_n 2, 1) := by decide +kernel
theorem dX4_add_15 : decode prog_6_method_4_code 15 = .ok (.aload_n 0, 1) := by decide +kernel
theorem dX4_add_16 : decode prog_6_method_4_code 16 = .ok (.getfield 30, 3) := by decide +kernel
theorem dX4_add_19 : decode prog_6_method_4_code 19 = .ok (.istore_n 3, 1) := by decide +kernel
theorem dX4_add_20 : decode prog_6_method_4_code 20 = .ok (.iload_n 3, 1) := by decide +kernel
theorem dX4_add_21 : decode prog_6_method_4_code 21 = .ok (.ifCond .le 45, 3) := by decide +kernel
theorem dX4_add_24 : decode prog_6_method_4_code 24 = .ok (.aload_n 0, 1) := by decide +kernel
theorem dX4_add_25 : decode prog_6_method_4_code 25 = .ok (.getfield 20, 3) := by decide +kernel
theorem dX4_add_28 : decode prog_6_method_4_code 28 = .ok (.iload_n 3, 1) := by decide +kernel
theorem dX4_add_29 : decode prog_6_method_4_code 29 = .ok (.iconst 1, 1) := by decide +kernel
theorem dX4_add_30 : decode prog_6_method_4_code 30 = .ok (.isub, 1) := by decide +kernel
theorem dX4_add_31 : decode prog_6_method_4_code 31 = .ok (.aaload, 1) := by decide +kernel
theorem dX4_add_32 : decode prog_6_method_4_code 32 = .ok (.getfield 34, 3) := by decide +kernel
theorem dX4_add_35 : decode prog_6_method_4_code 35 = .ok (.aload_n 1, 1) := by decide +kernel
theorem dX4_add_36 : decode prog_6_method_4_code 36 = .ok (.getfield 34, 3) := by decide +kernel
theorem dX4_add_39 : decode prog_6_method_4_code 39 = .ok (.if_icmp .le 27, 3) := by decide +kernel
theorem dX4_add_42 : decode prog_6_method_4_code 42 = .ok (.aload_n 0, 1) := by decide +kernel
theorem dX4_add_43 : decode prog_6_method_4_code 43 = .ok (.getfield 20, 3) := by decide +kernel
theorem dX4_add_46 : decode prog_6_method_4_code 46 = .ok (.iload_n 3, 1) := by decide +kernel
theorem dX4_add_47 : decode prog_6_method_4_code 47 = .ok (.aload_n 0, 1) := by decide +kernel
theorem dX4_add_48 : decode prog_6_method_4_code 48 = .ok (.getfield 20, 3) := by decide +kernel
theorem dX4_add_51 : decode prog_6_method_4_code 51 = .ok (.iload_n 3, 1) := by decide +kernel
theorem dX4_add_52 : decode prog_6_method_4_code 52 = .ok (.iconst 1, 1) := by decide +kernel
theorem dX4_add_53 : decode prog_6_method_4_code 53 = .ok (.isub, 1) := by decide +kernel
theorem dX4_add_54 : decode prog_6_method_4_code 54 = .ok (.aaload, 1) := by decide +kernel
theorem dX4_add_55 : decode prog_6_method_4_code 55 = .ok (.aastore, 1) := by decide +kernel
theorem dX4_add_56 : decode prog_6_method_4_code 56 = .ok (.iload_n 3, 1) := by decide +kernel
theorem dX4_add_57 : decode prog_6_method_4_code 57 = .ok (.iconst 1, 1) := by decide +kernel
theorem dX4_add_58 : decode prog_6_method_4_code 58 = .ok (.isub, 1) := by decide +kernel
theorem dX4_add_59 : decode prog_6_method_4_code 59 = .ok (.istore_n 2, 1) := by decide +kernel
theorem dX4_add_60 : decode prog_6_method_4_code 60 = .ok (.iinc 3 (-1), 3) := by decide +kernel
theorem dX4_add_63 : decode prog_6_method_4_code 63 = .ok (.goto (-43), 3) := by decide +kernel
theorem dX4_add_66 : decode prog_6_method_4_code 66 = .ok (.aload_n 0, 1) := by decide +kernel
theorem dX4_add_67 : decode prog_6_method_4_code 67 = .ok (.getfield 20, 3) := by decide +kernel
theorem dX4_add_70 : decode prog_6_method_4_code 70 = .ok (.iload_n 2, 1) := by decide +kernel
theorem dX4_add_71 : decode prog_6_method_4_code 71 = .ok (.aload_n 1, 1) := by decide +kernel
theorem dX4_add_72 : decode prog_6_method_4_code 72 = .ok (.aastore, 1) := by decide +kernel
theorem dX4_add_73 : decode prog_6_method_4_code 73 = .ok (.aload_n 0, 1) := by decide +kernel
theorem dX4_add_74 : decode prog_6_method_4_code 74 = .ok (.dup, 1) := by decide +kernel
theorem dX4_add_75 : decode prog_6_method_4_code 75 = .ok (.getfield 30, 3) := by decide +kernel
theorem dX4_add_78 : decode prog_6_method_4_code 78 = .ok (.iconst 1, 1) := by decide +kernel
theorem dX4_add_79 : decode prog_6_method_4_code 79 = .ok (.iadd, 1) := by decide +kernel
theorem dX4_add_80 : decode prog_6_method_4_code 80 = .ok (.putfield 30, 3) := by decide +kernel
theorem dX4_add_83 : decode prog_6_method_4_code 83 = .ok (.return_, 1) := by decide +kernel
def m_X4_add_J66 (N : Nat)  (a0 : Nat) (a1 : Nat) (i2 : Int32) (M : mM) : Option (mM) :=
  (fR M a0 4 2).bind fun x1 =>
  (uQ 6 6 M x1 i2 (some a1)).bind fun M3 =>
  (fI M3 a0 4 3).bind fun x5 =>
  (sV M3 a0 4 3 (.int (x5 + 1))).bind fun M7 =>
  some M7
set_option maxHeartbeats 4000000 in
set_option maxRecDepth 100000 in
theorem t_X4_add_J66 {X : mX} {L0 : Launch} {res : mM} {N : Nat} (C : CX X RX4 "add" prog_6_method_4_code 4 none) (E : EX X L0 0 0 0 0 none res)   (a0 : Nat) (a1 : Nat) (i2 : Int32) (M : mM) (hf : m_X4_add_J66 N  a0 a1 i2 M = some res) : EV X 4 66 [(0, .ref a0), (1, .ref a1), (2, .int i2)] [] 0 0 M := by
  unfold m_X4_add_J66 at hf
  refine ev_aload_n C dX4_add_66 rfl (q := 0) rfl ?_
  obtain ⟨x1, e2, hf⟩ := obnd hf
  refine ev_get (k := 2) C ok_4 dX4_add_67 (by decide) kw_126 (fR_V e2) ?_
  refine ev_iload_n C dX4_add_70 rfl (q := 2) rfl ?_
  refine ev_aload_n C dX4_add_71 rfl (q := 1) rfl ?_
  obtain ⟨M3, e4, hf⟩ := obnd hf
  refine ev_astr C (t := 6) (ci := 6) rfl rfl dX4_add_72 e4 ?_
  refine ev_aload_n C dX4_add_73 rfl (q := 0) rfl ?_
  refine ev_dup C dX4_add_74 rfl ?_
  obtain ⟨x5, e6, hf⟩ := obnd hf
  refine ev_get (k := 3) C ok_4 dX4_add_75 (by decide) kw_128 (fI_V e6) ?_
  refine ev_iconst (v := 1) C dX4_add_78 (by decide) ?_
  refine ev_iadd C dX4_add_79 ?_
  obtain ⟨M7, e8, hf⟩ := obnd hf
  refine ev_put (k := 3) C ok_4 dX4_add_80 (by decide) kw_128 rfl ⟨rfl, rfl⟩ e8 ?_
  obtain rfl := Option.some.inj hf
  exact ev_vret C E (Nat.le_refl 0) (Nat.le_refl 0) dX4_add_83
def m_X4_add_L20 (N : Nat)  : Nat → Nat → Nat → Int32 → Int32 → mM → Option (mM)
  | 0, _, _, _, _, _ => none
  | n + 1, a0, a1, i2, i3, M =>
    if i3 ≤ 0 then (
      m_X4_add_J66 N  a0 a1 i2 M) else (
      (fR M a0 4 2).bind fun x1 =>
      (aR 6 M x1 (i3 - 1)).bind fun x3 =>
      (fI M x3 6 0).bind fun x5 =>
      (fI M a1 6 0).bind fun x7 =>
      if x5 ≤ x7 then (
        m_X4_add_J66 N  a0 a1 i2 M) else (
        (fR M a0 4 2).bind fun x9 =>
        (fR M a0 4 2).bind fun x11 =>
        (aQ 6 M x11 (i3 - 1)).bind fun x13 =>
        (uQ 6 6 M x9 i3 x13).bind fun M15 =>
        (m_X4_add_L20 N  n) a0 a1 (i3 - 1) (i3 + (-1)) M15))
set_option maxHeartbeats 4000000 in
set_option maxRecDepth 100000 in
theorem t_X4_add_L20 {X : mX} {L0 : Launch} {res : mM} {N : Nat} (C : CX X RX4 "add" prog_6_method_4_code 4 none) (E : EX X L0 0 0 0 0 none res)   : ∀ (n : Nat) (a0 : Nat) (a1 : Nat) (i2 : Int32) (i3 : Int32) (M : mM), m_X4_add_L20 N  n a0 a1 i2 i3 M = some res → EV X 4 20 [(0, .ref a0), (1, .ref a1), (2, .int i2), (3, .int i3)] [] 0 0 M := by
  intro n
  induction n with
  | zero => intro a0 a1 i2 i3 M hf; cases (show (none : Option (mM)) = some res from hf)
  | succ n ih =>
    intro a0 a1 i2 i3 M hf
    rw [m_X4_add_L20] at hf
    refine ev_iload_n C dX4_add_20 rfl (q := 3) rfl ?_
    refine ev_if_le (tgt := 66) C dX4_add_21 (by decide) (fun hc => ?_) (fun hc => ?_)
    · have hf := oit hf hc
      refine ev_sub [0, 1, 2] rfl ?_
      exact t_X4_add_J66 C E   a0 a1 i2 M hf
    · have hf := oie hf hc
      refine ev_aload_n C dX4_add_24 rfl (q := 0) rfl ?_
      obtain ⟨x1, e2, hf⟩ := obnd hf
      refine ev_get (k := 2) C ok_4 dX4_add_25 (by decide) kw_126 (fR_V e2) ?_
      refine ev_iload_n C dX4_add_28 rfl (q := 3) rfl ?_
      refine ev_iconst (v := 1) C dX4_add_29 (by decide) ?_
      refine ev_isub C dX4_add_30 ?_
      obtain ⟨x3, e4, hf⟩ := obnd hf
      refine ev_aldr C (t := 6) rfl rfl dX4_add_31 e4 ?_
      obtain ⟨x5, e6, hf⟩ := obnd hf
      refine ev_get (k := 0) C ok_6 dX4_add_32 (by decide) kw_748 (fI_V e6) ?_
      refine ev_aload_n C dX4_add_35 rfl (q := 1) rfl ?_
      obtain ⟨x7, e8, hf⟩ := obnd hf
      refine ev_get (k := 0) C ok_6 dX4_add_36 (by decide) kw_748 (fI_V e8) ?_
      refine ev_icmp_le (tgt := 66) C dX4_add_39 (by decide) (fun hc => ?_) (fun hc => ?_)
      · have hf := oit hf hc
        refine ev_sub [0, 1, 2] rfl ?_
        exact t_X4_add_J66 C E   a0 a1 i2 M hf
      · have hf := oie hf hc
        refine ev_aload_n C dX4_add_42 rfl (q := 0) rfl ?_
        obtain ⟨x9, e10, hf⟩ := obnd hf
        refine ev_get (k := 2) C ok_4 dX4_add_43 (by decide) kw_126 (fR_V e10) ?_
        refine ev_iload_n C dX4_add_46 rfl (q := 3) rfl ?_
        refine ev_aload_n C dX4_add_47 rfl (q := 0) rfl ?_
        obtain ⟨x11, e12, hf⟩ := obnd hf
        refine ev_get (k := 2) C ok_4 dX4_add_48 (by decide) kw_126 (fR_V e12) ?_
        refine ev_iload_n C dX4_add_51 rfl (q := 3) rfl ?_
        refine ev_iconst (v := 1) C dX4_add_52 (by decide) ?_
        refine ev_isub C dX4_add_53 ?_
        obtain ⟨x13, e14, hf⟩ := obnd hf
        refine ev_aldq C (t := 6) rfl rfl dX4_add_54 e14 ?_
        obtain ⟨M15, e16, hf⟩ := obnd hf
        refine ev_astq C (t := 6) (ci := 6) rfl rfl dX4_add_55 e16 ?_
        refine ev_iload_n C dX4_add_56 rfl (q := 3) rfl ?_
        refine ev_iconst (v := 1) C dX4_add_57 (by decide) ?_
        refine ev_isub C dX4_add_58 ?_
        refine ev_istore_n (l' := [(2, .int (i3 - 1)), (0, .ref a0), (1, .ref a1), (3, .int i3)]) C dX4_add_59 rfl (by decide) rfl ?_
        refine ev_iinc (v := i3 + (-1)) (l' := [(3, .int (i3 + (-1))), (2, .int (i3 - 1)), (0, .ref a0), (1, .ref a1)]) C dX4_add_60 (q := 3) rfl rfl (by decide) rfl ?_
        refine ev_goto (tgt := 20) C dX4_add_63 (by decide) ?_
        refine ev_sub [2, 3, 1, 0] rfl ?_
        exact ih a0 a1 (i3 - 1) (i3 + (-1)) M15 hf
def m_X4_add (N : Nat) (a0 : Nat) (a1 : Nat) (M : mM) : Option (mM) :=
  (fI M a0 4 3).bind fun x1 =>
  if x1 < 12 then (
    (fI M a0 4 3).bind fun x3 =>
    (fI M a0 4 3).bind fun x5 =>
    m_X4_add_L20 N  N a0 a1 x3 x5 M) else (
    some M)
set_option maxHeartbeats 4000000 in
set_option maxRecDepth 100000 in
theorem t_X4_add {L0 : Launch} {M : mM} {N : Nat} {a0 : Nat} {a1 : Nat} {res : mM} (hf : m_X4_add N a0 a1 M = some res) : CT L0 yX4_add prog_6_method_4_code 4 none 0 0 0 0 [.ref a0, .ref a1] M none res := by
  refine CT.of (by decide +kernel) (Nat.le_of_ble_eq_true rfl) fun X C E => ?_
  have C : CX X RX4 "add" prog_6_method_4_code 4 none := C
  show EV X 4 0 [(0, .ref a0), (1, .ref a1)] [] 0 0 M
  unfold m_X4_add at hf
  refine ev_aload_n C dX4_add_0 rfl (q := 0) rfl ?_
  obtain ⟨x1, e2, hf⟩ := obnd hf
  refine ev_get (k := 3) C ok_4 dX4_add_1 (by decide) kw_128 (fI_V e2) ?_
  refine ev_bipush (v := 12) C dX4_add_4 (by decide) ?_
  refine ev_icmp_lt (tgt := 10) C dX4_add_6 (by decide) (fun hc => ?_) (fun hc => ?_)
  · have hf := oit hf hc
    refine ev_aload_n C dX4_add_10 rfl (q := 0) rfl ?_
    obtain ⟨x3, e4, hf⟩ := obnd hf
    refine ev_get (k := 3) C ok_4 dX4_add_11 (by decide) kw_128 (fI_V e4) ?_
    refine ev_istore_n (l' := [(2, .int x3), (0, .ref a0), (1, .ref a1)]) C dX4_add_14 rfl (by decide) rfl ?_
    refine ev_aload_n C dX4_add_15 rfl (q := 1) rfl ?_
    obtain ⟨x5, e6, hf⟩ := obnd hf
    refine ev_get (k := 3) C ok_4 dX4_add_16 (by decide) kw_128 (fI_V e6) ?_
    refine ev_istore_n (l' := [(3, .int x5), (2, .int x3), (0, .ref a0), (1, .ref a1)]) C dX4_add_19 rfl (by decide) rfl ?_
    refine ev_sub [2, 3, 1, 0] rfl ?_
    exact t_X4_add_L20 C E   N a0 a1 x3 x5 M hf
  · have hf := oie hf hc
    obtain rfl := Option.some.inj hf
    exact ev_vret C E (Nat.le_refl 0) (Nat.le_refl 0) dX4_add_9
/-! FareLimits book()I -/
theorem dX11_book_0 : decode prog_1_method_27_code 0 = .ok (.aload_n 0, 1) := by decide +kernel
theorem dX11_book_1 : decode prog_1_method_27_code 1 = .ok (.getfield 45, 3) := by decide +kernel
theorem dX11_book_4 : decode prog_1_method_27_code 4 = .ok (.aload_n 0, 1) := by decide +kernel
theorem dX11_book_5 : decode prog_1_method_27_code 5 = .ok (.getfield 12, 3) := by decide +kernel
theorem dX11_book_8 : decode prog_1_method_27_code 8 = .ok (.getfield 202, 3) := by decide +kernel
theorem dX11_book_11 : decode prog_1_method_27_code 11 = .ok (.invokevirtual 223, 3) := by decide +kernel
theorem dX11_book_14 : decode prog_1_method_27_code 14 = .ok (.istore_n 1, 1) := by decide +kernel
theorem dX11_book_15 : decode prog_1_method_27_code 15 = .ok (.aload_n 0, 1) := by decide +kernel
theorem dX11_book_16 : decode prog_1_method_27_code 16 = .ok (.getfield 45, 3) := by decide +kernel
theorem dX11_book_19 : decode prog_1_method_27_code 19 = .ok (.invokevirtual 220, 3) := by decide +kernel
theorem dX11_book_22 : decode prog_1_method_27_code 22 = .ok (.iload_n 1, 1) := by decide +kernel
theorem dX11_book_23 : decode prog_1_method_27_code 23 = .ok (.iconst (-1), 1) := by decide +kernel
theorem dX11_book_24 : decode prog_1_method_27_code 24 = .ok (.if_icmp .eq 8, 3) := by decide +kernel
theorem dX11_book_27 : decode prog_1_method_27_code 27 = .ok (.bipush (-100), 2) := by decide +kernel
theorem dX11_book_29 : decode prog_1_method_27_code 29 = .ok (.iload_n 1, 1) := by decide +kernel
theorem dX11_book_30 : decode prog_1_method_27_code 30 = .ok (.isub, 1) := by decide +kernel
theorem dX11_book_31 : decode prog_1_method_27_code 31 = .ok (.ireturn, 1) := by decide +kernel
theorem dX11_book_32 : decode prog_1_method_27_code 32 = .ok (.iconst 0, 1) := by decide +kernel
theorem dX11_book_33 : decode prog_1_method_27_code 33 = .ok (.istore_n 2, 1) := by decide +kernel
theorem dX11_book_34 : decode prog_1_method_27_code 34 = .ok (.iload_n 2, 1) := by decide +kernel
theorem dX11_book_35 : decode prog_1_method_27_code 35 = .ok (.aload_n 0, 1) := by decide +kernel
theorem dX11_book_36 : decode prog_1_method_27_code 36 = .ok (.getfield 45, 3) := by decide +kernel
theorem dX11_book_39 : decode prog_1_method_27_code 39 = .ok (.getfield 227, 3) := by decide +kernel
theorem dX11_book_42 : decode prog_1_method_27_code 42 = .ok (.if_icmp .ge 28, 3) := by decide +kernel
theorem dX11_book_45 : decode prog_1_method_27_code 45 = .ok (.aload_n 0, 1) := by decide +kernel
theorem dX11_book_46 : decode prog_1_method_27_code 46 = .ok (.getfield 12, 3) := by decide +kernel
theorem dX11_book_49 : decode prog_1_method_27_code 49 = .ok (.getfield 202, 3) := by decide +kernel
theorem dX11_book_52 : decode prog_1_method_27_code 52 = .ok (.aload_n 0, 1) := by decide +kernel
theorem dX11_book_53 : decode prog_1_method_27_code 53 = .ok (.getfield 45, 3) := by decide +kernel
theorem dX11_book_56 : decode prog_1_method_27_code 56 = .ok (.getfield 230, 3) := by decide +kernel
theorem dX11_book_59 : decode prog_1_method_27_code 59 = .ok (.iload_n 2, 1) := by decide +kernel
theorem dX11_book_60 : decode prog_1_method_27_code 60 = .ok (.aaload, 1) := by decide +kernel
theorem dX11_book_61 : decode prog_1_method_27_code 61 = .ok (.invokevirtual 234, 3) := by decide +kernel
theorem dX11_book_64 : decode prog_1_method_27_code 64 = .ok (.iinc 2 1, 3) := by decide +kernel
theorem dX11_book_67 : decode prog_1_method_27_code 67 = .ok (.goto (-33), 3) := by decide +kernel
theorem dX11_book_70 : decode prog_1_method_27_code 70 = .ok (.aload_n 0, 1) := by decide +kernel
theorem dX11_book_71 : decode prog_1_method_27_code 71 = .ok (.getfield 45, 3) := by decide +kernel
theorem dX11_book_74 : decode prog_1_method_27_code 74 = .ok (.getfield 227, 3) := by decide +kernel
theorem dX11_book_77 : decode prog_1_method_27_code 77 = .ok (.ireturn, 1) := by decide +kernel
def m_X11_book_L34 (N : Nat) (mc ms : Nat)  : Nat → Nat → Int32 → mM → Nat → Nat → Option (Int32 × mM)
  | 0, _, _, _, _, _ => none
  | n + 1, a0, i2, M, kc, ks =>
    (fR M a0 11 6).bind fun x1 =>
    (fI M x1 7 3).bind fun x3 =>
    if x3 ≤ i2 then (
      (fR M a0 11 6).bind fun x5 =>
      (fI M x5 7 3).bind fun x7 =>
      some (x7, M)) else (
      (fR M a0 11 0).bind fun x9 =>
      (fR M x9 5 3).bind fun x11 =>
      (fR M a0 11 6).bind fun x13 =>
      (fR M x13 7 2).bind fun x15 =>
      (aR 6 M x15 i2).bind fun x17 =>
      (oO M x11 4).bind fun _ =>
      (m_X4_add N x11 x17 M).bind fun x21 =>
      (m_X11_book_L34 N mc ms  n) a0 (i2 + 1) x21 kc ks)
set_option maxHeartbeats 4000000 in
set_option maxRecDepth 100000 in
theorem t_X11_book_L34 {X : mX} {L0 : Launch} {res : Int32 × mM} {N : Nat} {mc ms : Nat} (C : CX X RX11 "book" prog_1_method_27_code 3 (some .int)) (E : EX X L0 5 110 mc ms (some (.int res.1)) res.2)   : ∀ (n : Nat) (a0 : Nat) (i2 : Int32) (M : mM) (kc ks : Nat) (hk : kc ≤ mc ∧ ks ≤ ms), m_X11_book_L34 N mc ms  n a0 i2 M kc ks = some res → EV X 3 34 [(0, .ref a0), (2, .int i2)] [] kc ks M := by
  intro n
  induction n with
  | zero => intro a0 i2 M kc ks hk hf; cases (show (none : Option (Int32 × mM)) = some res from hf)
  | succ n ih =>
    intro a0 i2 M kc ks hk hf
    rw [m_X11_book_L34] at hf
    refine ev_iload_n C dX11_book_34 rfl (q := 1) rfl ?_
    refine ev_aload_n C dX11_book_35 rfl (q := 0) rfl ?_
    obtain ⟨x1, e2, hf⟩ := obnd hf
    refine ev_get (k := 6) C ok_11 dX11_book_36 (by decide) kw_398 (fR_V e2) ?_
    obtain ⟨x3, e4, hf⟩ := obnd hf
    refine ev_get (k := 3) C ok_7 dX11_book_39 (by decide) kw_270 (fI_V e4) ?_
    refine ev_icmp_ge (tgt := 70) C dX11_book_42 (by decide) (fun hc => ?_) (fun hc => ?_)
    · have hf := oit hf hc
      refine ev_aload_n C dX11_book_70 rfl (q := 0) rfl ?_
      obtain ⟨x5, e6, hf⟩ := obnd hf
      refine ev_get (k := 6) C ok_11 dX11_book_71 (by decide) kw_398 (fR_V e6) ?_
      obtain ⟨x7, e8, hf⟩ := obnd hf
      refine ev_get (k := 3) C ok_7 dX11_book_74 (by decide) kw_270 (fI_V e8) ?_
      obtain rfl := Option.some.inj hf
      exact ev_iret C E hk.1 hk.2 dX11_book_77
    · have hf := oie hf hc
      refine ev_aload_n C dX11_book_45 rfl (q := 0) rfl ?_
      obtain ⟨x9, e10, hf⟩ := obnd hf
      refine ev_get (k := 0) C ok_11 dX11_book_46 (by decide) kw_392 (fR_V e10) ?_
      obtain ⟨x11, e12, hf⟩ := obnd hf
      refine ev_get (k := 3) C ok_5 dX11_book_49 (by decide) kw_193 (fR_V e12) ?_
      refine ev_aload_n C dX11_book_52 rfl (q := 0) rfl ?_
      obtain ⟨x13, e14, hf⟩ := obnd hf
      refine ev_get (k := 6) C ok_11 dX11_book_53 (by decide) kw_398 (fR_V e14) ?_
      obtain ⟨x15, e16, hf⟩ := obnd hf
      refine ev_get (k := 2) C ok_7 dX11_book_56 (by decide) kw_268 (fR_V e16) ?_
      refine ev_iload_n C dX11_book_59 rfl (q := 1) rfl ?_
      obtain ⟨x17, e18, hf⟩ := obnd hf
      refine ev_aldr C (t := 6) rfl rfl dX11_book_60 e18 ?_
      obtain ⟨_, e19, hf⟩ := obnd hf
      obtain ⟨fs20, e19⟩ := oO_eq e19
      obtain ⟨x21, e22, hf⟩ := obnd hf
      refine ev_callV0 (As := [.ref x17]) (st := []) C rfl e19 (t_X4_add e22) rfl hd_X4_add rfl kw_767 kw_768 kw_72 kw_769 kw_770 (mRoom.of E (Nat.le_of_ble_eq_true rfl) (Nat.le_of_ble_eq_true rfl) hk.1 hk.2) (Nat.le_of_ble_eq_true rfl) dX11_book_61 ?_
      refine ev_iinc (v := i2 + 1) (l' := [(2, .int (i2 + 1)), (0, .ref a0)]) C dX11_book_64 (q := 1) rfl rfl (by decide) rfl ?_
      refine ev_goto (tgt := 34) C dX11_book_67 (by decide) ?_
      refine ev_sub [1, 0] rfl ?_
      exact ih a0 (i2 + 1) x21 kc ks hk hf
def m_X11_book (N : Nat) (mc ms : Nat) (a0 : Nat) (M : mM) : Option (Int32 × mM) :=
  (fR M a0 11 6).bind fun x1 =>
  (fR M a0 11 0).bind fun x3 =>
  (fR M x3 5 3).bind fun x5 =>
  (oO M x1 7).bind fun _ =>
  (oif (0 + mc ≤ mc ∧ 0 + ms ≤ ms)).bind fun _ =>
  (m_X7_faultAsBook N mc ms x1 x5 M).bind fun x9 =>
  (fR x9.2 a0 11 6).bind fun x11 =>
  (oO x9.2 x11 7).bind fun _ =>
  (m_X7_wipe x11 x9.2).bind fun x15 =>
  if x9.1 = (-1) then (
    m_X11_book_L34 N mc ms  N a0 0 x15 (0 + mc) (0 + ms)) else (
    some ((-100) - x9.1, x15))
set_option maxHeartbeats 4000000 in
set_option maxRecDepth 100000 in
theorem t_X11_book {L0 : Launch} {M : mM} {N : Nat} {mc ms : Nat} {a0 : Nat} {res : Int32 × mM} (hf : m_X11_book N mc ms a0 M = some res) : CT L0 yX11_book prog_1_method_27_code 3 (some .int) 5 110 mc ms [.ref a0] M (some (.int res.1)) res.2 := by
  refine CT.of (by decide +kernel) (Nat.le_of_ble_eq_true rfl) fun X C E => ?_
  have C : CX X RX11 "book" prog_1_method_27_code 3 (some .int) := C
  show EV X 3 0 [(0, .ref a0)] [] 0 0 M
  unfold m_X11_book at hf
  have hk : 0 ≤ mc ∧ 0 ≤ ms := ⟨Nat.zero_le _, Nat.zero_le _⟩
  refine ev_aload_n C dX11_book_0 rfl (q := 0) rfl ?_
  obtain ⟨x1, e2, hf⟩ := obnd hf
  refine ev_get (k := 6) C ok_11 dX11_book_1 (by decide) kw_398 (fR_V e2) ?_
  refine ev_aload_n C dX11_book_4 rfl (q := 0) rfl ?_
  obtain ⟨x3, e4, hf⟩ := obnd hf
  refine ev_get (k := 0) C ok_11 dX11_book_5 (by decide) kw_392 (fR_V e4) ?_
  obtain ⟨x5, e6, hf⟩ := obnd hf
  refine ev_get (k := 3) C ok_5 dX11_book_8 (by decide) kw_193 (fR_V e6) ?_
  obtain ⟨_, e7, hf⟩ := obnd hf
  obtain ⟨fs8, e7⟩ := oO_eq e7
  obtain ⟨_, hk, hf⟩ := obnd hf
  have hk := oif_eq hk
  obtain ⟨x9, e10, hf⟩ := obnd hf
  refine ev_callV (As := [.ref x5]) (st := []) C rfl e7 (t_X7_faultAsBook e10) rfl hd_X7_faultAsBook rfl kw_695 kw_696 kw_79 kw_697 kw_698 (mRoom.of E (Nat.le_of_ble_eq_true rfl) (Nat.le_of_ble_eq_true rfl) hk.1 hk.2) (Nat.le_of_ble_eq_true rfl) dX11_book_11 ?_
  refine ev_istore_n (l' := [(1, .int x9.1), (0, .ref a0)]) C dX11_book_14 rfl (by decide) rfl ?_
  refine ev_aload_n C dX11_book_15 rfl (q := 1) rfl ?_
  obtain ⟨x11, e12, hf⟩ := obnd hf
  refine ev_get (k := 6) C ok_11 dX11_book_16 (by decide) kw_398 (fR_V e12) ?_
  obtain ⟨_, e13, hf⟩ := obnd hf
  obtain ⟨fs14, e13⟩ := oO_eq e13
  obtain ⟨x15, e16, hf⟩ := obnd hf
  refine ev_callV0 (As := []) (st := []) C rfl e13 (t_X7_wipe e16) rfl hd_X7_wipe rfl kw_687 kw_688 kw_79 kw_689 kw_690 (mRoom.of E (Nat.le_of_ble_eq_true rfl) (Nat.le_of_ble_eq_true rfl) hk.1 hk.2) (Nat.le_of_ble_eq_true rfl) dX11_book_19 ?_
  refine ev_iload_n C dX11_book_22 rfl (q := 0) rfl ?_
  refine ev_iconst (v := (-1)) C dX11_book_23 (by decide) ?_
  refine ev_icmp_eq (tgt := 32) C dX11_book_24 (by decide) (fun hc => ?_) (fun hc => ?_)
  · have hf := oit hf hc
    refine ev_iconst (v := 0) C dX11_book_32 (by decide) ?_
    refine ev_istore_n (l' := [(2, .int 0), (1, .int x9.1), (0, .ref a0)]) C dX11_book_33 rfl (by decide) rfl ?_
    refine ev_sub [2, 0] rfl ?_
    exact t_X11_book_L34 C E   N a0 0 x15 (0 + mc) (0 + ms) hk hf
  · have hf := oie hf hc
    refine ev_bipush (v := (-100)) C dX11_book_27 (by decide) ?_
    refine ev_iload_n C dX11_book_29 rfl (q := 0) rfl ?_
    refine ev_isub C dX11_book_30 ?_
    obtain rfl := Option.some.inj hf
    exact ev_iret C E hk.1 hk.2 dX11_book_31
/-! FareLimits$Tape asName()I -/
theorem dX7_asName_0 : decode prog_9_method_7_code 0 = .ok (.iconst 0, 1) := by decide +kernel
theorem dX7_asName_1 : decode prog_9_method_7_code 1 = .ok (.istore_n 1, 1) := by decide +kernel
theorem dX7_asName_2 : decode prog_9_method_7_code 2 = .ok (.aload_n 0, 1) := by decide +kernel
theorem dX7_asName_3 : decode prog_9_method_7_code 3 = .ok (.getfield 21, 3) := by decide +kernel
theorem dX7_asName_6 : decode prog_9_method_7_code 6 = .ok (.iconst 3, 1) := by decide +kernel
theorem dX7_asName_7 : decode prog_9_method_7_code 7 = .ok (.if_icmp .gt 30, 3) := by decide +kernel
theorem dX7_asName_10 : decode prog_9_method_7_code 10 = .ok (.iconst 0, 1) := by decide +kernel
theorem dX7_asName_11 : decode prog_9_method_7_code 11 = .ok (.istore_n 2, 1) := by decide +kernel
theorem dX7_asName_12 : decode prog_9_method_7_code 12 = .ok (.iload_n 2, 1) := by decide +kernel
theorem dX7_asName_13 : decode prog_9_method_7_code 13 = .ok (.aload_n 0, 1) := by decide +kernel
theorem dX7_asName_14 : decode prog_9_method_7_code 14 = .ok (.getfield 21, 3) := by decide +kernel
theorem dX7_asName_17 : decode prog_9_method_7_code 17 = .ok (.if_icmp .ge 20, 3) := by decide +kernel
theorem dX7_asName_20 : decode prog_9_method_7_code 20 = .ok (.iload_n 1, 1) := by decide +kernel
theorem dX7_asName_21 : decode prog_9_method_7_code 21 = .ok (.iload_n 2, 1) := by decide +kernel
theorem dX7_asName_22 : decode prog_9_method_7_code 22 = .ok (.aload_n 0, 1) := by decide +kernel
theorem dX7_asName_23 : decode prog_9_method_7_code 23 = .ok (.iload_n 2, 1) := by decide +kernel
theorem dX7_asName_24 : decode prog_9_method_7_code 24 = .ok (.invokevirtual 25, 3) := by decide +kernel
theorem dX7_asName_27 : decode prog_9_method_7_code 27 = .ok (.invokestatic 36, 3) := by decide +kernel
theorem dX7_asName_30 : decode prog_9_method_7_code 30 = .ok (.istore_n 1, 1) := by decide +kernel
theorem dX7_asName_31 : decode prog_9_method_7_code 31 = .ok (.iinc 2 1, 3) := by decide +kernel
theorem dX7_asName_34 : decode prog_9_method_7_code 34 = .ok (.goto (-22), 3) := by decide +kernel
theorem dX7_asName_37 : decode prog_9_method_7_code 37 = .ok (.iload_n 1, 1) := by decide +kernel
theorem dX7_asName_38 : decode prog_9_method_7_code 38 = .ok (.ireturn, 1) := by decide +kernel
def m_X7_asName_L12 (N : Nat) (M : mM)  : Nat → Nat → Int32 → Int32 → Option (Int32)
  | 0, _, _, _ => none
  | n + 1, a0, i1, i2 =>
    (fI M a0 7 1).bind fun x1 =>
    if x1 ≤ i2 then (
      some i1) else (
      (oO M a0 7).bind fun _ =>
      (m_X7_byteAt a0 i2 M).bind fun x5 =>
      (m_X6_withLetter i1 i2 x5).bind fun x7 =>
      (m_X7_asName_L12 N M  n) a0 x7 (i2 + 1))
set_option maxHeartbeats 4000000 in
set_option maxRecDepth 100000 in
theorem t_X7_asName_L12 {X : mX} {M : mM} {L0 : Launch} {res : Int32} {N : Nat} (C : CX X RX7 "asName" prog_9_method_7_code 3 (some .int)) (E : EX X L0 1 22 0 0 (some (.int res)) M)   : ∀ (n : Nat) (a0 : Nat) (i1 : Int32) (i2 : Int32), m_X7_asName_L12 N M  n a0 i1 i2 = some res → EV X 3 12 [(0, .ref a0), (1, .int i1), (2, .int i2)] [] 0 0 M := by
  intro n
  induction n with
  | zero => intro a0 i1 i2 hf; cases (show (none : Option (Int32)) = some res from hf)
  | succ n ih =>
    intro a0 i1 i2 hf
    rw [m_X7_asName_L12] at hf
    refine ev_iload_n C dX7_asName_12 rfl (q := 2) rfl ?_
    refine ev_aload_n C dX7_asName_13 rfl (q := 0) rfl ?_
    obtain ⟨x1, e2, hf⟩ := obnd hf
    refine ev_get (k := 1) C ok_7 dX7_asName_14 (by decide) kw_265 (fI_V e2) ?_
    refine ev_icmp_ge (tgt := 37) C dX7_asName_17 (by decide) (fun hc => ?_) (fun hc => ?_)
    · have hf := oit hf hc
      refine ev_iload_n C dX7_asName_37 rfl (q := 1) rfl ?_
      obtain rfl := Option.some.inj hf
      exact ev_iret C E (Nat.le_refl 0) (Nat.le_refl 0) dX7_asName_38
    · have hf := oie hf hc
      refine ev_iload_n C dX7_asName_20 rfl (q := 1) rfl ?_
      refine ev_iload_n C dX7_asName_21 rfl (q := 2) rfl ?_
      refine ev_aload_n C dX7_asName_22 rfl (q := 0) rfl ?_
      refine ev_iload_n C dX7_asName_23 rfl (q := 2) rfl ?_
      obtain ⟨_, e3, hf⟩ := obnd hf
      obtain ⟨fs4, e3⟩ := oO_eq e3
      obtain ⟨x5, e6, hf⟩ := obnd hf
      refine ev_callV0 (As := [.int i2]) (st := [.int i2, .int i1]) C rfl e3 (t_X7_byteAt e6) rfl hd_X7_byteAt rfl kw_707 kw_709 kw_79 kw_8 kw_710 (mRoom.of E (Nat.le_of_ble_eq_true rfl) (Nat.le_of_ble_eq_true rfl) (Nat.le_refl 0) (Nat.le_refl 0)) (Nat.le_of_ble_eq_true rfl) dX7_asName_24 ?_
      obtain ⟨x7, e8, hf⟩ := obnd hf
      refine ev_callS0 (As := [.int i1, .int i2, .int x5]) (st := []) C (t_X6_withLetter e8) hd_X6_withLetter rfl kw_711 kw_712 kw_92 kw_713 (mRoom.of E (Nat.le_of_ble_eq_true rfl) (Nat.le_of_ble_eq_true rfl) (Nat.le_refl 0) (Nat.le_refl 0)) (Nat.le_of_ble_eq_true rfl) dX7_asName_27 ?_
      refine ev_istore_n (l' := [(1, .int x7), (0, .ref a0), (2, .int i2)]) C dX7_asName_30 rfl (by decide) rfl ?_
      refine ev_iinc (v := i2 + 1) (l' := [(2, .int (i2 + 1)), (1, .int x7), (0, .ref a0)]) C dX7_asName_31 (q := 2) rfl rfl (by decide) rfl ?_
      refine ev_goto (tgt := 12) C dX7_asName_34 (by decide) ?_
      refine ev_sub [2, 1, 0] rfl ?_
      exact ih a0 x7 (i2 + 1) hf
def m_X7_asName (N : Nat) (a0 : Nat) (M : mM) : Option (Int32) :=
  (fI M a0 7 1).bind fun x1 =>
  if 3 < x1 then (
    some 0) else (
    m_X7_asName_L12 N M  N a0 0 0)
set_option maxHeartbeats 4000000 in
set_option maxRecDepth 100000 in
theorem t_X7_asName {L0 : Launch} {M : mM} {N : Nat} {a0 : Nat} {res : Int32} (hf : m_X7_asName N a0 M = some res) : CT L0 yX7_asName prog_9_method_7_code 3 (some .int) 1 22 0 0 [.ref a0] M (some (.int res)) M := by
  refine CT.of (by decide +kernel) (Nat.le_of_ble_eq_true rfl) fun X C E => ?_
  have C : CX X RX7 "asName" prog_9_method_7_code 3 (some .int) := C
  show EV X 3 0 [(0, .ref a0)] [] 0 0 M
  unfold m_X7_asName at hf
  refine ev_iconst (v := 0) C dX7_asName_0 (by decide) ?_
  refine ev_istore_n (l' := [(1, .int 0), (0, .ref a0)]) C dX7_asName_1 rfl (by decide) rfl ?_
  refine ev_aload_n C dX7_asName_2 rfl (q := 1) rfl ?_
  obtain ⟨x1, e2, hf⟩ := obnd hf
  refine ev_get (k := 1) C ok_7 dX7_asName_3 (by decide) kw_265 (fI_V e2) ?_
  refine ev_iconst (v := 3) C dX7_asName_6 (by decide) ?_
  refine ev_icmp_gt (tgt := 37) C dX7_asName_7 (by decide) (fun hc => ?_) (fun hc => ?_)
  · have hf := oit hf hc
    refine ev_iload_n C dX7_asName_37 rfl (q := 0) rfl ?_
    obtain rfl := Option.some.inj hf
    exact ev_iret C E (Nat.le_refl 0) (Nat.le_refl 0) dX7_asName_38
  · have hf := oie hf hc
    refine ev_iconst (v := 0) C dX7_asName_10 (by decide) ?_
    refine ev_istore_n (l' := [(2, .int 0), (1, .int 0), (0, .ref a0)]) C dX7_asName_11 rfl (by decide) rfl ?_
    refine ev_sub [2, 1, 0] rfl ?_
    exact t_X7_asName_L12 C E   N a0 0 0 hf
/-! FareLimits$Network remove(I)V -/
theorem dX4_remove_0 : decode prog_6_method_5_code 0 = .ok (.iload_n 1, 1) := by decide +kernel
theorem dX4_remove_1 : decode prog_6_method_5_code 1 = .ok (.istore_n 2, 1) := by decide +kernel
theorem dX4_remove_2 : decode prog_6_method_5_code 2 = .ok (.iload_n 2, 1) := by decide +kernel
theorem dX4_remove_3 : decode prog_6_method_5_code 3 = .ok (.iconst 1, 1) := by decide +kernel
theorem dX4_remove_4 : decode prog_6_method_5_code 4 = .ok (.iadd, 1) := by decide +kernel
theorem dX4_remove_5 : decode prog_6_method_5_code 5 = .ok (.aload_n 0, 1) := by decide +kernel
theorem dX4_remove_6 : decode prog_6_method_5_code 6 = .ok (.getfield 30, 3) := by decide +kernel
theorem dX4_remove_9 : decode prog_6_method_5_code 9 = .ok (.if_icmp .ge 23, 3) := by decide +kernel
theorem dX4_remove_12 : decode prog_6_method_5_code 12 = .ok (.aload_n 0, 1) := by decide +kernel
theorem dX4_remove_13 : decode prog_6_method_5_code 13 = .ok (.getfield 20, 3) := by decide +kernel
theorem dX4_remove_16 : decode prog_6_method_5_code 16 = .ok (.iload_n 2, 1) := by decide +kernel
theorem dX4_remove_17 : decode prog_6_method_5_code 17 = .ok (.aload_n 0, 1) := by decide +kernel
theorem dX4_remove_18 : decode prog_6_method_5_code 18 = .ok (.getfield 20, 3) := by decide +kernel
theorem dX4_remove_21 : decode prog_6_method_5_code 21 = .ok (.iload_n 2, 1) := by decide +kernel
theorem dX4_remove_22 : decode prog_6_method_5_code 22 = .ok (.iconst 1, 1) := by decide +kernel
theorem dX4_remove_23 : decode prog_6_method_5_code 23 = .ok (.iadd, 1) := by decide +kernel
theorem dX4_remove_24 : decode prog_6_method_5_code 24 = .ok (.aaload, 1) := by decide +kernel
theorem dX4_remove_25 : decode prog_6_method_5_code 25 = .ok (.aastore, 1) := by decide +kernel
theorem dX4_remove_26 : decode prog_6_method_5_code 26 = .ok (.iinc 2 1, 3) := by decide +kernel
theorem dX4_remove_29 : decode prog_6_method_5_code 29 = .ok (.goto (-27), 3) := by decide +kernel
theorem dX4_remove_32 : decode prog_6_method_5_code 32 = .ok (.aload_n 0, 1) := by decide +kernel
theorem dX4_remove_33 : decode prog_6_method_5_code 33 = .ok (.dup, 1) := by decide +kernel
theorem dX4_remove_34 : decode prog_6_method_5_code 34 = .ok (.getfield 30, 3) := by decide +kernel
theorem dX4_remove_37 : decode prog_6_method_5_code 37 = .ok (.iconst 1, 1) := by decide +kernel
theorem dX4_remove_38 : decode prog_6_method_5_code 38 = .ok (.isub, 1) := by decide +kernel
theorem dX4_remove_39 : decode prog_6_method_5_code 39 = .ok (.putfield 30, 3) := by decide +kernel
theorem dX4_remove_42 : decode prog_6_method_5_code 42 = .ok (.return_, 1) := by decide +kernel
def m_X4_remove_L2 (N : Nat)  : Nat → Nat → Int32 → mM → Option (mM)
  | 0, _, _, _ => none
  | n + 1, a0, i2, M =>
    (fI M a0 4 3).bind fun x1 =>
    if x1 ≤ (i2 + 1) then (
      (fI M a0 4 3).bind fun x3 =>
      (sV M a0 4 3 (.int (x3 - 1))).bind fun M5 =>
      some M5) else (
      (fR M a0 4 2).bind fun x7 =>
      (fR M a0 4 2).bind fun x9 =>
      (aQ 6 M x9 (i2 + 1)).bind fun x11 =>
      (uQ 6 6 M x7 i2 x11).bind fun M13 =>
      (m_X4_remove_L2 N  n) a0 (i2 + 1) M13)
set_option maxHeartbeats 4000000 in
set_option maxRecDepth 100000 in
theorem t_X4_remove_L2 {X : mX} {L0 : Launch} {res : mM} {N : Nat} (C : CX X RX4 "remove" prog_6_method_5_code 3 none) (E : EX X L0 0 0 0 0 none res)   : ∀ (n : Nat) (a0 : Nat) (i2 : Int32) (M : mM), m_X4_remove_L2 N  n a0 i2 M = some res → EV X 3 2 [(0, .ref a0), (2, .int i2)] [] 0 0 M := by
  intro n
  induction n with
  | zero => intro a0 i2 M hf; cases (show (none : Option (mM)) = some res from hf)
  | succ n ih =>
    intro a0 i2 M hf
    rw [m_X4_remove_L2] at hf
    refine ev_iload_n C dX4_remove_2 rfl (q := 1) rfl ?_
    refine ev_iconst (v := 1) C dX4_remove_3 (by decide) ?_
    refine ev_iadd C dX4_remove_4 ?_
    refine ev_aload_n C dX4_remove_5 rfl (q := 0) rfl ?_
    obtain ⟨x1, e2, hf⟩ := obnd hf
    refine ev_get (k := 3) C ok_4 dX4_remove_6 (by decide) kw_128 (fI_V e2) ?_
    refine ev_icmp_ge (tgt := 32) C dX4_remove_9 (by decide) (fun hc => ?_) (fun hc => ?_)
    · have hf := oit hf hc
      refine ev_aload_n C dX4_remove_32 rfl (q := 0) rfl ?_
      refine ev_dup C dX4_remove_33 rfl ?_
      obtain ⟨x3, e4, hf⟩ := obnd hf
      refine ev_get (k := 3) C ok_4 dX4_remove_34 (by decide) kw_128 (fI_V e4) ?_
      refine ev_iconst (v := 1) C dX4_remove_37 (by decide) ?_
      refine ev_isub C dX4_remove_38 ?_
      obtain ⟨M5, e6, hf⟩ := obnd hf
      refine ev_put (k := 3) C ok_4 dX4_remove_39 (by decide) kw_128 rfl ⟨rfl, rfl⟩ e6 ?_
      obtain rfl := Option.some.inj hf
      exact ev_vret C E (Nat.le_refl 0) (Nat.le_refl 0) dX4_remove_42
    · have hf := oie hf hc
      refine ev_aload_n C dX4_remove_12 rfl (q := 0) rfl ?_
      obtain ⟨x7, e8, hf⟩ := obnd hf
      refine ev_get (k := 2) C ok_4 dX4_remove_13 (by decide) kw_126 (fR_V e8) ?_
      refine ev_iload_n C dX4_remove_16 rfl (q := 1) rfl ?_
      refine ev_aload_n C dX4_remove_17 rfl (q := 0) rfl ?_
      obtain ⟨x9, e10, hf⟩ := obnd hf
      refine ev_get (k := 2) C ok_4 dX4_remove_18 (by decide) kw_126 (fR_V e10) ?_
      refine ev_iload_n C dX4_remove_21 rfl (q := 1) rfl ?_
      refine ev_iconst (v := 1) C dX4_remove_22 (by decide) ?_
      refine ev_iadd C dX4_remove_23 ?_
      obtain ⟨x11, e12, hf⟩ := obnd hf
      refine ev_aldq C (t := 6) rfl rfl dX4_remove_24 e12 ?_
      obtain ⟨M13, e14, hf⟩ := obnd hf
      refine ev_astq C (t := 6) (ci := 6) rfl rfl dX4_remove_25 e14 ?_
      refine ev_iinc (v := i2 + 1) (l' := [(2, .int (i2 + 1)), (0, .ref a0)]) C dX4_remove_26 (q := 1) rfl rfl (by decide) rfl ?_
      refine ev_goto (tgt := 2) C dX4_remove_29 (by decide) ?_
      refine ev_sub [1, 0] rfl ?_
      exact ih a0 (i2 + 1) M13 hf
def m_X4_remove (N : Nat) (a0 : Nat) (i1 : Int32) (M : mM) : Option (mM) :=
  m_X4_remove_L2 N  N a0 i1 M
set_option maxHeartbeats 4000000 in
set_option maxRecDepth 100000 in
theorem t_X4_remove {L0 : Launch} {M : mM} {N : Nat} {a0 : Nat} {i1 : Int32} {res : mM} (hf : m_X4_remove N a0 i1 M = some res) : CT L0 yX4_remove prog_6_method_5_code 3 none 0 0 0 0 [.ref a0, .int i1] M none res := by
  refine CT.of (by decide +kernel) (Nat.le_of_ble_eq_true rfl) fun X C E => ?_
  have C : CX X RX4 "remove" prog_6_method_5_code 3 none := C
  show EV X 3 0 [(0, .ref a0), (1, .int i1)] [] 0 0 M
  unfold m_X4_remove at hf
  refine ev_iload_n C dX4_remove_0 rfl (q := 1) rfl ?_
  refine ev_istore_n (l' := [(2, .int i1), (0, .ref a0), (1, .int i1)]) C dX4_remove_1 rfl (by decide) rfl ?_
  refine ev_sub [1, 0] rfl ?_
  exact t_X4_remove_L2 C E   N a0 i1 M hf
/-! FareLimits ends()I -/
theorem dX11_ends_0 : decode prog_1_method_28_code 0 = .ok (.aload_n 0, 1) := by decide +kernel
theorem dX11_ends_1 : decode prog_1_method_28_code 1 = .ok (.getfield 12, 3) := by decide +kernel
theorem dX11_ends_4 : decode prog_1_method_28_code 4 = .ok (.getfield 202, 3) := by decide +kernel
theorem dX11_ends_7 : decode prog_1_method_28_code 7 = .ok (.aload_n 0, 1) := by decide +kernel
theorem dX11_ends_8 : decode prog_1_method_28_code 8 = .ok (.getfield 45, 3) := by decide +kernel
theorem dX11_ends_11 : decode prog_1_method_28_code 11 = .ok (.invokevirtual 238, 3) := by decide +kernel
theorem dX11_ends_14 : decode prog_1_method_28_code 14 = .ok (.invokevirtual 242, 3) := by decide +kernel
theorem dX11_ends_17 : decode prog_1_method_28_code 17 = .ok (.istore_n 1, 1) := by decide +kernel
theorem dX11_ends_18 : decode prog_1_method_28_code 18 = .ok (.aload_n 0, 1) := by decide +kernel
theorem dX11_ends_19 : decode prog_1_method_28_code 19 = .ok (.getfield 45, 3) := by decide +kernel
theorem dX11_ends_22 : decode prog_1_method_28_code 22 = .ok (.invokevirtual 220, 3) := by decide +kernel
theorem dX11_ends_25 : decode prog_1_method_28_code 25 = .ok (.iload_n 1, 1) := by decide +kernel
theorem dX11_ends_26 : decode prog_1_method_28_code 26 = .ok (.iconst (-1), 1) := by decide +kernel
theorem dX11_ends_27 : decode prog_1_method_28_code 27 = .ok (.if_icmp .ne 5, 3) := by decide +kernel
theorem dX11_ends_30 : decode prog_1_method_28_code 30 = .ok (.iconst (-1), 1) := by decide +kernel
theorem dX11_ends_31 : decode prog_1_method_28_code 31 = .ok (.ireturn, 1) := by decide +kernel
theorem dX11_ends_32 : decode prog_1_method_28_code 32 = .ok (.aload_n 0, 1) := by decide +kernel
theorem dX11_ends_33 : decode prog_1_method_28_code 33 = .ok (.getfield 12, 3) := by decide +kernel
theorem dX11_ends_36 : decode prog_1_method_28_code 36 = .ok (.getfield 202, 3) := by decide +kernel
theorem dX11_ends_39 : decode prog_1_method_28_code 39 = .ok (.iload_n 1, 1) := by decide +kernel
theorem dX11_ends_40 : decode prog_1_method_28_code 40 = .ok (.invokevirtual 245, 3) := by decide +kernel
theorem dX11_ends_43 : decode prog_1_method_28_code 43 = .ok (.aload_n 0, 1) := by decide +kernel
theorem dX11_ends_44 : decode prog_1_method_28_code 44 = .ok (.getfield 12, 3) := by decide +kernel
theorem dX11_ends_47 : decode prog_1_method_28_code 47 = .ok (.getfield 202, 3) := by decide +kernel
theorem dX11_ends_50 : decode prog_1_method_28_code 50 = .ok (.getfield 249, 3) := by decide +kernel
theorem dX11_ends_53 : decode prog_1_method_28_code 53 = .ok (.ireturn, 1) := by decide +kernel
def m_X11_ends (N : Nat) (a0 : Nat) (M : mM) : Option (Int32 × mM) :=
  (fR M a0 11 0).bind fun x1 =>
  (fR M x1 5 3).bind fun x3 =>
  (fR M a0 11 6).bind fun x5 =>
  (oO M x5 7).bind fun _ =>
  (m_X7_asName N x5 M).bind fun x9 =>
  (oO M x3 4).bind fun _ =>
  (m_X4_placeOf N x3 x9 M).bind fun x13 =>
  (fR M a0 11 6).bind fun x15 =>
  (oO M x15 7).bind fun _ =>
  (m_X7_wipe x15 M).bind fun x19 =>
  if x13 = (-1) then (
    some ((-1), x19)) else (
    (fR x19 a0 11 0).bind fun x21 =>
    (fR x19 x21 5 3).bind fun x23 =>
    (oO x19 x23 4).bind fun _ =>
    (m_X4_remove N x23 x13 x19).bind fun x27 =>
    (fR x27 a0 11 0).bind fun x29 =>
    (fR x27 x29 5 3).bind fun x31 =>
    (fI x27 x31 4 3).bind fun x33 =>
    some (x33, x27))
set_option maxHeartbeats 4000000 in
set_option maxRecDepth 100000 in
theorem t_X11_ends {L0 : Launch} {M : mM} {N : Nat} {a0 : Nat} {res : Int32 × mM} (hf : m_X11_ends N a0 M = some res) : CT L0 yX11_ends prog_1_method_28_code 2 (some .int) 2 44 0 0 [.ref a0] M (some (.int res.1)) res.2 := by
  refine CT.of (by decide +kernel) (Nat.le_of_ble_eq_true rfl) fun X C E => ?_
  have C : CX X RX11 "ends" prog_1_method_28_code 2 (some .int) := C
  show EV X 2 0 [(0, .ref a0)] [] 0 0 M
  unfold m_X11_ends at hf
  refine ev_aload_n C dX11_ends_0 rfl (q := 0) rfl ?_
  obtain ⟨x1, e2, hf⟩ := obnd hf
  refine ev_get (k := 0) C ok_11 dX11_ends_1 (by decide) kw_392 (fR_V e2) ?_
  obtain ⟨x3, e4, hf⟩ := obnd hf
  refine ev_get (k := 3) C ok_5 dX11_ends_4 (by decide) kw_193 (fR_V e4) ?_
  refine ev_aload_n C dX11_ends_7 rfl (q := 0) rfl ?_
  obtain ⟨x5, e6, hf⟩ := obnd hf
  refine ev_get (k := 6) C ok_11 dX11_ends_8 (by decide) kw_398 (fR_V e6) ?_
  obtain ⟨_, e7, hf⟩ := obnd hf
  obtain ⟨fs8, e7⟩ := oO_eq e7
  obtain ⟨x9, e10, hf⟩ := obnd hf
  refine ev_callV0 (As := []) (st := [.ref x3]) C rfl e7 (t_X7_asName e10) rfl hd_X7_asName rfl kw_775 kw_776 kw_79 kw_777 kw_778 (mRoom.of E (Nat.le_of_ble_eq_true rfl) (Nat.le_of_ble_eq_true rfl) (Nat.le_refl 0) (Nat.le_refl 0)) (Nat.le_of_ble_eq_true rfl) dX11_ends_11 ?_
  obtain ⟨_, e11, hf⟩ := obnd hf
  obtain ⟨fs12, e11⟩ := oO_eq e11
  obtain ⟨x13, e14, hf⟩ := obnd hf
  refine ev_callV0 (As := [.int x9]) (st := []) C rfl e11 (t_X4_placeOf e14) rfl hd_X4_placeOf rfl kw_779 kw_715 kw_72 kw_716 kw_717 (mRoom.of E (Nat.le_of_ble_eq_true rfl) (Nat.le_of_ble_eq_true rfl) (Nat.le_refl 0) (Nat.le_refl 0)) (Nat.le_of_ble_eq_true rfl) dX11_ends_14 ?_
  refine ev_istore_n (l' := [(1, .int x13), (0, .ref a0)]) C dX11_ends_17 rfl (by decide) rfl ?_
  refine ev_aload_n C dX11_ends_18 rfl (q := 1) rfl ?_
  obtain ⟨x15, e16, hf⟩ := obnd hf
  refine ev_get (k := 6) C ok_11 dX11_ends_19 (by decide) kw_398 (fR_V e16) ?_
  obtain ⟨_, e17, hf⟩ := obnd hf
  obtain ⟨fs18, e17⟩ := oO_eq e17
  obtain ⟨x19, e20, hf⟩ := obnd hf
  refine ev_callV0 (As := []) (st := []) C rfl e17 (t_X7_wipe e20) rfl hd_X7_wipe rfl kw_687 kw_688 kw_79 kw_689 kw_690 (mRoom.of E (Nat.le_of_ble_eq_true rfl) (Nat.le_of_ble_eq_true rfl) (Nat.le_refl 0) (Nat.le_refl 0)) (Nat.le_of_ble_eq_true rfl) dX11_ends_22 ?_
  refine ev_iload_n C dX11_ends_25 rfl (q := 0) rfl ?_
  refine ev_iconst (v := (-1)) C dX11_ends_26 (by decide) ?_
  refine ev_icmp_ne (tgt := 32) C dX11_ends_27 (by decide) (fun hc => ?_) (fun hc => ?_)
  · have hf := oie hf hc
    refine ev_aload_n C dX11_ends_32 rfl (q := 1) rfl ?_
    obtain ⟨x21, e22, hf⟩ := obnd hf
    refine ev_get (k := 0) C ok_11 dX11_ends_33 (by decide) kw_392 (fR_V e22) ?_
    obtain ⟨x23, e24, hf⟩ := obnd hf
    refine ev_get (k := 3) C ok_5 dX11_ends_36 (by decide) kw_193 (fR_V e24) ?_
    refine ev_iload_n C dX11_ends_39 rfl (q := 0) rfl ?_
    obtain ⟨_, e25, hf⟩ := obnd hf
    obtain ⟨fs26, e25⟩ := oO_eq e25
    obtain ⟨x27, e28, hf⟩ := obnd hf
    refine ev_callV0 (As := [.int x13]) (st := []) C rfl e25 (t_X4_remove e28) rfl hd_X4_remove rfl kw_780 kw_781 kw_72 kw_782 kw_783 (mRoom.of E (Nat.le_of_ble_eq_true rfl) (Nat.le_of_ble_eq_true rfl) (Nat.le_refl 0) (Nat.le_refl 0)) (Nat.le_of_ble_eq_true rfl) dX11_ends_40 ?_
    refine ev_aload_n C dX11_ends_43 rfl (q := 1) rfl ?_
    obtain ⟨x29, e30, hf⟩ := obnd hf
    refine ev_get (k := 0) C ok_11 dX11_ends_44 (by decide) kw_392 (fR_V e30) ?_
    obtain ⟨x31, e32, hf⟩ := obnd hf
    refine ev_get (k := 3) C ok_5 dX11_ends_47 (by decide) kw_193 (fR_V e32) ?_
    obtain ⟨x33, e34, hf⟩ := obnd hf
    refine ev_get (k := 3) C ok_4 dX11_ends_50 (by decide) kw_130 (fI_V e34) ?_
    obtain rfl := Option.some.inj hf
    exact ev_iret C E (Nat.le_refl 0) (Nat.le_refl 0) dX11_ends_53
  · have hf := oit hf hc
    refine ev_iconst (v := (-1)) C dX11_ends_30 (by decide) ?_
    obtain rfl := Option.some.inj hf
    exact ev_iret C E (Nat.le_refl 0) (Nat.le_refl 0) dX11_ends_31
/-! FareLimits$Route letter(I)I -/
theorem dX6_letter_0 : decode prog_8_method_3_code 0 = .ok (.aload_n 0, 1) := by decide +kernel
theorem dX6_letter_1 : decode prog_8_method_3_code 1 = .ok (.getfield 9, 3) := by decide +kernel
theorem dX6_letter_4 : decode prog_8_method_3_code 4 = .ok (.bipush 8, 2) := by decide +kernel
theorem dX6_letter_6 : decode prog_8_method_3_code 6 = .ok (.iconst 2, 1) := by decide +kernel
theorem dX6_letter_7 : decode prog_8_method_3_code 7 = .ok (.iload_n 1, 1) := by decide +kernel
theorem dX6_letter_8 : decode prog_8_method_3_code 8 = .ok (.isub, 1) := by decide +kernel
theorem dX6_letter_9 : decode prog_8_method_3_code 9 = .ok (.imul, 1) := by decide +kernel
theorem dX6_letter_10 : decode prog_8_method_3_code 10 = .ok (.ishr, 1) := by decide +kernel
theorem dX6_letter_11 : decode prog_8_method_3_code 11 = .ok (.sipush 255, 3) := by decide +kernel
theorem dX6_letter_14 : decode prog_8_method_3_code 14 = .ok (.iand, 1) := by decide +kernel
theorem dX6_letter_15 : decode prog_8_method_3_code 15 = .ok (.ireturn, 1) := by decide +kernel
def m_X6_letter (a0 : Nat) (i1 : Int32) (M : mM) : Option (Int32) :=
  (fI M a0 6 0).bind fun x1 =>
  some ((x1 >>> ((8 * (2 - i1)) &&& 31)) &&& 255)
set_option maxHeartbeats 4000000 in
set_option maxRecDepth 100000 in
theorem t_X6_letter {L0 : Launch} {M : mM} {a0 : Nat} {i1 : Int32} {res : Int32} (hf : m_X6_letter a0 i1 M = some res) : CT L0 yX6_letter prog_8_method_3_code 2 (some .int) 0 0 0 0 [.ref a0, .int i1] M (some (.int res)) M := by
  refine CT.of (by decide +kernel) (Nat.le_of_ble_eq_true rfl) fun X C E => ?_
  have C : CX X RX6 "letter" prog_8_method_3_code 2 (some .int) := C
  show EV X 2 0 [(0, .ref a0), (1, .int i1)] [] 0 0 M
  unfold m_X6_letter at hf
  refine ev_aload_n C dX6_letter_0 rfl (q := 0) rfl ?_
  obtain ⟨x1, e2, hf⟩ := obnd hf
  refine ev_get (k := 0) C ok_6 dX6_letter_1 (by decide) kw_747 (fI_V e2) ?_
  refine ev_bipush (v := 8) C dX6_letter_4 (by decide) ?_
  refine ev_iconst (v := 2) C dX6_letter_6 (by decide) ?_
  refine ev_iload_n C dX6_letter_7 rfl (q := 1) rfl ?_
  refine ev_isub C dX6_letter_8 ?_
  refine ev_imul C dX6_letter_9 ?_
  refine ev_ishr C dX6_letter_10 ?_
  refine ev_sipush (v := 255) C dX6_letter_11 (by decide) ?_
  refine ev_iand C dX6_letter_14 ?_
  obtain rfl := Option.some.inj hf
  exact ev_iret C E (Nat.le_refl 0) (Nat.le_refl 0) dX6_letter_15
/-! FareLimits$Route letters()I -/
theorem dX6_letters_0 : decode prog_8_method_4_code 0 = .ok (.iconst 0, 1) := by decide +kernel
theorem dX6_letters_1 : decode prog_8_method_4_code 1 = .ok (.istore_n 1, 1) := by decide +kernel
theorem dX6_letters_2 : decode prog_8_method_4_code 2 = .ok (.iconst 0, 1) := by decide +kernel
theorem dX6_letters_3 : decode prog_8_method_4_code 3 = .ok (.istore_n 2, 1) := by decide +kernel
theorem dX6_letters_4 : decode prog_8_method_4_code 4 = .ok (.iload_n 2, 1) := by decide +kernel
theorem dX6_letters_5 : decode prog_8_method_4_code 5 = .ok (.iconst 3, 1) := by decide +kernel
theorem dX6_letters_6 : decode prog_8_method_4_code 6 = .ok (.if_icmp .ge 25, 3) := by decide +kernel
theorem dX6_letters_9 : decode prog_8_method_4_code 9 = .ok (.iload_n 1, 1) := by decide +kernel
theorem dX6_letters_10 : decode prog_8_method_4_code 10 = .ok (.aload_n 0, 1) := by decide +kernel
theorem dX6_letters_11 : decode prog_8_method_4_code 11 = .ok (.iload_n 2, 1) := by decide +kernel
theorem dX6_letters_12 : decode prog_8_method_4_code 12 = .ok (.invokevirtual 24, 3) := by decide +kernel
theorem dX6_letters_15 : decode prog_8_method_4_code 15 = .ok (.ifCond .ne 7, 3) := by decide +kernel
theorem dX6_letters_18 : decode prog_8_method_4_code 18 = .ok (.iconst 0, 1) := by decide +kernel
theorem dX6_letters_19 : decode prog_8_method_4_code 19 = .ok (.goto 4, 3) := by decide +kernel
theorem dX6_letters_22 : decode prog_8_method_4_code 22 = .ok (.iconst 1, 1) := by decide +kernel
theorem dX6_letters_23 : decode prog_8_method_4_code 23 = .ok (.iadd, 1) := by decide +kernel
theorem dX6_letters_24 : decode prog_8_method_4_code 24 = .ok (.istore_n 1, 1) := by decide +kernel
theorem dX6_letters_25 : decode prog_8_method_4_code 25 = .ok (.iinc 2 1, 3) := by decide +kernel
theorem dX6_letters_28 : decode prog_8_method_4_code 28 = .ok (.goto (-24), 3) := by decide +kernel
theorem dX6_letters_31 : decode prog_8_method_4_code 31 = .ok (.iload_n 1, 1) := by decide +kernel
theorem dX6_letters_32 : decode prog_8_method_4_code 32 = .ok (.ireturn, 1) := by decide +kernel
def m_X6_letters_J23 (N : Nat) (M : mM) (k4 : Nat → Int32 → Int32 → Option (Int32)) (a0 : Nat) (i2 : Int32) (si0 : Int32) (si1 : Int32) : Option (Int32) :=
  k4 a0 (si0 + si1) (i2 + 1)
set_option maxHeartbeats 4000000 in
set_option maxRecDepth 100000 in
theorem t_X6_letters_J23 {X : mX} {M : mM} {L0 : Launch} {res : Int32} {N : Nat} (C : CX X RX6 "letters" prog_8_method_4_code 3 (some .int)) (E : EX X L0 1 21 0 0 (some (.int res)) M) (k4 : Nat → Int32 → Int32 → Option (Int32)) (Hk4 : ∀ (a0 : Nat) (i1 : Int32) (i2 : Int32), k4 a0 i1 i2 = some res → EV X 3 4 [(0, .ref a0), (1, .int i1), (2, .int i2)] [] 0 0 M) (a0 : Nat) (i2 : Int32) (si0 : Int32) (si1 : Int32) (hf : m_X6_letters_J23 N M k4 a0 i2 si0 si1 = some res) : EV X 3 23 [(0, .ref a0), (2, .int i2)] [.int si1, .int si0] 0 0 M := by
  unfold m_X6_letters_J23 at hf
  refine ev_iadd C dX6_letters_23 ?_
  refine ev_istore_n (l' := [(1, .int (si0 + si1)), (0, .ref a0), (2, .int i2)]) C dX6_letters_24 rfl (by decide) rfl ?_
  refine ev_iinc (v := i2 + 1) (l' := [(2, .int (i2 + 1)), (1, .int (si0 + si1)), (0, .ref a0)]) C dX6_letters_25 (q := 2) rfl rfl (by decide) rfl ?_
  refine ev_goto (tgt := 4) C dX6_letters_28 (by decide) ?_
  refine ev_sub [2, 1, 0] rfl ?_
  exact Hk4 a0 (si0 + si1) (i2 + 1) hf
def m_X6_letters_L4 (N : Nat) (M : mM)  : Nat → Nat → Int32 → Int32 → Option (Int32)
  | 0, _, _, _ => none
  | n + 1, a0, i1, i2 =>
    if 3 ≤ i2 then (
      some i1) else (
      (oO M a0 6).bind fun _ =>
      (m_X6_letter a0 i2 M).bind fun x3 =>
      if x3 = 0 then (
        m_X6_letters_J23 N M (m_X6_letters_L4 N M  n) a0 i2 i1 0) else (
        m_X6_letters_J23 N M (m_X6_letters_L4 N M  n) a0 i2 i1 1))
set_option maxHeartbeats 4000000 in
set_option maxRecDepth 100000 in
theorem t_X6_letters_L4 {X : mX} {M : mM} {L0 : Launch} {res : Int32} {N : Nat} (C : CX X RX6 "letters" prog_8_method_4_code 3 (some .int)) (E : EX X L0 1 21 0 0 (some (.int res)) M)   : ∀ (n : Nat) (a0 : Nat) (i1 : Int32) (i2 : Int32), m_X6_letters_L4 N M  n a0 i1 i2 = some res → EV X 3 4 [(0, .ref a0), (1, .int i1), (2, .int i2)] [] 0 0 M := by
  intro n
  induction n with
  | zero => intro a0 i1 i2 hf; cases (show (none : Option (Int32)) = some res from hf)
  | succ n ih =>
    intro a0 i1 i2 hf
    rw [m_X6_letters_L4] at hf
    refine ev_iload_n C dX6_letters_4 rfl (q := 2) rfl ?_
    refine ev_iconst (v := 3) C dX6_letters_5 (by decide) ?_
    refine ev_icmp_ge (tgt := 31) C dX6_letters_6 (by decide) (fun hc => ?_) (fun hc => ?_)
    · have hf := oit hf hc
      refine ev_iload_n C dX6_letters_31 rfl (q := 1) rfl ?_
      obtain rfl := Option.some.inj hf
      exact ev_iret C E (Nat.le_refl 0) (Nat.le_refl 0) dX6_letters_32
    · have hf := oie hf hc
      refine ev_iload_n C dX6_letters_9 rfl (q := 1) rfl ?_
      refine ev_aload_n C dX6_letters_10 rfl (q := 0) rfl ?_
      refine ev_iload_n C dX6_letters_11 rfl (q := 2) rfl ?_
      obtain ⟨_, e1, hf⟩ := obnd hf
      obtain ⟨fs2, e1⟩ := oO_eq e1
      obtain ⟨x3, e4, hf⟩ := obnd hf
      refine ev_callV0 (As := [.int i2]) (st := [.int i1]) C rfl e1 (t_X6_letter e4) rfl hd_X6_letter rfl kw_812 kw_813 kw_92 kw_814 kw_815 (mRoom.of E (Nat.le_of_ble_eq_true rfl) (Nat.le_of_ble_eq_true rfl) (Nat.le_refl 0) (Nat.le_refl 0)) (Nat.le_of_ble_eq_true rfl) dX6_letters_12 ?_
      refine ev_if_ne (tgt := 22) C dX6_letters_15 (by decide) (fun hc => ?_) (fun hc => ?_)
      · have hf := oie hf hc
        refine ev_iconst (v := 1) C dX6_letters_22 (by decide) ?_
        refine ev_sub [0, 2] rfl ?_
        exact t_X6_letters_J23 C E (m_X6_letters_L4 N M  n) ih a0 i2 i1 1 hf
      · have hf := oit hf hc
        refine ev_iconst (v := 0) C dX6_letters_18 (by decide) ?_
        refine ev_goto (tgt := 23) C dX6_letters_19 (by decide) ?_
        refine ev_sub [0, 2] rfl ?_
        exact t_X6_letters_J23 C E (m_X6_letters_L4 N M  n) ih a0 i2 i1 0 hf
def m_X6_letters (N : Nat) (a0 : Nat) (M : mM) : Option (Int32) :=
  m_X6_letters_L4 N M  N a0 0 0
set_option maxHeartbeats 4000000 in
set_option maxRecDepth 100000 in
theorem t_X6_letters {L0 : Launch} {M : mM} {N : Nat} {a0 : Nat} {res : Int32} (hf : m_X6_letters N a0 M = some res) : CT L0 yX6_letters prog_8_method_4_code 3 (some .int) 1 21 0 0 [.ref a0] M (some (.int res)) M := by
  refine CT.of (by decide +kernel) (Nat.le_of_ble_eq_true rfl) fun X C E => ?_
  have C : CX X RX6 "letters" prog_8_method_4_code 3 (some .int) := C
  show EV X 3 0 [(0, .ref a0)] [] 0 0 M
  unfold m_X6_letters at hf
  refine ev_iconst (v := 0) C dX6_letters_0 (by decide) ?_
  refine ev_istore_n (l' := [(1, .int 0), (0, .ref a0)]) C dX6_letters_1 rfl (by decide) rfl ?_
  refine ev_iconst (v := 0) C dX6_letters_2 (by decide) ?_
  refine ev_istore_n (l' := [(2, .int 0), (1, .int 0), (0, .ref a0)]) C dX6_letters_3 rfl (by decide) rfl ?_
  refine ev_sub [2, 1, 0] rfl ?_
  exact t_X6_letters_L4 C E   N a0 0 0 hf
/-! FareLimits$Route goesOver(I)Z -/
theorem dX6_goesOver_0 : decode prog_8_method_5_code 0 = .ok (.aload_n 0, 1) := by decide +kernel
theorem dX6_goesOver_1 : decode prog_8_method_5_code 1 = .ok (.getfield 15, 3) := by decide +kernel
theorem dX6_goesOver_4 : decode prog_8_method_5_code 4 = .ok (.iload_n 1, 1) := by decide +kernel
theorem dX6_goesOver_5 : decode prog_8_method_5_code 5 = .ok (.ishr, 1) := by decide +kernel
theorem dX6_goesOver_6 : decode prog_8_method_5_code 6 = .ok (.iconst 1, 1) := by decide +kernel
theorem dX6_goesOver_7 : decode prog_8_method_5_code 7 = .ok (.iand, 1) := by decide +kernel
theorem dX6_goesOver_8 : decode prog_8_method_5_code 8 = .ok (.iconst 1, 1) := by decide +kernel
theorem dX6_goesOver_9 : decode prog_8_method_5_code 9 = .ok (.if_icmp .ne 7, 3) := by decide +kernel
theorem dX6_goesOver_12 : decode prog_8_method_5_code 12 = .ok (.iconst 1, 1) := by decide +kernel
theorem dX6_goesOver_13 : decode prog_8_method_5_code 13 = .ok (.goto 4, 3) := by decide +kernel
theorem dX6_goesOver_16 : decode prog_8_method_5_code 16 = .ok (.iconst 0, 1) := by decide +kernel
theorem dX6_goesOver_17 : decode prog_8_method_5_code 17 = .ok (.ireturn, 1) := by decide +kernel
def m_X6_goesOver (a0 : Nat) (i1 : Int32) (M : mM) : Option (Int32) :=
  (fI M a0 6 1).bind fun x1 =>
  if ((x1 >>> (i1 &&& 31)) &&& 1) = 1 then (
    some 1) else (
    some 0)
set_option maxHeartbeats 4000000 in
set_option maxRecDepth 100000 in
theorem t_X6_goesOver {L0 : Launch} {M : mM} {a0 : Nat} {i1 : Int32} {res : Int32} (hf : m_X6_goesOver a0 i1 M = some res) : CT L0 yX6_goesOver prog_8_method_5_code 2 (some .boolean) 0 0 0 0 [.ref a0, .int i1] M (some (.int res)) M := by
  refine CT.of (by decide +kernel) (Nat.le_of_ble_eq_true rfl) fun X C E => ?_
  have C : CX X RX6 "goesOver" prog_8_method_5_code 2 (some .boolean) := C
  show EV X 2 0 [(0, .ref a0), (1, .int i1)] [] 0 0 M
  unfold m_X6_goesOver at hf
  refine ev_aload_n C dX6_goesOver_0 rfl (q := 0) rfl ?_
  obtain ⟨x1, e2, hf⟩ := obnd hf
  refine ev_get (k := 1) C ok_6 dX6_goesOver_1 (by decide) kw_750 (fI_V e2) ?_
  refine ev_iload_n C dX6_goesOver_4 rfl (q := 1) rfl ?_
  refine ev_ishr C dX6_goesOver_5 ?_
  refine ev_iconst (v := 1) C dX6_goesOver_6 (by decide) ?_
  refine ev_iand C dX6_goesOver_7 ?_
  refine ev_iconst (v := 1) C dX6_goesOver_8 (by decide) ?_
  refine ev_icmp_ne (tgt := 16) C dX6_goesOver_9 (by decide) (fun hc => ?_) (fun hc => ?_)
  · have hf := oie hf hc
    refine ev_iconst (v := 0) C dX6_goesOver_16 (by decide) ?_
    obtain rfl := Option.some.inj hf
    exact ev_zret C (by decide) E (Nat.le_refl 0) (Nat.le_refl 0) dX6_goesOver_17
  · have hf := oit hf hc
    refine ev_iconst (v := 1) C dX6_goesOver_12 (by decide) ?_
    refine ev_goto (tgt := 17) C dX6_goesOver_13 (by decide) ?_
    obtain rfl := Option.some.inj hf
    exact ev_zret C (by decide) E (Nat.le_refl 0) (Nat.le_refl 0) dX6_goesOver_17
/-! FareLimits$Network partOf(LFareLimits$Route;I)F -/
theorem dX4_partOf_0 : decode prog_6_method_6_code 0 = .ok (.iconst 0, 1) := by decide +kernel
theorem dX4_partOf_1 : decode prog_6_method_6_code 1 = .ok (.istore_n 3, 1) := by decide +kernel
theorem dX4_partOf_2 : decode prog_6_method_6_code 2 = .ok (.iconst 0, 1) := by decide +kernel
theorem dX4_partOf_3 : decode prog_6_method_6_code 3 = .ok (.istore 4, 2) := by decide +kernel
theorem dX4_partOf_5 : decode prog_6_method_6_code 5 = .ok (.iload 4, 2) := by decide +kernel
theorem dX4_partOf_7 : decode prog_6_method_6_code 7 = .ok (.iconst 4, 1) := by decide +kernel
theorem dX4_partOf_8 : decode prog_6_method_6_code 8 = .ok (.if_icmp .ge 32, 3) := by decide +kernel
theorem dX4_partOf_11 : decode prog_6_method_6_code 11 = .ok (.iload_n 3, 1) := by decide +kernel
theorem dX4_partOf_12 : decode prog_6_method_6_code 12 = .ok (.aload_n 1, 1) := by decide +kernel
theorem dX4_partOf_13 : decode prog_6_method_6_code 13 = .ok (.iload 4, 2) := by decide +kernel
theorem dX4_partOf_15 : decode prog_6_method_6_code 15 = .ok (.invokevirtual 37, 3) := by decide +kernel
theorem dX4_partOf_18 : decode prog_6_method_6_code 18 = .ok (.ifCond .eq 13, 3) := by decide +kernel
theorem dX4_partOf_21 : decode prog_6_method_6_code 21 = .ok (.aload_n 0, 1) := by decide +kernel
theorem dX4_partOf_22 : decode prog_6_method_6_code 22 = .ok (.getfield 9, 3) := by decide +kernel
theorem dX4_partOf_25 : decode prog_6_method_6_code 25 = .ok (.iload 4, 2) := by decide +kernel
theorem dX4_partOf_27 : decode prog_6_method_6_code 27 = .ok (.iaload, 1) := by decide +kernel
theorem dX4_partOf_28 : decode prog_6_method_6_code 28 = .ok (.goto 4, 3) := by decide +kernel
theorem dX4_partOf_31 : decode prog_6_method_6_code 31 = .ok (.iconst 0, 1) := by decide +kernel
theorem dX4_partOf_32 : decode prog_6_method_6_code 32 = .ok (.iadd, 1) := by decide +kernel
theorem dX4_partOf_33 : decode prog_6_method_6_code 33 = .ok (.istore_n 3, 1) := by decide +kernel
theorem dX4_partOf_34 : decode prog_6_method_6_code 34 = .ok (.iinc 4 1, 3) := by decide +kernel
theorem dX4_partOf_37 : decode prog_6_method_6_code 37 = .ok (.goto (-32), 3) := by decide +kernel
theorem dX4_partOf_40 : decode prog_6_method_6_code 40 = .ok (.aload_n 1, 1) := by decide +kernel
theorem dX4_partOf_41 : decode prog_6_method_6_code 41 = .ok (.iload_n 2, 1) := by decide +kernel
theorem dX4_partOf_42 : decode prog_6_method_6_code 42 = .ok (.invokevirtual 37, 3) := by decide +kernel
theorem dX4_partOf_45 : decode prog_6_method_6_code 45 = .ok (.ifCond .eq 7, 3) := by decide +kernel
theorem dX4_partOf_48 : decode prog_6_method_6_code 48 = .ok (.iload_n 3, 1) := by decide +kernel
theorem dX4_partOf_49 : decode prog_6_method_6_code 49 = .ok (.ifCond .ne 5, 3) := by decide +kernel
theorem dX4_partOf_52 : decode prog_6_method_6_code 52 = .ok (.fconst 0, 1) := by decide +kernel
theorem dX4_partOf_53 : decode prog_6_method_6_code 53 = .ok (.freturn, 1) := by decide +kernel
theorem dX4_partOf_54 : decode prog_6_method_6_code 54 = .ok (.aload_n 1, 1) := by decide +kernel
theorem dX4_partOf_55 : decode prog_6_method_6_code 55 = .ok (.getfield 41, 3) := by decide +kernel
theorem dX4_partOf_58 : decode prog_6_method_6_code 58 = .ok (.i2f, 1) := by decide +kernel
theorem dX4_partOf_59 : decode prog_6_method_6_code 59 = .ok (.aload_n 0, 1) := by decide +kernel
theorem dX4_partOf_60 : decode prog_6_method_6_code 60 = .ok (.getfield 9, 3) := by decide +kernel
theorem dX4_partOf_63 : decode prog_6_method_6_code 63 = .ok (.iload_n 2, 1) := by decide +kernel
theorem dX4_partOf_64 : decode prog_6_method_6_code 64 = .ok (.iaload, 1) := by decide +kernel
theorem dX4_partOf_65 : decode prog_6_method_6_code 65 = .ok (.i2f, 1) := by decide +kernel
theorem dX4_partOf_66 : decode prog_6_method_6_code 66 = .ok (.fmul, 1) := by decide +kernel
theorem dX4_partOf_67 : decode prog_6_method_6_code 67 = .ok (.iload_n 3, 1) := by decide +kernel
theorem dX4_partOf_68 : decode prog_6_method_6_code 68 = .ok (.i2f, 1) := by decide +kernel
theorem dX4_partOf_69 : decode prog_6_method_6_code 69 = .ok (.fdiv, 1) := by decide +kernel
theorem dX4_partOf_70 : decode prog_6_method_6_code 70 = .ok (.freturn, 1) := by decide +kernel
def m_X4_partOf_J32 (N : Nat) (M : mM) (k5 : Nat → Nat → Int32 → Int32 → Int32 → Option (UInt32)) (a0 : Nat) (a1 : Nat) (i2 : Int32) (i4 : Int32) (si0 : Int32) (si1 : Int32) : Option (UInt32) :=
  k5 a0 a1 i2 (si0 + si1) (i4 + 1)
set_option maxHeartbeats 4000000 in
set_option maxRecDepth 100000 in
theorem t_X4_partOf_J32 {X : mX} {M : mM} {L0 : Launch} {res : UInt32} {N : Nat} (C : CX X RX4 "partOf" prog_6_method_6_code 5 (some .float)) (E : EX X L0 1 21 0 0 (some (.float res)) M) (k5 : Nat → Nat → Int32 → Int32 → Int32 → Option (UInt32)) (Hk5 : ∀ (a0 : Nat) (a1 : Nat) (i2 : Int32) (i3 : Int32) (i4 : Int32), k5 a0 a1 i2 i3 i4 = some res → EV X 5 5 [(0, .ref a0), (1, .ref a1), (2, .int i2), (3, .int i3), (4, .int i4)] [] 0 0 M) (a0 : Nat) (a1 : Nat) (i2 : Int32) (i4 : Int32) (si0 : Int32) (si1 : Int32) (hf : m_X4_partOf_J32 N M k5 a0 a1 i2 i4 si0 si1 = some res) : EV X 5 32 [(0, .ref a0), (1, .ref a1), (2, .int i2), (4, .int i4)] [.int si1, .int si0] 0 0 M := by
  unfold m_X4_partOf_J32 at hf
  refine ev_iadd C dX4_partOf_32 ?_
  refine ev_istore_n (l' := [(3, .int (si0 + si1)), (0, .ref a0), (1, .ref a1), (2, .int i2), (4, .int i4)]) C dX4_partOf_33 rfl (by decide) rfl ?_
  refine ev_iinc (v := i4 + 1) (l' := [(4, .int (i4 + 1)), (3, .int (si0 + si1)), (0, .ref a0), (1, .ref a1), (2, .int i2)]) C dX4_partOf_34 (q := 4) rfl rfl (by decide) rfl ?_
  refine ev_goto (tgt := 5) C dX4_partOf_37 (by decide) ?_
  refine ev_sub [2, 3, 4, 1, 0] rfl ?_
  exact Hk5 a0 a1 i2 (si0 + si1) (i4 + 1) hf
def m_X4_partOf_L5 (N : Nat) (M : mM)  : Nat → Nat → Nat → Int32 → Int32 → Int32 → Option (UInt32)
  | 0, _, _, _, _, _ => none
  | n + 1, a0, a1, i2, i3, i4 =>
    if 4 ≤ i4 then (
      (oO M a1 6).bind fun _ =>
      (m_X6_goesOver a1 i2 M).bind fun x3 =>
      if x3 = 0 then (
        some FP.fconst0) else (
        if i3 = 0 then (
          some FP.fconst0) else (
          (fI M a1 6 2).bind fun x5 =>
          (fR M a0 4 0).bind fun x7 =>
          (aI 0 M x7 i2).bind fun x9 =>
          (oF (FP.fmul (FP.i2f x5) (FP.i2f x9))).bind fun x11 =>
          (oF (FP.fdiv x11 (FP.i2f i3))).bind fun x13 =>
          some x13))) else (
      (oO M a1 6).bind fun _ =>
      (m_X6_goesOver a1 i4 M).bind fun x17 =>
      if x17 = 0 then (
        m_X4_partOf_J32 N M (m_X4_partOf_L5 N M  n) a0 a1 i2 i4 i3 0) else (
        (fR M a0 4 0).bind fun x19 =>
        (aI 0 M x19 i4).bind fun x21 =>
        m_X4_partOf_J32 N M (m_X4_partOf_L5 N M  n) a0 a1 i2 i4 i3 x21))
set_option maxHeartbeats 4000000 in
set_option maxRecDepth 100000 in
theorem t_X4_partOf_L5 {X : mX} {M : mM} {L0 : Launch} {res : UInt32} {N : Nat} (C : CX X RX4 "partOf" prog_6_method_6_code 5 (some .float)) (E : EX X L0 1 21 0 0 (some (.float res)) M)   : ∀ (n : Nat) (a0 : Nat) (a1 : Nat) (i2 : Int32) (i3 : Int32) (i4 : Int32), m_X4_partOf_L5 N M  n a0 a1 i2 i3 i4 = some res → EV X 5 5 [(0, .ref a0), (1, .ref a1), (2, .int i2), (3, .int i3), (4, .int i4)] [] 0 0 M := by
  intro n
  induction n with
  | zero => intro a0 a1 i2 i3 i4 hf; cases (show (none : Option (UInt32)) = some res from hf)
  | succ n ih =>
    intro a0 a1 i2 i3 i4 hf
    rw [m_X4_partOf_L5] at hf
    refine ev_iload C dX4_partOf_5 (q := 4) rfl ?_
    refine ev_iconst (v := 4) C dX4_partOf_7 (by decide) ?_
    refine ev_icmp_ge (tgt := 40) C dX4_partOf_8 (by decide) (fun hc => ?_) (fun hc => ?_)
    · have hf := oit hf hc
      refine ev_aload_n C dX4_partOf_40 rfl (q := 1) rfl ?_
      refine ev_iload_n C dX4_partOf_41 rfl (q := 2) rfl ?_
      obtain ⟨_, e1, hf⟩ := obnd hf
      obtain ⟨fs2, e1⟩ := oO_eq e1
      obtain ⟨x3, e4, hf⟩ := obnd hf
      refine ev_callV0 (As := [.int i2]) (st := []) C rfl e1 (t_X6_goesOver e4) rfl hd_X6_goesOver rfl kw_792 kw_793 kw_92 kw_794 kw_795 (mRoom.of E (Nat.le_of_ble_eq_true rfl) (Nat.le_of_ble_eq_true rfl) (Nat.le_refl 0) (Nat.le_refl 0)) (Nat.le_of_ble_eq_true rfl) dX4_partOf_42 ?_
      refine ev_if_eq (tgt := 52) C dX4_partOf_45 (by decide) (fun hc => ?_) (fun hc => ?_)
      · have hf := oit hf hc
        refine ev_fconst0 C dX4_partOf_52 ?_
        obtain rfl := Option.some.inj hf
        exact ev_fret C E (Nat.le_refl 0) (Nat.le_refl 0) dX4_partOf_53
      · have hf := oie hf hc
        refine ev_iload_n C dX4_partOf_48 rfl (q := 3) rfl ?_
        refine ev_if_ne (tgt := 54) C dX4_partOf_49 (by decide) (fun hc => ?_) (fun hc => ?_)
        · have hf := oie hf hc
          refine ev_aload_n C dX4_partOf_54 rfl (q := 1) rfl ?_
          obtain ⟨x5, e6, hf⟩ := obnd hf
          refine ev_get (k := 2) C ok_6 dX4_partOf_55 (by decide) kw_753 (fI_V e6) ?_
          refine ev_i2f C dX4_partOf_58 ?_
          refine ev_aload_n C dX4_partOf_59 rfl (q := 0) rfl ?_
          obtain ⟨x7, e8, hf⟩ := obnd hf
          refine ev_get (k := 0) C ok_4 dX4_partOf_60 (by decide) kw_122 (fR_V e8) ?_
          refine ev_iload_n C dX4_partOf_63 rfl (q := 2) rfl ?_
          obtain ⟨x9, e10, hf⟩ := obnd hf
          refine ev_iald C dX4_partOf_64 e10 ?_
          refine ev_i2f C dX4_partOf_65 ?_
          obtain ⟨x11, e12, hf⟩ := obnd hf
          obtain ⟨e12, e12q⟩ := oF_eq e12
          refine ev_fmul C dX4_partOf_66 e12 ?_
          rw [← e12q]
          refine ev_iload_n C dX4_partOf_67 rfl (q := 3) rfl ?_
          refine ev_i2f C dX4_partOf_68 ?_
          obtain ⟨x13, e14, hf⟩ := obnd hf
          obtain ⟨e14, e14q⟩ := oF_eq e14
          refine ev_fdiv C dX4_partOf_69 e14 ?_
          rw [← e14q]
          obtain rfl := Option.some.inj hf
          exact ev_fret C E (Nat.le_refl 0) (Nat.le_refl 0) dX4_partOf_70
        · have hf := oit hf hc
          refine ev_fconst0 C dX4_partOf_52 ?_
          obtain rfl := Option.some.inj hf
          exact ev_fret C E (Nat.le_refl 0) (Nat.le_refl 0) dX4_partOf_53
    · have hf := oie hf hc
      refine ev_iload_n C dX4_partOf_11 rfl (q := 3) rfl ?_
      refine ev_aload_n C dX4_partOf_12 rfl (q := 1) rfl ?_
      refine ev_iload C dX4_partOf_13 (q := 4) rfl ?_
      obtain ⟨_, e15, hf⟩ := obnd hf
      obtain ⟨fs16, e15⟩ := oO_eq e15
      obtain ⟨x17, e18, hf⟩ := obnd hf
      refine ev_callV0 (As := [.int i4]) (st := [.int i3]) C rfl e15 (t_X6_goesOver e18) rfl hd_X6_goesOver rfl kw_792 kw_793 kw_92 kw_794 kw_795 (mRoom.of E (Nat.le_of_ble_eq_true rfl) (Nat.le_of_ble_eq_true rfl) (Nat.le_refl 0) (Nat.le_refl 0)) (Nat.le_of_ble_eq_true rfl) dX4_partOf_15 ?_
      refine ev_if_eq (tgt := 31) C dX4_partOf_18 (by decide) (fun hc => ?_) (fun hc => ?_)
      · have hf := oit hf hc
        refine ev_iconst (v := 0) C dX4_partOf_31 (by decide) ?_
        refine ev_sub [0, 1, 2, 4] rfl ?_
        exact t_X4_partOf_J32 C E (m_X4_partOf_L5 N M  n) ih a0 a1 i2 i4 i3 0 hf
      · have hf := oie hf hc
        refine ev_aload_n C dX4_partOf_21 rfl (q := 0) rfl ?_
        obtain ⟨x19, e20, hf⟩ := obnd hf
        refine ev_get (k := 0) C ok_4 dX4_partOf_22 (by decide) kw_122 (fR_V e20) ?_
        refine ev_iload C dX4_partOf_25 (q := 4) rfl ?_
        obtain ⟨x21, e22, hf⟩ := obnd hf
        refine ev_iald C dX4_partOf_27 e22 ?_
        refine ev_goto (tgt := 32) C dX4_partOf_28 (by decide) ?_
        refine ev_sub [0, 1, 2, 4] rfl ?_
        exact t_X4_partOf_J32 C E (m_X4_partOf_L5 N M  n) ih a0 a1 i2 i4 i3 x21 hf
def m_X4_partOf (N : Nat) (a0 : Nat) (a1 : Nat) (i2 : Int32) (M : mM) : Option (UInt32) :=
  m_X4_partOf_L5 N M  N a0 a1 i2 0 0
set_option maxHeartbeats 4000000 in
set_option maxRecDepth 100000 in
theorem t_X4_partOf {L0 : Launch} {M : mM} {N : Nat} {a0 : Nat} {a1 : Nat} {i2 : Int32} {res : UInt32} (hf : m_X4_partOf N a0 a1 i2 M = some res) : CT L0 yX4_partOf prog_6_method_6_code 5 (some .float) 1 21 0 0 [.ref a0, .ref a1, .int i2] M (some (.float res)) M := by
  refine CT.of (by decide +kernel) (Nat.le_of_ble_eq_true rfl) fun X C E => ?_
  have C : CX X RX4 "partOf" prog_6_method_6_code 5 (some .float) := C
  show EV X 5 0 [(0, .ref a0), (1, .ref a1), (2, .int i2)] [] 0 0 M
  unfold m_X4_partOf at hf
  refine ev_iconst (v := 0) C dX4_partOf_0 (by decide) ?_
  refine ev_istore_n (l' := [(3, .int 0), (0, .ref a0), (1, .ref a1), (2, .int i2)]) C dX4_partOf_1 rfl (by decide) rfl ?_
  refine ev_iconst (v := 0) C dX4_partOf_2 (by decide) ?_
  refine ev_istore (l' := [(4, .int 0), (3, .int 0), (0, .ref a0), (1, .ref a1), (2, .int i2)]) C dX4_partOf_3 (by decide) rfl ?_
  refine ev_sub [2, 3, 4, 1, 0] rfl ?_
  exact t_X4_partOf_L5 C E   N a0 a1 i2 0 0 hf
/-! FareLimits$Network dearestBut(II)I -/
theorem dX4_dearestBut_0 : decode prog_6_method_8_code 0 = .ok (.iconst (-1), 1) := by decide +kernel
theorem dX4_dearestBut_1 : decode prog_6_method_8_code 1 = .ok (.istore_n 3, 1) := by decide +kernel
theorem dX4_dearestBut_2 : decode prog_6_method_8_code 2 = .ok (.fconst 0, 1) := by decide +kernel
theorem dX4_dearestBut_3 : decode prog_6_method_8_code 3 = .ok (.fstore 4, 2) := by decide +kernel
theorem dX4_dearestBut_5 : decode prog_6_method_8_code 5 = .ok (.iconst 0, 1) := by decide +kernel
theorem dX4_dearestBut_6 : decode prog_6_method_8_code 6 = .ok (.istore 5, 2) := by decide +kernel
theorem dX4_dearestBut_8 : decode prog_6_method_8_code 8 = .ok (.iload 5, 2) := by decide +kernel
theorem dX4_dearestBut_10 : decode prog_6_method_8_code 10 = .ok (.aload_n 0, 1) := by decide +kernel
theorem dX4_dearestBut_11 : decode prog_6_method_8_code 11 = .ok (.getfield 30, 3) := by decide +kernel
theorem dX4_dearestBut_14 : decode prog_6_method_8_code 14 = .ok (.if_icmp .ge 66, 3) := by decide +kernel
theorem dX4_dearestBut_17 : decode prog_6_method_8_code 17 = .ok (.iload_n 1, 1) := by decide +kernel
theorem dX4_dearestBut_18 : decode prog_6_method_8_code 18 = .ok (.iload 5, 2) := by decide +kernel
theorem dX4_dearestBut_20 : decode prog_6_method_8_code 20 = .ok (.ishr, 1) := by decide +kernel
theorem dX4_dearestBut_21 : decode prog_6_method_8_code 21 = .ok (.iconst 1, 1) := by decide +kernel
theorem dX4_dearestBut_22 : decode prog_6_method_8_code 22 = .ok (.iand, 1) := by decide +kernel
theorem dX4_dearestBut_23 : decode prog_6_method_8_code 23 = .ok (.ifCond .ne 51, 3) := by decide +kernel
theorem dX4_dearestBut_26 : decode prog_6_method_8_code 26 = .ok (.aload_n 0, 1) := by decide +kernel
theorem dX4_dearestBut_27 : decode prog_6_method_8_code 27 = .ok (.getfield 20, 3) := by decide +kernel
theorem dX4_dearestBut_30 : decode prog_6_method_8_code 30 = .ok (.iload 5, 2) := by decide +kernel
theorem dX4_dearestBut_32 : decode prog_6_method_8_code 32 = .ok (.aaload, 1) := by decide +kernel
theorem dX4_dearestBut_33 : decode prog_6_method_8_code 33 = .ok (.iload_n 2, 1) := by decide +kernel
theorem dX4_dearestBut_34 : decode prog_6_method_8_code 34 = .ok (.invokevirtual 37, 3) := by decide +kernel
theorem dX4_dearestBut_37 : decode prog_6_method_8_code 37 = .ok (.ifCond .eq 37, 3) := by decide +kernel
theorem dX4_dearestBut_40 : decode prog_6_method_8_code 40 = .ok (.aload_n 0, 1) := by decide +kernel
theorem dX4_dearestBut_41 : decode prog_6_method_8_code 41 = .ok (.aload_n 0, 1) := by decide +kernel
theorem dX4_dearestBut_42 : decode prog_6_method_8_code 42 = .ok (.getfield 20, 3) := by decide +kernel
theorem dX4_dearestBut_45 : decode prog_6_method_8_code 45 = .ok (.iload 5, 2) := by decide +kernel
theorem dX4_dearestBut_47 : decode prog_6_method_8_code 47 = .ok (.aaload, 1) := by decide +kernel
theorem dX4_dearestBut_48 : decode prog_6_method_8_code 48 = .ok (.iload_n 2, 1) := by decide +kernel
theorem dX4_dearestBut_49 : decode prog_6_method_8_code 49 = .ok (.invokevirtual 51, 3) := by decide +kernel
theorem dX4_dearestBut_52 : decode prog_6_method_8_code 52 = .ok (.fstore 6, 2) := by decide +kernel
theorem dX4_dearestBut_54 : decode prog_6_method_8_code 54 = .ok (.iload_n 3, 1) := by decide +kernel
theorem dX4_dearestBut_55 : decode prog_6_method_8_code 55 = .ok (.iconst (-1), 1) := by decide +kernel
theorem dX4_dearestBut_56 : decode prog_6_method_8_code 56 = .ok (.if_icmp .eq 11, 3) := by decide +kernel
theorem dX4_dearestBut_59 : decode prog_6_method_8_code 59 = .ok (.fload 6, 2) := by decide +kernel
theorem dX4_dearestBut_61 : decode prog_6_method_8_code 61 = .ok (.fload 4, 2) := by decide +kernel
theorem dX4_dearestBut_63 : decode prog_6_method_8_code 63 = .ok (.fcmp .l, 1) := by decide +kernel
theorem dX4_dearestBut_64 : decode prog_6_method_8_code 64 = .ok (.ifCond .le 10, 3) := by decide +kernel
theorem dX4_dearestBut_67 : decode prog_6_method_8_code 67 = .ok (.iload 5, 2) := by decide +kernel
theorem dX4_dearestBut_69 : decode prog_6_method_8_code 69 = .ok (.istore_n 3, 1) := by decide +kernel
theorem dX4_dearestBut_70 : decode prog_6_method_8_code 70 = .ok (.fload 6, 2) := by decide +kernel
theorem dX4_dearestBut_72 : decode prog_6_method_8_code 72 = .ok (.fstore 4, 2) := by decide +kernel
theorem dX4_dearestBut_74 : decode prog_6_method_8_code 74 = .ok (.iinc 5 1, 3) := by decide +kernel
theorem dX4_dearestBut_77 : decode prog_6_method_8_code 77 = .ok (.goto (-69), 3) := by decide +kernel
theorem dX4_dearestBut_80 : decode prog_6_method_8_code 80 = .ok (.iload_n 3, 1) := by decide +kernel
theorem dX4_dearestBut_81 : decode prog_6_method_8_code 81 = .ok (.ireturn, 1) := by decide +kernel
def m_X4_dearestBut_J74 (N : Nat) (M : mM) (k8 : Nat → Int32 → Int32 → Int32 → UInt32 → Int32 → Option (Int32)) (a0 : Nat) (i1 : Int32) (i2 : Int32) (i3 : Int32) (f4 : UInt32) (i5 : Int32) : Option (Int32) :=
  k8 a0 i1 i2 i3 f4 (i5 + 1)
set_option maxHeartbeats 4000000 in
set_option maxRecDepth 100000 in
theorem t_X4_dearestBut_J74 {X : mX} {M : mM} {L0 : Launch} {res : Int32} {N : Nat} (C : CX X RX4 "dearestBut" prog_6_method_8_code 7 (some .int)) (E : EX X L0 2 45 0 0 (some (.int res)) M) (k8 : Nat → Int32 → Int32 → Int32 → UInt32 → Int32 → Option (Int32)) (Hk8 : ∀ (a0 : Nat) (i1 : Int32) (i2 : Int32) (i3 : Int32) (f4 : UInt32) (i5 : Int32), k8 a0 i1 i2 i3 f4 i5 = some res → EV X 7 8 [(0, .ref a0), (1, .int i1), (2, .int i2), (3, .int i3), (4, .float f4), (5, .int i5)] [] 0 0 M) (a0 : Nat) (i1 : Int32) (i2 : Int32) (i3 : Int32) (f4 : UInt32) (i5 : Int32) (hf : m_X4_dearestBut_J74 N M k8 a0 i1 i2 i3 f4 i5 = some res) : EV X 7 74 [(0, .ref a0), (1, .int i1), (2, .int i2), (3, .int i3), (4, .float f4), (5, .int i5)] [] 0 0 M := by
  unfold m_X4_dearestBut_J74 at hf
  refine ev_iinc (v := i5 + 1) (l' := [(5, .int (i5 + 1)), (0, .ref a0), (1, .int i1), (2, .int i2), (3, .int i3), (4, .float f4)]) C dX4_dearestBut_74 (q := 5) rfl rfl (by decide) rfl ?_
  refine ev_goto (tgt := 8) C dX4_dearestBut_77 (by decide) ?_
  refine ev_sub [1, 2, 3, 4, 5, 0] rfl ?_
  exact Hk8 a0 i1 i2 i3 f4 (i5 + 1) hf
def m_X4_dearestBut_J67 (N : Nat) (M : mM) (k8 : Nat → Int32 → Int32 → Int32 → UInt32 → Int32 → Option (Int32)) (a0 : Nat) (i1 : Int32) (i2 : Int32) (i5 : Int32) (f6 : UInt32) : Option (Int32) :=
  m_X4_dearestBut_J74 N M k8 a0 i1 i2 i5 f6 i5
set_option maxHeartbeats 4000000 in
set_option maxRecDepth 100000 in
theorem t_X4_dearestBut_J67 {X : mX} {M : mM} {L0 : Launch} {res : Int32} {N : Nat} (C : CX X RX4 "dearestBut" prog_6_method_8_code 7 (some .int)) (E : EX X L0 2 45 0 0 (some (.int res)) M) (k8 : Nat → Int32 → Int32 → Int32 → UInt32 → Int32 → Option (Int32)) (Hk8 : ∀ (a0 : Nat) (i1 : Int32) (i2 : Int32) (i3 : Int32) (f4 : UInt32) (i5 : Int32), k8 a0 i1 i2 i3 f4 i5 = some res → EV X 7 8 [(0, .ref a0), (1, .int i1), (2, .int i2), (3, .int i3), (4, .float f4), (5, .int i5)] [] 0 0 M) (a0 : Nat) (i1 : Int32) (i2 : Int32) (i5 : Int32) (f6 : UInt32) (hf : m_X4_dearestBut_J67 N M k8 a0 i1 i2 i5 f6 = some res) : EV X 7 67 [(0, .ref a0), (1, .int i1), (2, .int i2), (5, .int i5), (6, .float f6)] [] 0 0 M := by
  unfold m_X4_dearestBut_J67 at hf
  refine ev_iload C dX4_dearestBut_67 (q := 3) rfl ?_
  refine ev_istore_n (l' := [(3, .int i5), (0, .ref a0), (1, .int i1), (2, .int i2), (5, .int i5), (6, .float f6)]) C dX4_dearestBut_69 rfl (by decide) rfl ?_
  refine ev_fload C dX4_dearestBut_70 (q := 5) rfl ?_
  refine ev_fstore (l' := [(4, .float f6), (3, .int i5), (0, .ref a0), (1, .int i1), (2, .int i2), (5, .int i5), (6, .float f6)]) C dX4_dearestBut_72 (by decide) rfl ?_
  refine ev_sub [2, 3, 4, 1, 0, 5] rfl ?_
  exact t_X4_dearestBut_J74 C E k8 Hk8 a0 i1 i2 i5 f6 i5 hf
def m_X4_dearestBut_L8 (N : Nat) (M : mM)  : Nat → Nat → Int32 → Int32 → Int32 → UInt32 → Int32 → Option (Int32)
  | 0, _, _, _, _, _, _ => none
  | n + 1, a0, i1, i2, i3, f4, i5 =>
    (fI M a0 4 3).bind fun x1 =>
    if x1 ≤ i5 then (
      some i3) else (
      if ((i1 >>> (i5 &&& 31)) &&& 1) = 0 then (
        (fR M a0 4 2).bind fun x3 =>
        (aR 6 M x3 i5).bind fun x5 =>
        (oO M x5 6).bind fun _ =>
        (m_X6_goesOver x5 i2 M).bind fun x9 =>
        if x9 = 0 then (
          m_X4_dearestBut_J74 N M (m_X4_dearestBut_L8 N M  n) a0 i1 i2 i3 f4 i5) else (
          (fR M a0 4 2).bind fun x11 =>
          (aR 6 M x11 i5).bind fun x13 =>
          (oO M a0 4).bind fun _ =>
          (m_X4_partOf N a0 x13 i2 M).bind fun x17 =>
          if i3 = (-1) then (
            m_X4_dearestBut_J67 N M (m_X4_dearestBut_L8 N M  n) a0 i1 i2 i5 x17) else (
            if (Op.cmpValue (FP.fcmp x17 f4) CmpOp.l) ≤ 0 then (
              m_X4_dearestBut_J74 N M (m_X4_dearestBut_L8 N M  n) a0 i1 i2 i3 f4 i5) else (
              m_X4_dearestBut_J67 N M (m_X4_dearestBut_L8 N M  n) a0 i1 i2 i5 x17)))) else (
        m_X4_dearestBut_J74 N M (m_X4_dearestBut_L8 N M  n) a0 i1 i2 i3 f4 i5))
set_option maxHeartbeats 4000000 in
set_option maxRecDepth 100000 in
theorem t_X4_dearestBut_L8 {X : mX} {M : mM} {L0 : Launch} {res : Int32} {N : Nat} (C : CX X RX4 "dearestBut" prog_6_method_8_code 7 (some .int)) (E : EX X L0 2 45 0 0 (some (.int res)) M)   : ∀ (n : Nat) (a0 : Nat) (i1 : Int32) (i2 : Int32) (i3 : Int32) (f4 : UInt32) (i5 : Int32), m_X4_dearestBut_L8 N M  n a0 i1 i2 i3 f4 i5 = some res → EV X 7 8 [(0, .ref a0), (1, .int i1), (2, .int i2), (3, .int i3), (4, .float f4), (5, .int i5)] [] 0 0 M := by
  intro n
  induction n with
  | zero => intro a0 i1 i2 i3 f4 i5 hf; cases (show (none : Option (Int32)) = some res from hf)
  | succ n ih =>
    intro a0 i1 i2 i3 f4 i5 hf
    rw [m_X4_dearestBut_L8] at hf
    refine ev_iload C dX4_dearestBut_8 (q := 5) rfl ?_
    refine ev_aload_n C dX4_dearestBut_10 rfl (q := 0) rfl ?_
    obtain ⟨x1, e2, hf⟩ := obnd hf
    refine ev_get (k := 3) C ok_4 dX4_dearestBut_11 (by decide) kw_128 (fI_V e2) ?_
    refine ev_icmp_ge (tgt := 80) C dX4_dearestBut_14 (by decide) (fun hc => ?_) (fun hc => ?_)
    · have hf := oit hf hc
      refine ev_iload_n C dX4_dearestBut_80 rfl (q := 3) rfl ?_
      obtain rfl := Option.some.inj hf
      exact ev_iret C E (Nat.le_refl 0) (Nat.le_refl 0) dX4_dearestBut_81
    · have hf := oie hf hc
      refine ev_iload_n C dX4_dearestBut_17 rfl (q := 1) rfl ?_
      refine ev_iload C dX4_dearestBut_18 (q := 5) rfl ?_
      refine ev_ishr C dX4_dearestBut_20 ?_
      refine ev_iconst (v := 1) C dX4_dearestBut_21 (by decide) ?_
      refine ev_iand C dX4_dearestBut_22 ?_
      refine ev_if_ne (tgt := 74) C dX4_dearestBut_23 (by decide) (fun hc => ?_) (fun hc => ?_)
      · have hf := oie hf hc
        exact t_X4_dearestBut_J74 C E (m_X4_dearestBut_L8 N M  n) ih a0 i1 i2 i3 f4 i5 hf
      · have hf := oit hf hc
        refine ev_aload_n C dX4_dearestBut_26 rfl (q := 0) rfl ?_
        obtain ⟨x3, e4, hf⟩ := obnd hf
        refine ev_get (k := 2) C ok_4 dX4_dearestBut_27 (by decide) kw_126 (fR_V e4) ?_
        refine ev_iload C dX4_dearestBut_30 (q := 5) rfl ?_
        obtain ⟨x5, e6, hf⟩ := obnd hf
        refine ev_aldr C (t := 6) rfl rfl dX4_dearestBut_32 e6 ?_
        refine ev_iload_n C dX4_dearestBut_33 rfl (q := 2) rfl ?_
        obtain ⟨_, e7, hf⟩ := obnd hf
        obtain ⟨fs8, e7⟩ := oO_eq e7
        obtain ⟨x9, e10, hf⟩ := obnd hf
        refine ev_callV0 (As := [.int i2]) (st := []) C rfl e7 (t_X6_goesOver e10) rfl hd_X6_goesOver rfl kw_792 kw_793 kw_92 kw_794 kw_795 (mRoom.of E (Nat.le_of_ble_eq_true rfl) (Nat.le_of_ble_eq_true rfl) (Nat.le_refl 0) (Nat.le_refl 0)) (Nat.le_of_ble_eq_true rfl) dX4_dearestBut_34 ?_
        refine ev_if_eq (tgt := 74) C dX4_dearestBut_37 (by decide) (fun hc => ?_) (fun hc => ?_)
        · have hf := oit hf hc
          exact t_X4_dearestBut_J74 C E (m_X4_dearestBut_L8 N M  n) ih a0 i1 i2 i3 f4 i5 hf
        · have hf := oie hf hc
          refine ev_aload_n C dX4_dearestBut_40 rfl (q := 0) rfl ?_
          refine ev_aload_n C dX4_dearestBut_41 rfl (q := 0) rfl ?_
          obtain ⟨x11, e12, hf⟩ := obnd hf
          refine ev_get (k := 2) C ok_4 dX4_dearestBut_42 (by decide) kw_126 (fR_V e12) ?_
          refine ev_iload C dX4_dearestBut_45 (q := 5) rfl ?_
          obtain ⟨x13, e14, hf⟩ := obnd hf
          refine ev_aldr C (t := 6) rfl rfl dX4_dearestBut_47 e14 ?_
          refine ev_iload_n C dX4_dearestBut_48 rfl (q := 2) rfl ?_
          obtain ⟨_, e15, hf⟩ := obnd hf
          obtain ⟨fs16, e15⟩ := oO_eq e15
          obtain ⟨x17, e18, hf⟩ := obnd hf
          refine ev_callV0 (As := [.ref x13, .int i2]) (st := []) C rfl e15 (t_X4_partOf e18) rfl hd_X4_partOf rfl kw_804 kw_805 kw_72 kw_806 kw_807 (mRoom.of E (Nat.le_of_ble_eq_true rfl) (Nat.le_of_ble_eq_true rfl) (Nat.le_refl 0) (Nat.le_refl 0)) (Nat.le_of_ble_eq_true rfl) dX4_dearestBut_49 ?_
          refine ev_fstore (l' := [(6, .float x17), (0, .ref a0), (1, .int i1), (2, .int i2), (3, .int i3), (4, .float f4), (5, .int i5)]) C dX4_dearestBut_52 (by decide) rfl ?_
          refine ev_iload_n C dX4_dearestBut_54 rfl (q := 4) rfl ?_
          refine ev_iconst (v := (-1)) C dX4_dearestBut_55 (by decide) ?_
          refine ev_icmp_eq (tgt := 67) C dX4_dearestBut_56 (by decide) (fun hc => ?_) (fun hc => ?_)
          · have hf := oit hf hc
            refine ev_sub [1, 2, 3, 6, 0] rfl ?_
            exact t_X4_dearestBut_J67 C E (m_X4_dearestBut_L8 N M  n) ih a0 i1 i2 i5 x17 hf
          · have hf := oie hf hc
            refine ev_fload C dX4_dearestBut_59 (q := 0) rfl ?_
            refine ev_fload C dX4_dearestBut_61 (q := 5) rfl ?_
            refine ev_fcmp C dX4_dearestBut_63 ?_
            refine ev_if_le (tgt := 74) C dX4_dearestBut_64 (by decide) (fun hc => ?_) (fun hc => ?_)
            · have hf := oit hf hc
              refine ev_sub [1, 2, 3, 4, 5, 6] rfl ?_
              exact t_X4_dearestBut_J74 C E (m_X4_dearestBut_L8 N M  n) ih a0 i1 i2 i3 f4 i5 hf
            · have hf := oie hf hc
              refine ev_sub [1, 2, 3, 6, 0] rfl ?_
              exact t_X4_dearestBut_J67 C E (m_X4_dearestBut_L8 N M  n) ih a0 i1 i2 i5 x17 hf
def m_X4_dearestBut (N : Nat) (a0 : Nat) (i1 : Int32) (i2 : Int32) (M : mM) : Option (Int32) :=
  m_X4_dearestBut_L8 N M  N a0 i1 i2 (-1) FP.fconst0 0
set_option maxHeartbeats 4000000 in
set_option maxRecDepth 100000 in
theorem t_X4_dearestBut {L0 : Launch} {M : mM} {N : Nat} {a0 : Nat} {i1 : Int32} {i2 : Int32} {res : Int32} (hf : m_X4_dearestBut N a0 i1 i2 M = some res) : CT L0 yX4_dearestBut prog_6_method_8_code 7 (some .int) 2 45 0 0 [.ref a0, .int i1, .int i2] M (some (.int res)) M := by
  refine CT.of (by decide +kernel) (Nat.le_of_ble_eq_true rfl) fun X C E => ?_
  have C : CX X RX4 "dearestBut" prog_6_method_8_code 7 (some .int) := C
  show EV X 7 0 [(0, .ref a0), (1, .int i1), (2, .int i2)] [] 0 0 M
  unfold m_X4_dearestBut at hf
  refine ev_iconst (v := (-1)) C dX4_dearestBut_0 (by decide) ?_
  refine ev_istore_n (l' := [(3, .int (-1)), (0, .ref a0), (1, .int i1), (2, .int i2)]) C dX4_dearestBut_1 rfl (by decide) rfl ?_
  refine ev_fconst0 C dX4_dearestBut_2 ?_
  refine ev_fstore (l' := [(4, .float FP.fconst0), (3, .int (-1)), (0, .ref a0), (1, .int i1), (2, .int i2)]) C dX4_dearestBut_3 (by decide) rfl ?_
  refine ev_iconst (v := 0) C dX4_dearestBut_5 (by decide) ?_
  refine ev_istore (l' := [(5, .int 0), (4, .float FP.fconst0), (3, .int (-1)), (0, .ref a0), (1, .int i1), (2, .int i2)]) C dX4_dearestBut_6 (by decide) rfl ?_
  refine ev_sub [3, 4, 5, 2, 1, 0] rfl ?_
  exact t_X4_dearestBut_L8 C E   N a0 i1 i2 (-1) FP.fconst0 0 hf
/-! FareLimits$Network costOf(I)F -/
theorem dX4_costOf_0 : decode prog_6_method_7_code 0 = .ok (.iconst 0, 1) := by decide +kernel
theorem dX4_costOf_1 : decode prog_6_method_7_code 1 = .ok (.istore_n 2, 1) := by decide +kernel
theorem dX4_costOf_2 : decode prog_6_method_7_code 2 = .ok (.iconst 0, 1) := by decide +kernel
theorem dX4_costOf_3 : decode prog_6_method_7_code 3 = .ok (.istore_n 3, 1) := by decide +kernel
theorem dX4_costOf_4 : decode prog_6_method_7_code 4 = .ok (.iconst 0, 1) := by decide +kernel
theorem dX4_costOf_5 : decode prog_6_method_7_code 5 = .ok (.istore 4, 2) := by decide +kernel
theorem dX4_costOf_7 : decode prog_6_method_7_code 7 = .ok (.iload 4, 2) := by decide +kernel
theorem dX4_costOf_9 : decode prog_6_method_7_code 9 = .ok (.aload_n 0, 1) := by decide +kernel
theorem dX4_costOf_10 : decode prog_6_method_7_code 10 = .ok (.getfield 30, 3) := by decide +kernel
theorem dX4_costOf_13 : decode prog_6_method_7_code 13 = .ok (.if_icmp .ge 68, 3) := by decide +kernel
theorem dX4_costOf_16 : decode prog_6_method_7_code 16 = .ok (.aload_n 0, 1) := by decide +kernel
theorem dX4_costOf_17 : decode prog_6_method_7_code 17 = .ok (.iload_n 2, 1) := by decide +kernel
theorem dX4_costOf_18 : decode prog_6_method_7_code 18 = .ok (.iload_n 1, 1) := by decide +kernel
theorem dX4_costOf_19 : decode prog_6_method_7_code 19 = .ok (.invokevirtual 44, 3) := by decide +kernel
theorem dX4_costOf_22 : decode prog_6_method_7_code 22 = .ok (.istore 5, 2) := by decide +kernel
theorem dX4_costOf_24 : decode prog_6_method_7_code 24 = .ok (.iload 5, 2) := by decide +kernel
theorem dX4_costOf_26 : decode prog_6_method_7_code 26 = .ok (.iconst (-1), 1) := by decide +kernel
theorem dX4_costOf_27 : decode prog_6_method_7_code 27 = .ok (.if_icmp .ne 5, 3) := by decide +kernel
theorem dX4_costOf_30 : decode prog_6_method_7_code 30 = .ok (.fconst 0, 1) := by decide +kernel
theorem dX4_costOf_31 : decode prog_6_method_7_code 31 = .ok (.freturn, 1) := by decide +kernel
theorem dX4_costOf_32 : decode prog_6_method_7_code 32 = .ok (.iload_n 2, 1) := by decide +kernel
theorem dX4_costOf_33 : decode prog_6_method_7_code 33 = .ok (.iconst 1, 1) := by decide +kernel
theorem dX4_costOf_34 : decode prog_6_method_7_code 34 = .ok (.iload 5, 2) := by decide +kernel
theorem dX4_costOf_36 : decode prog_6_method_7_code 36 = .ok (.ishl, 1) := by decide +kernel
theorem dX4_costOf_37 : decode prog_6_method_7_code 37 = .ok (.ior, 1) := by decide +kernel
theorem dX4_costOf_38 : decode prog_6_method_7_code 38 = .ok (.istore_n 2, 1) := by decide +kernel
theorem dX4_costOf_39 : decode prog_6_method_7_code 39 = .ok (.iload_n 3, 1) := by decide +kernel
theorem dX4_costOf_40 : decode prog_6_method_7_code 40 = .ok (.aload_n 0, 1) := by decide +kernel
theorem dX4_costOf_41 : decode prog_6_method_7_code 41 = .ok (.getfield 20, 3) := by decide +kernel
theorem dX4_costOf_44 : decode prog_6_method_7_code 44 = .ok (.iload 5, 2) := by decide +kernel
theorem dX4_costOf_46 : decode prog_6_method_7_code 46 = .ok (.aaload, 1) := by decide +kernel
theorem dX4_costOf_47 : decode prog_6_method_7_code 47 = .ok (.getfield 48, 3) := by decide +kernel
theorem dX4_costOf_50 : decode prog_6_method_7_code 50 = .ok (.iadd, 1) := by decide +kernel
theorem dX4_costOf_51 : decode prog_6_method_7_code 51 = .ok (.istore_n 3, 1) := by decide +kernel
theorem dX4_costOf_52 : decode prog_6_method_7_code 52 = .ok (.iload_n 3, 1) := by decide +kernel
theorem dX4_costOf_53 : decode prog_6_method_7_code 53 = .ok (.aload_n 0, 1) := by decide +kernel
theorem dX4_costOf_54 : decode prog_6_method_7_code 54 = .ok (.getfield 15, 3) := by decide +kernel
theorem dX4_costOf_57 : decode prog_6_method_7_code 57 = .ok (.iload_n 1, 1) := by decide +kernel
theorem dX4_costOf_58 : decode prog_6_method_7_code 58 = .ok (.iaload, 1) := by decide +kernel
theorem dX4_costOf_59 : decode prog_6_method_7_code 59 = .ok (.if_icmp .le 16, 3) := by decide +kernel
theorem dX4_costOf_62 : decode prog_6_method_7_code 62 = .ok (.aload_n 0, 1) := by decide +kernel
theorem dX4_costOf_63 : decode prog_6_method_7_code 63 = .ok (.aload_n 0, 1) := by decide +kernel
theorem dX4_costOf_64 : decode prog_6_method_7_code 64 = .ok (.getfield 20, 3) := by decide +kernel
theorem dX4_costOf_67 : decode prog_6_method_7_code 67 = .ok (.iload 5, 2) := by decide +kernel
theorem dX4_costOf_69 : decode prog_6_method_7_code 69 = .ok (.aaload, 1) := by decide +kernel
theorem dX4_costOf_70 : decode prog_6_method_7_code 70 = .ok (.iload_n 1, 1) := by decide +kernel
theorem dX4_costOf_71 : decode prog_6_method_7_code 71 = .ok (.invokevirtual 51, 3) := by decide +kernel
theorem dX4_costOf_74 : decode prog_6_method_7_code 74 = .ok (.freturn, 1) := by decide +kernel
theorem dX4_costOf_75 : decode prog_6_method_7_code 75 = .ok (.iinc 4 1, 3) := by decide +kernel
theorem dX4_costOf_78 : decode prog_6_method_7_code 78 = .ok (.goto (-71), 3) := by decide +kernel
theorem dX4_costOf_81 : decode prog_6_method_7_code 81 = .ok (.fconst 0, 1) := by decide +kernel
theorem dX4_costOf_82 : decode prog_6_method_7_code 82 = .ok (.freturn, 1) := by decide +kernel
def m_X4_costOf_L7 (N : Nat) (M : mM)  : Nat → Nat → Int32 → Int32 → Int32 → Int32 → Option (UInt32)
  | 0, _, _, _, _, _ => none
  | n + 1, a0, i1, i2, i3, i4 =>
    (fI M a0 4 3).bind fun x1 =>
    if x1 ≤ i4 then (
      some FP.fconst0) else (
      (oO M a0 4).bind fun _ =>
      (m_X4_dearestBut N a0 i2 i1 M).bind fun x5 =>
      if x5 = (-1) then (
        some FP.fconst0) else (
        (fR M a0 4 2).bind fun x7 =>
        (aR 6 M x7 x5).bind fun x9 =>
        (fI M x9 6 3).bind fun x11 =>
        (fR M a0 4 1).bind fun x13 =>
        (aI 0 M x13 i1).bind fun x15 =>
        if (i3 + x11) ≤ x15 then (
          (m_X4_costOf_L7 N M  n) a0 i1 (i2 ||| (1 <<< (x5 &&& 31))) (i3 + x11) (i4 + 1)) else (
          (fR M a0 4 2).bind fun x17 =>
          (aR 6 M x17 x5).bind fun x19 =>
          (oO M a0 4).bind fun _ =>
          (m_X4_partOf N a0 x19 i1 M).bind fun x23 =>
          some x23)))
set_option maxHeartbeats 4000000 in
set_option maxRecDepth 100000 in
theorem t_X4_costOf_L7 {X : mX} {M : mM} {L0 : Launch} {res : UInt32} {N : Nat} (C : CX X RX4 "costOf" prog_6_method_7_code 6 (some .float)) (E : EX X L0 3 71 0 0 (some (.float res)) M)   : ∀ (n : Nat) (a0 : Nat) (i1 : Int32) (i2 : Int32) (i3 : Int32) (i4 : Int32), m_X4_costOf_L7 N M  n a0 i1 i2 i3 i4 = some res → EV X 6 7 [(0, .ref a0), (1, .int i1), (2, .int i2), (3, .int i3), (4, .int i4)] [] 0 0 M := by
  intro n
  induction n with
  | zero => intro a0 i1 i2 i3 i4 hf; cases (show (none : Option (UInt32)) = some res from hf)
  | succ n ih =>
    intro a0 i1 i2 i3 i4 hf
    rw [m_X4_costOf_L7] at hf
    refine ev_iload C dX4_costOf_7 (q := 4) rfl ?_
    refine ev_aload_n C dX4_costOf_9 rfl (q := 0) rfl ?_
    obtain ⟨x1, e2, hf⟩ := obnd hf
    refine ev_get (k := 3) C ok_4 dX4_costOf_10 (by decide) kw_128 (fI_V e2) ?_
    refine ev_icmp_ge (tgt := 81) C dX4_costOf_13 (by decide) (fun hc => ?_) (fun hc => ?_)
    · have hf := oit hf hc
      refine ev_fconst0 C dX4_costOf_81 ?_
      obtain rfl := Option.some.inj hf
      exact ev_fret C E (Nat.le_refl 0) (Nat.le_refl 0) dX4_costOf_82
    · have hf := oie hf hc
      refine ev_aload_n C dX4_costOf_16 rfl (q := 0) rfl ?_
      refine ev_iload_n C dX4_costOf_17 rfl (q := 2) rfl ?_
      refine ev_iload_n C dX4_costOf_18 rfl (q := 1) rfl ?_
      obtain ⟨_, e3, hf⟩ := obnd hf
      obtain ⟨fs4, e3⟩ := oO_eq e3
      obtain ⟨x5, e6, hf⟩ := obnd hf
      refine ev_callV0 (As := [.int i2, .int i1]) (st := []) C rfl e3 (t_X4_dearestBut e6) rfl hd_X4_dearestBut rfl kw_800 kw_802 kw_72 kw_15 kw_803 (mRoom.of E (Nat.le_of_ble_eq_true rfl) (Nat.le_of_ble_eq_true rfl) (Nat.le_refl 0) (Nat.le_refl 0)) (Nat.le_of_ble_eq_true rfl) dX4_costOf_19 ?_
      refine ev_istore (l' := [(5, .int x5), (0, .ref a0), (1, .int i1), (2, .int i2), (3, .int i3), (4, .int i4)]) C dX4_costOf_22 (by decide) rfl ?_
      refine ev_iload C dX4_costOf_24 (q := 0) rfl ?_
      refine ev_iconst (v := (-1)) C dX4_costOf_26 (by decide) ?_
      refine ev_icmp_ne (tgt := 32) C dX4_costOf_27 (by decide) (fun hc => ?_) (fun hc => ?_)
      · have hf := oie hf hc
        refine ev_iload_n C dX4_costOf_32 rfl (q := 3) rfl ?_
        refine ev_iconst (v := 1) C dX4_costOf_33 (by decide) ?_
        refine ev_iload C dX4_costOf_34 (q := 0) rfl ?_
        refine ev_ishl C dX4_costOf_36 ?_
        refine ev_ior C dX4_costOf_37 ?_
        refine ev_istore_n (l' := [(2, .int (i2 ||| (1 <<< (x5 &&& 31)))), (5, .int x5), (0, .ref a0), (1, .int i1), (3, .int i3), (4, .int i4)]) C dX4_costOf_38 rfl (by decide) rfl ?_
        refine ev_iload_n C dX4_costOf_39 rfl (q := 4) rfl ?_
        refine ev_aload_n C dX4_costOf_40 rfl (q := 2) rfl ?_
        obtain ⟨x7, e8, hf⟩ := obnd hf
        refine ev_get (k := 2) C ok_4 dX4_costOf_41 (by decide) kw_126 (fR_V e8) ?_
        refine ev_iload C dX4_costOf_44 (q := 1) rfl ?_
        obtain ⟨x9, e10, hf⟩ := obnd hf
        refine ev_aldr C (t := 6) rfl rfl dX4_costOf_46 e10 ?_
        obtain ⟨x11, e12, hf⟩ := obnd hf
        refine ev_get (k := 3) C ok_6 dX4_costOf_47 (by decide) kw_756 (fI_V e12) ?_
        refine ev_iadd C dX4_costOf_50 ?_
        refine ev_istore_n (l' := [(3, .int (i3 + x11)), (2, .int (i2 ||| (1 <<< (x5 &&& 31)))), (5, .int x5), (0, .ref a0), (1, .int i1), (4, .int i4)]) C dX4_costOf_51 rfl (by decide) rfl ?_
        refine ev_iload_n C dX4_costOf_52 rfl (q := 0) rfl ?_
        refine ev_aload_n C dX4_costOf_53 rfl (q := 3) rfl ?_
        obtain ⟨x13, e14, hf⟩ := obnd hf
        refine ev_get (k := 1) C ok_4 dX4_costOf_54 (by decide) kw_124 (fR_V e14) ?_
        refine ev_iload_n C dX4_costOf_57 rfl (q := 4) rfl ?_
        obtain ⟨x15, e16, hf⟩ := obnd hf
        refine ev_iald C dX4_costOf_58 e16 ?_
        refine ev_icmp_le (tgt := 75) C dX4_costOf_59 (by decide) (fun hc => ?_) (fun hc => ?_)
        · have hf := oit hf hc
          refine ev_iinc (v := i4 + 1) (l' := [(4, .int (i4 + 1)), (3, .int (i3 + x11)), (2, .int (i2 ||| (1 <<< (x5 &&& 31)))), (5, .int x5), (0, .ref a0), (1, .int i1)]) C dX4_costOf_75 (q := 5) rfl rfl (by decide) rfl ?_
          refine ev_goto (tgt := 7) C dX4_costOf_78 (by decide) ?_
          refine ev_sub [4, 5, 2, 1, 0] rfl ?_
          exact ih a0 i1 (i2 ||| (1 <<< (x5 &&& 31))) (i3 + x11) (i4 + 1) hf
        · have hf := oie hf hc
          refine ev_aload_n C dX4_costOf_62 rfl (q := 3) rfl ?_
          refine ev_aload_n C dX4_costOf_63 rfl (q := 3) rfl ?_
          obtain ⟨x17, e18, hf⟩ := obnd hf
          refine ev_get (k := 2) C ok_4 dX4_costOf_64 (by decide) kw_126 (fR_V e18) ?_
          refine ev_iload C dX4_costOf_67 (q := 2) rfl ?_
          obtain ⟨x19, e20, hf⟩ := obnd hf
          refine ev_aldr C (t := 6) rfl rfl dX4_costOf_69 e20 ?_
          refine ev_iload_n C dX4_costOf_70 rfl (q := 4) rfl ?_
          obtain ⟨_, e21, hf⟩ := obnd hf
          obtain ⟨fs22, e21⟩ := oO_eq e21
          obtain ⟨x23, e24, hf⟩ := obnd hf
          refine ev_callV0 (As := [.ref x19, .int i1]) (st := []) C rfl e21 (t_X4_partOf e24) rfl hd_X4_partOf rfl kw_804 kw_805 kw_72 kw_806 kw_807 (mRoom.of E (Nat.le_of_ble_eq_true rfl) (Nat.le_of_ble_eq_true rfl) (Nat.le_refl 0) (Nat.le_refl 0)) (Nat.le_of_ble_eq_true rfl) dX4_costOf_71 ?_
          obtain rfl := Option.some.inj hf
          exact ev_fret C E (Nat.le_refl 0) (Nat.le_refl 0) dX4_costOf_74
      · have hf := oit hf hc
        refine ev_fconst0 C dX4_costOf_30 ?_
        obtain rfl := Option.some.inj hf
        exact ev_fret C E (Nat.le_refl 0) (Nat.le_refl 0) dX4_costOf_31
def m_X4_costOf (N : Nat) (a0 : Nat) (i1 : Int32) (M : mM) : Option (UInt32) :=
  m_X4_costOf_L7 N M  N a0 i1 0 0 0
set_option maxHeartbeats 4000000 in
set_option maxRecDepth 100000 in
theorem t_X4_costOf {L0 : Launch} {M : mM} {N : Nat} {a0 : Nat} {i1 : Int32} {res : UInt32} (hf : m_X4_costOf N a0 i1 M = some res) : CT L0 yX4_costOf prog_6_method_7_code 6 (some .float) 3 71 0 0 [.ref a0, .int i1] M (some (.float res)) M := by
  refine CT.of (by decide +kernel) (Nat.le_of_ble_eq_true rfl) fun X C E => ?_
  have C : CX X RX4 "costOf" prog_6_method_7_code 6 (some .float) := C
  show EV X 6 0 [(0, .ref a0), (1, .int i1)] [] 0 0 M
  unfold m_X4_costOf at hf
  refine ev_iconst (v := 0) C dX4_costOf_0 (by decide) ?_
  refine ev_istore_n (l' := [(2, .int 0), (0, .ref a0), (1, .int i1)]) C dX4_costOf_1 rfl (by decide) rfl ?_
  refine ev_iconst (v := 0) C dX4_costOf_2 (by decide) ?_
  refine ev_istore_n (l' := [(3, .int 0), (2, .int 0), (0, .ref a0), (1, .int i1)]) C dX4_costOf_3 rfl (by decide) rfl ?_
  refine ev_iconst (v := 0) C dX4_costOf_4 (by decide) ?_
  refine ev_istore (l' := [(4, .int 0), (3, .int 0), (2, .int 0), (0, .ref a0), (1, .int i1)]) C dX4_costOf_5 (by decide) rfl ?_
  refine ev_sub [3, 4, 2, 1, 0] rfl ?_
  exact t_X4_costOf_L7 C E   N a0 i1 0 0 0 hf
/-! FareLimits$Network letsIn(LFareLimits$Route;)Z -/
theorem dX4_letsIn_0 : decode prog_6_method_9_code 0 = .ok (.dconst 0, 1) := by decide +kernel
theorem dX4_letsIn_1 : decode prog_6_method_9_code 1 = .ok (.dstore_n 2, 1) := by decide +kernel
theorem dX4_letsIn_2 : decode prog_6_method_9_code 2 = .ok (.iconst 0, 1) := by decide +kernel
theorem dX4_letsIn_3 : decode prog_6_method_9_code 3 = .ok (.istore 4, 2) := by decide +kernel
theorem dX4_letsIn_5 : decode prog_6_method_9_code 5 = .ok (.iload 4, 2) := by decide +kernel
theorem dX4_letsIn_7 : decode prog_6_method_9_code 7 = .ok (.iconst 4, 1) := by decide +kernel
theorem dX4_letsIn_8 : decode prog_6_method_9_code 8 = .ok (.if_icmp .ge 28, 3) := by decide +kernel
theorem dX4_letsIn_11 : decode prog_6_method_9_code 11 = .ok (.aload_n 1, 1) := by decide +kernel
theorem dX4_letsIn_12 : decode prog_6_method_9_code 12 = .ok (.iload 4, 2) := by decide +kernel
theorem dX4_letsIn_14 : decode prog_6_method_9_code 14 = .ok (.invokevirtual 37, 3) := by decide +kernel
theorem dX4_letsIn_17 : decode prog_6_method_9_code 17 = .ok (.ifCond .eq 13, 3) := by decide +kernel
theorem dX4_letsIn_20 : decode prog_6_method_9_code 20 = .ok (.dload_n 2, 1) := by decide +kernel
theorem dX4_letsIn_21 : decode prog_6_method_9_code 21 = .ok (.aload_n 0, 1) := by decide +kernel
theorem dX4_letsIn_22 : decode prog_6_method_9_code 22 = .ok (.iload 4, 2) := by decide +kernel
theorem dX4_letsIn_24 : decode prog_6_method_9_code 24 = .ok (.invokevirtual 55, 3) := by decide +kernel
theorem dX4_letsIn_27 : decode prog_6_method_9_code 27 = .ok (.f2d, 1) := by decide +kernel
theorem dX4_letsIn_28 : decode prog_6_method_9_code 28 = .ok (.dadd, 1) := by decide +kernel
theorem dX4_letsIn_29 : decode prog_6_method_9_code 29 = .ok (.dstore_n 2, 1) := by decide +kernel
theorem dX4_letsIn_30 : decode prog_6_method_9_code 30 = .ok (.iinc 4 1, 3) := by decide +kernel
theorem dX4_letsIn_33 : decode prog_6_method_9_code 33 = .ok (.goto (-28), 3) := by decide +kernel
theorem dX4_letsIn_36 : decode prog_6_method_9_code 36 = .ok (.aload_n 1, 1) := by decide +kernel
theorem dX4_letsIn_37 : decode prog_6_method_9_code 37 = .ok (.getfield 41, 3) := by decide +kernel
theorem dX4_letsIn_40 : decode prog_6_method_9_code 40 = .ok (.i2d, 1) := by decide +kernel
theorem dX4_letsIn_41 : decode prog_6_method_9_code 41 = .ok (.dload_n 2, 1) := by decide +kernel
theorem dX4_letsIn_42 : decode prog_6_method_9_code 42 = .ok (.dcmp .l, 1) := by decide +kernel
theorem dX4_letsIn_43 : decode prog_6_method_9_code 43 = .ok (.ifCond .lt 7, 3) := by decide +kernel
theorem dX4_letsIn_46 : decode prog_6_method_9_code 46 = .ok (.iconst 1, 1) := by decide +kernel
theorem dX4_letsIn_47 : decode prog_6_method_9_code 47 = .ok (.goto 4, 3) := by decide +kernel
theorem dX4_letsIn_50 : decode prog_6_method_9_code 50 = .ok (.iconst 0, 1) := by decide +kernel
theorem dX4_letsIn_51 : decode prog_6_method_9_code 51 = .ok (.ireturn, 1) := by decide +kernel
def m_X4_letsIn_J30 (N : Nat) (M : mM) (k5 : Nat → Nat → UInt64 → Int32 → Option (Int32)) (a0 : Nat) (a1 : Nat) (d2 : UInt64) (i4 : Int32) : Option (Int32) :=
  k5 a0 a1 d2 (i4 + 1)
set_option maxHeartbeats 4000000 in
set_option maxRecDepth 100000 in
theorem t_X4_letsIn_J30 {X : mX} {M : mM} {L0 : Launch} {res : Int32} {N : Nat} (C : CX X RX4 "letsIn" prog_6_method_9_code 5 (some .boolean)) (E : EX X L0 4 96 0 0 (some (.int res)) M) (k5 : Nat → Nat → UInt64 → Int32 → Option (Int32)) (Hk5 : ∀ (a0 : Nat) (a1 : Nat) (d2 : UInt64) (i4 : Int32), k5 a0 a1 d2 i4 = some res → EV X 5 5 [(0, .ref a0), (1, .ref a1), (2, .double d2), (4, .int i4)] [] 0 0 M) (a0 : Nat) (a1 : Nat) (d2 : UInt64) (i4 : Int32) (hf : m_X4_letsIn_J30 N M k5 a0 a1 d2 i4 = some res) : EV X 5 30 [(0, .ref a0), (1, .ref a1), (2, .double d2), (4, .int i4)] [] 0 0 M := by
  unfold m_X4_letsIn_J30 at hf
  refine ev_iinc (v := i4 + 1) (l' := [(4, .int (i4 + 1)), (0, .ref a0), (1, .ref a1), (2, .double d2)]) C dX4_letsIn_30 (q := 3) rfl rfl (by decide) rfl ?_
  refine ev_goto (tgt := 5) C dX4_letsIn_33 (by decide) ?_
  refine ev_sub [1, 2, 3, 0] rfl ?_
  exact Hk5 a0 a1 d2 (i4 + 1) hf
def m_X4_letsIn_L5 (N : Nat) (M : mM)  : Nat → Nat → Nat → UInt64 → Int32 → Option (Int32)
  | 0, _, _, _, _ => none
  | n + 1, a0, a1, d2, i4 =>
    if 4 ≤ i4 then (
      (fI M a1 6 2).bind fun x1 =>
      if (Op.cmpValue (FP.dcmp (FP.i2d x1) d2) CmpOp.l) < 0 then (
        some 0) else (
        some 1)) else (
      (oO M a1 6).bind fun _ =>
      (m_X6_goesOver a1 i4 M).bind fun x5 =>
      if x5 = 0 then (
        m_X4_letsIn_J30 N M (m_X4_letsIn_L5 N M  n) a0 a1 d2 i4) else (
        (oO M a0 4).bind fun _ =>
        (m_X4_costOf N a0 i4 M).bind fun x9 =>
        (oD (FP.f2d x9)).bind fun x11 =>
        (oD (FP.dadd d2 x11)).bind fun x13 =>
        m_X4_letsIn_J30 N M (m_X4_letsIn_L5 N M  n) a0 a1 x13 i4))
set_option maxHeartbeats 4000000 in
set_option maxRecDepth 100000 in
theorem t_X4_letsIn_L5 {X : mX} {M : mM} {L0 : Launch} {res : Int32} {N : Nat} (C : CX X RX4 "letsIn" prog_6_method_9_code 5 (some .boolean)) (E : EX X L0 4 96 0 0 (some (.int res)) M)   : ∀ (n : Nat) (a0 : Nat) (a1 : Nat) (d2 : UInt64) (i4 : Int32), m_X4_letsIn_L5 N M  n a0 a1 d2 i4 = some res → EV X 5 5 [(0, .ref a0), (1, .ref a1), (2, .double d2), (4, .int i4)] [] 0 0 M := by
  intro n
  induction n with
  | zero => intro a0 a1 d2 i4 hf; cases (show (none : Option (Int32)) = some res from hf)
  | succ n ih =>
    intro a0 a1 d2 i4 hf
    rw [m_X4_letsIn_L5] at hf
    refine ev_iload C dX4_letsIn_5 (q := 3) rfl ?_
    refine ev_iconst (v := 4) C dX4_letsIn_7 (by decide) ?_
    refine ev_icmp_ge (tgt := 36) C dX4_letsIn_8 (by decide) (fun hc => ?_) (fun hc => ?_)
    · have hf := oit hf hc
      refine ev_aload_n C dX4_letsIn_36 rfl (q := 1) rfl ?_
      obtain ⟨x1, e2, hf⟩ := obnd hf
      refine ev_get (k := 2) C ok_6 dX4_letsIn_37 (by decide) kw_753 (fI_V e2) ?_
      refine ev_i2d C dX4_letsIn_40 ?_
      refine ev_dload_n C dX4_letsIn_41 rfl (q := 2) rfl ?_
      refine ev_dcmp C dX4_letsIn_42 ?_
      refine ev_if_lt (tgt := 50) C dX4_letsIn_43 (by decide) (fun hc => ?_) (fun hc => ?_)
      · have hf := oit hf hc
        refine ev_iconst (v := 0) C dX4_letsIn_50 (by decide) ?_
        obtain rfl := Option.some.inj hf
        exact ev_zret C (by decide) E (Nat.le_refl 0) (Nat.le_refl 0) dX4_letsIn_51
      · have hf := oie hf hc
        refine ev_iconst (v := 1) C dX4_letsIn_46 (by decide) ?_
        refine ev_goto (tgt := 51) C dX4_letsIn_47 (by decide) ?_
        obtain rfl := Option.some.inj hf
        exact ev_zret C (by decide) E (Nat.le_refl 0) (Nat.le_refl 0) dX4_letsIn_51
    · have hf := oie hf hc
      refine ev_aload_n C dX4_letsIn_11 rfl (q := 1) rfl ?_
      refine ev_iload C dX4_letsIn_12 (q := 3) rfl ?_
      obtain ⟨_, e3, hf⟩ := obnd hf
      obtain ⟨fs4, e3⟩ := oO_eq e3
      obtain ⟨x5, e6, hf⟩ := obnd hf
      refine ev_callV0 (As := [.int i4]) (st := []) C rfl e3 (t_X6_goesOver e6) rfl hd_X6_goesOver rfl kw_792 kw_793 kw_92 kw_794 kw_795 (mRoom.of E (Nat.le_of_ble_eq_true rfl) (Nat.le_of_ble_eq_true rfl) (Nat.le_refl 0) (Nat.le_refl 0)) (Nat.le_of_ble_eq_true rfl) dX4_letsIn_14 ?_
      refine ev_if_eq (tgt := 30) C dX4_letsIn_17 (by decide) (fun hc => ?_) (fun hc => ?_)
      · have hf := oit hf hc
        exact t_X4_letsIn_J30 C E (m_X4_letsIn_L5 N M  n) ih a0 a1 d2 i4 hf
      · have hf := oie hf hc
        refine ev_dload_n C dX4_letsIn_20 rfl (q := 2) rfl ?_
        refine ev_aload_n C dX4_letsIn_21 rfl (q := 0) rfl ?_
        refine ev_iload C dX4_letsIn_22 (q := 3) rfl ?_
        obtain ⟨_, e7, hf⟩ := obnd hf
        obtain ⟨fs8, e7⟩ := oO_eq e7
        obtain ⟨x9, e10, hf⟩ := obnd hf
        refine ev_callV0 (As := [.int i4]) (st := [.double d2]) C rfl e7 (t_X4_costOf e10) rfl hd_X4_costOf rfl kw_796 kw_797 kw_72 kw_798 kw_799 (mRoom.of E (Nat.le_of_ble_eq_true rfl) (Nat.le_of_ble_eq_true rfl) (Nat.le_refl 0) (Nat.le_refl 0)) (Nat.le_of_ble_eq_true rfl) dX4_letsIn_24 ?_
        obtain ⟨x11, e12, hf⟩ := obnd hf
        obtain ⟨e12, e12q⟩ := oD_eq e12
        refine ev_f2d C dX4_letsIn_27 e12 ?_
        rw [← e12q]
        obtain ⟨x13, e14, hf⟩ := obnd hf
        obtain ⟨e14, e14q⟩ := oD_eq e14
        refine ev_dadd C dX4_letsIn_28 e14 ?_
        rw [← e14q]
        refine ev_dstore_n (l' := [(2, .double x13), (0, .ref a0), (1, .ref a1), (4, .int i4)]) C dX4_letsIn_29 rfl (by decide) rfl ?_
        refine ev_sub [1, 2, 0, 3] rfl ?_
        exact t_X4_letsIn_J30 C E (m_X4_letsIn_L5 N M  n) ih a0 a1 x13 i4 hf
def m_X4_letsIn (N : Nat) (a0 : Nat) (a1 : Nat) (M : mM) : Option (Int32) :=
  m_X4_letsIn_L5 N M  N a0 a1 FP.dconst0 0
set_option maxHeartbeats 4000000 in
set_option maxRecDepth 100000 in
theorem t_X4_letsIn {L0 : Launch} {M : mM} {N : Nat} {a0 : Nat} {a1 : Nat} {res : Int32} (hf : m_X4_letsIn N a0 a1 M = some res) : CT L0 yX4_letsIn prog_6_method_9_code 5 (some .boolean) 4 96 0 0 [.ref a0, .ref a1] M (some (.int res)) M := by
  refine CT.of (by decide +kernel) (Nat.le_of_ble_eq_true rfl) fun X C E => ?_
  have C : CX X RX4 "letsIn" prog_6_method_9_code 5 (some .boolean) := C
  show EV X 5 0 [(0, .ref a0), (1, .ref a1)] [] 0 0 M
  unfold m_X4_letsIn at hf
  refine ev_dconst0 C dX4_letsIn_0 ?_
  refine ev_dstore_n (l' := [(2, .double FP.dconst0), (0, .ref a0), (1, .ref a1)]) C dX4_letsIn_1 rfl (by decide) rfl ?_
  refine ev_iconst (v := 0) C dX4_letsIn_2 (by decide) ?_
  refine ev_istore (l' := [(4, .int 0), (2, .double FP.dconst0), (0, .ref a0), (1, .ref a1)]) C dX4_letsIn_3 (by decide) rfl ?_
  refine ev_sub [2, 3, 1, 0] rfl ?_
  exact t_X4_letsIn_L5 C E   N a0 a1 FP.dconst0 0 hf
/-! FareLimits route(II)I -/
theorem dX11_route_0 : decode prog_1_method_29_code 0 = .ok (.iload_n 1, 1) := by decide +kernel
theorem dX11_route_1 : decode prog_1_method_29_code 1 = .ok (.aload_n 0, 1) := by decide +kernel
theorem dX11_route_2 : decode prog_1_method_29_code 2 = .ok (.getfield 12, 3) := by decide +kernel
theorem dX11_route_5 : decode prog_1_method_29_code 5 = .ok (.getfield 202, 3) := by decide +kernel
theorem dX11_route_8 : decode prog_1_method_29_code 8 = .ok (.getfield 249, 3) := by decide +kernel
theorem dX11_route_11 : decode prog_1_method_29_code 11 = .ok (.iconst 1, 1) := by decide +kernel
theorem dX11_route_12 : decode prog_1_method_29_code 12 = .ok (.isub, 1) := by decide +kernel
theorem dX11_route_13 : decode prog_1_method_29_code 13 = .ok (.invokestatic 91, 3) := by decide +kernel
theorem dX11_route_16 : decode prog_1_method_29_code 16 = .ok (.ifCond .ne 5, 3) := by decide +kernel
theorem dX11_route_19 : decode prog_1_method_29_code 19 = .ok (.iconst (-1), 1) := by decide +kernel
theorem dX11_route_20 : decode prog_1_method_29_code 20 = .ok (.ireturn, 1) := by decide +kernel
theorem dX11_route_21 : decode prog_1_method_29_code 21 = .ok (.aload_n 0, 1) := by decide +kernel
theorem dX11_route_22 : decode prog_1_method_29_code 22 = .ok (.getfield 12, 3) := by decide +kernel
theorem dX11_route_25 : decode prog_1_method_29_code 25 = .ok (.getfield 202, 3) := by decide +kernel
theorem dX11_route_28 : decode prog_1_method_29_code 28 = .ok (.getfield 252, 3) := by decide +kernel
theorem dX11_route_31 : decode prog_1_method_29_code 31 = .ok (.iload_n 1, 1) := by decide +kernel
theorem dX11_route_32 : decode prog_1_method_29_code 32 = .ok (.aaload, 1) := by decide +kernel
theorem dX11_route_33 : decode prog_1_method_29_code 33 = .ok (.astore_n 3, 1) := by decide +kernel
theorem dX11_route_34 : decode prog_1_method_29_code 34 = .ok (.iload_n 2, 1) := by decide +kernel
theorem dX11_route_35 : decode prog_1_method_29_code 35 = .ok (.tableswitch 73 0 4 #[33, 38, 43, 48, 68], 33) := by decide +kernel
theorem dX11_route_68 : decode prog_1_method_29_code 68 = .ok (.aload_n 3, 1) := by decide +kernel
theorem dX11_route_69 : decode prog_1_method_29_code 69 = .ok (.getfield 255, 3) := by decide +kernel
theorem dX11_route_72 : decode prog_1_method_29_code 72 = .ok (.ireturn, 1) := by decide +kernel
theorem dX11_route_73 : decode prog_1_method_29_code 73 = .ok (.aload_n 3, 1) := by decide +kernel
theorem dX11_route_74 : decode prog_1_method_29_code 74 = .ok (.getfield 260, 3) := by decide +kernel
theorem dX11_route_77 : decode prog_1_method_29_code 77 = .ok (.ireturn, 1) := by decide +kernel
theorem dX11_route_78 : decode prog_1_method_29_code 78 = .ok (.aload_n 3, 1) := by decide +kernel
theorem dX11_route_79 : decode prog_1_method_29_code 79 = .ok (.getfield 261, 3) := by decide +kernel
theorem dX11_route_82 : decode prog_1_method_29_code 82 = .ok (.ireturn, 1) := by decide +kernel
theorem dX11_route_83 : decode prog_1_method_29_code 83 = .ok (.aload_n 0, 1) := by decide +kernel
theorem dX11_route_84 : decode prog_1_method_29_code 84 = .ok (.getfield 12, 3) := by decide +kernel
theorem dX11_route_87 : decode prog_1_method_29_code 87 = .ok (.getfield 202, 3) := by decide +kernel
theorem dX11_route_90 : decode prog_1_method_29_code 90 = .ok (.aload_n 3, 1) := by decide +kernel
theorem dX11_route_91 : decode prog_1_method_29_code 91 = .ok (.invokevirtual 264, 3) := by decide +kernel
theorem dX11_route_94 : decode prog_1_method_29_code 94 = .ok (.ifCond .eq 7, 3) := by decide +kernel
theorem dX11_route_97 : decode prog_1_method_29_code 97 = .ok (.iconst 1, 1) := by decide +kernel
theorem dX11_route_98 : decode prog_1_method_29_code 98 = .ok (.goto 4, 3) := by decide +kernel
theorem dX11_route_101 : decode prog_1_method_29_code 101 = .ok (.iconst 0, 1) := by decide +kernel
theorem dX11_route_102 : decode prog_1_method_29_code 102 = .ok (.ireturn, 1) := by decide +kernel
theorem dX11_route_103 : decode prog_1_method_29_code 103 = .ok (.aload_n 3, 1) := by decide +kernel
theorem dX11_route_104 : decode prog_1_method_29_code 104 = .ok (.invokevirtual 268, 3) := by decide +kernel
theorem dX11_route_107 : decode prog_1_method_29_code 107 = .ok (.ireturn, 1) := by decide +kernel
theorem dX11_route_108 : decode prog_1_method_29_code 108 = .ok (.iload_n 2, 1) := by decide +kernel
theorem dX11_route_109 : decode prog_1_method_29_code 109 = .ok (.bipush 10, 2) := by decide +kernel
theorem dX11_route_111 : decode prog_1_method_29_code 111 = .ok (.if_icmp .lt 25, 3) := by decide +kernel
theorem dX11_route_114 : decode prog_1_method_29_code 114 = .ok (.iload_n 2, 1) := by decide +kernel
theorem dX11_route_115 : decode prog_1_method_29_code 115 = .ok (.bipush 10, 2) := by decide +kernel
theorem dX11_route_117 : decode prog_1_method_29_code 117 = .ok (.aload_n 3, 1) := by decide +kernel
theorem dX11_route_118 : decode prog_1_method_29_code 118 = .ok (.invokevirtual 268, 3) := by decide +kernel
theorem dX11_route_121 : decode prog_1_method_29_code 121 = .ok (.iadd, 1) := by decide +kernel
theorem dX11_route_122 : decode prog_1_method_29_code 122 = .ok (.if_icmp .ge 14, 3) := by decide +kernel
theorem dX11_route_125 : decode prog_1_method_29_code 125 = .ok (.aload_n 3, 1) := by decide +kernel
theorem dX11_route_126 : decode prog_1_method_29_code 126 = .ok (.iload_n 2, 1) := by decide +kernel
theorem dX11_route_127 : decode prog_1_method_29_code 127 = .ok (.bipush 10, 2) := by decide +kernel
theorem dX11_route_129 : decode prog_1_method_29_code 129 = .ok (.isub, 1) := by decide +kernel
theorem dX11_route_130 : decode prog_1_method_29_code 130 = .ok (.invokevirtual 271, 3) := by decide +kernel
theorem dX11_route_133 : decode prog_1_method_29_code 133 = .ok (.goto 4, 3) := by decide +kernel
theorem dX11_route_136 : decode prog_1_method_29_code 136 = .ok (.iconst (-1), 1) := by decide +kernel
theorem dX11_route_137 : decode prog_1_method_29_code 137 = .ok (.ireturn, 1) := by decide +kernel
def m_X11_route (N : Nat) (a0 : Nat) (i1 : Int32) (i2 : Int32) (M : mM) : Option (Int32) :=
  (fR M a0 11 0).bind fun x1 =>
  (fR M x1 5 3).bind fun x3 =>
  (fI M x3 4 3).bind fun x5 =>
  (m_X11_within i1 (x5 - 1)).bind fun x7 =>
  if x7 = 0 then (
    some (-1)) else (
    (fR M a0 11 0).bind fun x9 =>
    (fR M x9 5 3).bind fun x11 =>
    (fR M x11 4 2).bind fun x13 =>
    (aR 6 M x13 i1).bind fun x15 =>
    if i2 = 0 then (
      (fI M x15 6 1).bind fun x41 =>
      some x41) else (
      if i2 = 1 then (
        (fI M x15 6 2).bind fun x39 =>
        some x39) else (
        if i2 = 2 then (
          (fI M x15 6 3).bind fun x37 =>
          some x37) else (
          if i2 = 3 then (
            (fR M a0 11 0).bind fun x29 =>
            (fR M x29 5 3).bind fun x31 =>
            (oO M x31 4).bind fun _ =>
            (m_X4_letsIn N x31 x15 M).bind fun x35 =>
            if x35 = 0 then (
              some 0) else (
              some 1)) else (
            if i2 = 4 then (
              (oO M x15 6).bind fun _ =>
              (m_X6_letters N x15 M).bind fun x27 =>
              some x27) else (
              if i2 < 10 then (
                some (-1)) else (
                (oO M x15 6).bind fun _ =>
                (m_X6_letters N x15 M).bind fun x19 =>
                if (10 + x19) ≤ i2 then (
                  some (-1)) else (
                  (oO M x15 6).bind fun _ =>
                  (m_X6_letter x15 (i2 - 10) M).bind fun x23 =>
                  some x23))))))))
set_option maxHeartbeats 4000000 in
set_option maxRecDepth 100000 in
theorem t_X11_route {L0 : Launch} {M : mM} {N : Nat} {a0 : Nat} {i1 : Int32} {i2 : Int32} {res : Int32} (hf : m_X11_route N a0 i1 i2 M = some res) : CT L0 yX11_route prog_1_method_29_code 4 (some .int) 5 120 0 0 [.ref a0, .int i1, .int i2] M (some (.int res)) M := by
  refine CT.of (by decide +kernel) (Nat.le_of_ble_eq_true rfl) fun X C E => ?_
  have C : CX X RX11 "route" prog_1_method_29_code 4 (some .int) := C
  show EV X 4 0 [(0, .ref a0), (1, .int i1), (2, .int i2)] [] 0 0 M
  unfold m_X11_route at hf
  refine ev_iload_n C dX11_route_0 rfl (q := 1) rfl ?_
  refine ev_aload_n C dX11_route_1 rfl (q := 0) rfl ?_
  obtain ⟨x1, e2, hf⟩ := obnd hf
  refine ev_get (k := 0) C ok_11 dX11_route_2 (by decide) kw_392 (fR_V e2) ?_
  obtain ⟨x3, e4, hf⟩ := obnd hf
  refine ev_get (k := 3) C ok_5 dX11_route_5 (by decide) kw_193 (fR_V e4) ?_
  obtain ⟨x5, e6, hf⟩ := obnd hf
  refine ev_get (k := 3) C ok_4 dX11_route_8 (by decide) kw_130 (fI_V e6) ?_
  refine ev_iconst (v := 1) C dX11_route_11 (by decide) ?_
  refine ev_isub C dX11_route_12 ?_
  obtain ⟨x7, e8, hf⟩ := obnd hf
  refine ev_callS0 (As := [.int i1, .int (x5 - 1)]) (st := []) C (t_X11_within e8) hd_X11_within rfl kw_435 kw_436 kw_70 kw_437 (mRoom.of E (Nat.le_of_ble_eq_true rfl) (Nat.le_of_ble_eq_true rfl) (Nat.le_refl 0) (Nat.le_refl 0)) (Nat.le_of_ble_eq_true rfl) dX11_route_13 ?_
  refine ev_if_ne (tgt := 21) C dX11_route_16 (by decide) (fun hc => ?_) (fun hc => ?_)
  · have hf := oie hf hc
    refine ev_aload_n C dX11_route_21 rfl (q := 0) rfl ?_
    obtain ⟨x9, e10, hf⟩ := obnd hf
    refine ev_get (k := 0) C ok_11 dX11_route_22 (by decide) kw_392 (fR_V e10) ?_
    obtain ⟨x11, e12, hf⟩ := obnd hf
    refine ev_get (k := 3) C ok_5 dX11_route_25 (by decide) kw_193 (fR_V e12) ?_
    obtain ⟨x13, e14, hf⟩ := obnd hf
    refine ev_get (k := 2) C ok_4 dX11_route_28 (by decide) kw_127 (fR_V e14) ?_
    refine ev_iload_n C dX11_route_31 rfl (q := 1) rfl ?_
    obtain ⟨x15, e16, hf⟩ := obnd hf
    refine ev_aldr C (t := 6) rfl rfl dX11_route_32 e16 ?_
    refine ev_astore_n (l' := [(3, .ref x15), (0, .ref a0), (1, .int i1), (2, .int i2)]) C dX11_route_33 rfl (by decide) rfl ?_
    refine ev_iload_n C dX11_route_34 rfl (q := 3) rfl ?_
    by_cases h0 : i2 = 0
    · have hf := oit hf h0
      refine ev_tableIn (off := 33) (tgt := 68) C dX11_route_35 (by rw [h0]; decide) (by rw [h0]; decide) (by rw [h0]; rfl) (by decide) ?_
      refine ev_aload_n C dX11_route_68 rfl (q := 0) rfl ?_
      obtain ⟨x41, e42, hf⟩ := obnd hf
      refine ev_get (k := 1) C ok_6 dX11_route_69 (by decide) kw_751 (fI_V e42) ?_
      obtain rfl := Option.some.inj hf
      exact ev_iret C E (Nat.le_refl 0) (Nat.le_refl 0) dX11_route_72
    · have hf := oie hf h0
      by_cases h1 : i2 = 1
      · have hf := oit hf h1
        refine ev_tableIn (off := 38) (tgt := 73) C dX11_route_35 (by rw [h1]; decide) (by rw [h1]; decide) (by rw [h1]; rfl) (by decide) ?_
        refine ev_aload_n C dX11_route_73 rfl (q := 0) rfl ?_
        obtain ⟨x39, e40, hf⟩ := obnd hf
        refine ev_get (k := 2) C ok_6 dX11_route_74 (by decide) kw_754 (fI_V e40) ?_
        obtain rfl := Option.some.inj hf
        exact ev_iret C E (Nat.le_refl 0) (Nat.le_refl 0) dX11_route_77
      · have hf := oie hf h1
        by_cases h2 : i2 = 2
        · have hf := oit hf h2
          refine ev_tableIn (off := 43) (tgt := 78) C dX11_route_35 (by rw [h2]; decide) (by rw [h2]; decide) (by rw [h2]; rfl) (by decide) ?_
          refine ev_aload_n C dX11_route_78 rfl (q := 0) rfl ?_
          obtain ⟨x37, e38, hf⟩ := obnd hf
          refine ev_get (k := 3) C ok_6 dX11_route_79 (by decide) kw_757 (fI_V e38) ?_
          obtain rfl := Option.some.inj hf
          exact ev_iret C E (Nat.le_refl 0) (Nat.le_refl 0) dX11_route_82
        · have hf := oie hf h2
          by_cases h3 : i2 = 3
          · have hf := oit hf h3
            refine ev_tableIn (off := 48) (tgt := 83) C dX11_route_35 (by rw [h3]; decide) (by rw [h3]; decide) (by rw [h3]; rfl) (by decide) ?_
            refine ev_aload_n C dX11_route_83 rfl (q := 1) rfl ?_
            obtain ⟨x29, e30, hf⟩ := obnd hf
            refine ev_get (k := 0) C ok_11 dX11_route_84 (by decide) kw_392 (fR_V e30) ?_
            obtain ⟨x31, e32, hf⟩ := obnd hf
            refine ev_get (k := 3) C ok_5 dX11_route_87 (by decide) kw_193 (fR_V e32) ?_
            refine ev_aload_n C dX11_route_90 rfl (q := 0) rfl ?_
            obtain ⟨_, e33, hf⟩ := obnd hf
            obtain ⟨fs34, e33⟩ := oO_eq e33
            obtain ⟨x35, e36, hf⟩ := obnd hf
            refine ev_callV0 (As := [.ref x15]) (st := []) C rfl e33 (t_X4_letsIn e36) rfl hd_X4_letsIn rfl kw_788 kw_789 kw_72 kw_790 kw_791 (mRoom.of E (Nat.le_of_ble_eq_true rfl) (Nat.le_of_ble_eq_true rfl) (Nat.le_refl 0) (Nat.le_refl 0)) (Nat.le_of_ble_eq_true rfl) dX11_route_91 ?_
            refine ev_if_eq (tgt := 101) C dX11_route_94 (by decide) (fun hc => ?_) (fun hc => ?_)
            · have hf := oit hf hc
              refine ev_iconst (v := 0) C dX11_route_101 (by decide) ?_
              obtain rfl := Option.some.inj hf
              exact ev_iret C E (Nat.le_refl 0) (Nat.le_refl 0) dX11_route_102
            · have hf := oie hf hc
              refine ev_iconst (v := 1) C dX11_route_97 (by decide) ?_
              refine ev_goto (tgt := 102) C dX11_route_98 (by decide) ?_
              obtain rfl := Option.some.inj hf
              exact ev_iret C E (Nat.le_refl 0) (Nat.le_refl 0) dX11_route_102
          · have hf := oie hf h3
            by_cases h4 : i2 = 4
            · have hf := oit hf h4
              refine ev_tableIn (off := 68) (tgt := 103) C dX11_route_35 (by rw [h4]; decide) (by rw [h4]; decide) (by rw [h4]; rfl) (by decide) ?_
              refine ev_aload_n C dX11_route_103 rfl (q := 0) rfl ?_
              obtain ⟨_, e25, hf⟩ := obnd hf
              obtain ⟨fs26, e25⟩ := oO_eq e25
              obtain ⟨x27, e28, hf⟩ := obnd hf
              refine ev_callV0 (As := []) (st := []) C rfl e25 (t_X6_letters e28) rfl hd_X6_letters rfl kw_808 kw_809 kw_92 kw_810 kw_811 (mRoom.of E (Nat.le_of_ble_eq_true rfl) (Nat.le_of_ble_eq_true rfl) (Nat.le_refl 0) (Nat.le_refl 0)) (Nat.le_of_ble_eq_true rfl) dX11_route_104 ?_
              obtain rfl := Option.some.inj hf
              exact ev_iret C E (Nat.le_refl 0) (Nat.le_refl 0) dX11_route_107
            · have hf := oie hf h4
              refine ev_tableOut (tgt := 108) C dX11_route_35 (tab_out (lo := 0) (n := 5) (lt_s (lt_s (lt_s (lt_s (lt_s lt_0 h0) h1) h2) h3) h4) (by decide) (by decide)) (by decide) ?_
              refine ev_iload_n C dX11_route_108 rfl (q := 3) rfl ?_
              refine ev_bipush (v := 10) C dX11_route_109 (by decide) ?_
              refine ev_icmp_lt (tgt := 136) C dX11_route_111 (by decide) (fun hc => ?_) (fun hc => ?_)
              · have hf := oit hf hc
                refine ev_iconst (v := (-1)) C dX11_route_136 (by decide) ?_
                obtain rfl := Option.some.inj hf
                exact ev_iret C E (Nat.le_refl 0) (Nat.le_refl 0) dX11_route_137
              · have hf := oie hf hc
                refine ev_iload_n C dX11_route_114 rfl (q := 3) rfl ?_
                refine ev_bipush (v := 10) C dX11_route_115 (by decide) ?_
                refine ev_aload_n C dX11_route_117 rfl (q := 0) rfl ?_
                obtain ⟨_, e17, hf⟩ := obnd hf
                obtain ⟨fs18, e17⟩ := oO_eq e17
                obtain ⟨x19, e20, hf⟩ := obnd hf
                refine ev_callV0 (As := []) (st := [.int 10, .int i2]) C rfl e17 (t_X6_letters e20) rfl hd_X6_letters rfl kw_808 kw_809 kw_92 kw_810 kw_811 (mRoom.of E (Nat.le_of_ble_eq_true rfl) (Nat.le_of_ble_eq_true rfl) (Nat.le_refl 0) (Nat.le_refl 0)) (Nat.le_of_ble_eq_true rfl) dX11_route_118 ?_
                refine ev_iadd C dX11_route_121 ?_
                refine ev_icmp_ge (tgt := 136) C dX11_route_122 (by decide) (fun hc => ?_) (fun hc => ?_)
                · have hf := oit hf hc
                  refine ev_iconst (v := (-1)) C dX11_route_136 (by decide) ?_
                  obtain rfl := Option.some.inj hf
                  exact ev_iret C E (Nat.le_refl 0) (Nat.le_refl 0) dX11_route_137
                · have hf := oie hf hc
                  refine ev_aload_n C dX11_route_125 rfl (q := 0) rfl ?_
                  refine ev_iload_n C dX11_route_126 rfl (q := 3) rfl ?_
                  refine ev_bipush (v := 10) C dX11_route_127 (by decide) ?_
                  refine ev_isub C dX11_route_129 ?_
                  obtain ⟨_, e21, hf⟩ := obnd hf
                  obtain ⟨fs22, e21⟩ := oO_eq e21
                  obtain ⟨x23, e24, hf⟩ := obnd hf
                  refine ev_callV0 (As := [.int (i2 - 10)]) (st := []) C rfl e21 (t_X6_letter e24) rfl hd_X6_letter rfl kw_816 kw_813 kw_92 kw_814 kw_815 (mRoom.of E (Nat.le_of_ble_eq_true rfl) (Nat.le_of_ble_eq_true rfl) (Nat.le_refl 0) (Nat.le_refl 0)) (Nat.le_of_ble_eq_true rfl) dX11_route_130 ?_
                  refine ev_goto (tgt := 137) C dX11_route_133 (by decide) ?_
                  obtain rfl := Option.some.inj hf
                  exact ev_iret C E (Nat.le_refl 0) (Nat.le_refl 0) dX11_route_137
  · have hf := oit hf hc
    refine ev_iconst (v := (-1)) C dX11_route_19 (by decide) ?_
    obtain rfl := Option.some.inj hf
    exact ev_iret C E (Nat.le_refl 0) (Nat.le_refl 0) dX11_route_20
/-! FareLimits part(II)I -/
theorem dX11_part_0 : decode prog_1_method_30_code 0 = .ok (.iload_n 1, 1) := by decide +kernel
theorem dX11_part_1 : decode prog_1_method_30_code 1 = .ok (.aload_n 0, 1) := by decide +kernel
theorem dX11_part_2 : decode prog_1_method_30_code 2 = .ok (.getfield 12, 3) := by decide +kernel
theorem dX11_part_5 : decode prog_1_method_30_code 5 = .ok (.getfield 202, 3) := by decide +kernel
theorem dX11_part_8 : decode prog_1_method_30_code 8 = .ok (.getfield 249, 3) := by decide +kernel
theorem dX11_part_11 : decode prog_1_method_30_code 11 = .ok (.iconst 1, 1) := by decide +kernel
theorem dX11_part_12 : decode prog_1_method_30_code 12 = .ok (.isub, 1) := by decide +kernel
theorem dX11_part_13 : decode prog_1_method_30_code 13 = .ok (.invokestatic 91, 3) := by decide +kernel
theorem dX11_part_16 : decode prog_1_method_30_code 16 = .ok (.ifCond .eq 11, 3) := by decide +kernel
theorem dX11_part_19 : decode prog_1_method_30_code 19 = .ok (.iload_n 2, 1) := by decide +kernel
theorem dX11_part_20 : decode prog_1_method_30_code 20 = .ok (.iconst 3, 1) := by decide +kernel
theorem dX11_part_21 : decode prog_1_method_30_code 21 = .ok (.invokestatic 91, 3) := by decide +kernel
theorem dX11_part_24 : decode prog_1_method_30_code 24 = .ok (.ifCond .ne 5, 3) := by decide +kernel
theorem dX11_part_27 : decode prog_1_method_30_code 27 = .ok (.iconst (-1), 1) := by decide +kernel
theorem dX11_part_28 : decode prog_1_method_30_code 28 = .ok (.ireturn, 1) := by decide +kernel
theorem dX11_part_29 : decode prog_1_method_30_code 29 = .ok (.aload_n 0, 1) := by decide +kernel
theorem dX11_part_30 : decode prog_1_method_30_code 30 = .ok (.getfield 12, 3) := by decide +kernel
theorem dX11_part_33 : decode prog_1_method_30_code 33 = .ok (.getfield 202, 3) := by decide +kernel
theorem dX11_part_36 : decode prog_1_method_30_code 36 = .ok (.aload_n 0, 1) := by decide +kernel
theorem dX11_part_37 : decode prog_1_method_30_code 37 = .ok (.getfield 12, 3) := by decide +kernel
theorem dX11_part_40 : decode prog_1_method_30_code 40 = .ok (.getfield 202, 3) := by decide +kernel
theorem dX11_part_43 : decode prog_1_method_30_code 43 = .ok (.getfield 252, 3) := by decide +kernel
theorem dX11_part_46 : decode prog_1_method_30_code 46 = .ok (.iload_n 1, 1) := by decide +kernel
theorem dX11_part_47 : decode prog_1_method_30_code 47 = .ok (.aaload, 1) := by decide +kernel
theorem dX11_part_48 : decode prog_1_method_30_code 48 = .ok (.iload_n 2, 1) := by decide +kernel
theorem dX11_part_49 : decode prog_1_method_30_code 49 = .ok (.invokevirtual 274, 3) := by decide +kernel
theorem dX11_part_52 : decode prog_1_method_30_code 52 = .ok (.invokestatic 162, 3) := by decide +kernel
theorem dX11_part_55 : decode prog_1_method_30_code 55 = .ok (.ireturn, 1) := by decide +kernel
def m_X11_part (N : Nat) (a0 : Nat) (i1 : Int32) (i2 : Int32) (M : mM) : Option (Int32) :=
  (fR M a0 11 0).bind fun x1 =>
  (fR M x1 5 3).bind fun x3 =>
  (fI M x3 4 3).bind fun x5 =>
  (m_X11_within i1 (x5 - 1)).bind fun x7 =>
  if x7 = 0 then (
    some (-1)) else (
    (m_X11_within i2 3).bind fun x9 =>
    if x9 = 0 then (
      some (-1)) else (
      (fR M a0 11 0).bind fun x11 =>
      (fR M x11 5 3).bind fun x13 =>
      (fR M a0 11 0).bind fun x15 =>
      (fR M x15 5 3).bind fun x17 =>
      (fR M x17 4 2).bind fun x19 =>
      (aR 6 M x19 i1).bind fun x21 =>
      (oO M x13 4).bind fun _ =>
      (m_X4_partOf N x13 x21 i2 M).bind fun x25 =>
      (m_X9_bitsOfFloat N x25).bind fun x27 =>
      some x27))
set_option maxHeartbeats 4000000 in
set_option maxRecDepth 100000 in
theorem t_X11_part {L0 : Launch} {M : mM} {N : Nat} {a0 : Nat} {i1 : Int32} {i2 : Int32} {res : Int32} (hf : m_X11_part N a0 i1 i2 M = some res) : CT L0 yX11_part prog_1_method_30_code 3 (some .int) 2 50 0 0 [.ref a0, .int i1, .int i2] M (some (.int res)) M := by
  refine CT.of (by decide +kernel) (Nat.le_of_ble_eq_true rfl) fun X C E => ?_
  have C : CX X RX11 "part" prog_1_method_30_code 3 (some .int) := C
  show EV X 3 0 [(0, .ref a0), (1, .int i1), (2, .int i2)] [] 0 0 M
  unfold m_X11_part at hf
  refine ev_iload_n C dX11_part_0 rfl (q := 1) rfl ?_
  refine ev_aload_n C dX11_part_1 rfl (q := 0) rfl ?_
  obtain ⟨x1, e2, hf⟩ := obnd hf
  refine ev_get (k := 0) C ok_11 dX11_part_2 (by decide) kw_392 (fR_V e2) ?_
  obtain ⟨x3, e4, hf⟩ := obnd hf
  refine ev_get (k := 3) C ok_5 dX11_part_5 (by decide) kw_193 (fR_V e4) ?_
  obtain ⟨x5, e6, hf⟩ := obnd hf
  refine ev_get (k := 3) C ok_4 dX11_part_8 (by decide) kw_130 (fI_V e6) ?_
  refine ev_iconst (v := 1) C dX11_part_11 (by decide) ?_
  refine ev_isub C dX11_part_12 ?_
  obtain ⟨x7, e8, hf⟩ := obnd hf
  refine ev_callS0 (As := [.int i1, .int (x5 - 1)]) (st := []) C (t_X11_within e8) hd_X11_within rfl kw_435 kw_436 kw_70 kw_437 (mRoom.of E (Nat.le_of_ble_eq_true rfl) (Nat.le_of_ble_eq_true rfl) (Nat.le_refl 0) (Nat.le_refl 0)) (Nat.le_of_ble_eq_true rfl) dX11_part_13 ?_
  refine ev_if_eq (tgt := 27) C dX11_part_16 (by decide) (fun hc => ?_) (fun hc => ?_)
  · have hf := oit hf hc
    refine ev_iconst (v := (-1)) C dX11_part_27 (by decide) ?_
    obtain rfl := Option.some.inj hf
    exact ev_iret C E (Nat.le_refl 0) (Nat.le_refl 0) dX11_part_28
  · have hf := oie hf hc
    refine ev_iload_n C dX11_part_19 rfl (q := 2) rfl ?_
    refine ev_iconst (v := 3) C dX11_part_20 (by decide) ?_
    obtain ⟨x9, e10, hf⟩ := obnd hf
    refine ev_callS0 (As := [.int i2, .int 3]) (st := []) C (t_X11_within e10) hd_X11_within rfl kw_435 kw_436 kw_70 kw_437 (mRoom.of E (Nat.le_of_ble_eq_true rfl) (Nat.le_of_ble_eq_true rfl) (Nat.le_refl 0) (Nat.le_refl 0)) (Nat.le_of_ble_eq_true rfl) dX11_part_21 ?_
    refine ev_if_ne (tgt := 29) C dX11_part_24 (by decide) (fun hc => ?_) (fun hc => ?_)
    · have hf := oie hf hc
      refine ev_aload_n C dX11_part_29 rfl (q := 0) rfl ?_
      obtain ⟨x11, e12, hf⟩ := obnd hf
      refine ev_get (k := 0) C ok_11 dX11_part_30 (by decide) kw_392 (fR_V e12) ?_
      obtain ⟨x13, e14, hf⟩ := obnd hf
      refine ev_get (k := 3) C ok_5 dX11_part_33 (by decide) kw_193 (fR_V e14) ?_
      refine ev_aload_n C dX11_part_36 rfl (q := 0) rfl ?_
      obtain ⟨x15, e16, hf⟩ := obnd hf
      refine ev_get (k := 0) C ok_11 dX11_part_37 (by decide) kw_392 (fR_V e16) ?_
      obtain ⟨x17, e18, hf⟩ := obnd hf
      refine ev_get (k := 3) C ok_5 dX11_part_40 (by decide) kw_193 (fR_V e18) ?_
      obtain ⟨x19, e20, hf⟩ := obnd hf
      refine ev_get (k := 2) C ok_4 dX11_part_43 (by decide) kw_127 (fR_V e20) ?_
      refine ev_iload_n C dX11_part_46 rfl (q := 1) rfl ?_
      obtain ⟨x21, e22, hf⟩ := obnd hf
      refine ev_aldr C (t := 6) rfl rfl dX11_part_47 e22 ?_
      refine ev_iload_n C dX11_part_48 rfl (q := 2) rfl ?_
      obtain ⟨_, e23, hf⟩ := obnd hf
      obtain ⟨fs24, e23⟩ := oO_eq e23
      obtain ⟨x25, e26, hf⟩ := obnd hf
      refine ev_callV0 (As := [.ref x21, .int i2]) (st := []) C rfl e23 (t_X4_partOf e26) rfl hd_X4_partOf rfl kw_821 kw_805 kw_72 kw_806 kw_807 (mRoom.of E (Nat.le_of_ble_eq_true rfl) (Nat.le_of_ble_eq_true rfl) (Nat.le_refl 0) (Nat.le_refl 0)) (Nat.le_of_ble_eq_true rfl) dX11_part_49 ?_
      obtain ⟨x27, e28, hf⟩ := obnd hf
      refine ev_callS0 (As := [.float x25]) (st := []) C (t_X9_bitsOfFloat e28) hd_X9_bitsOfFloat rfl kw_536 kw_537 kw_77 kw_538 (mRoom.of E (Nat.le_of_ble_eq_true rfl) (Nat.le_of_ble_eq_true rfl) (Nat.le_refl 0) (Nat.le_refl 0)) (Nat.le_of_ble_eq_true rfl) dX11_part_52 ?_
      obtain rfl := Option.some.inj hf
      exact ev_iret C E (Nat.le_refl 0) (Nat.le_refl 0) dX11_part_55
    · have hf := oit hf hc
      refine ev_iconst (v := (-1)) C dX11_part_27 (by decide) ?_
      obtain rfl := Option.some.inj hf
      exact ev_iret C E (Nat.le_refl 0) (Nat.le_refl 0) dX11_part_28
/-! FareLimits cost(I)I -/
theorem dX11_cost_0 : decode prog_1_method_31_code 0 = .ok (.iload_n 1, 1) := by decide +kernel
theorem dX11_cost_1 : decode prog_1_method_31_code 1 = .ok (.iconst 3, 1) := by decide +kernel
theorem dX11_cost_2 : decode prog_1_method_31_code 2 = .ok (.invokestatic 91, 3) := by decide +kernel
theorem dX11_cost_5 : decode prog_1_method_31_code 5 = .ok (.ifCond .eq 20, 3) := by decide +kernel
theorem dX11_cost_8 : decode prog_1_method_31_code 8 = .ok (.aload_n 0, 1) := by decide +kernel
theorem dX11_cost_9 : decode prog_1_method_31_code 9 = .ok (.getfield 12, 3) := by decide +kernel
theorem dX11_cost_12 : decode prog_1_method_31_code 12 = .ok (.getfield 202, 3) := by decide +kernel
theorem dX11_cost_15 : decode prog_1_method_31_code 15 = .ok (.iload_n 1, 1) := by decide +kernel
theorem dX11_cost_16 : decode prog_1_method_31_code 16 = .ok (.invokevirtual 278, 3) := by decide +kernel
theorem dX11_cost_19 : decode prog_1_method_31_code 19 = .ok (.invokestatic 162, 3) := by decide +kernel
theorem dX11_cost_22 : decode prog_1_method_31_code 22 = .ok (.goto 4, 3) := by decide +kernel
theorem dX11_cost_25 : decode prog_1_method_31_code 25 = .ok (.iconst (-1), 1) := by decide +kernel
theorem dX11_cost_26 : decode prog_1_method_31_code 26 = .ok (.ireturn, 1) := by decide +kernel
def m_X11_cost (N : Nat) (a0 : Nat) (i1 : Int32) (M : mM) : Option (Int32) :=
  (m_X11_within i1 3).bind fun x1 =>
  if x1 = 0 then (
    some (-1)) else (
    (fR M a0 11 0).bind fun x3 =>
    (fR M x3 5 3).bind fun x5 =>
    (oO M x5 4).bind fun _ =>
    (m_X4_costOf N x5 i1 M).bind fun x9 =>
    (m_X9_bitsOfFloat N x9).bind fun x11 =>
    some x11)
set_option maxHeartbeats 4000000 in
set_option maxRecDepth 100000 in
theorem t_X11_cost {L0 : Launch} {M : mM} {N : Nat} {a0 : Nat} {i1 : Int32} {res : Int32} (hf : m_X11_cost N a0 i1 M = some res) : CT L0 yX11_cost prog_1_method_31_code 2 (some .int) 4 96 0 0 [.ref a0, .int i1] M (some (.int res)) M := by
  refine CT.of (by decide +kernel) (Nat.le_of_ble_eq_true rfl) fun X C E => ?_
  have C : CX X RX11 "cost" prog_1_method_31_code 2 (some .int) := C
  show EV X 2 0 [(0, .ref a0), (1, .int i1)] [] 0 0 M
  unfold m_X11_cost at hf
  refine ev_iload_n C dX11_cost_0 rfl (q := 1) rfl ?_
  refine ev_iconst (v := 3) C dX11_cost_1 (by decide) ?_
  obtain ⟨x1, e2, hf⟩ := obnd hf
  refine ev_callS0 (As := [.int i1, .int 3]) (st := []) C (t_X11_within e2) hd_X11_within rfl kw_435 kw_436 kw_70 kw_437 (mRoom.of E (Nat.le_of_ble_eq_true rfl) (Nat.le_of_ble_eq_true rfl) (Nat.le_refl 0) (Nat.le_refl 0)) (Nat.le_of_ble_eq_true rfl) dX11_cost_2 ?_
  refine ev_if_eq (tgt := 25) C dX11_cost_5 (by decide) (fun hc => ?_) (fun hc => ?_)
  · have hf := oit hf hc
    refine ev_iconst (v := (-1)) C dX11_cost_25 (by decide) ?_
    obtain rfl := Option.some.inj hf
    exact ev_iret C E (Nat.le_refl 0) (Nat.le_refl 0) dX11_cost_26
  · have hf := oie hf hc
    refine ev_aload_n C dX11_cost_8 rfl (q := 0) rfl ?_
    obtain ⟨x3, e4, hf⟩ := obnd hf
    refine ev_get (k := 0) C ok_11 dX11_cost_9 (by decide) kw_392 (fR_V e4) ?_
    obtain ⟨x5, e6, hf⟩ := obnd hf
    refine ev_get (k := 3) C ok_5 dX11_cost_12 (by decide) kw_193 (fR_V e6) ?_
    refine ev_iload_n C dX11_cost_15 rfl (q := 1) rfl ?_
    obtain ⟨_, e7, hf⟩ := obnd hf
    obtain ⟨fs8, e7⟩ := oO_eq e7
    obtain ⟨x9, e10, hf⟩ := obnd hf
    refine ev_callV0 (As := [.int i1]) (st := []) C rfl e7 (t_X4_costOf e10) rfl hd_X4_costOf rfl kw_826 kw_797 kw_72 kw_798 kw_799 (mRoom.of E (Nat.le_of_ble_eq_true rfl) (Nat.le_of_ble_eq_true rfl) (Nat.le_refl 0) (Nat.le_refl 0)) (Nat.le_of_ble_eq_true rfl) dX11_cost_16 ?_
    obtain ⟨x11, e12, hf⟩ := obnd hf
    refine ev_callS0 (As := [.float x9]) (st := []) C (t_X9_bitsOfFloat e12) hd_X9_bitsOfFloat rfl kw_536 kw_537 kw_77 kw_538 (mRoom.of E (Nat.le_of_ble_eq_true rfl) (Nat.le_of_ble_eq_true rfl) (Nat.le_refl 0) (Nat.le_refl 0)) (Nat.le_of_ble_eq_true rfl) dX11_cost_19 ?_
    refine ev_goto (tgt := 26) C dX11_cost_22 (by decide) ?_
    obtain rfl := Option.some.inj hf
    exact ev_iret C E (Nat.le_refl 0) (Nat.le_refl 0) dX11_cost_26
/-! jdk/internal/util/ArraysSupport newLength(III)I -/
theorem dJ8_newLength_cabcc_0 : decode prog_29_method_27_code 0 = .ok (.iload_n 0, 1) := by decide +kernel
theorem dJ8_newLength_cabcc_1 : decode prog_29_method_27_code 1 = .ok (.iload_n 1, 1) := by decide +kernel
theorem dJ8_newLength_cabcc_2 : decode prog_29_method_27_code 2 = .ok (.iload_n 2, 1) := by decide +kernel
theorem dJ8_newLength_cabcc_3 : decode prog_29_method_27_code 3 = .ok (.invokestatic 194, 3) := by decide +kernel
theorem dJ8_newLength_cabcc_6 : decode prog_29_method_27_code 6 = .ok (.iadd, 1) := by decide +kernel
theorem dJ8_newLength_cabcc_7 : decode prog_29_method_27_code 7 = .ok (.istore_n 3, 1) := by decide +kernel
theorem dJ8_newLength_cabcc_8 : decode prog_29_method_27_code 8 = .ok (.iconst 0, 1) := by decide +kernel
theorem dJ8_newLength_cabcc_9 : decode prog_29_method_27_code 9 = .ok (.iload_n 3, 1) := by decide +kernel
theorem dJ8_newLength_cabcc_10 : decode prog_29_method_27_code 10 = .ok (.if_icmp .ge 11, 3) := by decide +kernel
theorem dJ8_newLength_cabcc_13 : decode prog_29_method_27_code 13 = .ok (.iload_n 3, 1) := by decide +kernel
theorem dJ8_newLength_cabcc_14 : decode prog_29_method_27_code 14 = .ok (.ldc 200, 2) := by decide +kernel
theorem dJ8_newLength_cabcc_16 : decode prog_29_method_27_code 16 = .ok (.if_icmp .gt 5, 3) := by decide +kernel
theorem dJ8_newLength_cabcc_19 : decode prog_29_method_27_code 19 = .ok (.iload_n 3, 1) := by decide +kernel
theorem dJ8_newLength_cabcc_20 : decode prog_29_method_27_code 20 = .ok (.ireturn, 1) := by decide +kernel
theorem dJ8_newLength_cabcc_21 : decode prog_29_method_27_code 21 = .ok (.iload_n 0, 1) := by decide +kernel
theorem dJ8_newLength_cabcc_22 : decode prog_29_method_27_code 22 = .ok (.iload_n 1, 1) := by decide +kernel
theorem dJ8_newLength_cabcc_23 : decode prog_29_method_27_code 23 = .ok (.invokestatic 201, 3) := by decide +kernel
theorem dJ8_newLength_cabcc_26 : decode prog_29_method_27_code 26 = .ok (.ireturn, 1) := by decide +kernel
def m_J8_newLength_cabcc (i0 : Int32) (i1 : Int32) (i2 : Int32) : Option (Int32) :=
  if (i0 + (iMax i1 i2)) ≤ (0 : Int32) then (
    none) else (
    if 2147483639 < (i0 + (iMax i1 i2)) then (
      none) else (
      some (i0 + (iMax i1 i2))))
set_option maxHeartbeats 4000000 in
set_option maxRecDepth 100000 in
theorem t_J8_newLength_cabcc {L0 : Launch} {M : mM} {i0 : Int32} {i1 : Int32} {i2 : Int32} {res : Int32} (hf : m_J8_newLength_cabcc i0 i1 i2 = some res) : CT L0 yJ8_newLength_cabcc prog_29_method_27_code 4 (some .int) 1 40 0 0 [.int i0, .int i1, .int i2] M (some (.int res)) M := by
  refine CT.of (by decide +kernel) (Nat.le_of_ble_eq_true rfl) fun X C E => ?_
  have C : CX X RJ8 "newLength" prog_29_method_27_code 4 (some .int) := C
  show EV X 4 0 [(0, .int i0), (1, .int i1), (2, .int i2)] [] 0 0 M
  unfold m_J8_newLength_cabcc at hf
  refine ev_iload_n C dJ8_newLength_cabcc_0 rfl (q := 0) rfl ?_
  refine ev_iload_n C dJ8_newLength_cabcc_1 rfl (q := 1) rfl ?_
  refine ev_iload_n C dJ8_newLength_cabcc_2 rfl (q := 2) rfl ?_
  refine ev_mmax C kw_853 kw_530 kw_90 kw_531 (mfr E (by decide)) (mlo E (by decide)) (Nat.zero_le _) (Nat.zero_le _) (Nat.le_of_ble_eq_true rfl) dJ8_newLength_cabcc_3 ?_
  refine ev_iadd C dJ8_newLength_cabcc_6 ?_
  refine ev_istore_n (l' := [(3, .int (i0 + (iMax i1 i2))), (0, .int i0), (1, .int i1), (2, .int i2)]) C dJ8_newLength_cabcc_7 rfl (by decide) rfl ?_
  refine ev_iconst (v := 0) C dJ8_newLength_cabcc_8 (by decide) ?_
  refine ev_iload_n C dJ8_newLength_cabcc_9 rfl (q := 0) rfl ?_
  refine ev_icmp_ge (tgt := 21) C dJ8_newLength_cabcc_10 (by decide) (fun hc => ?_) (fun hc => ?_)
  · have hf := oit hf hc
    refine ev_iload_n C dJ8_newLength_cabcc_21 rfl (q := 1) rfl ?_
    refine ev_iload_n C dJ8_newLength_cabcc_22 rfl (q := 2) rfl ?_
    cases hf
  · have hf := oie hf hc
    refine ev_iload_n C dJ8_newLength_cabcc_13 rfl (q := 0) rfl ?_
    refine ev_ldc (v := 2147483639) C dJ8_newLength_cabcc_14 kw_854 ?_
    refine ev_icmp_gt (tgt := 21) C dJ8_newLength_cabcc_16 (by decide) (fun hc => ?_) (fun hc => ?_)
    · have hf := oit hf hc
      refine ev_iload_n C dJ8_newLength_cabcc_21 rfl (q := 1) rfl ?_
      refine ev_iload_n C dJ8_newLength_cabcc_22 rfl (q := 2) rfl ?_
      cases hf
    · have hf := oie hf hc
      refine ev_iload_n C dJ8_newLength_cabcc_19 rfl (q := 0) rfl ?_
      obtain rfl := Option.some.inj hf
      exact ev_iret C E (Nat.le_refl 0) (Nat.le_refl 0) dJ8_newLength_cabcc_20
/-! java/lang/AbstractStringBuilder newCapacity(I)I -/
theorem dJ5_newCapacity_0f7a4_0 : decode prog_15_method_10_code 0 = .ok (.aload_n 0, 1) := by decide +kernel
theorem dJ5_newCapacity_0f7a4_1 : decode prog_15_method_10_code 1 = .ok (.getfield 15, 3) := by decide +kernel
theorem dJ5_newCapacity_0f7a4_4 : decode prog_15_method_10_code 4 = .ok (.arraylength, 1) := by decide +kernel
theorem dJ5_newCapacity_0f7a4_5 : decode prog_15_method_10_code 5 = .ok (.istore_n 2, 1) := by decide +kernel
theorem dJ5_newCapacity_0f7a4_6 : decode prog_15_method_10_code 6 = .ok (.iload_n 1, 1) := by decide +kernel
theorem dJ5_newCapacity_0f7a4_7 : decode prog_15_method_10_code 7 = .ok (.aload_n 0, 1) := by decide +kernel
theorem dJ5_newCapacity_0f7a4_8 : decode prog_15_method_10_code 8 = .ok (.getfield 22, 3) := by decide +kernel
theorem dJ5_newCapacity_0f7a4_11 : decode prog_15_method_10_code 11 = .ok (.ishl, 1) := by decide +kernel
theorem dJ5_newCapacity_0f7a4_12 : decode prog_15_method_10_code 12 = .ok (.istore_n 3, 1) := by decide +kernel
theorem dJ5_newCapacity_0f7a4_13 : decode prog_15_method_10_code 13 = .ok (.iload_n 3, 1) := by decide +kernel
theorem dJ5_newCapacity_0f7a4_14 : decode prog_15_method_10_code 14 = .ok (.iload_n 2, 1) := by decide +kernel
theorem dJ5_newCapacity_0f7a4_15 : decode prog_15_method_10_code 15 = .ok (.isub, 1) := by decide +kernel
theorem dJ5_newCapacity_0f7a4_16 : decode prog_15_method_10_code 16 = .ok (.istore 4, 2) := by decide +kernel
theorem dJ5_newCapacity_0f7a4_18 : decode prog_15_method_10_code 18 = .ok (.iload_n 2, 1) := by decide +kernel
theorem dJ5_newCapacity_0f7a4_19 : decode prog_15_method_10_code 19 = .ok (.iload 4, 2) := by decide +kernel
theorem dJ5_newCapacity_0f7a4_21 : decode prog_15_method_10_code 21 = .ok (.iload_n 2, 1) := by decide +kernel
theorem dJ5_newCapacity_0f7a4_22 : decode prog_15_method_10_code 22 = .ok (.iconst 2, 1) := by decide +kernel
theorem dJ5_newCapacity_0f7a4_23 : decode prog_15_method_10_code 23 = .ok (.aload_n 0, 1) := by decide +kernel
theorem dJ5_newCapacity_0f7a4_24 : decode prog_15_method_10_code 24 = .ok (.getfield 22, 3) := by decide +kernel
theorem dJ5_newCapacity_0f7a4_27 : decode prog_15_method_10_code 27 = .ok (.ishl, 1) := by decide +kernel
theorem dJ5_newCapacity_0f7a4_28 : decode prog_15_method_10_code 28 = .ok (.iadd, 1) := by decide +kernel
theorem dJ5_newCapacity_0f7a4_29 : decode prog_15_method_10_code 29 = .ok (.invokestatic 114, 3) := by decide +kernel
theorem dJ5_newCapacity_0f7a4_32 : decode prog_15_method_10_code 32 = .ok (.istore 5, 2) := by decide +kernel
theorem dJ5_newCapacity_0f7a4_34 : decode prog_15_method_10_code 34 = .ok (.iload 5, 2) := by decide +kernel
theorem dJ5_newCapacity_0f7a4_36 : decode prog_15_method_10_code 36 = .ok (.ldc 39, 2) := by decide +kernel
theorem dJ5_newCapacity_0f7a4_38 : decode prog_15_method_10_code 38 = .ok (.if_icmp .ne 13, 3) := by decide +kernel
theorem dJ5_newCapacity_0f7a4_41 : decode prog_15_method_10_code 41 = .ok (.new 120, 3) := by decide +kernel
theorem dJ5_newCapacity_0f7a4_44 : decode prog_15_method_10_code 44 = .ok (.dup, 1) := by decide +kernel
theorem dJ5_newCapacity_0f7a4_45 : decode prog_15_method_10_code 45 = .ok (.ldc 122, 2) := by decide +kernel
theorem dJ5_newCapacity_0f7a4_47 : decode prog_15_method_10_code 47 = .ok (.invokespecial 124, 3) := by decide +kernel
theorem dJ5_newCapacity_0f7a4_50 : decode prog_15_method_10_code 50 = .ok (.athrow, 1) := by decide +kernel
theorem dJ5_newCapacity_0f7a4_51 : decode prog_15_method_10_code 51 = .ok (.iload 5, 2) := by decide +kernel
theorem dJ5_newCapacity_0f7a4_53 : decode prog_15_method_10_code 53 = .ok (.aload_n 0, 1) := by decide +kernel
theorem dJ5_newCapacity_0f7a4_54 : decode prog_15_method_10_code 54 = .ok (.getfield 22, 3) := by decide +kernel
theorem dJ5_newCapacity_0f7a4_57 : decode prog_15_method_10_code 57 = .ok (.ishr, 1) := by decide +kernel
theorem dJ5_newCapacity_0f7a4_58 : decode prog_15_method_10_code 58 = .ok (.ireturn, 1) := by decide +kernel
def m_J5_newCapacity_0f7a4 (a0 : Nat) (i1 : Int32) (M : mM) : Option (Int32) :=
  (fR M a0 0 0).bind fun x1 =>
  (aN 4 M x1).bind fun x3 =>
  (fI M a0 0 1).bind fun x5 =>
  (fI M a0 0 1).bind fun x7 =>
  (m_J8_newLength_cabcc x3 ((i1 <<< (x5 &&& 31)) - x3) (x3 + (2 <<< (x7 &&& 31)))).bind fun x9 =>
  if x9 = 2147483647 then (
    none) else (
    (fI M a0 0 1).bind fun x11 =>
    some (x9 >>> (x11 &&& 31)))
set_option maxHeartbeats 4000000 in
set_option maxRecDepth 100000 in
theorem t_J5_newCapacity_0f7a4 {L0 : Launch} {M : mM} {a0 : Nat} {i1 : Int32} {res : Int32} (hf : m_J5_newCapacity_0f7a4 a0 i1 M = some res) : CT L0 yJ5_newCapacity_0f7a4 prog_15_method_10_code 6 (some .int) 2 63 0 0 [.ref a0, .int i1] M (some (.int res)) M := by
  refine CT.of (by decide +kernel) (Nat.le_of_ble_eq_true rfl) fun X C E => ?_
  have C : CX X RJ5 "newCapacity" prog_15_method_10_code 6 (some .int) := C
  show EV X 6 0 [(0, .ref a0), (1, .int i1)] [] 0 0 M
  unfold m_J5_newCapacity_0f7a4 at hf
  refine ev_aload_n C dJ5_newCapacity_0f7a4_0 rfl (q := 0) rfl ?_
  obtain ⟨x1, e2, hf⟩ := obnd hf
  refine ev_get (k := 0) C ok_0 dJ5_newCapacity_0f7a4_1 (by decide) kw_352 (fR_V e2) ?_
  obtain ⟨x3, e4, hf⟩ := obnd hf
  refine ev_alen (t := 4) C rfl dJ5_newCapacity_0f7a4_4 e4 ?_
  refine ev_istore_n (l' := [(2, .int x3), (0, .ref a0), (1, .int i1)]) C dJ5_newCapacity_0f7a4_5 rfl (by decide) rfl ?_
  refine ev_iload_n C dJ5_newCapacity_0f7a4_6 rfl (q := 2) rfl ?_
  refine ev_aload_n C dJ5_newCapacity_0f7a4_7 rfl (q := 1) rfl ?_
  obtain ⟨x5, e6, hf⟩ := obnd hf
  refine ev_get (k := 1) C ok_0 dJ5_newCapacity_0f7a4_8 (by decide) kw_353 (fI_V e6) ?_
  refine ev_ishl C dJ5_newCapacity_0f7a4_11 ?_
  refine ev_istore_n (l' := [(3, .int (i1 <<< (x5 &&& 31))), (2, .int x3), (0, .ref a0), (1, .int i1)]) C dJ5_newCapacity_0f7a4_12 rfl (by decide) rfl ?_
  refine ev_iload_n C dJ5_newCapacity_0f7a4_13 rfl (q := 0) rfl ?_
  refine ev_iload_n C dJ5_newCapacity_0f7a4_14 rfl (q := 1) rfl ?_
  refine ev_isub C dJ5_newCapacity_0f7a4_15 ?_
  refine ev_istore (l' := [(4, .int ((i1 <<< (x5 &&& 31)) - x3)), (3, .int (i1 <<< (x5 &&& 31))), (2, .int x3), (0, .ref a0), (1, .int i1)]) C dJ5_newCapacity_0f7a4_16 (by decide) rfl ?_
  refine ev_iload_n C dJ5_newCapacity_0f7a4_18 rfl (q := 2) rfl ?_
  refine ev_iload C dJ5_newCapacity_0f7a4_19 (q := 0) rfl ?_
  refine ev_iload_n C dJ5_newCapacity_0f7a4_21 rfl (q := 2) rfl ?_
  refine ev_iconst (v := 2) C dJ5_newCapacity_0f7a4_22 (by decide) ?_
  refine ev_aload_n C dJ5_newCapacity_0f7a4_23 rfl (q := 3) rfl ?_
  obtain ⟨x7, e8, hf⟩ := obnd hf
  refine ev_get (k := 1) C ok_0 dJ5_newCapacity_0f7a4_24 (by decide) kw_353 (fI_V e8) ?_
  refine ev_ishl C dJ5_newCapacity_0f7a4_27 ?_
  refine ev_iadd C dJ5_newCapacity_0f7a4_28 ?_
  obtain ⟨x9, e10, hf⟩ := obnd hf
  refine ev_callS0 (As := [.int x3, .int ((i1 <<< (x5 &&& 31)) - x3), .int (x3 + (2 <<< (x7 &&& 31)))]) (st := []) C (t_J8_newLength_cabcc e10) hd_J8_newLength_cabcc rfl kw_850 kw_851 kw_93 kw_852 (mRoom.of E (Nat.le_of_ble_eq_true rfl) (Nat.le_of_ble_eq_true rfl) (Nat.le_refl 0) (Nat.le_refl 0)) (Nat.le_of_ble_eq_true rfl) dJ5_newCapacity_0f7a4_29 ?_
  refine ev_istore (l' := [(5, .int x9), (4, .int ((i1 <<< (x5 &&& 31)) - x3)), (3, .int (i1 <<< (x5 &&& 31))), (2, .int x3), (0, .ref a0), (1, .int i1)]) C dJ5_newCapacity_0f7a4_32 (by decide) rfl ?_
  refine ev_iload C dJ5_newCapacity_0f7a4_34 (q := 0) rfl ?_
  refine ev_ldc (v := 2147483647) C dJ5_newCapacity_0f7a4_36 kw_858 ?_
  refine ev_icmp_ne (tgt := 51) C dJ5_newCapacity_0f7a4_38 (by decide) (fun hc => ?_) (fun hc => ?_)
  · have hf := oie hf hc
    refine ev_iload C dJ5_newCapacity_0f7a4_51 (q := 0) rfl ?_
    refine ev_aload_n C dJ5_newCapacity_0f7a4_53 rfl (q := 4) rfl ?_
    obtain ⟨x11, e12, hf⟩ := obnd hf
    refine ev_get (k := 1) C ok_0 dJ5_newCapacity_0f7a4_54 (by decide) kw_353 (fI_V e12) ?_
    refine ev_ishr C dJ5_newCapacity_0f7a4_57 ?_
    obtain rfl := Option.some.inj hf
    exact ev_iret C E (Nat.le_refl 0) (Nat.le_refl 0) dJ5_newCapacity_0f7a4_58
  · have hf := oit hf hc
    cases hf
/-! java/lang/AbstractStringBuilder isLatin1()Z -/
theorem dJ5_isLatin1_aae02_0 : decode prog_15_method_68_code 0 = .ok (.getstatic 18, 3) := by decide +kernel
theorem dJ5_isLatin1_aae02_3 : decode prog_15_method_68_code 3 = .ok (.ifCond .eq 14, 3) := by decide +kernel
theorem dJ5_isLatin1_aae02_6 : decode prog_15_method_68_code 6 = .ok (.aload_n 0, 1) := by decide +kernel
theorem dJ5_isLatin1_aae02_7 : decode prog_15_method_68_code 7 = .ok (.getfield 22, 3) := by decide +kernel
theorem dJ5_isLatin1_aae02_10 : decode prog_15_method_68_code 10 = .ok (.ifCond .ne 7, 3) := by decide +kernel
theorem dJ5_isLatin1_aae02_13 : decode prog_15_method_68_code 13 = .ok (.iconst 1, 1) := by decide +kernel
theorem dJ5_isLatin1_aae02_14 : decode prog_15_method_68_code 14 = .ok (.goto 4, 3) := by decide +kernel
theorem dJ5_isLatin1_aae02_17 : decode prog_15_method_68_code 17 = .ok (.iconst 0, 1) := by decide +kernel
theorem dJ5_isLatin1_aae02_18 : decode prog_15_method_68_code 18 = .ok (.ireturn, 1) := by decide +kernel
def m_J5_isLatin1_aae02 (a0 : Nat) (M : mM) : Option (Int32) :=
  if (1 : Int32) = 0 then (
    some 0) else (
    (fI M a0 0 1).bind fun x1 =>
    if x1 = 0 then (
      some 1) else (
      some 0))
set_option maxHeartbeats 4000000 in
set_option maxRecDepth 100000 in
theorem t_J5_isLatin1_aae02 {L0 : Launch} {M : mM} {a0 : Nat} {res : Int32} (hf : m_J5_isLatin1_aae02 a0 M = some res) : CT L0 yJ5_isLatin1_aae02 prog_15_method_68_code 1 (some .boolean) 0 0 0 0 [.ref a0] M (some (.int res)) M := by
  refine CT.of (by decide +kernel) (Nat.le_of_ble_eq_true rfl) fun X C E => ?_
  have C : CX X RJ5 "isLatin1" prog_15_method_68_code 1 (some .boolean) := C
  show EV X 1 0 [(0, .ref a0)] [] 0 0 M
  unfold m_J5_isLatin1_aae02 at hf
  refine ev_sCompact C kw_343 dJ5_isLatin1_aae02_0 ?_
  refine ev_if_eq (tgt := 17) C dJ5_isLatin1_aae02_3 (by decide) (fun hc => ?_) (fun hc => ?_)
  · have hf := oit hf hc
    refine ev_iconst (v := 0) C dJ5_isLatin1_aae02_17 (by decide) ?_
    obtain rfl := Option.some.inj hf
    exact ev_zret C (by decide) E (Nat.le_refl 0) (Nat.le_refl 0) dJ5_isLatin1_aae02_18
  · have hf := oie hf hc
    refine ev_aload_n C dJ5_isLatin1_aae02_6 rfl (q := 0) rfl ?_
    obtain ⟨x1, e2, hf⟩ := obnd hf
    refine ev_get (k := 1) C ok_0 dJ5_isLatin1_aae02_7 (by decide) kw_353 (fI_V e2) ?_
    refine ev_if_ne (tgt := 17) C dJ5_isLatin1_aae02_10 (by decide) (fun hc => ?_) (fun hc => ?_)
    · have hf := oie hf hc
      refine ev_iconst (v := 0) C dJ5_isLatin1_aae02_17 (by decide) ?_
      obtain rfl := Option.some.inj hf
      exact ev_zret C (by decide) E (Nat.le_refl 0) (Nat.le_refl 0) dJ5_isLatin1_aae02_18
    · have hf := oit hf hc
      refine ev_iconst (v := 1) C dJ5_isLatin1_aae02_13 (by decide) ?_
      refine ev_goto (tgt := 18) C dJ5_isLatin1_aae02_14 (by decide) ?_
      obtain rfl := Option.some.inj hf
      exact ev_zret C (by decide) E (Nat.le_refl 0) (Nat.le_refl 0) dJ5_isLatin1_aae02_18
/-! java/util/Arrays rangeCheck(III)V -/
theorem dJ7_rangeCheck_23922_0 : decode prog_28_method_30_code 0 = .ok (.iload_n 1, 1) := by decide +kernel
theorem dJ7_rangeCheck_23922_1 : decode prog_28_method_30_code 1 = .ok (.iload_n 2, 1) := by decide +kernel
theorem dJ7_rangeCheck_23922_2 : decode prog_28_method_30_code 2 = .ok (.if_icmp .le 44, 3) := by decide +kernel
theorem dJ7_rangeCheck_23922_5 : decode prog_28_method_30_code 5 = .ok (.new 43, 3) := by decide +kernel
theorem dJ7_rangeCheck_23922_8 : decode prog_28_method_30_code 8 = .ok (.dup, 1) := by decide +kernel
theorem dJ7_rangeCheck_23922_9 : decode prog_28_method_30_code 9 = .ok (.new 45, 3) := by decide +kernel
theorem dJ7_rangeCheck_23922_12 : decode prog_28_method_30_code 12 = .ok (.dup, 1) := by decide +kernel
theorem dJ7_rangeCheck_23922_13 : decode prog_28_method_30_code 13 = .ok (.invokespecial 47, 3) := by decide +kernel
theorem dJ7_rangeCheck_23922_16 : decode prog_28_method_30_code 16 = .ok (.ldc 48, 2) := by decide +kernel
theorem dJ7_rangeCheck_23922_18 : decode prog_28_method_30_code 18 = .ok (.invokevirtual 50, 3) := by decide +kernel
theorem dJ7_rangeCheck_23922_21 : decode prog_28_method_30_code 21 = .ok (.iload_n 1, 1) := by decide +kernel
theorem dJ7_rangeCheck_23922_22 : decode prog_28_method_30_code 22 = .ok (.invokevirtual 54, 3) := by decide +kernel
theorem dJ7_rangeCheck_23922_25 : decode prog_28_method_30_code 25 = .ok (.ldc 57, 2) := by decide +kernel
theorem dJ7_rangeCheck_23922_27 : decode prog_28_method_30_code 27 = .ok (.invokevirtual 50, 3) := by decide +kernel
theorem dJ7_rangeCheck_23922_30 : decode prog_28_method_30_code 30 = .ok (.iload_n 2, 1) := by decide +kernel
theorem dJ7_rangeCheck_23922_31 : decode prog_28_method_30_code 31 = .ok (.invokevirtual 54, 3) := by decide +kernel
theorem dJ7_rangeCheck_23922_34 : decode prog_28_method_30_code 34 = .ok (.ldc 59, 2) := by decide +kernel
theorem dJ7_rangeCheck_23922_36 : decode prog_28_method_30_code 36 = .ok (.invokevirtual 50, 3) := by decide +kernel
theorem dJ7_rangeCheck_23922_39 : decode prog_28_method_30_code 39 = .ok (.invokevirtual 61, 3) := by decide +kernel
theorem dJ7_rangeCheck_23922_42 : decode prog_28_method_30_code 42 = .ok (.invokespecial 65, 3) := by decide +kernel
theorem dJ7_rangeCheck_23922_45 : decode prog_28_method_30_code 45 = .ok (.athrow, 1) := by decide +kernel
theorem dJ7_rangeCheck_23922_46 : decode prog_28_method_30_code 46 = .ok (.iload_n 1, 1) := by decide +kernel
theorem dJ7_rangeCheck_23922_47 : decode prog_28_method_30_code 47 = .ok (.ifCond .ge 12, 3) := by decide +kernel
theorem dJ7_rangeCheck_23922_50 : decode prog_28_method_30_code 50 = .ok (.new 68, 3) := by decide +kernel
theorem dJ7_rangeCheck_23922_53 : decode prog_28_method_30_code 53 = .ok (.dup, 1) := by decide +kernel
theorem dJ7_rangeCheck_23922_54 : decode prog_28_method_30_code 54 = .ok (.iload_n 1, 1) := by decide +kernel
theorem dJ7_rangeCheck_23922_55 : decode prog_28_method_30_code 55 = .ok (.invokespecial 70, 3) := by decide +kernel
theorem dJ7_rangeCheck_23922_58 : decode prog_28_method_30_code 58 = .ok (.athrow, 1) := by decide +kernel
theorem dJ7_rangeCheck_23922_59 : decode prog_28_method_30_code 59 = .ok (.iload_n 2, 1) := by decide +kernel
theorem dJ7_rangeCheck_23922_60 : decode prog_28_method_30_code 60 = .ok (.iload_n 0, 1) := by decide +kernel
theorem dJ7_rangeCheck_23922_61 : decode prog_28_method_30_code 61 = .ok (.if_icmp .le 12, 3) := by decide +kernel
theorem dJ7_rangeCheck_23922_64 : decode prog_28_method_30_code 64 = .ok (.new 68, 3) := by decide +kernel
theorem dJ7_rangeCheck_23922_67 : decode prog_28_method_30_code 67 = .ok (.dup, 1) := by decide +kernel
theorem dJ7_rangeCheck_23922_68 : decode prog_28_method_30_code 68 = .ok (.iload_n 2, 1) := by decide +kernel
theorem dJ7_rangeCheck_23922_69 : decode prog_28_method_30_code 69 = .ok (.invokespecial 70, 3) := by decide +kernel
theorem dJ7_rangeCheck_23922_72 : decode prog_28_method_30_code 72 = .ok (.athrow, 1) := by decide +kernel
theorem dJ7_rangeCheck_23922_73 : decode prog_28_method_30_code 73 = .ok (.return_, 1) := by decide +kernel
def m_J7_rangeCheck_23922 (i0 : Int32) (i1 : Int32) (i2 : Int32) : Option (Unit) :=
  if i1 ≤ i2 then (
    if 0 ≤ i1 then (
      if i2 ≤ i0 then (
        some ()) else (
        none)) else (
      none)) else (
    none)
set_option maxHeartbeats 4000000 in
set_option maxRecDepth 100000 in
theorem t_J7_rangeCheck_23922 {L0 : Launch} {M : mM} {i0 : Int32} {i1 : Int32} {i2 : Int32} {res : Unit} (hf : m_J7_rangeCheck_23922 i0 i1 i2 = some res) : CT L0 yJ7_rangeCheck_23922 prog_28_method_30_code 3 none 0 0 0 0 [.int i0, .int i1, .int i2] M none M := by
  refine CT.of (by decide +kernel) (Nat.le_of_ble_eq_true rfl) fun X C E => ?_
  have C : CX X RJ7 "rangeCheck" prog_28_method_30_code 3 none := C
  show EV X 3 0 [(0, .int i0), (1, .int i1), (2, .int i2)] [] 0 0 M
  unfold m_J7_rangeCheck_23922 at hf
  refine ev_iload_n C dJ7_rangeCheck_23922_0 rfl (q := 1) rfl ?_
  refine ev_iload_n C dJ7_rangeCheck_23922_1 rfl (q := 2) rfl ?_
  refine ev_icmp_le (tgt := 46) C dJ7_rangeCheck_23922_2 (by decide) (fun hc => ?_) (fun hc => ?_)
  · have hf := oit hf hc
    refine ev_iload_n C dJ7_rangeCheck_23922_46 rfl (q := 1) rfl ?_
    refine ev_if_ge (tgt := 59) C dJ7_rangeCheck_23922_47 (by decide) (fun hc => ?_) (fun hc => ?_)
    · have hf := oit hf hc
      refine ev_iload_n C dJ7_rangeCheck_23922_59 rfl (q := 2) rfl ?_
      refine ev_iload_n C dJ7_rangeCheck_23922_60 rfl (q := 0) rfl ?_
      refine ev_icmp_le (tgt := 73) C dJ7_rangeCheck_23922_61 (by decide) (fun hc => ?_) (fun hc => ?_)
      · have hf := oit hf hc
        obtain rfl := Option.some.inj hf
        exact ev_vret C E (Nat.le_refl 0) (Nat.le_refl 0) dJ7_rangeCheck_23922_73
      · have hf := oie hf hc
        cases hf
    · have hf := oie hf hc
      cases hf
  · have hf := oie hf hc
    cases hf
/-! java/util/Arrays fill([BIIB)V -/
theorem dJ7_fill_eb02e_0 : decode prog_28_method_110_code 0 = .ok (.aload_n 0, 1) := by decide +kernel
theorem dJ7_fill_eb02e_1 : decode prog_28_method_110_code 1 = .ok (.arraylength, 1) := by decide +kernel
theorem dJ7_fill_eb02e_2 : decode prog_28_method_110_code 2 = .ok (.iload_n 1, 1) := by decide +kernel
theorem dJ7_fill_eb02e_3 : decode prog_28_method_110_code 3 = .ok (.iload_n 2, 1) := by decide +kernel
theorem dJ7_fill_eb02e_4 : decode prog_28_method_110_code 4 = .ok (.invokestatic 13, 3) := by decide +kernel
theorem dJ7_fill_eb02e_7 : decode prog_28_method_110_code 7 = .ok (.iload_n 1, 1) := by decide +kernel
theorem dJ7_fill_eb02e_8 : decode prog_28_method_110_code 8 = .ok (.istore 4, 2) := by decide +kernel
theorem dJ7_fill_eb02e_10 : decode prog_28_method_110_code 10 = .ok (.iload 4, 2) := by decide +kernel
theorem dJ7_fill_eb02e_12 : decode prog_28_method_110_code 12 = .ok (.iload_n 2, 1) := by decide +kernel
theorem dJ7_fill_eb02e_13 : decode prog_28_method_110_code 13 = .ok (.if_icmp .ge 14, 3) := by decide +kernel
theorem dJ7_fill_eb02e_16 : decode prog_28_method_110_code 16 = .ok (.aload_n 0, 1) := by decide +kernel
theorem dJ7_fill_eb02e_17 : decode prog_28_method_110_code 17 = .ok (.iload 4, 2) := by decide +kernel
theorem dJ7_fill_eb02e_19 : decode prog_28_method_110_code 19 = .ok (.iload_n 3, 1) := by decide +kernel
theorem dJ7_fill_eb02e_20 : decode prog_28_method_110_code 20 = .ok (.bastore, 1) := by decide +kernel
theorem dJ7_fill_eb02e_21 : decode prog_28_method_110_code 21 = .ok (.iinc 4 1, 3) := by decide +kernel
theorem dJ7_fill_eb02e_24 : decode prog_28_method_110_code 24 = .ok (.goto (-14), 3) := by decide +kernel
theorem dJ7_fill_eb02e_27 : decode prog_28_method_110_code 27 = .ok (.return_, 1) := by decide +kernel
def m_J7_fill_eb02e_L10 (N : Nat)  : Nat → Nat → Int32 → Int32 → Int32 → mM → Option (mM)
  | 0, _, _, _, _, _ => none
  | n + 1, a0, i2, i3, i4, M =>
    if i2 ≤ i4 then (
      some M) else (
      (uI 4 .byte M a0 i4 i3).bind fun M1 =>
      (m_J7_fill_eb02e_L10 N  n) a0 i2 i3 (i4 + 1) M1)
set_option maxHeartbeats 4000000 in
set_option maxRecDepth 100000 in
theorem t_J7_fill_eb02e_L10 {X : mX} {L0 : Launch} {res : mM} {N : Nat} (C : CX X RJ7 "fill" prog_28_method_110_code 5 none) (E : EX X L0 1 22 0 0 none res)   : ∀ (n : Nat) (a0 : Nat) (i2 : Int32) (i3 : Int32) (i4 : Int32) (M : mM), m_J7_fill_eb02e_L10 N  n a0 i2 i3 i4 M = some res → EV X 5 10 [(0, .ref a0), (2, .int i2), (3, .int i3), (4, .int i4)] [] 0 0 M := by
  intro n
  induction n with
  | zero => intro a0 i2 i3 i4 M hf; cases (show (none : Option (mM)) = some res from hf)
  | succ n ih =>
    intro a0 i2 i3 i4 M hf
    rw [m_J7_fill_eb02e_L10] at hf
    refine ev_iload C dJ7_fill_eb02e_10 (q := 3) rfl ?_
    refine ev_iload_n C dJ7_fill_eb02e_12 rfl (q := 1) rfl ?_
    refine ev_icmp_ge (tgt := 27) C dJ7_fill_eb02e_13 (by decide) (fun hc => ?_) (fun hc => ?_)
    · have hf := oit hf hc
      obtain rfl := Option.some.inj hf
      exact ev_vret C E (Nat.le_refl 0) (Nat.le_refl 0) dJ7_fill_eb02e_27
    · have hf := oie hf hc
      refine ev_aload_n C dJ7_fill_eb02e_16 rfl (q := 0) rfl ?_
      refine ev_iload C dJ7_fill_eb02e_17 (q := 3) rfl ?_
      refine ev_iload_n C dJ7_fill_eb02e_19 rfl (q := 2) rfl ?_
      obtain ⟨M1, e2, hf⟩ := obnd hf
      refine ev_bast C dJ7_fill_eb02e_20 e2 ?_
      refine ev_iinc (v := i4 + 1) (l' := [(4, .int (i4 + 1)), (0, .ref a0), (2, .int i2), (3, .int i3)]) C dJ7_fill_eb02e_21 (q := 3) rfl rfl (by decide) rfl ?_
      refine ev_goto (tgt := 10) C dJ7_fill_eb02e_24 (by decide) ?_
      refine ev_sub [1, 2, 3, 0] rfl ?_
      exact ih a0 i2 i3 (i4 + 1) M1 hf
def m_J7_fill_eb02e (N : Nat) (a0 : Nat) (i1 : Int32) (i2 : Int32) (i3 : Int32) (M : mM) : Option (mM) :=
  (aN 4 M a0).bind fun x1 =>
  (m_J7_rangeCheck_23922 x1 i1 i2).bind fun x3 =>
  m_J7_fill_eb02e_L10 N  N a0 i2 i3 i1 M
set_option maxHeartbeats 4000000 in
set_option maxRecDepth 100000 in
theorem t_J7_fill_eb02e {L0 : Launch} {M : mM} {N : Nat} {a0 : Nat} {i1 : Int32} {i2 : Int32} {i3 : Int32} {res : mM} (hf : m_J7_fill_eb02e N a0 i1 i2 i3 M = some res) : CT L0 yJ7_fill_eb02e prog_28_method_110_code 5 none 1 22 0 0 [.ref a0, .int i1, .int i2, .int i3] M none res := by
  refine CT.of (by decide +kernel) (Nat.le_of_ble_eq_true rfl) fun X C E => ?_
  have C : CX X RJ7 "fill" prog_28_method_110_code 5 none := C
  show EV X 5 0 [(0, .ref a0), (1, .int i1), (2, .int i2), (3, .int i3)] [] 0 0 M
  unfold m_J7_fill_eb02e at hf
  refine ev_aload_n C dJ7_fill_eb02e_0 rfl (q := 0) rfl ?_
  obtain ⟨x1, e2, hf⟩ := obnd hf
  refine ev_alen (t := 4) C rfl dJ7_fill_eb02e_1 e2 ?_
  refine ev_iload_n C dJ7_fill_eb02e_2 rfl (q := 1) rfl ?_
  refine ev_iload_n C dJ7_fill_eb02e_3 rfl (q := 2) rfl ?_
  obtain ⟨x3, e4, hf⟩ := obnd hf
  refine ev_callS0 (As := [.int x1, .int i1, .int i2]) (st := []) C (t_J7_rangeCheck_23922 e4) hd_J7_rangeCheck_23922 rfl kw_884 kw_885 kw_86 kw_886 (mRoom.of E (Nat.le_of_ble_eq_true rfl) (Nat.le_of_ble_eq_true rfl) (Nat.le_refl 0) (Nat.le_refl 0)) (Nat.le_of_ble_eq_true rfl) dJ7_fill_eb02e_4 ?_
  refine ev_iload_n C dJ7_fill_eb02e_7 rfl (q := 1) rfl ?_
  refine ev_istore (l' := [(4, .int i1), (0, .ref a0), (1, .int i1), (2, .int i2), (3, .int i3)]) C dJ7_fill_eb02e_8 (by decide) rfl ?_
  refine ev_sub [1, 3, 4, 0] rfl ?_
  exact t_J7_fill_eb02e_L10 C E   N a0 i2 i3 i1 M hf
/-! java/lang/StringLatin1 fillNull([BII)V -/
theorem dJ1_fillNull_b72d1_0 : decode prog_25_method_48_code 0 = .ok (.aload_n 0, 1) := by decide +kernel
theorem dJ1_fillNull_b72d1_1 : decode prog_25_method_48_code 1 = .ok (.iload_n 1, 1) := by decide +kernel
theorem dJ1_fillNull_b72d1_2 : decode prog_25_method_48_code 2 = .ok (.iload_n 2, 1) := by decide +kernel
theorem dJ1_fillNull_b72d1_3 : decode prog_25_method_48_code 3 = .ok (.iconst 0, 1) := by decide +kernel
theorem dJ1_fillNull_b72d1_4 : decode prog_25_method_48_code 4 = .ok (.invokestatic 236, 3) := by decide +kernel
theorem dJ1_fillNull_b72d1_7 : decode prog_25_method_48_code 7 = .ok (.return_, 1) := by decide +kernel
def m_J1_fillNull_b72d1 (N : Nat) (a0 : Nat) (i1 : Int32) (i2 : Int32) (M : mM) : Option (mM) :=
  (m_J7_fill_eb02e N a0 i1 i2 0 M).bind fun x1 =>
  some x1
set_option maxHeartbeats 4000000 in
set_option maxRecDepth 100000 in
theorem t_J1_fillNull_b72d1 {L0 : Launch} {M : mM} {N : Nat} {a0 : Nat} {i1 : Int32} {i2 : Int32} {res : mM} (hf : m_J1_fillNull_b72d1 N a0 i1 i2 M = some res) : CT L0 yJ1_fillNull_b72d1 prog_25_method_48_code 3 none 2 46 0 0 [.ref a0, .int i1, .int i2] M none res := by
  refine CT.of (by decide +kernel) (Nat.le_of_ble_eq_true rfl) fun X C E => ?_
  have C : CX X RJ1 "fillNull" prog_25_method_48_code 3 none := C
  show EV X 3 0 [(0, .ref a0), (1, .int i1), (2, .int i2)] [] 0 0 M
  unfold m_J1_fillNull_b72d1 at hf
  refine ev_aload_n C dJ1_fillNull_b72d1_0 rfl (q := 0) rfl ?_
  refine ev_iload_n C dJ1_fillNull_b72d1_1 rfl (q := 1) rfl ?_
  refine ev_iload_n C dJ1_fillNull_b72d1_2 rfl (q := 2) rfl ?_
  refine ev_iconst (v := 0) C dJ1_fillNull_b72d1_3 (by decide) ?_
  obtain ⟨x1, e2, hf⟩ := obnd hf
  refine ev_callS0 (As := [.ref a0, .int i1, .int i2, .int 0]) (st := []) C (t_J7_fill_eb02e e2) hd_J7_fill_eb02e rfl kw_881 kw_882 kw_86 kw_883 (mRoom.of E (Nat.le_of_ble_eq_true rfl) (Nat.le_of_ble_eq_true rfl) (Nat.le_refl 0) (Nat.le_refl 0)) (Nat.le_of_ble_eq_true rfl) dJ1_fillNull_b72d1_4 ?_
  obtain rfl := Option.some.inj hf
  exact ev_vret C E (Nat.le_refl 0) (Nat.le_refl 0) dJ1_fillNull_b72d1_7
/-! java/lang/StringLatin1 canEncode(C)Z -/
theorem dJ1_canEncode_fc78d_0 : decode prog_25_method_3_code 0 = .ok (.iload_n 0, 1) := by decide +kernel
theorem dJ1_canEncode_fc78d_1 : decode prog_25_method_3_code 1 = .ok (.sipush 255, 3) := by decide +kernel
theorem dJ1_canEncode_fc78d_4 : decode prog_25_method_3_code 4 = .ok (.if_icmp .gt 7, 3) := by decide +kernel
theorem dJ1_canEncode_fc78d_7 : decode prog_25_method_3_code 7 = .ok (.iconst 1, 1) := by decide +kernel
theorem dJ1_canEncode_fc78d_8 : decode prog_25_method_3_code 8 = .ok (.goto 4, 3) := by decide +kernel
theorem dJ1_canEncode_fc78d_11 : decode prog_25_method_3_code 11 = .ok (.iconst 0, 1) := by decide +kernel
theorem dJ1_canEncode_fc78d_12 : decode prog_25_method_3_code 12 = .ok (.ireturn, 1) := by decide +kernel
def m_J1_canEncode_fc78d (i0 : Int32) : Option (Int32) :=
  if 255 < i0 then (
    some 0) else (
    some 1)
set_option maxHeartbeats 4000000 in
set_option maxRecDepth 100000 in
theorem t_J1_canEncode_fc78d {L0 : Launch} {M : mM} {i0 : Int32} {res : Int32} (hf : m_J1_canEncode_fc78d i0 = some res) : CT L0 yJ1_canEncode_fc78d prog_25_method_3_code 1 (some .boolean) 0 0 0 0 [.int i0] M (some (.int res)) M := by
  refine CT.of (by decide +kernel) (Nat.le_of_ble_eq_true rfl) fun X C E => ?_
  have C : CX X RJ1 "canEncode" prog_25_method_3_code 1 (some .boolean) := C
  show EV X 1 0 [(0, .int i0)] [] 0 0 M
  unfold m_J1_canEncode_fc78d at hf
  refine ev_iload_n C dJ1_canEncode_fc78d_0 rfl (q := 0) rfl ?_
  refine ev_sipush (v := 255) C dJ1_canEncode_fc78d_1 (by decide) ?_
  refine ev_icmp_gt (tgt := 11) C dJ1_canEncode_fc78d_4 (by decide) (fun hc => ?_) (fun hc => ?_)
  · have hf := oit hf hc
    refine ev_iconst (v := 0) C dJ1_canEncode_fc78d_11 (by decide) ?_
    obtain rfl := Option.some.inj hf
    exact ev_zret C (by decide) E (Nat.le_refl 0) (Nat.le_refl 0) dJ1_canEncode_fc78d_12
  · have hf := oie hf hc
    refine ev_iconst (v := 1) C dJ1_canEncode_fc78d_7 (by decide) ?_
    refine ev_goto (tgt := 12) C dJ1_canEncode_fc78d_8 (by decide) ?_
    obtain rfl := Option.some.inj hf
    exact ev_zret C (by decide) E (Nat.le_refl 0) (Nat.le_refl 0) dJ1_canEncode_fc78d_12
/-! java/lang/Integer stringSize(I)I -/
theorem dJ6_stringSize_0f7a4_0 : decode prog_20_method_13_code 0 = .ok (.iconst 1, 1) := by decide +kernel
theorem dJ6_stringSize_0f7a4_1 : decode prog_20_method_13_code 1 = .ok (.istore_n 1, 1) := by decide +kernel
theorem dJ6_stringSize_0f7a4_2 : decode prog_20_method_13_code 2 = .ok (.iload_n 0, 1) := by decide +kernel
theorem dJ6_stringSize_0f7a4_3 : decode prog_20_method_13_code 3 = .ok (.ifCond .lt 8, 3) := by decide +kernel
theorem dJ6_stringSize_0f7a4_6 : decode prog_20_method_13_code 6 = .ok (.iconst 0, 1) := by decide +kernel
theorem dJ6_stringSize_0f7a4_7 : decode prog_20_method_13_code 7 = .ok (.istore_n 1, 1) := by decide +kernel
theorem dJ6_stringSize_0f7a4_8 : decode prog_20_method_13_code 8 = .ok (.iload_n 0, 1) := by decide +kernel
theorem dJ6_stringSize_0f7a4_9 : decode prog_20_method_13_code 9 = .ok (.ineg, 1) := by decide +kernel
theorem dJ6_stringSize_0f7a4_10 : decode prog_20_method_13_code 10 = .ok (.istore_n 0, 1) := by decide +kernel
theorem dJ6_stringSize_0f7a4_11 : decode prog_20_method_13_code 11 = .ok (.bipush (-10), 2) := by decide +kernel
theorem dJ6_stringSize_0f7a4_13 : decode prog_20_method_13_code 13 = .ok (.istore_n 2, 1) := by decide +kernel
theorem dJ6_stringSize_0f7a4_14 : decode prog_20_method_13_code 14 = .ok (.iconst 1, 1) := by decide +kernel
theorem dJ6_stringSize_0f7a4_15 : decode prog_20_method_13_code 15 = .ok (.istore_n 3, 1) := by decide +kernel
theorem dJ6_stringSize_0f7a4_16 : decode prog_20_method_13_code 16 = .ok (.iload_n 3, 1) := by decide +kernel
theorem dJ6_stringSize_0f7a4_17 : decode prog_20_method_13_code 17 = .ok (.bipush 10, 2) := by decide +kernel
theorem dJ6_stringSize_0f7a4_19 : decode prog_20_method_13_code 19 = .ok (.if_icmp .ge 23, 3) := by decide +kernel
theorem dJ6_stringSize_0f7a4_22 : decode prog_20_method_13_code 22 = .ok (.iload_n 0, 1) := by decide +kernel
theorem dJ6_stringSize_0f7a4_23 : decode prog_20_method_13_code 23 = .ok (.iload_n 2, 1) := by decide +kernel
theorem dJ6_stringSize_0f7a4_24 : decode prog_20_method_13_code 24 = .ok (.if_icmp .le 7, 3) := by decide +kernel
theorem dJ6_stringSize_0f7a4_27 : decode prog_20_method_13_code 27 = .ok (.iload_n 3, 1) := by decide +kernel
theorem dJ6_stringSize_0f7a4_28 : decode prog_20_method_13_code 28 = .ok (.iload_n 1, 1) := by decide +kernel
theorem dJ6_stringSize_0f7a4_29 : decode prog_20_method_13_code 29 = .ok (.iadd, 1) := by decide +kernel
theorem dJ6_stringSize_0f7a4_30 : decode prog_20_method_13_code 30 = .ok (.ireturn, 1) := by decide +kernel
theorem dJ6_stringSize_0f7a4_31 : decode prog_20_method_13_code 31 = .ok (.bipush 10, 2) := by decide +kernel
theorem dJ6_stringSize_0f7a4_33 : decode prog_20_method_13_code 33 = .ok (.iload_n 2, 1) := by decide +kernel
theorem dJ6_stringSize_0f7a4_34 : decode prog_20_method_13_code 34 = .ok (.imul, 1) := by decide +kernel
theorem dJ6_stringSize_0f7a4_35 : decode prog_20_method_13_code 35 = .ok (.istore_n 2, 1) := by decide +kernel
theorem dJ6_stringSize_0f7a4_36 : decode prog_20_method_13_code 36 = .ok (.iinc 3 1, 3) := by decide +kernel
theorem dJ6_stringSize_0f7a4_39 : decode prog_20_method_13_code 39 = .ok (.goto (-23), 3) := by decide +kernel
theorem dJ6_stringSize_0f7a4_42 : decode prog_20_method_13_code 42 = .ok (.bipush 10, 2) := by decide +kernel
theorem dJ6_stringSize_0f7a4_44 : decode prog_20_method_13_code 44 = .ok (.iload_n 1, 1) := by decide +kernel
theorem dJ6_stringSize_0f7a4_45 : decode prog_20_method_13_code 45 = .ok (.iadd, 1) := by decide +kernel
theorem dJ6_stringSize_0f7a4_46 : decode prog_20_method_13_code 46 = .ok (.ireturn, 1) := by decide +kernel
def m_J6_stringSize_0f7a4_L16 (N : Nat)  : Nat → Int32 → Int32 → Int32 → Int32 → Option (Int32)
  | 0, _, _, _, _ => none
  | n + 1, i0, i1, i2, i3 =>
    if 10 ≤ i3 then (
      some (10 + i1)) else (
      if i0 ≤ i2 then (
        (m_J6_stringSize_0f7a4_L16 N  n) i0 i1 (10 * i2) (i3 + 1)) else (
        some (i3 + i1)))
set_option maxHeartbeats 4000000 in
set_option maxRecDepth 100000 in
theorem t_J6_stringSize_0f7a4_L16 {X : mX} {M : mM} {L0 : Launch} {res : Int32} {N : Nat} (C : CX X RJ6 "stringSize" prog_20_method_13_code 4 (some .int)) (E : EX X L0 0 0 0 0 (some (.int res)) M)   : ∀ (n : Nat) (i0 : Int32) (i1 : Int32) (i2 : Int32) (i3 : Int32), m_J6_stringSize_0f7a4_L16 N  n i0 i1 i2 i3 = some res → EV X 4 16 [(0, .int i0), (1, .int i1), (2, .int i2), (3, .int i3)] [] 0 0 M := by
  intro n
  induction n with
  | zero => intro i0 i1 i2 i3 hf; cases (show (none : Option (Int32)) = some res from hf)
  | succ n ih =>
    intro i0 i1 i2 i3 hf
    rw [m_J6_stringSize_0f7a4_L16] at hf
    refine ev_iload_n C dJ6_stringSize_0f7a4_16 rfl (q := 3) rfl ?_
    refine ev_bipush (v := 10) C dJ6_stringSize_0f7a4_17 (by decide) ?_
    refine ev_icmp_ge (tgt := 42) C dJ6_stringSize_0f7a4_19 (by decide) (fun hc => ?_) (fun hc => ?_)
    · have hf := oit hf hc
      refine ev_bipush (v := 10) C dJ6_stringSize_0f7a4_42 (by decide) ?_
      refine ev_iload_n C dJ6_stringSize_0f7a4_44 rfl (q := 1) rfl ?_
      refine ev_iadd C dJ6_stringSize_0f7a4_45 ?_
      obtain rfl := Option.some.inj hf
      exact ev_iret C E (Nat.le_refl 0) (Nat.le_refl 0) dJ6_stringSize_0f7a4_46
    · have hf := oie hf hc
      refine ev_iload_n C dJ6_stringSize_0f7a4_22 rfl (q := 0) rfl ?_
      refine ev_iload_n C dJ6_stringSize_0f7a4_23 rfl (q := 2) rfl ?_
      refine ev_icmp_le (tgt := 31) C dJ6_stringSize_0f7a4_24 (by decide) (fun hc => ?_) (fun hc => ?_)
      · have hf := oit hf hc
        refine ev_bipush (v := 10) C dJ6_stringSize_0f7a4_31 (by decide) ?_
        refine ev_iload_n C dJ6_stringSize_0f7a4_33 rfl (q := 2) rfl ?_
        refine ev_imul C dJ6_stringSize_0f7a4_34 ?_
        refine ev_istore_n (l' := [(2, .int (10 * i2)), (0, .int i0), (1, .int i1), (3, .int i3)]) C dJ6_stringSize_0f7a4_35 rfl (by decide) rfl ?_
        refine ev_iinc (v := i3 + 1) (l' := [(3, .int (i3 + 1)), (2, .int (10 * i2)), (0, .int i0), (1, .int i1)]) C dJ6_stringSize_0f7a4_36 (q := 3) rfl rfl (by decide) rfl ?_
        refine ev_goto (tgt := 16) C dJ6_stringSize_0f7a4_39 (by decide) ?_
        refine ev_sub [2, 3, 1, 0] rfl ?_
        exact ih i0 i1 (10 * i2) (i3 + 1) hf
      · have hf := oie hf hc
        refine ev_iload_n C dJ6_stringSize_0f7a4_27 rfl (q := 3) rfl ?_
        refine ev_iload_n C dJ6_stringSize_0f7a4_28 rfl (q := 1) rfl ?_
        refine ev_iadd C dJ6_stringSize_0f7a4_29 ?_
        obtain rfl := Option.some.inj hf
        exact ev_iret C E (Nat.le_refl 0) (Nat.le_refl 0) dJ6_stringSize_0f7a4_30
def m_J6_stringSize_0f7a4_J11 (N : Nat)  (i0 : Int32) (i1 : Int32) : Option (Int32) :=
  m_J6_stringSize_0f7a4_L16 N  N i0 i1 (-10) 1
set_option maxHeartbeats 4000000 in
set_option maxRecDepth 100000 in
theorem t_J6_stringSize_0f7a4_J11 {X : mX} {M : mM} {L0 : Launch} {res : Int32} {N : Nat} (C : CX X RJ6 "stringSize" prog_20_method_13_code 4 (some .int)) (E : EX X L0 0 0 0 0 (some (.int res)) M)   (i0 : Int32) (i1 : Int32) (hf : m_J6_stringSize_0f7a4_J11 N  i0 i1 = some res) : EV X 4 11 [(0, .int i0), (1, .int i1)] [] 0 0 M := by
  unfold m_J6_stringSize_0f7a4_J11 at hf
  refine ev_bipush (v := (-10)) C dJ6_stringSize_0f7a4_11 (by decide) ?_
  refine ev_istore_n (l' := [(2, .int (-10)), (0, .int i0), (1, .int i1)]) C dJ6_stringSize_0f7a4_13 rfl (by decide) rfl ?_
  refine ev_iconst (v := 1) C dJ6_stringSize_0f7a4_14 (by decide) ?_
  refine ev_istore_n (l' := [(3, .int 1), (2, .int (-10)), (0, .int i0), (1, .int i1)]) C dJ6_stringSize_0f7a4_15 rfl (by decide) rfl ?_
  refine ev_sub [2, 3, 1, 0] rfl ?_
  exact t_J6_stringSize_0f7a4_L16 C E   N i0 i1 (-10) 1 hf
def m_J6_stringSize_0f7a4 (N : Nat) (i0 : Int32) : Option (Int32) :=
  if i0 < 0 then (
    m_J6_stringSize_0f7a4_J11 N  i0 1) else (
    m_J6_stringSize_0f7a4_J11 N  (-i0) 0)
set_option maxHeartbeats 4000000 in
set_option maxRecDepth 100000 in
theorem t_J6_stringSize_0f7a4 {L0 : Launch} {M : mM} {N : Nat} {i0 : Int32} {res : Int32} (hf : m_J6_stringSize_0f7a4 N i0 = some res) : CT L0 yJ6_stringSize_0f7a4 prog_20_method_13_code 4 (some .int) 0 0 0 0 [.int i0] M (some (.int res)) M := by
  refine CT.of (by decide +kernel) (Nat.le_of_ble_eq_true rfl) fun X C E => ?_
  have C : CX X RJ6 "stringSize" prog_20_method_13_code 4 (some .int) := C
  show EV X 4 0 [(0, .int i0)] [] 0 0 M
  unfold m_J6_stringSize_0f7a4 at hf
  refine ev_iconst (v := 1) C dJ6_stringSize_0f7a4_0 (by decide) ?_
  refine ev_istore_n (l' := [(1, .int 1), (0, .int i0)]) C dJ6_stringSize_0f7a4_1 rfl (by decide) rfl ?_
  refine ev_iload_n C dJ6_stringSize_0f7a4_2 rfl (q := 1) rfl ?_
  refine ev_if_lt (tgt := 11) C dJ6_stringSize_0f7a4_3 (by decide) (fun hc => ?_) (fun hc => ?_)
  · have hf := oit hf hc
    refine ev_sub [1, 0] rfl ?_
    exact t_J6_stringSize_0f7a4_J11 C E   i0 1 hf
  · have hf := oie hf hc
    refine ev_iconst (v := 0) C dJ6_stringSize_0f7a4_6 (by decide) ?_
    refine ev_istore_n (l' := [(1, .int 0), (0, .int i0)]) C dJ6_stringSize_0f7a4_7 rfl (by decide) rfl ?_
    refine ev_iload_n C dJ6_stringSize_0f7a4_8 rfl (q := 1) rfl ?_
    refine ev_ineg C dJ6_stringSize_0f7a4_9 ?_
    refine ev_istore_n (l' := [(0, .int (-i0)), (1, .int 0)]) C dJ6_stringSize_0f7a4_10 rfl (by decide) rfl ?_
    exact t_J6_stringSize_0f7a4_J11 C E   (-i0) 0 hf

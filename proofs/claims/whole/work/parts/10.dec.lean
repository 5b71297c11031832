/-! FareLimits$Network <init>()V -/
theorem dX4_init_0 : decode prog_6_method_1_code 0 = .ok (.aload_n 0, 1) := by decide +kernel
theorem dX4_init_1 : decode prog_6_method_1_code 1 = .ok (.invokespecial 3, 3) := by decide +kernel
theorem dX4_init_4 : decode prog_6_method_1_code 4 = .ok (.aload_n 0, 1) := by decide +kernel
theorem dX4_init_5 : decode prog_6_method_1_code 5 = .ok (.iconst 4, 1) := by decide +kernel
theorem dX4_init_6 : decode prog_6_method_1_code 6 = .ok (.newarray .int, 2) := by decide +kernel
theorem dX4_init_8 : decode prog_6_method_1_code 8 = .ok (.dup, 1) := by decide +kernel
theorem dX4_init_9 : decode prog_6_method_1_code 9 = .ok (.iconst 0, 1) := by decide +kernel
theorem dX4_init_10 : decode prog_6_method_1_code 10 = .ok (.bipush 100, 2) := by decide +kernel
theorem dX4_init_12 : decode prog_6_method_1_code 12 = .ok (.iastore, 1) := by decide +kernel
theorem dX4_init_13 : decode prog_6_method_1_code 13 = .ok (.dup, 1) := by decide +kernel
theorem dX4_init_14 : decode prog_6_method_1_code 14 = .ok (.iconst 1, 1) := by decide +kernel
theorem dX4_init_15 : decode prog_6_method_1_code 15 = .ok (.bipush 100, 2) := by decide +kernel
theorem dX4_init_17 : decode prog_6_method_1_code 17 = .ok (.iastore, 1) := by decide +kernel
theorem dX4_init_18 : decode prog_6_method_1_code 18 = .ok (.dup, 1) := by decide +kernel
theorem dX4_init_19 : decode prog_6_method_1_code 19 = .ok (.iconst 2, 1) := by decide +kernel
theorem dX4_init_20 : decode prog_6_method_1_code 20 = .ok (.bipush 100, 2) := by decide +kernel
theorem dX4_init_22 : decode prog_6_method_1_code 22 = .ok (.iastore, 1) := by decide +kernel
theorem dX4_init_23 : decode prog_6_method_1_code 23 = .ok (.dup, 1) := by decide +kernel
theorem dX4_init_24 : decode prog_6_method_1_code 24 = .ok (.iconst 3, 1) := by decide +kernel
theorem dX4_init_25 : decode prog_6_method_1_code 25 = .ok (.bipush 100, 2) := by decide +kernel
theorem dX4_init_27 : decode prog_6_method_1_code 27 = .ok (.iastore, 1) := by decide +kernel
theorem dX4_init_28 : decode prog_6_method_1_code 28 = .ok (.putfield 9, 3) := by decide +kernel
theorem dX4_init_31 : decode prog_6_method_1_code 31 = .ok (.aload_n 0, 1) := by decide +kernel
theorem dX4_init_32 : decode prog_6_method_1_code 32 = .ok (.iconst 4, 1) := by decide +kernel
theorem dX4_init_33 : decode prog_6_method_1_code 33 = .ok (.newarray .int, 2) := by decide +kernel
theorem dX4_init_35 : decode prog_6_method_1_code 35 = .ok (.dup, 1) := by decide +kernel
theorem dX4_init_36 : decode prog_6_method_1_code 36 = .ok (.iconst 0, 1) := by decide +kernel
theorem dX4_init_37 : decode prog_6_method_1_code 37 = .ok (.bipush 10, 2) := by decide +kernel
theorem dX4_init_39 : decode prog_6_method_1_code 39 = .ok (.iastore, 1) := by decide +kernel
theorem dX4_init_40 : decode prog_6_method_1_code 40 = .ok (.dup, 1) := by decide +kernel
theorem dX4_init_41 : decode prog_6_method_1_code 41 = .ok (.iconst 1, 1) := by decide +kernel
theorem dX4_init_42 : decode prog_6_method_1_code 42 = .ok (.bipush 10, 2) := by decide +kernel
theorem dX4_init_44 : decode prog_6_method_1_code 44 = .ok (.iastore, 1) := by decide +kernel
theorem dX4_init_45 : decode prog_6_method_1_code 45 = .ok (.dup, 1) := by decide +kernel
theorem dX4_init_46 : decode prog_6_method_1_code 46 = .ok (.iconst 2, 1) := by decide +kernel
theorem dX4_init_47 : decode prog_6_method_1_code 47 = .ok (.bipush 10, 2) := by decide +kernel
theorem dX4_init_49 : decode prog_6_method_1_code 49 = .ok (.iastore, 1) := by decide +kernel
theorem dX4_init_50 : decode prog_6_method_1_code 50 = .ok (.dup, 1) := by decide +kernel
theorem dX4_init_51 : decode prog_6_method_1_code 51 = .ok (.iconst 3, 1) := by decide +kernel
theorem dX4_init_52 : decode prog_6_method_1_code 52 = .ok (.bipush 10, 2) := by decide +kernel
theorem dX4_init_54 : decode prog_6_method_1_code 54 = .ok (.iastore, 1) := by decide +kernel
theorem dX4_init_55 : decode prog_6_method_1_code 55 = .ok (.putfield 15, 3) := by decide +kernel
theorem dX4_init_58 : decode prog_6_method_1_code 58 = .ok (.aload_n 0, 1) := by decide +kernel
theorem dX4_init_59 : decode prog_6_method_1_code 59 = .ok (.bipush 12, 2) := by decide +kernel
theorem dX4_init_61 : decode prog_6_method_1_code 61 = .ok (.anewarray 18, 3) := by decide +kernel
theorem dX4_init_64 : decode prog_6_method_1_code 64 = .ok (.putfield 20, 3) := by decide +kernel
theorem dX4_init_67 : decode prog_6_method_1_code 67 = .ok (.return_, 1) := by decide +kernel
def m_X4_init (mc ms : Nat) (a0 : Nat) (M : mM) : Option (mM) :=
  (oif (0 + 1 ≤ mc ∧ 0 + 4 ≤ ms)).bind fun _ =>
  (uI 0 .int (M ++ [.inl (0, 4, .inl (fun _ => 0))]) M.length 0 100).bind fun M1 =>
  (uI 0 .int M1 M.length 1 100).bind fun M3 =>
  (uI 0 .int M3 M.length 2 100).bind fun M5 =>
  (uI 0 .int M5 M.length 3 100).bind fun M7 =>
  (sV M7 a0 4 0 (.ref M.length)).bind fun M9 =>
  (oif ((0 + 1) + 1 ≤ mc ∧ (0 + 4) + 4 ≤ ms)).bind fun _ =>
  (uI 0 .int (M9 ++ [.inl (0, 4, .inl (fun _ => 0))]) M9.length 0 10).bind fun M11 =>
  (uI 0 .int M11 M9.length 1 10).bind fun M13 =>
  (uI 0 .int M13 M9.length 2 10).bind fun M15 =>
  (uI 0 .int M15 M9.length 3 10).bind fun M17 =>
  (sV M17 a0 4 1 (.ref M9.length)).bind fun M19 =>
  (oif (((0 + 1) + 1) + 1 ≤ mc ∧ ((0 + 4) + 4) + 12 ≤ ms)).bind fun _ =>
  (sV (M19 ++ [.inl (6, 12, .inr (.inr (.inr (.inr (fun _ => none)))))]) a0 4 2 (.ref M19.length)).bind fun M21 =>
  some M21
set_option maxHeartbeats 4000000 in
set_option maxRecDepth 100000 in
theorem t_X4_init {L0 : Launch} {M : mM} {mc ms : Nat} {a0 : Nat} {res : mM} (hf : m_X4_init mc ms a0 M = some res) : CT L0 yX4_init prog_6_method_1_code 1 none 1 20 mc ms [.ref a0] M none res := by
  refine CT.of (by decide +kernel) (Nat.le_of_ble_eq_true rfl) fun X C E => ?_
  have C : CX X RX4 "<init>" prog_6_method_1_code 1 none := C
  show EV X 1 0 [(0, .ref a0)] [] 0 0 M
  unfold m_X4_init at hf
  have hk : 0 ≤ mc ∧ 0 ≤ ms := ⟨Nat.zero_le _, Nat.zero_le _⟩
  refine ev_aload_n C dX4_init_0 rfl (q := 0) rfl ?_
  refine ev_objInit C kw_119 kw_104 kw_105 (mfr E (by decide)) (mlo E (by decide)) (Nat.le_of_ble_eq_true rfl) dX4_init_1 ?_
  refine ev_aload_n C dX4_init_4 rfl (q := 0) rfl ?_
  refine ev_iconst (v := 4) C dX4_init_5 (by decide) ?_
  obtain ⟨_, hk, hf⟩ := obnd hf
  have hk := oif_eq hk
  refine ev_newa_i (N := 4) C dX4_init_6 kw_140 (by decide) (by decide) (by decide) (mcap E hk).1 (mcap E hk).2 ?_
  refine ev_dup C dX4_init_8 rfl ?_
  refine ev_iconst (v := 0) C dX4_init_9 (by decide) ?_
  refine ev_bipush (v := 100) C dX4_init_10 (by decide) ?_
  obtain ⟨M1, e2, hf⟩ := obnd hf
  refine ev_iast C dX4_init_12 e2 ?_
  refine ev_dup C dX4_init_13 rfl ?_
  refine ev_iconst (v := 1) C dX4_init_14 (by decide) ?_
  refine ev_bipush (v := 100) C dX4_init_15 (by decide) ?_
  obtain ⟨M3, e4, hf⟩ := obnd hf
  refine ev_iast C dX4_init_17 e4 ?_
  refine ev_dup C dX4_init_18 rfl ?_
  refine ev_iconst (v := 2) C dX4_init_19 (by decide) ?_
  refine ev_bipush (v := 100) C dX4_init_20 (by decide) ?_
  obtain ⟨M5, e6, hf⟩ := obnd hf
  refine ev_iast C dX4_init_22 e6 ?_
  refine ev_dup C dX4_init_23 rfl ?_
  refine ev_iconst (v := 3) C dX4_init_24 (by decide) ?_
  refine ev_bipush (v := 100) C dX4_init_25 (by decide) ?_
  obtain ⟨M7, e8, hf⟩ := obnd hf
  refine ev_iast C dX4_init_27 e8 ?_
  obtain ⟨M9, e10, hf⟩ := obnd hf
  refine ev_putF (k := 0) C ok_4 dX4_init_28 (by decide) kw_122 rfl rfl ⟨rfl, rfl⟩ e10 ?_
  refine ev_aload_n C dX4_init_31 rfl (q := 0) rfl ?_
  refine ev_iconst (v := 4) C dX4_init_32 (by decide) ?_
  obtain ⟨_, hk, hf⟩ := obnd hf
  have hk := oif_eq hk
  refine ev_newa_i (N := 4) C dX4_init_33 kw_140 (by decide) (by decide) (by decide) (mcap E hk).1 (mcap E hk).2 ?_
  refine ev_dup C dX4_init_35 rfl ?_
  refine ev_iconst (v := 0) C dX4_init_36 (by decide) ?_
  refine ev_bipush (v := 10) C dX4_init_37 (by decide) ?_
  obtain ⟨M11, e12, hf⟩ := obnd hf
  refine ev_iast C dX4_init_39 e12 ?_
  refine ev_dup C dX4_init_40 rfl ?_
  refine ev_iconst (v := 1) C dX4_init_41 (by decide) ?_
  refine ev_bipush (v := 10) C dX4_init_42 (by decide) ?_
  obtain ⟨M13, e14, hf⟩ := obnd hf
  refine ev_iast C dX4_init_44 e14 ?_
  refine ev_dup C dX4_init_45 rfl ?_
  refine ev_iconst (v := 2) C dX4_init_46 (by decide) ?_
  refine ev_bipush (v := 10) C dX4_init_47 (by decide) ?_
  obtain ⟨M15, e16, hf⟩ := obnd hf
  refine ev_iast C dX4_init_49 e16 ?_
  refine ev_dup C dX4_init_50 rfl ?_
  refine ev_iconst (v := 3) C dX4_init_51 (by decide) ?_
  refine ev_bipush (v := 10) C dX4_init_52 (by decide) ?_
  obtain ⟨M17, e18, hf⟩ := obnd hf
  refine ev_iast C dX4_init_54 e18 ?_
  obtain ⟨M19, e20, hf⟩ := obnd hf
  refine ev_putF (k := 1) C ok_4 dX4_init_55 (by decide) kw_124 rfl rfl ⟨rfl, rfl⟩ e20 ?_
  refine ev_aload_n C dX4_init_58 rfl (q := 0) rfl ?_
  refine ev_bipush (v := 12) C dX4_init_59 (by decide) ?_
  obtain ⟨_, hk, hf⟩ := obnd hf
  have hk := oif_eq hk
  refine ev_newq (t := 6) (N := 12) C rfl dX4_init_61 kw_120 C.K.2.2.2.1.2.1 (by decide) (by decide) (by decide) (mcap E hk).1 (mcap E hk).2 ?_
  obtain ⟨M21, e22, hf⟩ := obnd hf
  refine ev_putF (k := 2) C ok_4 dX4_init_64 (by decide) kw_126 rfl rfl ⟨rfl, rfl⟩ e22 ?_
  obtain rfl := Option.some.inj hf
  exact ev_vret C E hk.1 hk.2 dX4_init_67
/-! FareLimits$Fare <init>()V -/
theorem dX2_init_0 : decode prog_4_method_1_code 0 = .ok (.aload_n 0, 1) := by decide +kernel
theorem dX2_init_1 : decode prog_4_method_1_code 1 = .ok (.invokespecial 3, 3) := by decide +kernel
theorem dX2_init_4 : decode prog_4_method_1_code 4 = .ok (.aload_n 0, 1) := by decide +kernel
theorem dX2_init_5 : decode prog_4_method_1_code 5 = .ok (.getstatic 9, 3) := by decide +kernel
theorem dX2_init_8 : decode prog_4_method_1_code 8 = .ok (.putfield 15, 3) := by decide +kernel
theorem dX2_init_11 : decode prog_4_method_1_code 11 = .ok (.aload_n 0, 1) := by decide +kernel
theorem dX2_init_12 : decode prog_4_method_1_code 12 = .ok (.iconst 4, 1) := by decide +kernel
theorem dX2_init_13 : decode prog_4_method_1_code 13 = .ok (.newarray .int, 2) := by decide +kernel
theorem dX2_init_15 : decode prog_4_method_1_code 15 = .ok (.putfield 20, 3) := by decide +kernel
theorem dX2_init_18 : decode prog_4_method_1_code 18 = .ok (.return_, 1) := by decide +kernel
def m_X2_init (mc ms : Nat) (a0 : Nat) (M : mM) : Option (mM) :=
  (sV M a0 3 0 (.ref 0)).bind fun M1 =>
  (oif (0 + 1 ≤ mc ∧ 0 + 4 ≤ ms)).bind fun _ =>
  (sV (M1 ++ [.inl (0, 4, .inl (fun _ => 0))]) a0 3 3 (.ref M1.length)).bind fun M3 =>
  some M3
set_option maxHeartbeats 4000000 in
set_option maxRecDepth 100000 in
theorem t_X2_init {L0 : Launch} {M : mM} {mc ms : Nat} {a0 : Nat} {res : mM} (hf : m_X2_init mc ms a0 M = some res) : CT L0 yX2_init prog_4_method_1_code 1 none 1 20 mc ms [.ref a0] M none res := by
  refine CT.of (by decide +kernel) (Nat.le_of_ble_eq_true rfl) fun X C E => ?_
  have C : CX X RX2 "<init>" prog_4_method_1_code 1 none := C
  show EV X 1 0 [(0, .ref a0)] [] 0 0 M
  unfold m_X2_init at hf
  have hk : 0 ≤ mc ∧ 0 ≤ ms := ⟨Nat.zero_le _, Nat.zero_le _⟩
  refine ev_aload_n C dX2_init_0 rfl (q := 0) rfl ?_
  refine ev_objInit C kw_145 kw_104 kw_105 (mfr E (by decide)) (mlo E (by decide)) (Nat.le_of_ble_eq_true rfl) dX2_init_1 ?_
  refine ev_aload_n C dX2_init_4 rfl (q := 0) rfl ?_
  refine ev_sFare C kw_146 dX2_init_5 ?_
  obtain ⟨M1, e2, hf⟩ := obnd hf
  refine ev_put (k := 0) C ok_3 dX2_init_8 (by decide) kw_148 rfl ⟨rfl, rfl⟩ e2 ?_
  refine ev_aload_n C dX2_init_11 rfl (q := 0) rfl ?_
  refine ev_iconst (v := 4) C dX2_init_12 (by decide) ?_
  obtain ⟨_, hk, hf⟩ := obnd hf
  have hk := oif_eq hk
  refine ev_newa_i (N := 4) C dX2_init_13 kw_140 (by decide) (by decide) (by decide) (mcap E hk).1 (mcap E hk).2 ?_
  obtain ⟨M3, e4, hf⟩ := obnd hf
  refine ev_putF (k := 3) C ok_3 dX2_init_15 (by decide) kw_160 rfl rfl ⟨rfl, rfl⟩ e4 ?_
  obtain rfl := Option.some.inj hf
  exact ev_vret C E hk.1 hk.2 dX2_init_18
/-! FareLimits$Plan <init>()V -/
theorem dX5_init_0 : decode prog_7_method_1_code 0 = .ok (.aload_n 0, 1) := by decide +kernel
theorem dX5_init_1 : decode prog_7_method_1_code 1 = .ok (.invokespecial 3, 3) := by decide +kernel
theorem dX5_init_4 : decode prog_7_method_1_code 4 = .ok (.aload_n 0, 1) := by decide +kernel
theorem dX5_init_5 : decode prog_7_method_1_code 5 = .ok (.bipush 6, 2) := by decide +kernel
theorem dX5_init_7 : decode prog_7_method_1_code 7 = .ok (.anewarray 9, 3) := by decide +kernel
theorem dX5_init_10 : decode prog_7_method_1_code 10 = .ok (.putfield 11, 3) := by decide +kernel
theorem dX5_init_13 : decode prog_7_method_1_code 13 = .ok (.aload_n 0, 1) := by decide +kernel
theorem dX5_init_14 : decode prog_7_method_1_code 14 = .ok (.iconst 4, 1) := by decide +kernel
theorem dX5_init_15 : decode prog_7_method_1_code 15 = .ok (.newarray .int, 2) := by decide +kernel
theorem dX5_init_17 : decode prog_7_method_1_code 17 = .ok (.dup, 1) := by decide +kernel
theorem dX5_init_18 : decode prog_7_method_1_code 18 = .ok (.iconst 0, 1) := by decide +kernel
theorem dX5_init_19 : decode prog_7_method_1_code 19 = .ok (.bipush 10, 2) := by decide +kernel
theorem dX5_init_21 : decode prog_7_method_1_code 21 = .ok (.iastore, 1) := by decide +kernel
theorem dX5_init_22 : decode prog_7_method_1_code 22 = .ok (.dup, 1) := by decide +kernel
theorem dX5_init_23 : decode prog_7_method_1_code 23 = .ok (.iconst 1, 1) := by decide +kernel
theorem dX5_init_24 : decode prog_7_method_1_code 24 = .ok (.iconst 0, 1) := by decide +kernel
theorem dX5_init_25 : decode prog_7_method_1_code 25 = .ok (.iastore, 1) := by decide +kernel
theorem dX5_init_26 : decode prog_7_method_1_code 26 = .ok (.dup, 1) := by decide +kernel
theorem dX5_init_27 : decode prog_7_method_1_code 27 = .ok (.iconst 2, 1) := by decide +kernel
theorem dX5_init_28 : decode prog_7_method_1_code 28 = .ok (.iconst 0, 1) := by decide +kernel
theorem dX5_init_29 : decode prog_7_method_1_code 29 = .ok (.iastore, 1) := by decide +kernel
theorem dX5_init_30 : decode prog_7_method_1_code 30 = .ok (.dup, 1) := by decide +kernel
theorem dX5_init_31 : decode prog_7_method_1_code 31 = .ok (.iconst 3, 1) := by decide +kernel
theorem dX5_init_32 : decode prog_7_method_1_code 32 = .ok (.sipush 500, 3) := by decide +kernel
theorem dX5_init_35 : decode prog_7_method_1_code 35 = .ok (.iastore, 1) := by decide +kernel
theorem dX5_init_36 : decode prog_7_method_1_code 36 = .ok (.putfield 17, 3) := by decide +kernel
theorem dX5_init_39 : decode prog_7_method_1_code 39 = .ok (.aload_n 0, 1) := by decide +kernel
theorem dX5_init_40 : decode prog_7_method_1_code 40 = .ok (.new 21, 3) := by decide +kernel
theorem dX5_init_43 : decode prog_7_method_1_code 43 = .ok (.dup, 1) := by decide +kernel
theorem dX5_init_44 : decode prog_7_method_1_code 44 = .ok (.invokespecial 23, 3) := by decide +kernel
theorem dX5_init_47 : decode prog_7_method_1_code 47 = .ok (.putfield 24, 3) := by decide +kernel
theorem dX5_init_50 : decode prog_7_method_1_code 50 = .ok (.aload_n 0, 1) := by decide +kernel
theorem dX5_init_51 : decode prog_7_method_1_code 51 = .ok (.iconst 1, 1) := by decide +kernel
theorem dX5_init_52 : decode prog_7_method_1_code 52 = .ok (.putfield 28, 3) := by decide +kernel
theorem dX5_init_55 : decode prog_7_method_1_code 55 = .ok (.iconst 0, 1) := by decide +kernel
theorem dX5_init_56 : decode prog_7_method_1_code 56 = .ok (.istore_n 1, 1) := by decide +kernel
theorem dX5_init_57 : decode prog_7_method_1_code 57 = .ok (.iload_n 1, 1) := by decide +kernel
theorem dX5_init_58 : decode prog_7_method_1_code 58 = .ok (.bipush 6, 2) := by decide +kernel
theorem dX5_init_60 : decode prog_7_method_1_code 60 = .ok (.if_icmp .ge 22, 3) := by decide +kernel
theorem dX5_init_63 : decode prog_7_method_1_code 63 = .ok (.aload_n 0, 1) := by decide +kernel
theorem dX5_init_64 : decode prog_7_method_1_code 64 = .ok (.getfield 11, 3) := by decide +kernel
theorem dX5_init_67 : decode prog_7_method_1_code 67 = .ok (.iload_n 1, 1) := by decide +kernel
theorem dX5_init_68 : decode prog_7_method_1_code 68 = .ok (.new 9, 3) := by decide +kernel
theorem dX5_init_71 : decode prog_7_method_1_code 71 = .ok (.dup, 1) := by decide +kernel
theorem dX5_init_72 : decode prog_7_method_1_code 72 = .ok (.invokespecial 32, 3) := by decide +kernel
theorem dX5_init_75 : decode prog_7_method_1_code 75 = .ok (.aastore, 1) := by decide +kernel
theorem dX5_init_76 : decode prog_7_method_1_code 76 = .ok (.iinc 1 1, 3) := by decide +kernel
theorem dX5_init_79 : decode prog_7_method_1_code 79 = .ok (.goto (-22), 3) := by decide +kernel
theorem dX5_init_82 : decode prog_7_method_1_code 82 = .ok (.return_, 1) := by decide +kernel
def m_X5_init_L57 (N : Nat) (mc ms : Nat)  : Nat → Nat → Int32 → mM → Nat → Nat → Option (mM)
  | 0, _, _, _, _, _ => none
  | n + 1, a0, i1, M, kc, ks =>
    if 6 ≤ i1 then (
      some M) else (
      (fR M a0 5 0).bind fun x1 =>
      (oif (kc + 1 ≤ mc ∧ ks + 4 ≤ ms)).bind fun _ =>
      (oif ((kc + 1) + 1 ≤ mc ∧ (ks + 4) + 4 ≤ ms)).bind fun _ =>
      (m_X2_init 1 4 M.length (M ++ [.inr (3, [.null, .int 0, .int 0, .null])])).bind fun x3 =>
      (uQ 5 3 x3 x1 i1 (some M.length)).bind fun M5 =>
      (m_X5_init_L57 N mc ms  n) a0 (i1 + 1) M5 ((kc + 1) + 1) ((ks + 4) + 4))
set_option maxHeartbeats 4000000 in
set_option maxRecDepth 100000 in
theorem t_X5_init_L57 {X : mX} {L0 : Launch} {res : mM} {N : Nat} {mc ms : Nat} (C : CX X RX5 "<init>" prog_7_method_1_code 2 none) (E : EX X L0 2 40 mc ms none res)   : ∀ (n : Nat) (a0 : Nat) (i1 : Int32) (M : mM) (kc ks : Nat) (hk : kc ≤ mc ∧ ks ≤ ms), m_X5_init_L57 N mc ms  n a0 i1 M kc ks = some res → EV X 2 57 [(0, .ref a0), (1, .int i1)] [] kc ks M := by
  intro n
  induction n with
  | zero => intro a0 i1 M kc ks hk hf; cases (show (none : Option (mM)) = some res from hf)
  | succ n ih =>
    intro a0 i1 M kc ks hk hf
    rw [m_X5_init_L57] at hf
    refine ev_iload_n C dX5_init_57 rfl (q := 1) rfl ?_
    refine ev_bipush (v := 6) C dX5_init_58 (by decide) ?_
    refine ev_icmp_ge (tgt := 82) C dX5_init_60 (by decide) (fun hc => ?_) (fun hc => ?_)
    · have hf := oit hf hc
      obtain rfl := Option.some.inj hf
      exact ev_vret C E hk.1 hk.2 dX5_init_82
    · have hf := oie hf hc
      refine ev_aload_n C dX5_init_63 rfl (q := 0) rfl ?_
      obtain ⟨x1, e2, hf⟩ := obnd hf
      refine ev_get (k := 0) C ok_5 dX5_init_64 (by decide) kw_176 (fR_V e2) ?_
      refine ev_iload_n C dX5_init_67 rfl (q := 1) rfl ?_
      obtain ⟨_, hk, hf⟩ := obnd hf
      have hk := oif_eq hk
      refine ev_new (fs := [.null, .int 0, .int 0, .null]) C ok_3 dX5_init_68 kw_112 kw_141 kw_73 (fun j hj => newf_3 _ j hj) (mcap E hk).1 (mcap E hk).2 ?_
      refine ev_dup C dX5_init_71 rfl ?_
      obtain ⟨_, hk, hf⟩ := obnd hf
      have hk := oif_eq hk
      obtain ⟨x3, e4, hf⟩ := obnd hf
      refine ev_callIN (As := []) (st := [.ref M.length, .int i1, .ref x1]) C (t_X2_init e4) rfl hd_X2_init rfl C.K.2.2.1.2.1 kw_143 kw_73 kw_144 (mRoom.of E (Nat.le_of_ble_eq_true rfl) (Nat.le_of_ble_eq_true rfl) hk.1 hk.2) (Nat.le_of_ble_eq_true rfl) dX5_init_72 ?_
      obtain ⟨M5, e6, hf⟩ := obnd hf
      refine ev_astr C (t := 5) (ci := 3) rfl rfl dX5_init_75 e6 ?_
      refine ev_iinc (v := i1 + 1) (l' := [(1, .int (i1 + 1)), (0, .ref a0)]) C dX5_init_76 (q := 1) rfl rfl (by decide) rfl ?_
      refine ev_goto (tgt := 57) C dX5_init_79 (by decide) ?_
      refine ev_sub [1, 0] rfl ?_
      exact ih a0 (i1 + 1) M5 ((kc + 1) + 1) ((ks + 4) + 4) hk hf
def m_X5_init (N : Nat) (mc ms : Nat) (a0 : Nat) (M : mM) : Option (mM) :=
  (oif (0 + 1 ≤ mc ∧ 0 + 6 ≤ ms)).bind fun _ =>
  (sV (M ++ [.inl (5, 6, .inr (.inr (.inr (.inr (fun _ => none)))))]) a0 5 0 (.ref M.length)).bind fun M1 =>
  (oif ((0 + 1) + 1 ≤ mc ∧ (0 + 6) + 4 ≤ ms)).bind fun _ =>
  (uI 0 .int (M1 ++ [.inl (0, 4, .inl (fun _ => 0))]) M1.length 0 10).bind fun M3 =>
  (uI 0 .int M3 M1.length 1 0).bind fun M5 =>
  (uI 0 .int M5 M1.length 2 0).bind fun M7 =>
  (uI 0 .int M7 M1.length 3 500).bind fun M9 =>
  (sV M9 a0 5 2 (.ref M1.length)).bind fun M11 =>
  (oif (((0 + 1) + 1) + 1 ≤ mc ∧ ((0 + 6) + 4) + 4 ≤ ms)).bind fun _ =>
  (oif ((((0 + 1) + 1) + 1) + 3 ≤ mc ∧ (((0 + 6) + 4) + 4) + 20 ≤ ms)).bind fun _ =>
  (m_X4_init 3 20 M11.length (M11 ++ [.inr (4, [.null, .null, .null, .int 0])])).bind fun x13 =>
  (sV x13 a0 5 3 (.ref M11.length)).bind fun M15 =>
  (sV M15 a0 5 4 (.int 1)).bind fun M17 =>
  m_X5_init_L57 N mc ms  N a0 0 M17 ((((0 + 1) + 1) + 1) + 3) ((((0 + 6) + 4) + 4) + 20)
set_option maxHeartbeats 4000000 in
set_option maxRecDepth 100000 in
theorem t_X5_init {L0 : Launch} {M : mM} {N : Nat} {mc ms : Nat} {a0 : Nat} {res : mM} (hf : m_X5_init N mc ms a0 M = some res) : CT L0 yX5_init prog_7_method_1_code 2 none 2 40 mc ms [.ref a0] M none res := by
  refine CT.of (by decide +kernel) (Nat.le_of_ble_eq_true rfl) fun X C E => ?_
  have C : CX X RX5 "<init>" prog_7_method_1_code 2 none := C
  show EV X 2 0 [(0, .ref a0)] [] 0 0 M
  unfold m_X5_init at hf
  have hk : 0 ≤ mc ∧ 0 ≤ ms := ⟨Nat.zero_le _, Nat.zero_le _⟩
  refine ev_aload_n C dX5_init_0 rfl (q := 0) rfl ?_
  refine ev_objInit C kw_111 kw_104 kw_105 (mfr E (by decide)) (mlo E (by decide)) (Nat.le_of_ble_eq_true rfl) dX5_init_1 ?_
  refine ev_aload_n C dX5_init_4 rfl (q := 0) rfl ?_
  refine ev_bipush (v := 6) C dX5_init_5 (by decide) ?_
  obtain ⟨_, hk, hf⟩ := obnd hf
  have hk := oif_eq hk
  refine ev_newq (t := 5) (N := 6) C rfl dX5_init_7 kw_112 C.K.2.2.2.1.1 (by decide) (by decide) (by decide) (mcap E hk).1 (mcap E hk).2 ?_
  obtain ⟨M1, e2, hf⟩ := obnd hf
  refine ev_putF (k := 0) C ok_5 dX5_init_10 (by decide) kw_176 rfl rfl ⟨rfl, rfl⟩ e2 ?_
  refine ev_aload_n C dX5_init_13 rfl (q := 0) rfl ?_
  refine ev_iconst (v := 4) C dX5_init_14 (by decide) ?_
  obtain ⟨_, hk, hf⟩ := obnd hf
  have hk := oif_eq hk
  refine ev_newa_i (N := 4) C dX5_init_15 kw_140 (by decide) (by decide) (by decide) (mcap E hk).1 (mcap E hk).2 ?_
  refine ev_dup C dX5_init_17 rfl ?_
  refine ev_iconst (v := 0) C dX5_init_18 (by decide) ?_
  refine ev_bipush (v := 10) C dX5_init_19 (by decide) ?_
  obtain ⟨M3, e4, hf⟩ := obnd hf
  refine ev_iast C dX5_init_21 e4 ?_
  refine ev_dup C dX5_init_22 rfl ?_
  refine ev_iconst (v := 1) C dX5_init_23 (by decide) ?_
  refine ev_iconst (v := 0) C dX5_init_24 (by decide) ?_
  obtain ⟨M5, e6, hf⟩ := obnd hf
  refine ev_iast C dX5_init_25 e6 ?_
  refine ev_dup C dX5_init_26 rfl ?_
  refine ev_iconst (v := 2) C dX5_init_27 (by decide) ?_
  refine ev_iconst (v := 0) C dX5_init_28 (by decide) ?_
  obtain ⟨M7, e8, hf⟩ := obnd hf
  refine ev_iast C dX5_init_29 e8 ?_
  refine ev_dup C dX5_init_30 rfl ?_
  refine ev_iconst (v := 3) C dX5_init_31 (by decide) ?_
  refine ev_sipush (v := 500) C dX5_init_32 (by decide) ?_
  obtain ⟨M9, e10, hf⟩ := obnd hf
  refine ev_iast C dX5_init_35 e10 ?_
  obtain ⟨M11, e12, hf⟩ := obnd hf
  refine ev_putF (k := 2) C ok_5 dX5_init_36 (by decide) kw_187 rfl rfl ⟨rfl, rfl⟩ e12 ?_
  refine ev_aload_n C dX5_init_39 rfl (q := 0) rfl ?_
  obtain ⟨_, hk, hf⟩ := obnd hf
  have hk := oif_eq hk
  refine ev_new (fs := [.null, .null, .null, .int 0]) C ok_4 dX5_init_40 kw_114 kw_115 kw_72 (fun j hj => newf_4 _ j hj) (mcap E hk).1 (mcap E hk).2 ?_
  refine ev_dup C dX5_init_43 rfl ?_
  obtain ⟨_, hk, hf⟩ := obnd hf
  have hk := oif_eq hk
  obtain ⟨x13, e14, hf⟩ := obnd hf
  refine ev_callIN (As := []) (st := [.ref M11.length, .ref a0]) C (t_X4_init e14) rfl hd_X4_init rfl C.K.2.2.1.1 kw_117 kw_72 kw_118 (mRoom.of E (Nat.le_of_ble_eq_true rfl) (Nat.le_of_ble_eq_true rfl) hk.1 hk.2) (Nat.le_of_ble_eq_true rfl) dX5_init_44 ?_
  obtain ⟨M15, e16, hf⟩ := obnd hf
  refine ev_putF (k := 3) C ok_5 dX5_init_47 (by decide) kw_192 rfl rfl ⟨rfl, rfl⟩ e16 ?_
  refine ev_aload_n C dX5_init_50 rfl (q := 0) rfl ?_
  refine ev_iconst (v := 1) C dX5_init_51 (by decide) ?_
  obtain ⟨M17, e18, hf⟩ := obnd hf
  refine ev_put (k := 4) C ok_5 dX5_init_52 (by decide) kw_194 rfl ⟨rfl, rfl⟩ e18 ?_
  refine ev_iconst (v := 0) C dX5_init_55 (by decide) ?_
  refine ev_istore_n (l' := [(1, .int 0), (0, .ref a0)]) C dX5_init_56 rfl (by decide) rfl ?_
  refine ev_sub [1, 0] rfl ?_
  exact t_X5_init_L57 C E   N a0 0 M17 ((((0 + 1) + 1) + 1) + 3) ((((0 + 6) + 4) + 4) + 20) hk hf
/-! FareLimits$Whole <init>(LFareLimits$Plan;)V -/
theorem dX9_init_0 : decode prog_11_method_1_code 0 = .ok (.aload_n 0, 1) := by decide +kernel
theorem dX9_init_1 : decode prog_11_method_1_code 1 = .ok (.invokespecial 3, 3) := by decide +kernel
theorem dX9_init_4 : decode prog_11_method_1_code 4 = .ok (.aload_n 0, 1) := by decide +kernel
theorem dX9_init_5 : decode prog_11_method_1_code 5 = .ok (.bipush 41, 2) := by decide +kernel
theorem dX9_init_7 : decode prog_11_method_1_code 7 = .ok (.newarray .long, 2) := by decide +kernel
theorem dX9_init_9 : decode prog_11_method_1_code 9 = .ok (.putfield 9, 3) := by decide +kernel
theorem dX9_init_12 : decode prog_11_method_1_code 12 = .ok (.aload_n 0, 1) := by decide +kernel
theorem dX9_init_13 : decode prog_11_method_1_code 13 = .ok (.aload_n 1, 1) := by decide +kernel
theorem dX9_init_14 : decode prog_11_method_1_code 14 = .ok (.putfield 15, 3) := by decide +kernel
theorem dX9_init_17 : decode prog_11_method_1_code 17 = .ok (.return_, 1) := by decide +kernel
def m_X9_init (mc ms : Nat) (a0 : Nat) (a1 : Nat) (M : mM) : Option (mM) :=
  (oif (0 + 1 ≤ mc ∧ 0 + 41 ≤ ms)).bind fun _ =>
  (sV (M ++ [.inl (1, 41, .inr (.inl (fun _ => 0)))]) a0 9 1 (.ref M.length)).bind fun M1 =>
  (sV M1 a0 9 0 (.ref a1)).bind fun M3 =>
  some M3
set_option maxHeartbeats 4000000 in
set_option maxRecDepth 100000 in
theorem t_X9_init {L0 : Launch} {M : mM} {mc ms : Nat} {a0 : Nat} {a1 : Nat} {res : mM} (hf : m_X9_init mc ms a0 a1 M = some res) : CT L0 yX9_init prog_11_method_1_code 2 none 1 20 mc ms [.ref a0, .ref a1] M none res := by
  refine CT.of (by decide +kernel) (Nat.le_of_ble_eq_true rfl) fun X C E => ?_
  have C : CX X RX9 "<init>" prog_11_method_1_code 2 none := C
  show EV X 2 0 [(0, .ref a0), (1, .ref a1)] [] 0 0 M
  unfold m_X9_init at hf
  have hk : 0 ≤ mc ∧ 0 ≤ ms := ⟨Nat.zero_le _, Nat.zero_le _⟩
  refine ev_aload_n C dX9_init_0 rfl (q := 0) rfl ?_
  refine ev_objInit C kw_235 kw_104 kw_105 (mfr E (by decide)) (mlo E (by decide)) (Nat.le_of_ble_eq_true rfl) dX9_init_1 ?_
  refine ev_aload_n C dX9_init_4 rfl (q := 0) rfl ?_
  refine ev_bipush (v := 41) C dX9_init_5 (by decide) ?_
  obtain ⟨_, hk, hf⟩ := obnd hf
  have hk := oif_eq hk
  refine ev_newa_j (N := 41) C dX9_init_7 kw_243 (by decide) (by decide) (by decide) (mcap E hk).1 (mcap E hk).2 ?_
  obtain ⟨M1, e2, hf⟩ := obnd hf
  refine ev_putF (k := 1) C ok_9 dX9_init_9 (by decide) kw_237 rfl rfl ⟨rfl, rfl⟩ e2 ?_
  refine ev_aload_n C dX9_init_12 rfl (q := 0) rfl ?_
  refine ev_aload_n C dX9_init_13 rfl (q := 1) rfl ?_
  obtain ⟨M3, e4, hf⟩ := obnd hf
  refine ev_putF (k := 0) C ok_9 dX9_init_14 (by decide) kw_236 rfl rfl ⟨rfl, rfl⟩ e4 ?_
  obtain rfl := Option.some.inj hf
  exact ev_vret C E hk.1 hk.2 dX9_init_17
/-! FareLimits$Chances <init>(LFareLimits$Plan;)V -/
theorem dX0_init_0 : decode prog_2_method_1_code 0 = .ok (.aload_n 0, 1) := by decide +kernel
theorem dX0_init_1 : decode prog_2_method_1_code 1 = .ok (.invokespecial 3, 3) := by decide +kernel
theorem dX0_init_4 : decode prog_2_method_1_code 4 = .ok (.aload_n 0, 1) := by decide +kernel
theorem dX0_init_5 : decode prog_2_method_1_code 5 = .ok (.bipush 41, 2) := by decide +kernel
theorem dX0_init_7 : decode prog_2_method_1_code 7 = .ok (.newarray .double, 2) := by decide +kernel
theorem dX0_init_9 : decode prog_2_method_1_code 9 = .ok (.putfield 9, 3) := by decide +kernel
theorem dX0_init_12 : decode prog_2_method_1_code 12 = .ok (.aload_n 0, 1) := by decide +kernel
theorem dX0_init_13 : decode prog_2_method_1_code 13 = .ok (.aload_n 1, 1) := by decide +kernel
theorem dX0_init_14 : decode prog_2_method_1_code 14 = .ok (.putfield 15, 3) := by decide +kernel
theorem dX0_init_17 : decode prog_2_method_1_code 17 = .ok (.return_, 1) := by decide +kernel
def m_X0_init (mc ms : Nat) (a0 : Nat) (a1 : Nat) (M : mM) : Option (mM) :=
  (oif (0 + 1 ≤ mc ∧ 0 + 41 ≤ ms)).bind fun _ =>
  (sV (M ++ [.inl (2, 41, .inr (.inr (.inr (.inl (fun _ => 0)))))]) a0 1 1 (.ref M.length)).bind fun M1 =>
  (sV M1 a0 1 0 (.ref a1)).bind fun M3 =>
  some M3
set_option maxHeartbeats 4000000 in
set_option maxRecDepth 100000 in
theorem t_X0_init {L0 : Launch} {M : mM} {mc ms : Nat} {a0 : Nat} {a1 : Nat} {res : mM} (hf : m_X0_init mc ms a0 a1 M = some res) : CT L0 yX0_init prog_2_method_1_code 2 none 1 20 mc ms [.ref a0, .ref a1] M none res := by
  refine CT.of (by decide +kernel) (Nat.le_of_ble_eq_true rfl) fun X C E => ?_
  have C : CX X RX0 "<init>" prog_2_method_1_code 2 none := C
  show EV X 2 0 [(0, .ref a0), (1, .ref a1)] [] 0 0 M
  unfold m_X0_init at hf
  have hk : 0 ≤ mc ∧ 0 ≤ ms := ⟨Nat.zero_le _, Nat.zero_le _⟩
  refine ev_aload_n C dX0_init_0 rfl (q := 0) rfl ?_
  refine ev_objInit C kw_249 kw_104 kw_105 (mfr E (by decide)) (mlo E (by decide)) (Nat.le_of_ble_eq_true rfl) dX0_init_1 ?_
  refine ev_aload_n C dX0_init_4 rfl (q := 0) rfl ?_
  refine ev_bipush (v := 41) C dX0_init_5 (by decide) ?_
  obtain ⟨_, hk, hf⟩ := obnd hf
  have hk := oif_eq hk
  refine ev_newa_d (N := 41) C dX0_init_7 kw_229 (by decide) (by decide) (by decide) (mcap E hk).1 (mcap E hk).2 ?_
  obtain ⟨M1, e2, hf⟩ := obnd hf
  refine ev_putF (k := 1) C ok_1 dX0_init_9 (by decide) kw_251 rfl rfl ⟨rfl, rfl⟩ e2 ?_
  refine ev_aload_n C dX0_init_12 rfl (q := 0) rfl ?_
  refine ev_aload_n C dX0_init_13 rfl (q := 1) rfl ?_
  obtain ⟨M3, e4, hf⟩ := obnd hf
  refine ev_putF (k := 0) C ok_1 dX0_init_14 (by decide) kw_250 rfl rfl ⟨rfl, rfl⟩ e4 ?_
  obtain rfl := Option.some.inj hf
  exact ev_vret C E hk.1 hk.2 dX0_init_17
/-! FareLimits$Tape <init>()V -/
theorem dX7_init_0 : decode prog_9_method_1_code 0 = .ok (.aload_n 0, 1) := by decide +kernel
theorem dX7_init_1 : decode prog_9_method_1_code 1 = .ok (.invokespecial 3, 3) := by decide +kernel
theorem dX7_init_4 : decode prog_9_method_1_code 4 = .ok (.aload_n 0, 1) := by decide +kernel
theorem dX7_init_5 : decode prog_9_method_1_code 5 = .ok (.bipush 120, 2) := by decide +kernel
theorem dX7_init_7 : decode prog_9_method_1_code 7 = .ok (.newarray .int, 2) := by decide +kernel
theorem dX7_init_9 : decode prog_9_method_1_code 9 = .ok (.putfield 9, 3) := by decide +kernel
theorem dX7_init_12 : decode prog_9_method_1_code 12 = .ok (.aload_n 0, 1) := by decide +kernel
theorem dX7_init_13 : decode prog_9_method_1_code 13 = .ok (.bipush 12, 2) := by decide +kernel
theorem dX7_init_15 : decode prog_9_method_1_code 15 = .ok (.anewarray 15, 3) := by decide +kernel
theorem dX7_init_18 : decode prog_9_method_1_code 18 = .ok (.putfield 17, 3) := by decide +kernel
theorem dX7_init_21 : decode prog_9_method_1_code 21 = .ok (.return_, 1) := by decide +kernel
def m_X7_init (mc ms : Nat) (a0 : Nat) (M : mM) : Option (mM) :=
  (oif (0 + 1 ≤ mc ∧ 0 + 120 ≤ ms)).bind fun _ =>
  (sV (M ++ [.inl (0, 120, .inl (fun _ => 0))]) a0 7 0 (.ref M.length)).bind fun M1 =>
  (oif ((0 + 1) + 1 ≤ mc ∧ (0 + 120) + 12 ≤ ms)).bind fun _ =>
  (sV (M1 ++ [.inl (6, 12, .inr (.inr (.inr (.inr (fun _ => none)))))]) a0 7 2 (.ref M1.length)).bind fun M3 =>
  some M3
set_option maxHeartbeats 4000000 in
set_option maxRecDepth 100000 in
theorem t_X7_init {L0 : Launch} {M : mM} {mc ms : Nat} {a0 : Nat} {res : mM} (hf : m_X7_init mc ms a0 M = some res) : CT L0 yX7_init prog_9_method_1_code 1 none 1 20 mc ms [.ref a0] M none res := by
  refine CT.of (by decide +kernel) (Nat.le_of_ble_eq_true rfl) fun X C E => ?_
  have C : CX X RX7 "<init>" prog_9_method_1_code 1 none := C
  show EV X 1 0 [(0, .ref a0)] [] 0 0 M
  unfold m_X7_init at hf
  have hk : 0 ≤ mc ∧ 0 ≤ ms := ⟨Nat.zero_le _, Nat.zero_le _⟩
  refine ev_aload_n C dX7_init_0 rfl (q := 0) rfl ?_
  refine ev_objInit C kw_262 kw_104 kw_105 (mfr E (by decide)) (mlo E (by decide)) (Nat.le_of_ble_eq_true rfl) dX7_init_1 ?_
  refine ev_aload_n C dX7_init_4 rfl (q := 0) rfl ?_
  refine ev_bipush (v := 120) C dX7_init_5 (by decide) ?_
  obtain ⟨_, hk, hf⟩ := obnd hf
  have hk := oif_eq hk
  refine ev_newa_i (N := 120) C dX7_init_7 kw_140 (by decide) (by decide) (by decide) (mcap E hk).1 (mcap E hk).2 ?_
  obtain ⟨M1, e2, hf⟩ := obnd hf
  refine ev_putF (k := 0) C ok_7 dX7_init_9 (by decide) kw_264 rfl rfl ⟨rfl, rfl⟩ e2 ?_
  refine ev_aload_n C dX7_init_12 rfl (q := 0) rfl ?_
  refine ev_bipush (v := 12) C dX7_init_13 (by decide) ?_
  obtain ⟨_, hk, hf⟩ := obnd hf
  have hk := oif_eq hk
  refine ev_newq (t := 6) (N := 12) C rfl dX7_init_15 kw_263 C.K.2.2.2.1.2.1 (by decide) (by decide) (by decide) (mcap E hk).1 (mcap E hk).2 ?_
  obtain ⟨M3, e4, hf⟩ := obnd hf
  refine ev_putF (k := 2) C ok_7 dX7_init_18 (by decide) kw_267 rfl rfl ⟨rfl, rfl⟩ e4 ?_
  obtain rfl := Option.some.inj hf
  exact ev_vret C E hk.1 hk.2 dX7_init_21
/-! FareLimits$Day <init>(LFareLimits$Plan;LFareLimits$Worths;)V -/
theorem dX1_init_0 : decode prog_3_method_1_code 0 = .ok (.aload_n 0, 1) := by decide +kernel
theorem dX1_init_1 : decode prog_3_method_1_code 1 = .ok (.invokespecial 3, 3) := by decide +kernel
theorem dX1_init_4 : decode prog_3_method_1_code 4 = .ok (.aload_n 0, 1) := by decide +kernel
theorem dX1_init_5 : decode prog_3_method_1_code 5 = .ok (.bipush 20, 2) := by decide +kernel
theorem dX1_init_7 : decode prog_3_method_1_code 7 = .ok (.newarray .int, 2) := by decide +kernel
theorem dX1_init_9 : decode prog_3_method_1_code 9 = .ok (.putfield 9, 3) := by decide +kernel
theorem dX1_init_12 : decode prog_3_method_1_code 12 = .ok (.aload_n 0, 1) := by decide +kernel
theorem dX1_init_13 : decode prog_3_method_1_code 13 = .ok (.bipush 20, 2) := by decide +kernel
theorem dX1_init_15 : decode prog_3_method_1_code 15 = .ok (.newarray .int, 2) := by decide +kernel
theorem dX1_init_17 : decode prog_3_method_1_code 17 = .ok (.putfield 15, 3) := by decide +kernel
theorem dX1_init_20 : decode prog_3_method_1_code 20 = .ok (.aload_n 0, 1) := by decide +kernel
theorem dX1_init_21 : decode prog_3_method_1_code 21 = .ok (.aload_n 1, 1) := by decide +kernel
theorem dX1_init_22 : decode prog_3_method_1_code 22 = .ok (.putfield 18, 3) := by decide +kernel
theorem dX1_init_25 : decode prog_3_method_1_code 25 = .ok (.aload_n 0, 1) := by decide +kernel
theorem dX1_init_26 : decode prog_3_method_1_code 26 = .ok (.aload_n 2, 1) := by decide +kernel
theorem dX1_init_27 : decode prog_3_method_1_code 27 = .ok (.putfield 22, 3) := by decide +kernel
theorem dX1_init_30 : decode prog_3_method_1_code 30 = .ok (.return_, 1) := by decide +kernel
def m_X1_init (mc ms : Nat) (a0 : Nat) (a1 : Nat) (a2 : Nat) (M : mM) : Option (mM) :=
  (oif (0 + 1 ≤ mc ∧ 0 + 20 ≤ ms)).bind fun _ =>
  (sV (M ++ [.inl (0, 20, .inl (fun _ => 0))]) a0 2 2 (.ref M.length)).bind fun M1 =>
  (oif ((0 + 1) + 1 ≤ mc ∧ (0 + 20) + 20 ≤ ms)).bind fun _ =>
  (sV (M1 ++ [.inl (0, 20, .inl (fun _ => 0))]) a0 2 3 (.ref M1.length)).bind fun M3 =>
  (sV M3 a0 2 0 (.ref a1)).bind fun M5 =>
  (sV M5 a0 2 1 (.ref a2)).bind fun M7 =>
  some M7
set_option maxHeartbeats 4000000 in
set_option maxRecDepth 100000 in
theorem t_X1_init {L0 : Launch} {M : mM} {mc ms : Nat} {a0 : Nat} {a1 : Nat} {a2 : Nat} {res : mM} (hf : m_X1_init mc ms a0 a1 a2 M = some res) : CT L0 yX1_init prog_3_method_1_code 3 none 1 20 mc ms [.ref a0, .ref a1, .ref a2] M none res := by
  refine CT.of (by decide +kernel) (Nat.le_of_ble_eq_true rfl) fun X C E => ?_
  have C : CX X RX1 "<init>" prog_3_method_1_code 3 none := C
  show EV X 3 0 [(0, .ref a0), (1, .ref a1), (2, .ref a2)] [] 0 0 M
  unfold m_X1_init at hf
  have hk : 0 ≤ mc ∧ 0 ≤ ms := ⟨Nat.zero_le _, Nat.zero_le _⟩
  refine ev_aload_n C dX1_init_0 rfl (q := 0) rfl ?_
  refine ev_objInit C kw_300 kw_104 kw_105 (mfr E (by decide)) (mlo E (by decide)) (Nat.le_of_ble_eq_true rfl) dX1_init_1 ?_
  refine ev_aload_n C dX1_init_4 rfl (q := 0) rfl ?_
  refine ev_bipush (v := 20) C dX1_init_5 (by decide) ?_
  obtain ⟨_, hk, hf⟩ := obnd hf
  have hk := oif_eq hk
  refine ev_newa_i (N := 20) C dX1_init_7 kw_140 (by decide) (by decide) (by decide) (mcap E hk).1 (mcap E hk).2 ?_
  obtain ⟨M1, e2, hf⟩ := obnd hf
  refine ev_putF (k := 2) C ok_2 dX1_init_9 (by decide) kw_303 rfl rfl ⟨rfl, rfl⟩ e2 ?_
  refine ev_aload_n C dX1_init_12 rfl (q := 0) rfl ?_
  refine ev_bipush (v := 20) C dX1_init_13 (by decide) ?_
  obtain ⟨_, hk, hf⟩ := obnd hf
  have hk := oif_eq hk
  refine ev_newa_i (N := 20) C dX1_init_15 kw_140 (by decide) (by decide) (by decide) (mcap E hk).1 (mcap E hk).2 ?_
  obtain ⟨M3, e4, hf⟩ := obnd hf
  refine ev_putF (k := 3) C ok_2 dX1_init_17 (by decide) kw_304 rfl rfl ⟨rfl, rfl⟩ e4 ?_
  refine ev_aload_n C dX1_init_20 rfl (q := 0) rfl ?_
  refine ev_aload_n C dX1_init_21 rfl (q := 1) rfl ?_
  obtain ⟨M5, e6, hf⟩ := obnd hf
  refine ev_putF (k := 0) C ok_2 dX1_init_22 (by decide) kw_301 rfl rfl ⟨rfl, rfl⟩ e6 ?_
  refine ev_aload_n C dX1_init_25 rfl (q := 0) rfl ?_
  refine ev_aload_n C dX1_init_26 rfl (q := 2) rfl ?_
  obtain ⟨M7, e8, hf⟩ := obnd hf
  refine ev_putF (k := 1) C ok_2 dX1_init_27 (by decide) kw_302 rfl rfl ⟨rfl, rfl⟩ e8 ?_
  obtain rfl := Option.some.inj hf
  exact ev_vret C E hk.1 hk.2 dX1_init_30
/-! java/lang/AbstractStringBuilder <init>(I)V -/
theorem dJ5_init_d00df_0 : decode prog_15_method_2_code 0 = .ok (.aload_n 0, 1) := by decide +kernel
theorem dJ5_init_d00df_1 : decode prog_15_method_2_code 1 = .ok (.invokespecial 3, 3) := by decide +kernel
theorem dJ5_init_d00df_4 : decode prog_15_method_2_code 4 = .ok (.getstatic 18, 3) := by decide +kernel
theorem dJ5_init_d00df_7 : decode prog_15_method_2_code 7 = .ok (.ifCond .eq 18, 3) := by decide +kernel
theorem dJ5_init_d00df_10 : decode prog_15_method_2_code 10 = .ok (.aload_n 0, 1) := by decide +kernel
theorem dJ5_init_d00df_11 : decode prog_15_method_2_code 11 = .ok (.iload_n 1, 1) := by decide +kernel
theorem dJ5_init_d00df_12 : decode prog_15_method_2_code 12 = .ok (.newarray .byte, 2) := by decide +kernel
theorem dJ5_init_d00df_14 : decode prog_15_method_2_code 14 = .ok (.putfield 15, 3) := by decide +kernel
theorem dJ5_init_d00df_17 : decode prog_15_method_2_code 17 = .ok (.aload_n 0, 1) := by decide +kernel
theorem dJ5_init_d00df_18 : decode prog_15_method_2_code 18 = .ok (.iconst 0, 1) := by decide +kernel
theorem dJ5_init_d00df_19 : decode prog_15_method_2_code 19 = .ok (.putfield 22, 3) := by decide +kernel
theorem dJ5_init_d00df_22 : decode prog_15_method_2_code 22 = .ok (.goto 16, 3) := by decide +kernel
theorem dJ5_init_d00df_25 : decode prog_15_method_2_code 25 = .ok (.aload_n 0, 1) := by decide +kernel
theorem dJ5_init_d00df_26 : decode prog_15_method_2_code 26 = .ok (.iload_n 1, 1) := by decide +kernel
theorem dJ5_init_d00df_27 : decode prog_15_method_2_code 27 = .ok (.invokestatic 26, 3) := by decide +kernel
theorem dJ5_init_d00df_30 : decode prog_15_method_2_code 30 = .ok (.putfield 15, 3) := by decide +kernel
theorem dJ5_init_d00df_33 : decode prog_15_method_2_code 33 = .ok (.aload_n 0, 1) := by decide +kernel
theorem dJ5_init_d00df_34 : decode prog_15_method_2_code 34 = .ok (.iconst 1, 1) := by decide +kernel
theorem dJ5_init_d00df_35 : decode prog_15_method_2_code 35 = .ok (.putfield 22, 3) := by decide +kernel
theorem dJ5_init_d00df_38 : decode prog_15_method_2_code 38 = .ok (.return_, 1) := by decide +kernel
def m_J5_init_d00df (mc ms : Nat) (a0 : Nat) (i1 : Int32) (M : mM) : Option (mM) :=
  if (1 : Int32) = 0 then (
    none) else (
    (oif (¬ i1 < 0 ∧ (i1).toNatClampNeg ≤ 60000000)).bind fun _ =>
    (oif (0 + 1 ≤ mc ∧ 0 + ((i1).toNatClampNeg) ≤ ms)).bind fun _ =>
    (sV (M ++ [.inl (4, (i1).toNatClampNeg, .inl (fun _ => 0))]) a0 0 0 (.ref M.length)).bind fun M2 =>
    (sB M2 a0 0 1 0).bind fun M4 =>
    some M4)
set_option maxHeartbeats 4000000 in
set_option maxRecDepth 100000 in
theorem t_J5_init_d00df {L0 : Launch} {M : mM} {mc ms : Nat} {a0 : Nat} {i1 : Int32} {res : mM} (hf : m_J5_init_d00df mc ms a0 i1 M = some res) : CT L0 yJ5_init_d00df prog_15_method_2_code 2 none 1 20 mc ms [.ref a0, .int i1] M none res := by
  refine CT.of (by decide +kernel) (Nat.le_of_ble_eq_true rfl) fun X C E => ?_
  have C : CX X RJ5 "<init>" prog_15_method_2_code 2 none := C
  show EV X 2 0 [(0, .ref a0), (1, .int i1)] [] 0 0 M
  unfold m_J5_init_d00df at hf
  have hk : 0 ≤ mc ∧ 0 ≤ ms := ⟨Nat.zero_le _, Nat.zero_le _⟩
  refine ev_aload_n C dJ5_init_d00df_0 rfl (q := 0) rfl ?_
  refine ev_objInit C kw_342 kw_104 kw_105 (mfr E (by decide)) (mlo E (by decide)) (Nat.le_of_ble_eq_true rfl) dJ5_init_d00df_1 ?_
  refine ev_sCompact C kw_343 dJ5_init_d00df_4 ?_
  refine ev_if_eq (tgt := 25) C dJ5_init_d00df_7 (by decide) (fun hc => ?_) (fun hc => ?_)
  · have hf := oit hf hc
    refine ev_aload_n C dJ5_init_d00df_25 rfl (q := 0) rfl ?_
    refine ev_iload_n C dJ5_init_d00df_26 rfl (q := 1) rfl ?_
    cases hf
  · have hf := oie hf hc
    refine ev_aload_n C dJ5_init_d00df_10 rfl (q := 0) rfl ?_
    refine ev_iload_n C dJ5_init_d00df_11 rfl (q := 1) rfl ?_
    obtain ⟨_, e1, hf⟩ := obnd hf
    have e1 := oif_eq e1
    obtain ⟨_, hk, hf⟩ := obnd hf
    have hk := oif_eq hk
    refine ev_newa_b (N := (i1).toNatClampNeg) C dJ5_init_d00df_12 kw_365 e1.1 rfl e1.2 (mcap E hk).1 (mcap E hk).2 ?_
    obtain ⟨M2, e3, hf⟩ := obnd hf
    refine ev_put (k := 0) C ok_0 dJ5_init_d00df_14 (by decide) kw_352 rfl ⟨rfl, rfl⟩ e3 ?_
    refine ev_aload_n C dJ5_init_d00df_17 rfl (q := 0) rfl ?_
    refine ev_iconst (v := 0) C dJ5_init_d00df_18 (by decide) ?_
    obtain ⟨M4, e5, hf⟩ := obnd hf
    refine ev_put (k := 1) C ok_0 dJ5_init_d00df_19 (by decide) kw_353 rfl (sB_fit e5) (sB_V e5) ?_
    refine ev_goto (tgt := 38) C dJ5_init_d00df_22 (by decide) ?_
    obtain rfl := Option.some.inj hf
    exact ev_vret C E hk.1 hk.2 dJ5_init_d00df_38
/-! java/lang/StringBuilder <init>()V -/
theorem dJ4_init_da8c8_0 : decode prog_24_method_1_code 0 = .ok (.aload_n 0, 1) := by decide +kernel
theorem dJ4_init_da8c8_1 : decode prog_24_method_1_code 1 = .ok (.bipush 16, 2) := by decide +kernel
theorem dJ4_init_da8c8_3 : decode prog_24_method_1_code 3 = .ok (.invokespecial 1, 3) := by decide +kernel
theorem dJ4_init_da8c8_6 : decode prog_24_method_1_code 6 = .ok (.return_, 1) := by decide +kernel
def m_J4_init_da8c8 (mc ms : Nat) (a0 : Nat) (M : mM) : Option (mM) :=
  (oif (0 + 1 ≤ mc ∧ 0 + 16 ≤ ms)).bind fun _ =>
  (m_J5_init_d00df 1 16 a0 16 M).bind fun x1 =>
  some x1
set_option maxHeartbeats 4000000 in
set_option maxRecDepth 100000 in
theorem t_J4_init_da8c8 {L0 : Launch} {M : mM} {mc ms : Nat} {a0 : Nat} {res : mM} (hf : m_J4_init_da8c8 mc ms a0 M = some res) : CT L0 yJ4_init_da8c8 prog_24_method_1_code 1 none 2 41 mc ms [.ref a0] M none res := by
  refine CT.of (by decide +kernel) (Nat.le_of_ble_eq_true rfl) fun X C E => ?_
  have C : CX X RJ4 "<init>" prog_24_method_1_code 1 none := C
  show EV X 1 0 [(0, .ref a0)] [] 0 0 M
  unfold m_J4_init_da8c8 at hf
  have hk : 0 ≤ mc ∧ 0 ≤ ms := ⟨Nat.zero_le _, Nat.zero_le _⟩
  refine ev_aload_n C dJ4_init_da8c8_0 rfl (q := 0) rfl ?_
  refine ev_bipush (v := 16) C dJ4_init_da8c8_1 (by decide) ?_
  obtain ⟨_, hk, hf⟩ := obnd hf
  have hk := oif_eq hk
  obtain ⟨x1, e2, hf⟩ := obnd hf
  refine ev_callI (As := [.int 16]) (st := []) C (t_J5_init_d00df e2) rfl hd_J5_init_d00df rfl kw_339 kw_340 kw_81 kw_341 (mRoom.of E (Nat.le_of_ble_eq_true rfl) (Nat.le_of_ble_eq_true rfl) hk.1 hk.2) (Nat.le_of_ble_eq_true rfl) dJ4_init_da8c8_3 ?_
  obtain rfl := Option.some.inj hf
  exact ev_vret C E hk.1 hk.2 dJ4_init_da8c8_6
/-! FareLimits$Tray <init>()V -/
theorem dX8_init_0 : decode prog_10_method_1_code 0 = .ok (.aload_n 0, 1) := by decide +kernel
theorem dX8_init_1 : decode prog_10_method_1_code 1 = .ok (.invokespecial 3, 3) := by decide +kernel
theorem dX8_init_4 : decode prog_10_method_1_code 4 = .ok (.aload_n 0, 1) := by decide +kernel
theorem dX8_init_5 : decode prog_10_method_1_code 5 = .ok (.getstatic 9, 3) := by decide +kernel
theorem dX8_init_8 : decode prog_10_method_1_code 8 = .ok (.putfield 15, 3) := by decide +kernel
theorem dX8_init_11 : decode prog_10_method_1_code 11 = .ok (.aload_n 0, 1) := by decide +kernel
theorem dX8_init_12 : decode prog_10_method_1_code 12 = .ok (.bipush (-11), 2) := by decide +kernel
theorem dX8_init_14 : decode prog_10_method_1_code 14 = .ok (.putfield 20, 3) := by decide +kernel
theorem dX8_init_17 : decode prog_10_method_1_code 17 = .ok (.aload_n 0, 1) := by decide +kernel
theorem dX8_init_18 : decode prog_10_method_1_code 18 = .ok (.bipush 20, 2) := by decide +kernel
theorem dX8_init_20 : decode prog_10_method_1_code 20 = .ok (.newarray .int, 2) := by decide +kernel
theorem dX8_init_22 : decode prog_10_method_1_code 22 = .ok (.putfield 24, 3) := by decide +kernel
theorem dX8_init_25 : decode prog_10_method_1_code 25 = .ok (.return_, 1) := by decide +kernel
def m_X8_init (mc ms : Nat) (a0 : Nat) (M : mM) : Option (mM) :=
  (sV M a0 8 0 (.ref 0)).bind fun M1 =>
  (sV M1 a0 8 1 (.int (-11))).bind fun M3 =>
  (oif (0 + 1 ≤ mc ∧ 0 + 20 ≤ ms)).bind fun _ =>
  (sV (M3 ++ [.inl (0, 20, .inl (fun _ => 0))]) a0 8 2 (.ref M3.length)).bind fun M5 =>
  some M5
set_option maxHeartbeats 4000000 in
set_option maxRecDepth 100000 in
theorem t_X8_init {L0 : Launch} {M : mM} {mc ms : Nat} {a0 : Nat} {res : mM} (hf : m_X8_init mc ms a0 M = some res) : CT L0 yX8_init prog_10_method_1_code 1 none 1 20 mc ms [.ref a0] M none res := by
  refine CT.of (by decide +kernel) (Nat.le_of_ble_eq_true rfl) fun X C E => ?_
  have C : CX X RX8 "<init>" prog_10_method_1_code 1 none := C
  show EV X 1 0 [(0, .ref a0)] [] 0 0 M
  unfold m_X8_init at hf
  have hk : 0 ≤ mc ∧ 0 ≤ ms := ⟨Nat.zero_le _, Nat.zero_le _⟩
  refine ev_aload_n C dX8_init_0 rfl (q := 0) rfl ?_
  refine ev_objInit C kw_372 kw_104 kw_105 (mfr E (by decide)) (mlo E (by decide)) (Nat.le_of_ble_eq_true rfl) dX8_init_1 ?_
  refine ev_aload_n C dX8_init_4 rfl (q := 0) rfl ?_
  refine ev_sFare C kw_373 dX8_init_5 ?_
  obtain ⟨M1, e2, hf⟩ := obnd hf
  refine ev_put (k := 0) C ok_8 dX8_init_8 (by decide) kw_374 rfl ⟨rfl, rfl⟩ e2 ?_
  refine ev_aload_n C dX8_init_11 rfl (q := 0) rfl ?_
  refine ev_bipush (v := (-11)) C dX8_init_12 (by decide) ?_
  obtain ⟨M3, e4, hf⟩ := obnd hf
  refine ev_put (k := 1) C ok_8 dX8_init_14 (by decide) kw_376 rfl ⟨rfl, rfl⟩ e4 ?_
  refine ev_aload_n C dX8_init_17 rfl (q := 0) rfl ?_
  refine ev_bipush (v := 20) C dX8_init_18 (by decide) ?_
  obtain ⟨_, hk, hf⟩ := obnd hf
  have hk := oif_eq hk
  refine ev_newa_i (N := 20) C dX8_init_20 kw_140 (by decide) (by decide) (by decide) (mcap E hk).1 (mcap E hk).2 ?_
  obtain ⟨M5, e6, hf⟩ := obnd hf
  refine ev_putF (k := 2) C ok_8 dX8_init_22 (by decide) kw_378 rfl rfl ⟨rfl, rfl⟩ e6 ?_
  obtain rfl := Option.some.inj hf
  exact ev_vret C E hk.1 hk.2 dX8_init_25
/-! java/util/Arrays fill([II)V -/
theorem dJ7_fill_53178_0 : decode prog_28_method_103_code 0 = .ok (.iconst 0, 1) := by decide +kernel
theorem dJ7_fill_53178_1 : decode prog_28_method_103_code 1 = .ok (.istore_n 2, 1) := by decide +kernel
theorem dJ7_fill_53178_2 : decode prog_28_method_103_code 2 = .ok (.aload_n 0, 1) := by decide +kernel
theorem dJ7_fill_53178_3 : decode prog_28_method_103_code 3 = .ok (.arraylength, 1) := by decide +kernel
theorem dJ7_fill_53178_4 : decode prog_28_method_103_code 4 = .ok (.istore_n 3, 1) := by decide +kernel
theorem dJ7_fill_53178_5 : decode prog_28_method_103_code 5 = .ok (.iload_n 2, 1) := by decide +kernel
theorem dJ7_fill_53178_6 : decode prog_28_method_103_code 6 = .ok (.iload_n 3, 1) := by decide +kernel
theorem dJ7_fill_53178_7 : decode prog_28_method_103_code 7 = .ok (.if_icmp .ge 13, 3) := by decide +kernel
theorem dJ7_fill_53178_10 : decode prog_28_method_103_code 10 = .ok (.aload_n 0, 1) := by decide +kernel
theorem dJ7_fill_53178_11 : decode prog_28_method_103_code 11 = .ok (.iload_n 2, 1) := by decide +kernel
theorem dJ7_fill_53178_12 : decode prog_28_method_103_code 12 = .ok (.iload_n 1, 1) := by decide +kernel
theorem dJ7_fill_53178_13 : decode prog_28_method_103_code 13 = .ok (.iastore, 1) := by decide +kernel
theorem dJ7_fill_53178_14 : decode prog_28_method_103_code 14 = .ok (.iinc 2 1, 3) := by decide +kernel
theorem dJ7_fill_53178_17 : decode prog_28_method_103_code 17 = .ok (.goto (-12), 3) := by decide +kernel
theorem dJ7_fill_53178_20 : decode prog_28_method_103_code 20 = .ok (.return_, 1) := by decide +kernel
def m_J7_fill_53178_L5 (N : Nat)  : Nat → Nat → Int32 → Int32 → Int32 → mM → Option (mM)
  | 0, _, _, _, _, _ => none
  | n + 1, a0, i1, i2, i3, M =>
    if i3 ≤ i2 then (
      some M) else (
      (uI 0 .int M a0 i2 i1).bind fun M1 =>
      (m_J7_fill_53178_L5 N  n) a0 i1 (i2 + 1) i3 M1)
set_option maxHeartbeats 4000000 in
set_option maxRecDepth 100000 in
theorem t_J7_fill_53178_L5 {X : mX} {L0 : Launch} {res : mM} {N : Nat} (C : CX X RJ7 "fill" prog_28_method_103_code 4 none) (E : EX X L0 0 0 0 0 none res)   : ∀ (n : Nat) (a0 : Nat) (i1 : Int32) (i2 : Int32) (i3 : Int32) (M : mM), m_J7_fill_53178_L5 N  n a0 i1 i2 i3 M = some res → EV X 4 5 [(0, .ref a0), (1, .int i1), (2, .int i2), (3, .int i3)] [] 0 0 M := by
  intro n
  induction n with
  | zero => intro a0 i1 i2 i3 M hf; cases (show (none : Option (mM)) = some res from hf)
  | succ n ih =>
    intro a0 i1 i2 i3 M hf
    rw [m_J7_fill_53178_L5] at hf
    refine ev_iload_n C dJ7_fill_53178_5 rfl (q := 2) rfl ?_
    refine ev_iload_n C dJ7_fill_53178_6 rfl (q := 3) rfl ?_
    refine ev_icmp_ge (tgt := 20) C dJ7_fill_53178_7 (by decide) (fun hc => ?_) (fun hc => ?_)
    · have hf := oit hf hc
      obtain rfl := Option.some.inj hf
      exact ev_vret C E (Nat.le_refl 0) (Nat.le_refl 0) dJ7_fill_53178_20
    · have hf := oie hf hc
      refine ev_aload_n C dJ7_fill_53178_10 rfl (q := 0) rfl ?_
      refine ev_iload_n C dJ7_fill_53178_11 rfl (q := 2) rfl ?_
      refine ev_iload_n C dJ7_fill_53178_12 rfl (q := 1) rfl ?_
      obtain ⟨M1, e2, hf⟩ := obnd hf
      refine ev_iast C dJ7_fill_53178_13 e2 ?_
      refine ev_iinc (v := i2 + 1) (l' := [(2, .int (i2 + 1)), (0, .ref a0), (1, .int i1), (3, .int i3)]) C dJ7_fill_53178_14 (q := 2) rfl rfl (by decide) rfl ?_
      refine ev_goto (tgt := 5) C dJ7_fill_53178_17 (by decide) ?_
      refine ev_sub [1, 2, 0, 3] rfl ?_
      exact ih a0 i1 (i2 + 1) i3 M1 hf
def m_J7_fill_53178 (N : Nat) (a0 : Nat) (i1 : Int32) (M : mM) : Option (mM) :=
  (aN 0 M a0).bind fun x1 =>
  m_J7_fill_53178_L5 N  N a0 i1 0 x1 M
set_option maxHeartbeats 4000000 in
set_option maxRecDepth 100000 in
theorem t_J7_fill_53178 {L0 : Launch} {M : mM} {N : Nat} {a0 : Nat} {i1 : Int32} {res : mM} (hf : m_J7_fill_53178 N a0 i1 M = some res) : CT L0 yJ7_fill_53178 prog_28_method_103_code 4 none 0 0 0 0 [.ref a0, .int i1] M none res := by
  refine CT.of (by decide +kernel) (Nat.le_of_ble_eq_true rfl) fun X C E => ?_
  have C : CX X RJ7 "fill" prog_28_method_103_code 4 none := C
  show EV X 4 0 [(0, .ref a0), (1, .int i1)] [] 0 0 M
  unfold m_J7_fill_53178 at hf
  refine ev_iconst (v := 0) C dJ7_fill_53178_0 (by decide) ?_
  refine ev_istore_n (l' := [(2, .int 0), (0, .ref a0), (1, .int i1)]) C dJ7_fill_53178_1 rfl (by decide) rfl ?_
  refine ev_aload_n C dJ7_fill_53178_2 rfl (q := 1) rfl ?_
  obtain ⟨x1, e2, hf⟩ := obnd hf
  refine ev_alen (t := 0) C rfl dJ7_fill_53178_3 e2 ?_
  refine ev_istore_n (l' := [(3, .int x1), (2, .int 0), (0, .ref a0), (1, .int i1)]) C dJ7_fill_53178_4 rfl (by decide) rfl ?_
  refine ev_sub [2, 3, 1, 0] rfl ?_
  exact t_J7_fill_53178_L5 C E   N a0 i1 0 x1 M hf
/-! FareLimits within(II)Z -/
theorem dX11_within_0 : decode prog_1_method_50_code 0 = .ok (.iload_n 0, 1) := by decide +kernel
theorem dX11_within_1 : decode prog_1_method_50_code 1 = .ok (.ifCond .lt 12, 3) := by decide +kernel
theorem dX11_within_4 : decode prog_1_method_50_code 4 = .ok (.iload_n 0, 1) := by decide +kernel
theorem dX11_within_5 : decode prog_1_method_50_code 5 = .ok (.iload_n 1, 1) := by decide +kernel
theorem dX11_within_6 : decode prog_1_method_50_code 6 = .ok (.if_icmp .gt 7, 3) := by decide +kernel
theorem dX11_within_9 : decode prog_1_method_50_code 9 = .ok (.iconst 1, 1) := by decide +kernel
theorem dX11_within_10 : decode prog_1_method_50_code 10 = .ok (.goto 4, 3) := by decide +kernel
theorem dX11_within_13 : decode prog_1_method_50_code 13 = .ok (.iconst 0, 1) := by decide +kernel
theorem dX11_within_14 : decode prog_1_method_50_code 14 = .ok (.ireturn, 1) := by decide +kernel
def m_X11_within (i0 : Int32) (i1 : Int32) : Option (Int32) :=
  if i0 < 0 then (
    some 0) else (
    if i1 < i0 then (
      some 0) else (
      some 1))
set_option maxHeartbeats 4000000 in
set_option maxRecDepth 100000 in
theorem t_X11_within {L0 : Launch} {M : mM} {i0 : Int32} {i1 : Int32} {res : Int32} (hf : m_X11_within i0 i1 = some res) : CT L0 yX11_within prog_1_method_50_code 2 (some .boolean) 0 0 0 0 [.int i0, .int i1] M (some (.int res)) M := by
  refine CT.of (by decide +kernel) (Nat.le_of_ble_eq_true rfl) fun X C E => ?_
  have C : CX X RX11 "within" prog_1_method_50_code 2 (some .boolean) := C
  show EV X 2 0 [(0, .int i0), (1, .int i1)] [] 0 0 M
  unfold m_X11_within at hf
  refine ev_iload_n C dX11_within_0 rfl (q := 0) rfl ?_
  refine ev_if_lt (tgt := 13) C dX11_within_1 (by decide) (fun hc => ?_) (fun hc => ?_)
  · have hf := oit hf hc
    refine ev_iconst (v := 0) C dX11_within_13 (by decide) ?_
    obtain rfl := Option.some.inj hf
    exact ev_zret C (by decide) E (Nat.le_refl 0) (Nat.le_refl 0) dX11_within_14
  · have hf := oie hf hc
    refine ev_iload_n C dX11_within_4 rfl (q := 0) rfl ?_
    refine ev_iload_n C dX11_within_5 rfl (q := 1) rfl ?_
    refine ev_icmp_gt (tgt := 13) C dX11_within_6 (by decide) (fun hc => ?_) (fun hc => ?_)
    · have hf := oit hf hc
      refine ev_iconst (v := 0) C dX11_within_13 (by decide) ?_
      obtain rfl := Option.some.inj hf
      exact ev_zret C (by decide) E (Nat.le_refl 0) (Nat.le_refl 0) dX11_within_14
    · have hf := oie hf hc
      refine ev_iconst (v := 1) C dX11_within_9 (by decide) ?_
      refine ev_goto (tgt := 14) C dX11_within_10 (by decide) ?_
      obtain rfl := Option.some.inj hf
      exact ev_zret C (by decide) E (Nat.le_refl 0) (Nat.le_refl 0) dX11_within_14
/-! FareLimits$Fare begin(LFareLimits$Kind;I)V -/
theorem dX2_begin_0 : decode prog_4_method_2_code 0 = .ok (.aload_n 0, 1) := by decide +kernel
theorem dX2_begin_1 : decode prog_4_method_2_code 1 = .ok (.aload_n 1, 1) := by decide +kernel
theorem dX2_begin_2 : decode prog_4_method_2_code 2 = .ok (.putfield 15, 3) := by decide +kernel
theorem dX2_begin_5 : decode prog_4_method_2_code 5 = .ok (.aload_n 0, 1) := by decide +kernel
theorem dX2_begin_6 : decode prog_4_method_2_code 6 = .ok (.iload_n 2, 1) := by decide +kernel
theorem dX2_begin_7 : decode prog_4_method_2_code 7 = .ok (.putfield 24, 3) := by decide +kernel
theorem dX2_begin_10 : decode prog_4_method_2_code 10 = .ok (.aload_n 0, 1) := by decide +kernel
theorem dX2_begin_11 : decode prog_4_method_2_code 11 = .ok (.bipush 30, 2) := by decide +kernel
theorem dX2_begin_13 : decode prog_4_method_2_code 13 = .ok (.putfield 28, 3) := by decide +kernel
theorem dX2_begin_16 : decode prog_4_method_2_code 16 = .ok (.aload_n 0, 1) := by decide +kernel
theorem dX2_begin_17 : decode prog_4_method_2_code 17 = .ok (.getfield 20, 3) := by decide +kernel
theorem dX2_begin_20 : decode prog_4_method_2_code 20 = .ok (.iconst 0, 1) := by decide +kernel
theorem dX2_begin_21 : decode prog_4_method_2_code 21 = .ok (.invokestatic 31, 3) := by decide +kernel
theorem dX2_begin_24 : decode prog_4_method_2_code 24 = .ok (.return_, 1) := by decide +kernel
def m_X2_begin (N : Nat) (a0 : Nat) (a1 : Nat) (i2 : Int32) (M : mM) : Option (mM) :=
  (sV M a0 3 0 (.ref a1)).bind fun M1 =>
  (sV M1 a0 3 1 (.int i2)).bind fun M3 =>
  (sV M3 a0 3 2 (.int 30)).bind fun M5 =>
  (fR M5 a0 3 3).bind fun x7 =>
  (m_J7_fill_53178 N x7 0 M5).bind fun x9 =>
  some x9
set_option maxHeartbeats 4000000 in
set_option maxRecDepth 100000 in
theorem t_X2_begin {L0 : Launch} {M : mM} {N : Nat} {a0 : Nat} {a1 : Nat} {i2 : Int32} {res : mM} (hf : m_X2_begin N a0 a1 i2 M = some res) : CT L0 yX2_begin prog_4_method_2_code 3 none 1 23 0 0 [.ref a0, .ref a1, .int i2] M none res := by
  refine CT.of (by decide +kernel) (Nat.le_of_ble_eq_true rfl) fun X C E => ?_
  have C : CX X RX2 "begin" prog_4_method_2_code 3 none := C
  show EV X 3 0 [(0, .ref a0), (1, .ref a1), (2, .int i2)] [] 0 0 M
  unfold m_X2_begin at hf
  refine ev_aload_n C dX2_begin_0 rfl (q := 0) rfl ?_
  refine ev_aload_n C dX2_begin_1 rfl (q := 1) rfl ?_
  obtain ⟨M1, e2, hf⟩ := obnd hf
  refine ev_put (k := 0) C ok_3 dX2_begin_2 (by decide) kw_148 rfl ⟨rfl, rfl⟩ e2 ?_
  refine ev_aload_n C dX2_begin_5 rfl (q := 0) rfl ?_
  refine ev_iload_n C dX2_begin_6 rfl (q := 2) rfl ?_
  obtain ⟨M3, e4, hf⟩ := obnd hf
  refine ev_put (k := 1) C ok_3 dX2_begin_7 (by decide) kw_151 rfl ⟨rfl, rfl⟩ e4 ?_
  refine ev_aload_n C dX2_begin_10 rfl (q := 0) rfl ?_
  refine ev_bipush (v := 30) C dX2_begin_11 (by decide) ?_
  obtain ⟨M5, e6, hf⟩ := obnd hf
  refine ev_put (k := 2) C ok_3 dX2_begin_13 (by decide) kw_157 rfl ⟨rfl, rfl⟩ e6 ?_
  refine ev_aload_n C dX2_begin_16 rfl (q := 0) rfl ?_
  obtain ⟨x7, e8, hf⟩ := obnd hf
  refine ev_get (k := 3) C ok_3 dX2_begin_17 (by decide) kw_160 (fR_V e8) ?_
  refine ev_iconst (v := 0) C dX2_begin_20 (by decide) ?_
  obtain ⟨x9, e10, hf⟩ := obnd hf
  refine ev_callS0 (As := [.ref x7, .int 0]) (st := []) C (t_J7_fill_53178 e10) hd_J7_fill_53178 rfl kw_442 kw_390 kw_86 kw_391 (mRoom.of E (Nat.le_of_ble_eq_true rfl) (Nat.le_of_ble_eq_true rfl) (Nat.le_refl 0) (Nat.le_refl 0)) (Nat.le_of_ble_eq_true rfl) dX2_begin_21 ?_
  obtain rfl := Option.some.inj hf
  exact ev_vret C E (Nat.le_refl 0) (Nat.le_refl 0) dX2_begin_24
/-! FareLimits$Worths forget()V -/
theorem dX10_forget_0 : decode prog_12_method_2_code 0 = .ok (.aload_n 0, 1) := by decide +kernel
theorem dX10_forget_1 : decode prog_12_method_2_code 1 = .ok (.iconst 0, 1) := by decide +kernel
theorem dX10_forget_2 : decode prog_12_method_2_code 2 = .ok (.putfield 24, 3) := by decide +kernel
theorem dX10_forget_5 : decode prog_12_method_2_code 5 = .ok (.return_, 1) := by decide +kernel
def m_X10_forget (a0 : Nat) (M : mM) : Option (mM) :=
  (sV M a0 10 3 (.int 0)).bind fun M1 =>
  some M1
set_option maxHeartbeats 4000000 in
set_option maxRecDepth 100000 in
theorem t_X10_forget {L0 : Launch} {M : mM} {a0 : Nat} {res : mM} (hf : m_X10_forget a0 M = some res) : CT L0 yX10_forget prog_12_method_2_code 1 none 0 0 0 0 [.ref a0] M none res := by
  refine CT.of (by decide +kernel) (Nat.le_of_ble_eq_true rfl) fun X C E => ?_
  have C : CX X RX10 "forget" prog_12_method_2_code 1 none := C
  show EV X 1 0 [(0, .ref a0)] [] 0 0 M
  unfold m_X10_forget at hf
  refine ev_aload_n C dX10_forget_0 rfl (q := 0) rfl ?_
  refine ev_iconst (v := 0) C dX10_forget_1 (by decide) ?_
  obtain ⟨M1, e2, hf⟩ := obnd hf
  refine ev_put (k := 3) C ok_10 dX10_forget_2 (by decide) kw_219 rfl ⟨rfl, rfl⟩ e2 ?_
  obtain rfl := Option.some.inj hf
  exact ev_vret C E (Nat.le_refl 0) (Nat.le_refl 0) dX10_forget_5
/-! FareLimits fare(II)I -/
theorem dX11_fare_0 : decode prog_1_method_2_code 0 = .ok (.iload_n 1, 1) := by decide +kernel
theorem dX11_fare_1 : decode prog_1_method_2_code 1 = .ok (.getstatic 87, 3) := by decide +kernel
theorem dX11_fare_4 : decode prog_1_method_2_code 4 = .ok (.arraylength, 1) := by decide +kernel
theorem dX11_fare_5 : decode prog_1_method_2_code 5 = .ok (.iconst 1, 1) := by decide +kernel
theorem dX11_fare_6 : decode prog_1_method_2_code 6 = .ok (.isub, 1) := by decide +kernel
theorem dX11_fare_7 : decode prog_1_method_2_code 7 = .ok (.invokestatic 91, 3) := by decide +kernel
theorem dX11_fare_10 : decode prog_1_method_2_code 10 = .ok (.ifCond .ne 5, 3) := by decide +kernel
theorem dX11_fare_13 : decode prog_1_method_2_code 13 = .ok (.iconst (-1), 1) := by decide +kernel
theorem dX11_fare_14 : decode prog_1_method_2_code 14 = .ok (.ireturn, 1) := by decide +kernel
theorem dX11_fare_15 : decode prog_1_method_2_code 15 = .ok (.iload_n 2, 1) := by decide +kernel
theorem dX11_fare_16 : decode prog_1_method_2_code 16 = .ok (.iconst 1, 1) := by decide +kernel
theorem dX11_fare_17 : decode prog_1_method_2_code 17 = .ok (.if_icmp .lt 10, 3) := by decide +kernel
theorem dX11_fare_20 : decode prog_1_method_2_code 20 = .ok (.iload_n 2, 1) := by decide +kernel
theorem dX11_fare_21 : decode prog_1_method_2_code 21 = .ok (.sipush 9999, 3) := by decide +kernel
theorem dX11_fare_24 : decode prog_1_method_2_code 24 = .ok (.if_icmp .le 6, 3) := by decide +kernel
theorem dX11_fare_27 : decode prog_1_method_2_code 27 = .ok (.bipush (-2), 2) := by decide +kernel
theorem dX11_fare_29 : decode prog_1_method_2_code 29 = .ok (.ireturn, 1) := by decide +kernel
theorem dX11_fare_30 : decode prog_1_method_2_code 30 = .ok (.aload_n 0, 1) := by decide +kernel
theorem dX11_fare_31 : decode prog_1_method_2_code 31 = .ok (.getfield 12, 3) := by decide +kernel
theorem dX11_fare_34 : decode prog_1_method_2_code 34 = .ok (.getfield 95, 3) := by decide +kernel
theorem dX11_fare_37 : decode prog_1_method_2_code 37 = .ok (.bipush 6, 2) := by decide +kernel
theorem dX11_fare_39 : decode prog_1_method_2_code 39 = .ok (.if_icmp .lt 6, 3) := by decide +kernel
theorem dX11_fare_42 : decode prog_1_method_2_code 42 = .ok (.bipush (-4), 2) := by decide +kernel
theorem dX11_fare_44 : decode prog_1_method_2_code 44 = .ok (.ireturn, 1) := by decide +kernel
theorem dX11_fare_45 : decode prog_1_method_2_code 45 = .ok (.aload_n 0, 1) := by decide +kernel
theorem dX11_fare_46 : decode prog_1_method_2_code 46 = .ok (.getfield 12, 3) := by decide +kernel
theorem dX11_fare_49 : decode prog_1_method_2_code 49 = .ok (.getfield 95, 3) := by decide +kernel
theorem dX11_fare_52 : decode prog_1_method_2_code 52 = .ok (.istore_n 3, 1) := by decide +kernel
theorem dX11_fare_53 : decode prog_1_method_2_code 53 = .ok (.aload_n 0, 1) := by decide +kernel
theorem dX11_fare_54 : decode prog_1_method_2_code 54 = .ok (.getfield 12, 3) := by decide +kernel
theorem dX11_fare_57 : decode prog_1_method_2_code 57 = .ok (.getfield 99, 3) := by decide +kernel
theorem dX11_fare_60 : decode prog_1_method_2_code 60 = .ok (.iload_n 3, 1) := by decide +kernel
theorem dX11_fare_61 : decode prog_1_method_2_code 61 = .ok (.aaload, 1) := by decide +kernel
theorem dX11_fare_62 : decode prog_1_method_2_code 62 = .ok (.getstatic 87, 3) := by decide +kernel
theorem dX11_fare_65 : decode prog_1_method_2_code 65 = .ok (.iload_n 1, 1) := by decide +kernel
theorem dX11_fare_66 : decode prog_1_method_2_code 66 = .ok (.aaload, 1) := by decide +kernel
theorem dX11_fare_67 : decode prog_1_method_2_code 67 = .ok (.iload_n 2, 1) := by decide +kernel
theorem dX11_fare_68 : decode prog_1_method_2_code 68 = .ok (.invokevirtual 103, 3) := by decide +kernel
theorem dX11_fare_71 : decode prog_1_method_2_code 71 = .ok (.aload_n 0, 1) := by decide +kernel
theorem dX11_fare_72 : decode prog_1_method_2_code 72 = .ok (.getfield 12, 3) := by decide +kernel
theorem dX11_fare_75 : decode prog_1_method_2_code 75 = .ok (.dup, 1) := by decide +kernel
theorem dX11_fare_76 : decode prog_1_method_2_code 76 = .ok (.getfield 95, 3) := by decide +kernel
theorem dX11_fare_79 : decode prog_1_method_2_code 79 = .ok (.iconst 1, 1) := by decide +kernel
theorem dX11_fare_80 : decode prog_1_method_2_code 80 = .ok (.iadd, 1) := by decide +kernel
theorem dX11_fare_81 : decode prog_1_method_2_code 81 = .ok (.putfield 95, 3) := by decide +kernel
theorem dX11_fare_84 : decode prog_1_method_2_code 84 = .ok (.aload_n 0, 1) := by decide +kernel
theorem dX11_fare_85 : decode prog_1_method_2_code 85 = .ok (.getfield 24, 3) := by decide +kernel
theorem dX11_fare_88 : decode prog_1_method_2_code 88 = .ok (.invokevirtual 109, 3) := by decide +kernel
theorem dX11_fare_91 : decode prog_1_method_2_code 91 = .ok (.iload_n 3, 1) := by decide +kernel
theorem dX11_fare_92 : decode prog_1_method_2_code 92 = .ok (.ireturn, 1) := by decide +kernel
def m_X11_fare (N : Nat) (a0 : Nat) (i1 : Int32) (i2 : Int32) (M : mM) : Option (Int32 × mM) :=
  (m_X11_within i1 (4 - 1)).bind fun x1 =>
  if x1 = 0 then (
    some ((-1), M)) else (
    if i2 < 1 then (
      some ((-2), M)) else (
      if i2 ≤ 9999 then (
        (fR M a0 11 0).bind fun x3 =>
        (fI M x3 5 1).bind fun x5 =>
        if x5 < 6 then (
          (fR M a0 11 0).bind fun x7 =>
          (fI M x7 5 1).bind fun x9 =>
          (fR M a0 11 0).bind fun x11 =>
          (fR M x11 5 0).bind fun x13 =>
          (aR 5 M x13 x9).bind fun x15 =>
          (zKinds i1).bind fun x17 =>
          (oO M x15 3).bind fun _ =>
          (m_X2_begin N x15 x17 i2 M).bind fun x21 =>
          (fR x21 a0 11 0).bind fun x23 =>
          (fI x21 x23 5 1).bind fun x25 =>
          (sV x21 x23 5 1 (.int (x25 + 1))).bind fun M27 =>
          (fR M27 a0 11 3).bind fun x29 =>
          (oO M27 x29 10).bind fun _ =>
          (m_X10_forget x29 M27).bind fun x33 =>
          some (x9, x33)) else (
          some ((-4), M))) else (
        some ((-2), M))))
set_option maxHeartbeats 4000000 in
set_option maxRecDepth 100000 in
theorem t_X11_fare {L0 : Launch} {M : mM} {N : Nat} {a0 : Nat} {i1 : Int32} {i2 : Int32} {res : Int32 × mM} (hf : m_X11_fare N a0 i1 i2 M = some res) : CT L0 yX11_fare prog_1_method_2_code 4 (some .int) 2 45 0 0 [.ref a0, .int i1, .int i2] M (some (.int res.1)) res.2 := by
  refine CT.of (by decide +kernel) (Nat.le_of_ble_eq_true rfl) fun X C E => ?_
  have C : CX X RX11 "fare" prog_1_method_2_code 4 (some .int) := C
  show EV X 4 0 [(0, .ref a0), (1, .int i1), (2, .int i2)] [] 0 0 M
  unfold m_X11_fare at hf
  refine ev_iload_n C dX11_fare_0 rfl (q := 1) rfl ?_
  refine ev_sKinds C kw_433 dX11_fare_1 ?_
  refine ev_zlenK C dX11_fare_4 ?_
  refine ev_iconst (v := 1) C dX11_fare_5 (by decide) ?_
  refine ev_isub C dX11_fare_6 ?_
  obtain ⟨x1, e2, hf⟩ := obnd hf
  refine ev_callS0 (As := [.int i1, .int (4 - 1)]) (st := []) C (t_X11_within e2) hd_X11_within rfl kw_435 kw_436 kw_70 kw_437 (mRoom.of E (Nat.le_of_ble_eq_true rfl) (Nat.le_of_ble_eq_true rfl) (Nat.le_refl 0) (Nat.le_refl 0)) (Nat.le_of_ble_eq_true rfl) dX11_fare_7 ?_
  refine ev_if_ne (tgt := 15) C dX11_fare_10 (by decide) (fun hc => ?_) (fun hc => ?_)
  · have hf := oie hf hc
    refine ev_iload_n C dX11_fare_15 rfl (q := 2) rfl ?_
    refine ev_iconst (v := 1) C dX11_fare_16 (by decide) ?_
    refine ev_icmp_lt (tgt := 27) C dX11_fare_17 (by decide) (fun hc => ?_) (fun hc => ?_)
    · have hf := oit hf hc
      refine ev_bipush (v := (-2)) C dX11_fare_27 (by decide) ?_
      obtain rfl := Option.some.inj hf
      exact ev_iret C E (Nat.le_refl 0) (Nat.le_refl 0) dX11_fare_29
    · have hf := oie hf hc
      refine ev_iload_n C dX11_fare_20 rfl (q := 2) rfl ?_
      refine ev_sipush (v := 9999) C dX11_fare_21 (by decide) ?_
      refine ev_icmp_le (tgt := 30) C dX11_fare_24 (by decide) (fun hc => ?_) (fun hc => ?_)
      · have hf := oit hf hc
        refine ev_aload_n C dX11_fare_30 rfl (q := 0) rfl ?_
        obtain ⟨x3, e4, hf⟩ := obnd hf
        refine ev_get (k := 0) C ok_11 dX11_fare_31 (by decide) kw_392 (fR_V e4) ?_
        obtain ⟨x5, e6, hf⟩ := obnd hf
        refine ev_get (k := 1) C ok_5 dX11_fare_34 (by decide) kw_183 (fI_V e6) ?_
        refine ev_bipush (v := 6) C dX11_fare_37 (by decide) ?_
        refine ev_icmp_lt (tgt := 45) C dX11_fare_39 (by decide) (fun hc => ?_) (fun hc => ?_)
        · have hf := oit hf hc
          refine ev_aload_n C dX11_fare_45 rfl (q := 0) rfl ?_
          obtain ⟨x7, e8, hf⟩ := obnd hf
          refine ev_get (k := 0) C ok_11 dX11_fare_46 (by decide) kw_392 (fR_V e8) ?_
          obtain ⟨x9, e10, hf⟩ := obnd hf
          refine ev_get (k := 1) C ok_5 dX11_fare_49 (by decide) kw_183 (fI_V e10) ?_
          refine ev_istore_n (l' := [(3, .int x9), (0, .ref a0), (1, .int i1), (2, .int i2)]) C dX11_fare_52 rfl (by decide) rfl ?_
          refine ev_aload_n C dX11_fare_53 rfl (q := 1) rfl ?_
          obtain ⟨x11, e12, hf⟩ := obnd hf
          refine ev_get (k := 0) C ok_11 dX11_fare_54 (by decide) kw_392 (fR_V e12) ?_
          obtain ⟨x13, e14, hf⟩ := obnd hf
          refine ev_get (k := 0) C ok_5 dX11_fare_57 (by decide) kw_177 (fR_V e14) ?_
          refine ev_iload_n C dX11_fare_60 rfl (q := 0) rfl ?_
          obtain ⟨x15, e16, hf⟩ := obnd hf
          refine ev_aldr C (t := 5) rfl rfl dX11_fare_61 e16 ?_
          refine ev_sKinds C kw_433 dX11_fare_62 ?_
          refine ev_iload_n C dX11_fare_65 rfl (q := 2) rfl ?_
          obtain ⟨x17, e18, hf⟩ := obnd hf
          refine ev_zKinds C dX11_fare_66 e18 ?_
          refine ev_iload_n C dX11_fare_67 rfl (q := 3) rfl ?_
          obtain ⟨_, e19, hf⟩ := obnd hf
          obtain ⟨fs20, e19⟩ := oO_eq e19
          obtain ⟨x21, e22, hf⟩ := obnd hf
          refine ev_callV0 (As := [.ref x17, .int i2]) (st := []) C rfl e19 (t_X2_begin e22) rfl hd_X2_begin rfl kw_438 kw_439 kw_73 kw_440 kw_441 (mRoom.of E (Nat.le_of_ble_eq_true rfl) (Nat.le_of_ble_eq_true rfl) (Nat.le_refl 0) (Nat.le_refl 0)) (Nat.le_of_ble_eq_true rfl) dX11_fare_68 ?_
          refine ev_aload_n C dX11_fare_71 rfl (q := 1) rfl ?_
          obtain ⟨x23, e24, hf⟩ := obnd hf
          refine ev_get (k := 0) C ok_11 dX11_fare_72 (by decide) kw_392 (fR_V e24) ?_
          refine ev_dup C dX11_fare_75 rfl ?_
          obtain ⟨x25, e26, hf⟩ := obnd hf
          refine ev_get (k := 1) C ok_5 dX11_fare_76 (by decide) kw_183 (fI_V e26) ?_
          refine ev_iconst (v := 1) C dX11_fare_79 (by decide) ?_
          refine ev_iadd C dX11_fare_80 ?_
          obtain ⟨M27, e28, hf⟩ := obnd hf
          refine ev_put (k := 1) C ok_5 dX11_fare_81 (by decide) kw_183 rfl ⟨rfl, rfl⟩ e28 ?_
          refine ev_aload_n C dX11_fare_84 rfl (q := 1) rfl ?_
          obtain ⟨x29, e30, hf⟩ := obnd hf
          refine ev_get (k := 3) C ok_11 dX11_fare_85 (by decide) kw_395 (fR_V e30) ?_
          obtain ⟨_, e31, hf⟩ := obnd hf
          obtain ⟨fs32, e31⟩ := oO_eq e31
          obtain ⟨x33, e34, hf⟩ := obnd hf
          refine ev_callV0 (As := []) (st := []) C rfl e31 (t_X10_forget e34) rfl hd_X10_forget rfl kw_443 kw_444 kw_76 kw_445 kw_446 (mRoom.of E (Nat.le_of_ble_eq_true rfl) (Nat.le_of_ble_eq_true rfl) (Nat.le_refl 0) (Nat.le_refl 0)) (Nat.le_of_ble_eq_true rfl) dX11_fare_88 ?_
          refine ev_iload_n C dX11_fare_91 rfl (q := 0) rfl ?_
          obtain rfl := Option.some.inj hf
          exact ev_iret C E (Nat.le_refl 0) (Nat.le_refl 0) dX11_fare_92
        · have hf := oie hf hc
          refine ev_bipush (v := (-4)) C dX11_fare_42 (by decide) ?_
          obtain rfl := Option.some.inj hf
          exact ev_iret C E (Nat.le_refl 0) (Nat.le_refl 0) dX11_fare_44
      · have hf := oie hf hc
        refine ev_bipush (v := (-2)) C dX11_fare_27 (by decide) ?_
        obtain rfl := Option.some.inj hf
        exact ev_iret C E (Nat.le_refl 0) (Nat.le_refl 0) dX11_fare_29
  · have hf := oit hf hc
    refine ev_iconst (v := (-1)) C dX11_fare_13 (by decide) ?_
    obtain rfl := Option.some.inj hf
    exact ev_iret C E (Nat.le_refl 0) (Nat.le_refl 0) dX11_fare_14
/-! FareLimits$Plan hasFare(I)Z -/
theorem dX5_hasFare_0 : decode prog_7_method_3_code 0 = .ok (.iload_n 1, 1) := by decide +kernel
theorem dX5_hasFare_1 : decode prog_7_method_3_code 1 = .ok (.ifCond .lt 15, 3) := by decide +kernel
theorem dX5_hasFare_4 : decode prog_7_method_3_code 4 = .ok (.iload_n 1, 1) := by decide +kernel
theorem dX5_hasFare_5 : decode prog_7_method_3_code 5 = .ok (.aload_n 0, 1) := by decide +kernel
theorem dX5_hasFare_6 : decode prog_7_method_3_code 6 = .ok (.getfield 37, 3) := by decide +kernel
theorem dX5_hasFare_9 : decode prog_7_method_3_code 9 = .ok (.if_icmp .ge 7, 3) := by decide +kernel
theorem dX5_hasFare_12 : decode prog_7_method_3_code 12 = .ok (.iconst 1, 1) := by decide +kernel
theorem dX5_hasFare_13 : decode prog_7_method_3_code 13 = .ok (.goto 4, 3) := by decide +kernel
theorem dX5_hasFare_16 : decode prog_7_method_3_code 16 = .ok (.iconst 0, 1) := by decide +kernel
theorem dX5_hasFare_17 : decode prog_7_method_3_code 17 = .ok (.ireturn, 1) := by decide +kernel
def m_X5_hasFare (a0 : Nat) (i1 : Int32) (M : mM) : Option (Int32) :=
  if i1 < 0 then (
    some 0) else (
    (fI M a0 5 1).bind fun x1 =>
    if x1 ≤ i1 then (
      some 0) else (
      some 1))
set_option maxHeartbeats 4000000 in
set_option maxRecDepth 100000 in
theorem t_X5_hasFare {L0 : Launch} {M : mM} {a0 : Nat} {i1 : Int32} {res : Int32} (hf : m_X5_hasFare a0 i1 M = some res) : CT L0 yX5_hasFare prog_7_method_3_code 2 (some .boolean) 0 0 0 0 [.ref a0, .int i1] M (some (.int res)) M := by
  refine CT.of (by decide +kernel) (Nat.le_of_ble_eq_true rfl) fun X C E => ?_
  have C : CX X RX5 "hasFare" prog_7_method_3_code 2 (some .boolean) := C
  show EV X 2 0 [(0, .ref a0), (1, .int i1)] [] 0 0 M
  unfold m_X5_hasFare at hf
  refine ev_iload_n C dX5_hasFare_0 rfl (q := 1) rfl ?_
  refine ev_if_lt (tgt := 16) C dX5_hasFare_1 (by decide) (fun hc => ?_) (fun hc => ?_)
  · have hf := oit hf hc
    refine ev_iconst (v := 0) C dX5_hasFare_16 (by decide) ?_
    obtain rfl := Option.some.inj hf
    exact ev_zret C (by decide) E (Nat.le_refl 0) (Nat.le_refl 0) dX5_hasFare_17
  · have hf := oie hf hc
    refine ev_iload_n C dX5_hasFare_4 rfl (q := 1) rfl ?_
    refine ev_aload_n C dX5_hasFare_5 rfl (q := 0) rfl ?_
    obtain ⟨x1, e2, hf⟩ := obnd hf
    refine ev_get (k := 1) C ok_5 dX5_hasFare_6 (by decide) kw_182 (fI_V e2) ?_
    refine ev_icmp_ge (tgt := 16) C dX5_hasFare_9 (by decide) (fun hc => ?_) (fun hc => ?_)
    · have hf := oit hf hc
      refine ev_iconst (v := 0) C dX5_hasFare_16 (by decide) ?_
      obtain rfl := Option.some.inj hf
      exact ev_zret C (by decide) E (Nat.le_refl 0) (Nat.le_refl 0) dX5_hasFare_17
    · have hf := oie hf hc
      refine ev_iconst (v := 1) C dX5_hasFare_12 (by decide) ?_
      refine ev_goto (tgt := 17) C dX5_hasFare_13 (by decide) ?_
      obtain rfl := Option.some.inj hf
      exact ev_zret C (by decide) E (Nat.le_refl 0) (Nat.le_refl 0) dX5_hasFare_17
/-! FareLimits of(II)I -/
theorem dX11_of_0 : decode prog_1_method_3_code 0 = .ok (.aload_n 0, 1) := by decide +kernel
theorem dX11_of_1 : decode prog_1_method_3_code 1 = .ok (.getfield 12, 3) := by decide +kernel
theorem dX11_of_4 : decode prog_1_method_3_code 4 = .ok (.iload_n 1, 1) := by decide +kernel
theorem dX11_of_5 : decode prog_1_method_3_code 5 = .ok (.invokevirtual 112, 3) := by decide +kernel
theorem dX11_of_8 : decode prog_1_method_3_code 8 = .ok (.ifCond .eq 11, 3) := by decide +kernel
theorem dX11_of_11 : decode prog_1_method_3_code 11 = .ok (.iload_n 2, 1) := by decide +kernel
theorem dX11_of_12 : decode prog_1_method_3_code 12 = .ok (.iconst 5, 1) := by decide +kernel
theorem dX11_of_13 : decode prog_1_method_3_code 13 = .ok (.invokestatic 91, 3) := by decide +kernel
theorem dX11_of_16 : decode prog_1_method_3_code 16 = .ok (.ifCond .ne 5, 3) := by decide +kernel
theorem dX11_of_19 : decode prog_1_method_3_code 19 = .ok (.iconst (-1), 1) := by decide +kernel
theorem dX11_of_20 : decode prog_1_method_3_code 20 = .ok (.ireturn, 1) := by decide +kernel
theorem dX11_of_21 : decode prog_1_method_3_code 21 = .ok (.aload_n 0, 1) := by decide +kernel
theorem dX11_of_22 : decode prog_1_method_3_code 22 = .ok (.getfield 12, 3) := by decide +kernel
theorem dX11_of_25 : decode prog_1_method_3_code 25 = .ok (.getfield 99, 3) := by decide +kernel
theorem dX11_of_28 : decode prog_1_method_3_code 28 = .ok (.iload_n 1, 1) := by decide +kernel
theorem dX11_of_29 : decode prog_1_method_3_code 29 = .ok (.aaload, 1) := by decide +kernel
theorem dX11_of_30 : decode prog_1_method_3_code 30 = .ok (.astore_n 3, 1) := by decide +kernel
theorem dX11_of_31 : decode prog_1_method_3_code 31 = .ok (.iload_n 2, 1) := by decide +kernel
theorem dX11_of_32 : decode prog_1_method_3_code 32 = .ok (.ifCond .ne 11, 3) := by decide +kernel
theorem dX11_of_35 : decode prog_1_method_3_code 35 = .ok (.aload_n 3, 1) := by decide +kernel
theorem dX11_of_36 : decode prog_1_method_3_code 36 = .ok (.getfield 116, 3) := by decide +kernel
theorem dX11_of_39 : decode prog_1_method_3_code 39 = .ok (.getfield 120, 3) := by decide +kernel
theorem dX11_of_42 : decode prog_1_method_3_code 42 = .ok (.ireturn, 1) := by decide +kernel
theorem dX11_of_43 : decode prog_1_method_3_code 43 = .ok (.iload_n 2, 1) := by decide +kernel
theorem dX11_of_44 : decode prog_1_method_3_code 44 = .ok (.iconst 1, 1) := by decide +kernel
theorem dX11_of_45 : decode prog_1_method_3_code 45 = .ok (.if_icmp .ne 10, 3) := by decide +kernel
theorem dX11_of_48 : decode prog_1_method_3_code 48 = .ok (.aload_n 3, 1) := by decide +kernel
theorem dX11_of_49 : decode prog_1_method_3_code 49 = .ok (.getfield 125, 3) := by decide +kernel
theorem dX11_of_52 : decode prog_1_method_3_code 52 = .ok (.goto 11, 3) := by decide +kernel
theorem dX11_of_55 : decode prog_1_method_3_code 55 = .ok (.aload_n 3, 1) := by decide +kernel
theorem dX11_of_56 : decode prog_1_method_3_code 56 = .ok (.getfield 128, 3) := by decide +kernel
theorem dX11_of_59 : decode prog_1_method_3_code 59 = .ok (.iload_n 2, 1) := by decide +kernel
theorem dX11_of_60 : decode prog_1_method_3_code 60 = .ok (.iconst 2, 1) := by decide +kernel
theorem dX11_of_61 : decode prog_1_method_3_code 61 = .ok (.isub, 1) := by decide +kernel
theorem dX11_of_62 : decode prog_1_method_3_code 62 = .ok (.iaload, 1) := by decide +kernel
theorem dX11_of_63 : decode prog_1_method_3_code 63 = .ok (.ireturn, 1) := by decide +kernel
def m_X11_of (a0 : Nat) (i1 : Int32) (i2 : Int32) (M : mM) : Option (Int32) :=
  (fR M a0 11 0).bind fun x1 =>
  (oO M x1 5).bind fun _ =>
  (m_X5_hasFare x1 i1 M).bind fun x5 =>
  if x5 = 0 then (
    some (-1)) else (
    (m_X11_within i2 5).bind fun x7 =>
    if x7 = 0 then (
      some (-1)) else (
      (fR M a0 11 0).bind fun x9 =>
      (fR M x9 5 0).bind fun x11 =>
      (aR 5 M x11 i1).bind fun x13 =>
      if i2 = 0 then (
        (fR M x13 3 0).bind fun x21 =>
        (zK0 x21).bind fun x23 =>
        some x23) else (
        if i2 = 1 then (
          (fI M x13 3 1).bind fun x19 =>
          some x19) else (
          (fR M x13 3 3).bind fun x15 =>
          (aI 0 M x15 (i2 - 2)).bind fun x17 =>
          some x17))))
set_option maxHeartbeats 4000000 in
set_option maxRecDepth 100000 in
theorem t_X11_of {L0 : Launch} {M : mM} {a0 : Nat} {i1 : Int32} {i2 : Int32} {res : Int32} (hf : m_X11_of a0 i1 i2 M = some res) : CT L0 yX11_of prog_1_method_3_code 4 (some .int) 1 21 0 0 [.ref a0, .int i1, .int i2] M (some (.int res)) M := by
  refine CT.of (by decide +kernel) (Nat.le_of_ble_eq_true rfl) fun X C E => ?_
  have C : CX X RX11 "of" prog_1_method_3_code 4 (some .int) := C
  show EV X 4 0 [(0, .ref a0), (1, .int i1), (2, .int i2)] [] 0 0 M
  unfold m_X11_of at hf
  refine ev_aload_n C dX11_of_0 rfl (q := 0) rfl ?_
  obtain ⟨x1, e2, hf⟩ := obnd hf
  refine ev_get (k := 0) C ok_11 dX11_of_1 (by decide) kw_392 (fR_V e2) ?_
  refine ev_iload_n C dX11_of_4 rfl (q := 1) rfl ?_
  obtain ⟨_, e3, hf⟩ := obnd hf
  obtain ⟨fs4, e3⟩ := oO_eq e3
  obtain ⟨x5, e6, hf⟩ := obnd hf
  refine ev_callV0 (As := [.int i1]) (st := []) C rfl e3 (t_X5_hasFare e6) rfl hd_X5_hasFare rfl kw_451 kw_452 kw_71 kw_453 kw_454 (mRoom.of E (Nat.le_of_ble_eq_true rfl) (Nat.le_of_ble_eq_true rfl) (Nat.le_refl 0) (Nat.le_refl 0)) (Nat.le_of_ble_eq_true rfl) dX11_of_5 ?_
  refine ev_if_eq (tgt := 19) C dX11_of_8 (by decide) (fun hc => ?_) (fun hc => ?_)
  · have hf := oit hf hc
    refine ev_iconst (v := (-1)) C dX11_of_19 (by decide) ?_
    obtain rfl := Option.some.inj hf
    exact ev_iret C E (Nat.le_refl 0) (Nat.le_refl 0) dX11_of_20
  · have hf := oie hf hc
    refine ev_iload_n C dX11_of_11 rfl (q := 2) rfl ?_
    refine ev_iconst (v := 5) C dX11_of_12 (by decide) ?_
    obtain ⟨x7, e8, hf⟩ := obnd hf
    refine ev_callS0 (As := [.int i2, .int 5]) (st := []) C (t_X11_within e8) hd_X11_within rfl kw_435 kw_436 kw_70 kw_437 (mRoom.of E (Nat.le_of_ble_eq_true rfl) (Nat.le_of_ble_eq_true rfl) (Nat.le_refl 0) (Nat.le_refl 0)) (Nat.le_of_ble_eq_true rfl) dX11_of_13 ?_
    refine ev_if_ne (tgt := 21) C dX11_of_16 (by decide) (fun hc => ?_) (fun hc => ?_)
    · have hf := oie hf hc
      refine ev_aload_n C dX11_of_21 rfl (q := 0) rfl ?_
      obtain ⟨x9, e10, hf⟩ := obnd hf
      refine ev_get (k := 0) C ok_11 dX11_of_22 (by decide) kw_392 (fR_V e10) ?_
      obtain ⟨x11, e12, hf⟩ := obnd hf
      refine ev_get (k := 0) C ok_5 dX11_of_25 (by decide) kw_177 (fR_V e12) ?_
      refine ev_iload_n C dX11_of_28 rfl (q := 1) rfl ?_
      obtain ⟨x13, e14, hf⟩ := obnd hf
      refine ev_aldr C (t := 5) rfl rfl dX11_of_29 e14 ?_
      refine ev_astore_n (l' := [(3, .ref x13), (0, .ref a0), (1, .int i1), (2, .int i2)]) C dX11_of_30 rfl (by decide) rfl ?_
      refine ev_iload_n C dX11_of_31 rfl (q := 3) rfl ?_
      refine ev_if_ne (tgt := 43) C dX11_of_32 (by decide) (fun hc => ?_) (fun hc => ?_)
      · have hf := oie hf hc
        refine ev_iload_n C dX11_of_43 rfl (q := 3) rfl ?_
        refine ev_iconst (v := 1) C dX11_of_44 (by decide) ?_
        refine ev_icmp_ne (tgt := 55) C dX11_of_45 (by decide) (fun hc => ?_) (fun hc => ?_)
        · have hf := oie hf hc
          refine ev_aload_n C dX11_of_55 rfl (q := 0) rfl ?_
          obtain ⟨x15, e16, hf⟩ := obnd hf
          refine ev_get (k := 3) C ok_3 dX11_of_56 (by decide) kw_162 (fR_V e16) ?_
          refine ev_iload_n C dX11_of_59 rfl (q := 3) rfl ?_
          refine ev_iconst (v := 2) C dX11_of_60 (by decide) ?_
          refine ev_isub C dX11_of_61 ?_
          obtain ⟨x17, e18, hf⟩ := obnd hf
          refine ev_iald C dX11_of_62 e18 ?_
          obtain rfl := Option.some.inj hf
          exact ev_iret C E (Nat.le_refl 0) (Nat.le_refl 0) dX11_of_63
        · have hf := oit hf hc
          refine ev_aload_n C dX11_of_48 rfl (q := 0) rfl ?_
          obtain ⟨x19, e20, hf⟩ := obnd hf
          refine ev_get (k := 1) C ok_3 dX11_of_49 (by decide) kw_153 (fI_V e20) ?_
          refine ev_goto (tgt := 63) C dX11_of_52 (by decide) ?_
          obtain rfl := Option.some.inj hf
          exact ev_iret C E (Nat.le_refl 0) (Nat.le_refl 0) dX11_of_63
      · have hf := oit hf hc
        refine ev_aload_n C dX11_of_35 rfl (q := 0) rfl ?_
        obtain ⟨x21, e22, hf⟩ := obnd hf
        refine ev_get (k := 0) C ok_3 dX11_of_36 (by decide) kw_149 (fR_V e22) ?_
        obtain ⟨x23, e24, hf⟩ := obnd hf
        refine ev_zK0 C kw_1711 dX11_of_39 e24 ?_
        obtain rfl := Option.some.inj hf
        exact ev_iret C E (Nat.le_refl 0) (Nat.le_refl 0) dX11_of_42
    · have hf := oit hf hc
      refine ev_iconst (v := (-1)) C dX11_of_19 (by decide) ?_
      obtain rfl := Option.some.inj hf
      exact ev_iret C E (Nat.le_refl 0) (Nat.le_refl 0) dX11_of_20
/-! FareLimits$Plan oddsTogether(I)I -/
theorem dX5_oddsTogether_0 : decode prog_7_method_4_code 0 = .ok (.iconst 0, 1) := by decide +kernel
theorem dX5_oddsTogether_1 : decode prog_7_method_4_code 1 = .ok (.istore_n 2, 1) := by decide +kernel
theorem dX5_oddsTogether_2 : decode prog_7_method_4_code 2 = .ok (.iconst 0, 1) := by decide +kernel
theorem dX5_oddsTogether_3 : decode prog_7_method_4_code 3 = .ok (.istore_n 3, 1) := by decide +kernel
theorem dX5_oddsTogether_4 : decode prog_7_method_4_code 4 = .ok (.iload_n 3, 1) := by decide +kernel
theorem dX5_oddsTogether_5 : decode prog_7_method_4_code 5 = .ok (.aload_n 0, 1) := by decide +kernel
theorem dX5_oddsTogether_6 : decode prog_7_method_4_code 6 = .ok (.getfield 37, 3) := by decide +kernel
theorem dX5_oddsTogether_9 : decode prog_7_method_4_code 9 = .ok (.if_icmp .ge 23, 3) := by decide +kernel
theorem dX5_oddsTogether_12 : decode prog_7_method_4_code 12 = .ok (.iload_n 2, 1) := by decide +kernel
theorem dX5_oddsTogether_13 : decode prog_7_method_4_code 13 = .ok (.aload_n 0, 1) := by decide +kernel
theorem dX5_oddsTogether_14 : decode prog_7_method_4_code 14 = .ok (.getfield 11, 3) := by decide +kernel
theorem dX5_oddsTogether_17 : decode prog_7_method_4_code 17 = .ok (.iload_n 3, 1) := by decide +kernel
theorem dX5_oddsTogether_18 : decode prog_7_method_4_code 18 = .ok (.aaload, 1) := by decide +kernel
theorem dX5_oddsTogether_19 : decode prog_7_method_4_code 19 = .ok (.getfield 49, 3) := by decide +kernel
theorem dX5_oddsTogether_22 : decode prog_7_method_4_code 22 = .ok (.iload_n 1, 1) := by decide +kernel
theorem dX5_oddsTogether_23 : decode prog_7_method_4_code 23 = .ok (.iaload, 1) := by decide +kernel
theorem dX5_oddsTogether_24 : decode prog_7_method_4_code 24 = .ok (.iadd, 1) := by decide +kernel
theorem dX5_oddsTogether_25 : decode prog_7_method_4_code 25 = .ok (.istore_n 2, 1) := by decide +kernel
theorem dX5_oddsTogether_26 : decode prog_7_method_4_code 26 = .ok (.iinc 3 1, 3) := by decide +kernel
theorem dX5_oddsTogether_29 : decode prog_7_method_4_code 29 = .ok (.goto (-25), 3) := by decide +kernel
theorem dX5_oddsTogether_32 : decode prog_7_method_4_code 32 = .ok (.iload_n 2, 1) := by decide +kernel
theorem dX5_oddsTogether_33 : decode prog_7_method_4_code 33 = .ok (.ireturn, 1) := by decide +kernel
def m_X5_oddsTogether_L4 (N : Nat) (M : mM)  : Nat → Nat → Int32 → Int32 → Int32 → Option (Int32)
  | 0, _, _, _, _ => none
  | n + 1, a0, i1, i2, i3 =>
    (fI M a0 5 1).bind fun x1 =>
    if x1 ≤ i3 then (
      some i2) else (
      (fR M a0 5 0).bind fun x3 =>
      (aR 5 M x3 i3).bind fun x5 =>
      (fR M x5 3 3).bind fun x7 =>
      (aI 0 M x7 i1).bind fun x9 =>
      (m_X5_oddsTogether_L4 N M  n) a0 i1 (i2 + x9) (i3 + 1))
set_option maxHeartbeats 4000000 in
set_option maxRecDepth 100000 in
theorem t_X5_oddsTogether_L4 {X : mX} {M : mM} {L0 : Launch} {res : Int32} {N : Nat} (C : CX X RX5 "oddsTogether" prog_7_method_4_code 4 (some .int)) (E : EX X L0 0 0 0 0 (some (.int res)) M)   : ∀ (n : Nat) (a0 : Nat) (i1 : Int32) (i2 : Int32) (i3 : Int32), m_X5_oddsTogether_L4 N M  n a0 i1 i2 i3 = some res → EV X 4 4 [(0, .ref a0), (1, .int i1), (2, .int i2), (3, .int i3)] [] 0 0 M := by
  intro n
  induction n with
  | zero => intro a0 i1 i2 i3 hf; cases (show (none : Option (Int32)) = some res from hf)
  | succ n ih =>
    intro a0 i1 i2 i3 hf
    rw [m_X5_oddsTogether_L4] at hf
    refine ev_iload_n C dX5_oddsTogether_4 rfl (q := 3) rfl ?_
    refine ev_aload_n C dX5_oddsTogether_5 rfl (q := 0) rfl ?_
    obtain ⟨x1, e2, hf⟩ := obnd hf
    refine ev_get (k := 1) C ok_5 dX5_oddsTogether_6 (by decide) kw_182 (fI_V e2) ?_
    refine ev_icmp_ge (tgt := 32) C dX5_oddsTogether_9 (by decide) (fun hc => ?_) (fun hc => ?_)
    · have hf := oit hf hc
      refine ev_iload_n C dX5_oddsTogether_32 rfl (q := 2) rfl ?_
      obtain rfl := Option.some.inj hf
      exact ev_iret C E (Nat.le_refl 0) (Nat.le_refl 0) dX5_oddsTogether_33
    · have hf := oie hf hc
      refine ev_iload_n C dX5_oddsTogether_12 rfl (q := 2) rfl ?_
      refine ev_aload_n C dX5_oddsTogether_13 rfl (q := 0) rfl ?_
      obtain ⟨x3, e4, hf⟩ := obnd hf
      refine ev_get (k := 0) C ok_5 dX5_oddsTogether_14 (by decide) kw_176 (fR_V e4) ?_
      refine ev_iload_n C dX5_oddsTogether_17 rfl (q := 3) rfl ?_
      obtain ⟨x5, e6, hf⟩ := obnd hf
      refine ev_aldr C (t := 5) rfl rfl dX5_oddsTogether_18 e6 ?_
      obtain ⟨x7, e8, hf⟩ := obnd hf
      refine ev_get (k := 3) C ok_3 dX5_oddsTogether_19 (by decide) kw_163 (fR_V e8) ?_
      refine ev_iload_n C dX5_oddsTogether_22 rfl (q := 1) rfl ?_
      obtain ⟨x9, e10, hf⟩ := obnd hf
      refine ev_iald C dX5_oddsTogether_23 e10 ?_
      refine ev_iadd C dX5_oddsTogether_24 ?_
      refine ev_istore_n (l' := [(2, .int (i2 + x9)), (0, .ref a0), (1, .int i1), (3, .int i3)]) C dX5_oddsTogether_25 rfl (by decide) rfl ?_
      refine ev_iinc (v := i3 + 1) (l' := [(3, .int (i3 + 1)), (2, .int (i2 + x9)), (0, .ref a0), (1, .int i1)]) C dX5_oddsTogether_26 (q := 3) rfl rfl (by decide) rfl ?_
      refine ev_goto (tgt := 4) C dX5_oddsTogether_29 (by decide) ?_
      refine ev_sub [2, 3, 1, 0] rfl ?_
      exact ih a0 i1 (i2 + x9) (i3 + 1) hf
def m_X5_oddsTogether (N : Nat) (a0 : Nat) (i1 : Int32) (M : mM) : Option (Int32) :=
  m_X5_oddsTogether_L4 N M  N a0 i1 0 0
set_option maxHeartbeats 4000000 in
set_option maxRecDepth 100000 in
theorem t_X5_oddsTogether {L0 : Launch} {M : mM} {N : Nat} {a0 : Nat} {i1 : Int32} {res : Int32} (hf : m_X5_oddsTogether N a0 i1 M = some res) : CT L0 yX5_oddsTogether prog_7_method_4_code 4 (some .int) 0 0 0 0 [.ref a0, .int i1] M (some (.int res)) M := by
  refine CT.of (by decide +kernel) (Nat.le_of_ble_eq_true rfl) fun X C E => ?_
  have C : CX X RX5 "oddsTogether" prog_7_method_4_code 4 (some .int) := C
  show EV X 4 0 [(0, .ref a0), (1, .int i1)] [] 0 0 M
  unfold m_X5_oddsTogether at hf
  refine ev_iconst (v := 0) C dX5_oddsTogether_0 (by decide) ?_
  refine ev_istore_n (l' := [(2, .int 0), (0, .ref a0), (1, .int i1)]) C dX5_oddsTogether_1 rfl (by decide) rfl ?_
  refine ev_iconst (v := 0) C dX5_oddsTogether_2 (by decide) ?_
  refine ev_istore_n (l' := [(3, .int 0), (2, .int 0), (0, .ref a0), (1, .int i1)]) C dX5_oddsTogether_3 rfl (by decide) rfl ?_
  refine ev_sub [2, 3, 1, 0] rfl ?_
  exact t_X5_oddsTogether_L4 C E   N a0 i1 0 0 hf
/-! FareLimits odds(III)I -/
theorem dX11_odds_0 : decode prog_1_method_4_code 0 = .ok (.aload_n 0, 1) := by decide +kernel
theorem dX11_odds_1 : decode prog_1_method_4_code 1 = .ok (.getfield 12, 3) := by decide +kernel
theorem dX11_odds_4 : decode prog_1_method_4_code 4 = .ok (.iload_n 1, 1) := by decide +kernel
theorem dX11_odds_5 : decode prog_1_method_4_code 5 = .ok (.invokevirtual 112, 3) := by decide +kernel
theorem dX11_odds_8 : decode prog_1_method_4_code 8 = .ok (.ifCond .eq 11, 3) := by decide +kernel
theorem dX11_odds_11 : decode prog_1_method_4_code 11 = .ok (.iload_n 2, 1) := by decide +kernel
theorem dX11_odds_12 : decode prog_1_method_4_code 12 = .ok (.iconst 3, 1) := by decide +kernel
theorem dX11_odds_13 : decode prog_1_method_4_code 13 = .ok (.invokestatic 91, 3) := by decide +kernel
theorem dX11_odds_16 : decode prog_1_method_4_code 16 = .ok (.ifCond .ne 5, 3) := by decide +kernel
theorem dX11_odds_19 : decode prog_1_method_4_code 19 = .ok (.iconst (-1), 1) := by decide +kernel
theorem dX11_odds_20 : decode prog_1_method_4_code 20 = .ok (.ireturn, 1) := by decide +kernel
theorem dX11_odds_21 : decode prog_1_method_4_code 21 = .ok (.aload_n 0, 1) := by decide +kernel
theorem dX11_odds_22 : decode prog_1_method_4_code 22 = .ok (.getfield 12, 3) := by decide +kernel
theorem dX11_odds_25 : decode prog_1_method_4_code 25 = .ok (.getfield 99, 3) := by decide +kernel
theorem dX11_odds_28 : decode prog_1_method_4_code 28 = .ok (.iload_n 1, 1) := by decide +kernel
theorem dX11_odds_29 : decode prog_1_method_4_code 29 = .ok (.aaload, 1) := by decide +kernel
theorem dX11_odds_30 : decode prog_1_method_4_code 30 = .ok (.getfield 128, 3) := by decide +kernel
theorem dX11_odds_33 : decode prog_1_method_4_code 33 = .ok (.astore 4, 2) := by decide +kernel
theorem dX11_odds_35 : decode prog_1_method_4_code 35 = .ok (.iload_n 3, 1) := by decide +kernel
theorem dX11_odds_36 : decode prog_1_method_4_code 36 = .ok (.bipush 100, 2) := by decide +kernel
theorem dX11_odds_38 : decode prog_1_method_4_code 38 = .ok (.invokestatic 91, 3) := by decide +kernel
theorem dX11_odds_41 : decode prog_1_method_4_code 41 = .ok (.ifCond .eq 23, 3) := by decide +kernel
theorem dX11_odds_44 : decode prog_1_method_4_code 44 = .ok (.aload_n 0, 1) := by decide +kernel
theorem dX11_odds_45 : decode prog_1_method_4_code 45 = .ok (.getfield 12, 3) := by decide +kernel
theorem dX11_odds_48 : decode prog_1_method_4_code 48 = .ok (.iload_n 2, 1) := by decide +kernel
theorem dX11_odds_49 : decode prog_1_method_4_code 49 = .ok (.invokevirtual 131, 3) := by decide +kernel
theorem dX11_odds_52 : decode prog_1_method_4_code 52 = .ok (.aload 4, 2) := by decide +kernel
theorem dX11_odds_54 : decode prog_1_method_4_code 54 = .ok (.iload_n 2, 1) := by decide +kernel
theorem dX11_odds_55 : decode prog_1_method_4_code 55 = .ok (.iaload, 1) := by decide +kernel
theorem dX11_odds_56 : decode prog_1_method_4_code 56 = .ok (.isub, 1) := by decide +kernel
theorem dX11_odds_57 : decode prog_1_method_4_code 57 = .ok (.iload_n 3, 1) := by decide +kernel
theorem dX11_odds_58 : decode prog_1_method_4_code 58 = .ok (.iadd, 1) := by decide +kernel
theorem dX11_odds_59 : decode prog_1_method_4_code 59 = .ok (.bipush 100, 2) := by decide +kernel
theorem dX11_odds_61 : decode prog_1_method_4_code 61 = .ok (.if_icmp .le 6, 3) := by decide +kernel
theorem dX11_odds_64 : decode prog_1_method_4_code 64 = .ok (.bipush (-2), 2) := by decide +kernel
theorem dX11_odds_66 : decode prog_1_method_4_code 66 = .ok (.ireturn, 1) := by decide +kernel
theorem dX11_odds_67 : decode prog_1_method_4_code 67 = .ok (.aload 4, 2) := by decide +kernel
theorem dX11_odds_69 : decode prog_1_method_4_code 69 = .ok (.iload_n 2, 1) := by decide +kernel
theorem dX11_odds_70 : decode prog_1_method_4_code 70 = .ok (.iaload, 1) := by decide +kernel
theorem dX11_odds_71 : decode prog_1_method_4_code 71 = .ok (.istore 5, 2) := by decide +kernel
theorem dX11_odds_73 : decode prog_1_method_4_code 73 = .ok (.aload 4, 2) := by decide +kernel
theorem dX11_odds_75 : decode prog_1_method_4_code 75 = .ok (.iload_n 2, 1) := by decide +kernel
theorem dX11_odds_76 : decode prog_1_method_4_code 76 = .ok (.iload_n 3, 1) := by decide +kernel
theorem dX11_odds_77 : decode prog_1_method_4_code 77 = .ok (.iastore, 1) := by decide +kernel
theorem dX11_odds_78 : decode prog_1_method_4_code 78 = .ok (.aload_n 0, 1) := by decide +kernel
theorem dX11_odds_79 : decode prog_1_method_4_code 79 = .ok (.getfield 24, 3) := by decide +kernel
theorem dX11_odds_82 : decode prog_1_method_4_code 82 = .ok (.invokevirtual 109, 3) := by decide +kernel
theorem dX11_odds_85 : decode prog_1_method_4_code 85 = .ok (.iload 5, 2) := by decide +kernel
theorem dX11_odds_87 : decode prog_1_method_4_code 87 = .ok (.ireturn, 1) := by decide +kernel
def m_X11_odds (N : Nat) (a0 : Nat) (i1 : Int32) (i2 : Int32) (i3 : Int32) (M : mM) : Option (Int32 × mM) :=
  (fR M a0 11 0).bind fun x1 =>
  (oO M x1 5).bind fun _ =>
  (m_X5_hasFare x1 i1 M).bind fun x5 =>
  if x5 = 0 then (
    some ((-1), M)) else (
    (m_X11_within i2 3).bind fun x7 =>
    if x7 = 0 then (
      some ((-1), M)) else (
      (fR M a0 11 0).bind fun x9 =>
      (fR M x9 5 0).bind fun x11 =>
      (aR 5 M x11 i1).bind fun x13 =>
      (fR M x13 3 3).bind fun x15 =>
      (m_X11_within i3 100).bind fun x17 =>
      if x17 = 0 then (
        some ((-2), M)) else (
        (fR M a0 11 0).bind fun x19 =>
        (oO M x19 5).bind fun _ =>
        (m_X5_oddsTogether N x19 i2 M).bind fun x23 =>
        (aI 0 M x15 i2).bind fun x25 =>
        if ((x23 - x25) + i3) ≤ 100 then (
          (aI 0 M x15 i2).bind fun x27 =>
          (uI 0 .int M x15 i2 i3).bind fun M29 =>
          (fR M29 a0 11 3).bind fun x31 =>
          (oO M29 x31 10).bind fun _ =>
          (m_X10_forget x31 M29).bind fun x35 =>
          some (x27, x35)) else (
          some ((-2), M)))))
set_option maxHeartbeats 4000000 in
set_option maxRecDepth 100000 in
theorem t_X11_odds {L0 : Launch} {M : mM} {N : Nat} {a0 : Nat} {i1 : Int32} {i2 : Int32} {i3 : Int32} {res : Int32 × mM} (hf : m_X11_odds N a0 i1 i2 i3 M = some res) : CT L0 yX11_odds prog_1_method_4_code 6 (some .int) 1 23 0 0 [.ref a0, .int i1, .int i2, .int i3] M (some (.int res.1)) res.2 := by
  refine CT.of (by decide +kernel) (Nat.le_of_ble_eq_true rfl) fun X C E => ?_
  have C : CX X RX11 "odds" prog_1_method_4_code 6 (some .int) := C
  show EV X 6 0 [(0, .ref a0), (1, .int i1), (2, .int i2), (3, .int i3)] [] 0 0 M
  unfold m_X11_odds at hf
  refine ev_aload_n C dX11_odds_0 rfl (q := 0) rfl ?_
  obtain ⟨x1, e2, hf⟩ := obnd hf
  refine ev_get (k := 0) C ok_11 dX11_odds_1 (by decide) kw_392 (fR_V e2) ?_
  refine ev_iload_n C dX11_odds_4 rfl (q := 1) rfl ?_
  obtain ⟨_, e3, hf⟩ := obnd hf
  obtain ⟨fs4, e3⟩ := oO_eq e3
  obtain ⟨x5, e6, hf⟩ := obnd hf
  refine ev_callV0 (As := [.int i1]) (st := []) C rfl e3 (t_X5_hasFare e6) rfl hd_X5_hasFare rfl kw_451 kw_452 kw_71 kw_453 kw_454 (mRoom.of E (Nat.le_of_ble_eq_true rfl) (Nat.le_of_ble_eq_true rfl) (Nat.le_refl 0) (Nat.le_refl 0)) (Nat.le_of_ble_eq_true rfl) dX11_odds_5 ?_
  refine ev_if_eq (tgt := 19) C dX11_odds_8 (by decide) (fun hc => ?_) (fun hc => ?_)
  · have hf := oit hf hc
    refine ev_iconst (v := (-1)) C dX11_odds_19 (by decide) ?_
    obtain rfl := Option.some.inj hf
    exact ev_iret C E (Nat.le_refl 0) (Nat.le_refl 0) dX11_odds_20
  · have hf := oie hf hc
    refine ev_iload_n C dX11_odds_11 rfl (q := 2) rfl ?_
    refine ev_iconst (v := 3) C dX11_odds_12 (by decide) ?_
    obtain ⟨x7, e8, hf⟩ := obnd hf
    refine ev_callS0 (As := [.int i2, .int 3]) (st := []) C (t_X11_within e8) hd_X11_within rfl kw_435 kw_436 kw_70 kw_437 (mRoom.of E (Nat.le_of_ble_eq_true rfl) (Nat.le_of_ble_eq_true rfl) (Nat.le_refl 0) (Nat.le_refl 0)) (Nat.le_of_ble_eq_true rfl) dX11_odds_13 ?_
    refine ev_if_ne (tgt := 21) C dX11_odds_16 (by decide) (fun hc => ?_) (fun hc => ?_)
    · have hf := oie hf hc
      refine ev_aload_n C dX11_odds_21 rfl (q := 0) rfl ?_
      obtain ⟨x9, e10, hf⟩ := obnd hf
      refine ev_get (k := 0) C ok_11 dX11_odds_22 (by decide) kw_392 (fR_V e10) ?_
      obtain ⟨x11, e12, hf⟩ := obnd hf
      refine ev_get (k := 0) C ok_5 dX11_odds_25 (by decide) kw_177 (fR_V e12) ?_
      refine ev_iload_n C dX11_odds_28 rfl (q := 1) rfl ?_
      obtain ⟨x13, e14, hf⟩ := obnd hf
      refine ev_aldr C (t := 5) rfl rfl dX11_odds_29 e14 ?_
      obtain ⟨x15, e16, hf⟩ := obnd hf
      refine ev_get (k := 3) C ok_3 dX11_odds_30 (by decide) kw_162 (fR_V e16) ?_
      refine ev_astore (l' := [(4, .ref x15), (0, .ref a0), (1, .int i1), (2, .int i2), (3, .int i3)]) C dX11_odds_33 (by decide) rfl ?_
      refine ev_iload_n C dX11_odds_35 rfl (q := 4) rfl ?_
      refine ev_bipush (v := 100) C dX11_odds_36 (by decide) ?_
      obtain ⟨x17, e18, hf⟩ := obnd hf
      refine ev_callS0 (As := [.int i3, .int 100]) (st := []) C (t_X11_within e18) hd_X11_within rfl kw_435 kw_436 kw_70 kw_437 (mRoom.of E (Nat.le_of_ble_eq_true rfl) (Nat.le_of_ble_eq_true rfl) (Nat.le_refl 0) (Nat.le_refl 0)) (Nat.le_of_ble_eq_true rfl) dX11_odds_38 ?_
      refine ev_if_eq (tgt := 64) C dX11_odds_41 (by decide) (fun hc => ?_) (fun hc => ?_)
      · have hf := oit hf hc
        refine ev_bipush (v := (-2)) C dX11_odds_64 (by decide) ?_
        obtain rfl := Option.some.inj hf
        exact ev_iret C E (Nat.le_refl 0) (Nat.le_refl 0) dX11_odds_66
      · have hf := oie hf hc
        refine ev_aload_n C dX11_odds_44 rfl (q := 1) rfl ?_
        obtain ⟨x19, e20, hf⟩ := obnd hf
        refine ev_get (k := 0) C ok_11 dX11_odds_45 (by decide) kw_392 (fR_V e20) ?_
        refine ev_iload_n C dX11_odds_48 rfl (q := 3) rfl ?_
        obtain ⟨_, e21, hf⟩ := obnd hf
        obtain ⟨fs22, e21⟩ := oO_eq e21
        obtain ⟨x23, e24, hf⟩ := obnd hf
        refine ev_callV0 (As := [.int i2]) (st := []) C rfl e21 (t_X5_oddsTogether e24) rfl hd_X5_oddsTogether rfl kw_459 kw_460 kw_71 kw_461 kw_462 (mRoom.of E (Nat.le_of_ble_eq_true rfl) (Nat.le_of_ble_eq_true rfl) (Nat.le_refl 0) (Nat.le_refl 0)) (Nat.le_of_ble_eq_true rfl) dX11_odds_49 ?_
        refine ev_aload C dX11_odds_52 (q := 0) rfl ?_
        refine ev_iload_n C dX11_odds_54 rfl (q := 3) rfl ?_
        obtain ⟨x25, e26, hf⟩ := obnd hf
        refine ev_iald C dX11_odds_55 e26 ?_
        refine ev_isub C dX11_odds_56 ?_
        refine ev_iload_n C dX11_odds_57 rfl (q := 4) rfl ?_
        refine ev_iadd C dX11_odds_58 ?_
        refine ev_bipush (v := 100) C dX11_odds_59 (by decide) ?_
        refine ev_icmp_le (tgt := 67) C dX11_odds_61 (by decide) (fun hc => ?_) (fun hc => ?_)
        · have hf := oit hf hc
          refine ev_aload C dX11_odds_67 (q := 0) rfl ?_
          refine ev_iload_n C dX11_odds_69 rfl (q := 3) rfl ?_
          obtain ⟨x27, e28, hf⟩ := obnd hf
          refine ev_iald C dX11_odds_70 e28 ?_
          refine ev_istore (l' := [(5, .int x27), (4, .ref x15), (0, .ref a0), (1, .int i1), (2, .int i2), (3, .int i3)]) C dX11_odds_71 (by decide) rfl ?_
          refine ev_aload C dX11_odds_73 (q := 1) rfl ?_
          refine ev_iload_n C dX11_odds_75 rfl (q := 4) rfl ?_
          refine ev_iload_n C dX11_odds_76 rfl (q := 5) rfl ?_
          obtain ⟨M29, e30, hf⟩ := obnd hf
          refine ev_iast C dX11_odds_77 e30 ?_
          refine ev_aload_n C dX11_odds_78 rfl (q := 2) rfl ?_
          obtain ⟨x31, e32, hf⟩ := obnd hf
          refine ev_get (k := 3) C ok_11 dX11_odds_79 (by decide) kw_395 (fR_V e32) ?_
          obtain ⟨_, e33, hf⟩ := obnd hf
          obtain ⟨fs34, e33⟩ := oO_eq e33
          obtain ⟨x35, e36, hf⟩ := obnd hf
          refine ev_callV0 (As := []) (st := []) C rfl e33 (t_X10_forget e36) rfl hd_X10_forget rfl kw_443 kw_444 kw_76 kw_445 kw_446 (mRoom.of E (Nat.le_of_ble_eq_true rfl) (Nat.le_of_ble_eq_true rfl) (Nat.le_refl 0) (Nat.le_refl 0)) (Nat.le_of_ble_eq_true rfl) dX11_odds_82 ?_
          refine ev_iload C dX11_odds_85 (q := 0) rfl ?_
          obtain rfl := Option.some.inj hf
          exact ev_iret C E (Nat.le_refl 0) (Nat.le_refl 0) dX11_odds_87
        · have hf := oie hf hc
          refine ev_bipush (v := (-2)) C dX11_odds_64 (by decide) ?_
          obtain rfl := Option.some.inj hf
          exact ev_iret C E (Nat.le_refl 0) (Nat.le_refl 0) dX11_odds_66
    · have hf := oit hf hc
      refine ev_iconst (v := (-1)) C dX11_odds_19 (by decide) ?_
      obtain rfl := Option.some.inj hf
      exact ev_iret C E (Nat.le_refl 0) (Nat.le_refl 0) dX11_odds_20
/-! FareLimits drop()I -/
theorem dX11_drop_0 : decode prog_1_method_5_code 0 = .ok (.aload_n 0, 1) := by decide +kernel
theorem dX11_drop_1 : decode prog_1_method_5_code 1 = .ok (.getfield 12, 3) := by decide +kernel
theorem dX11_drop_4 : decode prog_1_method_5_code 4 = .ok (.getfield 95, 3) := by decide +kernel
theorem dX11_drop_7 : decode prog_1_method_5_code 7 = .ok (.iconst 1, 1) := by decide +kernel
theorem dX11_drop_8 : decode prog_1_method_5_code 8 = .ok (.if_icmp .ge 6, 3) := by decide +kernel
theorem dX11_drop_11 : decode prog_1_method_5_code 11 = .ok (.bipush (-3), 2) := by decide +kernel
theorem dX11_drop_13 : decode prog_1_method_5_code 13 = .ok (.ireturn, 1) := by decide +kernel
theorem dX11_drop_14 : decode prog_1_method_5_code 14 = .ok (.aload_n 0, 1) := by decide +kernel
theorem dX11_drop_15 : decode prog_1_method_5_code 15 = .ok (.getfield 12, 3) := by decide +kernel
theorem dX11_drop_18 : decode prog_1_method_5_code 18 = .ok (.dup, 1) := by decide +kernel
theorem dX11_drop_19 : decode prog_1_method_5_code 19 = .ok (.getfield 95, 3) := by decide +kernel
theorem dX11_drop_22 : decode prog_1_method_5_code 22 = .ok (.iconst 1, 1) := by decide +kernel
theorem dX11_drop_23 : decode prog_1_method_5_code 23 = .ok (.isub, 1) := by decide +kernel
theorem dX11_drop_24 : decode prog_1_method_5_code 24 = .ok (.putfield 95, 3) := by decide +kernel
theorem dX11_drop_27 : decode prog_1_method_5_code 27 = .ok (.aload_n 0, 1) := by decide +kernel
theorem dX11_drop_28 : decode prog_1_method_5_code 28 = .ok (.getfield 24, 3) := by decide +kernel
theorem dX11_drop_31 : decode prog_1_method_5_code 31 = .ok (.invokevirtual 109, 3) := by decide +kernel
theorem dX11_drop_34 : decode prog_1_method_5_code 34 = .ok (.aload_n 0, 1) := by decide +kernel
theorem dX11_drop_35 : decode prog_1_method_5_code 35 = .ok (.getfield 12, 3) := by decide +kernel
theorem dX11_drop_38 : decode prog_1_method_5_code 38 = .ok (.getfield 95, 3) := by decide +kernel
theorem dX11_drop_41 : decode prog_1_method_5_code 41 = .ok (.ireturn, 1) := by decide +kernel
def m_X11_drop (a0 : Nat) (M : mM) : Option (Int32 × mM) :=
  (fR M a0 11 0).bind fun x1 =>
  (fI M x1 5 1).bind fun x3 =>
  if 1 ≤ x3 then (
    (fR M a0 11 0).bind fun x5 =>
    (fI M x5 5 1).bind fun x7 =>
    (sV M x5 5 1 (.int (x7 - 1))).bind fun M9 =>
    (fR M9 a0 11 3).bind fun x11 =>
    (oO M9 x11 10).bind fun _ =>
    (m_X10_forget x11 M9).bind fun x15 =>
    (fR x15 a0 11 0).bind fun x17 =>
    (fI x15 x17 5 1).bind fun x19 =>
    some (x19, x15)) else (
    some ((-3), M))
set_option maxHeartbeats 4000000 in
set_option maxRecDepth 100000 in
theorem t_X11_drop {L0 : Launch} {M : mM} {a0 : Nat} {res : Int32 × mM} (hf : m_X11_drop a0 M = some res) : CT L0 yX11_drop prog_1_method_5_code 1 (some .int) 1 20 0 0 [.ref a0] M (some (.int res.1)) res.2 := by
  refine CT.of (by decide +kernel) (Nat.le_of_ble_eq_true rfl) fun X C E => ?_
  have C : CX X RX11 "drop" prog_1_method_5_code 1 (some .int) := C
  show EV X 1 0 [(0, .ref a0)] [] 0 0 M
  unfold m_X11_drop at hf
  refine ev_aload_n C dX11_drop_0 rfl (q := 0) rfl ?_
  obtain ⟨x1, e2, hf⟩ := obnd hf
  refine ev_get (k := 0) C ok_11 dX11_drop_1 (by decide) kw_392 (fR_V e2) ?_
  obtain ⟨x3, e4, hf⟩ := obnd hf
  refine ev_get (k := 1) C ok_5 dX11_drop_4 (by decide) kw_183 (fI_V e4) ?_
  refine ev_iconst (v := 1) C dX11_drop_7 (by decide) ?_
  refine ev_icmp_ge (tgt := 14) C dX11_drop_8 (by decide) (fun hc => ?_) (fun hc => ?_)
  · have hf := oit hf hc
    refine ev_aload_n C dX11_drop_14 rfl (q := 0) rfl ?_
    obtain ⟨x5, e6, hf⟩ := obnd hf
    refine ev_get (k := 0) C ok_11 dX11_drop_15 (by decide) kw_392 (fR_V e6) ?_
    refine ev_dup C dX11_drop_18 rfl ?_
    obtain ⟨x7, e8, hf⟩ := obnd hf
    refine ev_get (k := 1) C ok_5 dX11_drop_19 (by decide) kw_183 (fI_V e8) ?_
    refine ev_iconst (v := 1) C dX11_drop_22 (by decide) ?_
    refine ev_isub C dX11_drop_23 ?_
    obtain ⟨M9, e10, hf⟩ := obnd hf
    refine ev_put (k := 1) C ok_5 dX11_drop_24 (by decide) kw_183 rfl ⟨rfl, rfl⟩ e10 ?_
    refine ev_aload_n C dX11_drop_27 rfl (q := 0) rfl ?_
    obtain ⟨x11, e12, hf⟩ := obnd hf
    refine ev_get (k := 3) C ok_11 dX11_drop_28 (by decide) kw_395 (fR_V e12) ?_
    obtain ⟨_, e13, hf⟩ := obnd hf
    obtain ⟨fs14, e13⟩ := oO_eq e13
    obtain ⟨x15, e16, hf⟩ := obnd hf
    refine ev_callV0 (As := []) (st := []) C rfl e13 (t_X10_forget e16) rfl hd_X10_forget rfl kw_443 kw_444 kw_76 kw_445 kw_446 (mRoom.of E (Nat.le_of_ble_eq_true rfl) (Nat.le_of_ble_eq_true rfl) (Nat.le_refl 0) (Nat.le_refl 0)) (Nat.le_of_ble_eq_true rfl) dX11_drop_31 ?_
    refine ev_aload_n C dX11_drop_34 rfl (q := 0) rfl ?_
    obtain ⟨x17, e18, hf⟩ := obnd hf
    refine ev_get (k := 0) C ok_11 dX11_drop_35 (by decide) kw_392 (fR_V e18) ?_
    obtain ⟨x19, e20, hf⟩ := obnd hf
    refine ev_get (k := 1) C ok_5 dX11_drop_38 (by decide) kw_183 (fI_V e20) ?_
    obtain rfl := Option.some.inj hf
    exact ev_iret C E (Nat.le_refl 0) (Nat.le_refl 0) dX11_drop_41
  · have hf := oie hf hc
    refine ev_bipush (v := (-3)) C dX11_drop_11 (by decide) ?_
    obtain rfl := Option.some.inj hf
    exact ev_iret C E (Nat.le_refl 0) (Nat.le_refl 0) dX11_drop_13
/-! FareLimits rule(II)I -/
theorem dX11_rule_0 : decode prog_1_method_6_code 0 = .ok (.iload_n 1, 1) := by decide +kernel
theorem dX11_rule_1 : decode prog_1_method_6_code 1 = .ok (.iconst 3, 1) := by decide +kernel
theorem dX11_rule_2 : decode prog_1_method_6_code 2 = .ok (.invokestatic 91, 3) := by decide +kernel
theorem dX11_rule_5 : decode prog_1_method_6_code 5 = .ok (.ifCond .ne 5, 3) := by decide +kernel
theorem dX11_rule_8 : decode prog_1_method_6_code 8 = .ok (.iconst (-1), 1) := by decide +kernel
theorem dX11_rule_9 : decode prog_1_method_6_code 9 = .ok (.ireturn, 1) := by decide +kernel
theorem dX11_rule_10 : decode prog_1_method_6_code 10 = .ok (.iload_n 2, 1) := by decide +kernel
theorem dX11_rule_11 : decode prog_1_method_6_code 11 = .ok (.getstatic 135, 3) := by decide +kernel
theorem dX11_rule_14 : decode prog_1_method_6_code 14 = .ok (.iload_n 1, 1) := by decide +kernel
theorem dX11_rule_15 : decode prog_1_method_6_code 15 = .ok (.iaload, 1) := by decide +kernel
theorem dX11_rule_16 : decode prog_1_method_6_code 16 = .ok (.invokestatic 91, 3) := by decide +kernel
theorem dX11_rule_19 : decode prog_1_method_6_code 19 = .ok (.ifCond .ne 6, 3) := by decide +kernel
theorem dX11_rule_22 : decode prog_1_method_6_code 22 = .ok (.bipush (-2), 2) := by decide +kernel
theorem dX11_rule_24 : decode prog_1_method_6_code 24 = .ok (.ireturn, 1) := by decide +kernel
theorem dX11_rule_25 : decode prog_1_method_6_code 25 = .ok (.aload_n 0, 1) := by decide +kernel
theorem dX11_rule_26 : decode prog_1_method_6_code 26 = .ok (.getfield 12, 3) := by decide +kernel
theorem dX11_rule_29 : decode prog_1_method_6_code 29 = .ok (.getfield 138, 3) := by decide +kernel
theorem dX11_rule_32 : decode prog_1_method_6_code 32 = .ok (.iload_n 1, 1) := by decide +kernel
theorem dX11_rule_33 : decode prog_1_method_6_code 33 = .ok (.iaload, 1) := by decide +kernel
theorem dX11_rule_34 : decode prog_1_method_6_code 34 = .ok (.istore_n 3, 1) := by decide +kernel
theorem dX11_rule_35 : decode prog_1_method_6_code 35 = .ok (.aload_n 0, 1) := by decide +kernel
theorem dX11_rule_36 : decode prog_1_method_6_code 36 = .ok (.getfield 12, 3) := by decide +kernel
theorem dX11_rule_39 : decode prog_1_method_6_code 39 = .ok (.getfield 138, 3) := by decide +kernel
theorem dX11_rule_42 : decode prog_1_method_6_code 42 = .ok (.iload_n 1, 1) := by decide +kernel
theorem dX11_rule_43 : decode prog_1_method_6_code 43 = .ok (.iload_n 2, 1) := by decide +kernel
theorem dX11_rule_44 : decode prog_1_method_6_code 44 = .ok (.iastore, 1) := by decide +kernel
theorem dX11_rule_45 : decode prog_1_method_6_code 45 = .ok (.aload_n 0, 1) := by decide +kernel
theorem dX11_rule_46 : decode prog_1_method_6_code 46 = .ok (.getfield 24, 3) := by decide +kernel
theorem dX11_rule_49 : decode prog_1_method_6_code 49 = .ok (.invokevirtual 109, 3) := by decide +kernel
theorem dX11_rule_52 : decode prog_1_method_6_code 52 = .ok (.iload_n 3, 1) := by decide +kernel
theorem dX11_rule_53 : decode prog_1_method_6_code 53 = .ok (.ireturn, 1) := by decide +kernel
def m_X11_rule (a0 : Nat) (i1 : Int32) (i2 : Int32) (M : mM) : Option (Int32 × mM) :=
  (m_X11_within i1 3).bind fun x1 =>
  if x1 = 0 then (
    some ((-1), M)) else (
    (zMost i1).bind fun x3 =>
    (m_X11_within i2 x3).bind fun x5 =>
    if x5 = 0 then (
      some ((-2), M)) else (
      (fR M a0 11 0).bind fun x7 =>
      (fR M x7 5 2).bind fun x9 =>
      (aI 0 M x9 i1).bind fun x11 =>
      (fR M a0 11 0).bind fun x13 =>
      (fR M x13 5 2).bind fun x15 =>
      (uI 0 .int M x15 i1 i2).bind fun M17 =>
      (fR M17 a0 11 3).bind fun x19 =>
      (oO M17 x19 10).bind fun _ =>
      (m_X10_forget x19 M17).bind fun x23 =>
      some (x11, x23)))
set_option maxHeartbeats 4000000 in
set_option maxRecDepth 100000 in
theorem t_X11_rule {L0 : Launch} {M : mM} {a0 : Nat} {i1 : Int32} {i2 : Int32} {res : Int32 × mM} (hf : m_X11_rule a0 i1 i2 M = some res) : CT L0 yX11_rule prog_1_method_6_code 4 (some .int) 1 21 0 0 [.ref a0, .int i1, .int i2] M (some (.int res.1)) res.2 := by
  refine CT.of (by decide +kernel) (Nat.le_of_ble_eq_true rfl) fun X C E => ?_
  have C : CX X RX11 "rule" prog_1_method_6_code 4 (some .int) := C
  show EV X 4 0 [(0, .ref a0), (1, .int i1), (2, .int i2)] [] 0 0 M
  unfold m_X11_rule at hf
  refine ev_iload_n C dX11_rule_0 rfl (q := 1) rfl ?_
  refine ev_iconst (v := 3) C dX11_rule_1 (by decide) ?_
  obtain ⟨x1, e2, hf⟩ := obnd hf
  refine ev_callS0 (As := [.int i1, .int 3]) (st := []) C (t_X11_within e2) hd_X11_within rfl kw_435 kw_436 kw_70 kw_437 (mRoom.of E (Nat.le_of_ble_eq_true rfl) (Nat.le_of_ble_eq_true rfl) (Nat.le_refl 0) (Nat.le_refl 0)) (Nat.le_of_ble_eq_true rfl) dX11_rule_2 ?_
  refine ev_if_ne (tgt := 10) C dX11_rule_5 (by decide) (fun hc => ?_) (fun hc => ?_)
  · have hf := oie hf hc
    refine ev_iload_n C dX11_rule_10 rfl (q := 2) rfl ?_
    refine ev_sMost C kw_471 dX11_rule_11 ?_
    refine ev_iload_n C dX11_rule_14 rfl (q := 1) rfl ?_
    obtain ⟨x3, e4, hf⟩ := obnd hf
    refine ev_zMost C dX11_rule_15 e4 ?_
    obtain ⟨x5, e6, hf⟩ := obnd hf
    refine ev_callS0 (As := [.int i2, .int x3]) (st := []) C (t_X11_within e6) hd_X11_within rfl kw_435 kw_436 kw_70 kw_437 (mRoom.of E (Nat.le_of_ble_eq_true rfl) (Nat.le_of_ble_eq_true rfl) (Nat.le_refl 0) (Nat.le_refl 0)) (Nat.le_of_ble_eq_true rfl) dX11_rule_16 ?_
    refine ev_if_ne (tgt := 25) C dX11_rule_19 (by decide) (fun hc => ?_) (fun hc => ?_)
    · have hf := oie hf hc
      refine ev_aload_n C dX11_rule_25 rfl (q := 0) rfl ?_
      obtain ⟨x7, e8, hf⟩ := obnd hf
      refine ev_get (k := 0) C ok_11 dX11_rule_26 (by decide) kw_392 (fR_V e8) ?_
      obtain ⟨x9, e10, hf⟩ := obnd hf
      refine ev_get (k := 2) C ok_5 dX11_rule_29 (by decide) kw_190 (fR_V e10) ?_
      refine ev_iload_n C dX11_rule_32 rfl (q := 1) rfl ?_
      obtain ⟨x11, e12, hf⟩ := obnd hf
      refine ev_iald C dX11_rule_33 e12 ?_
      refine ev_istore_n (l' := [(3, .int x11), (0, .ref a0), (1, .int i1), (2, .int i2)]) C dX11_rule_34 rfl (by decide) rfl ?_
      refine ev_aload_n C dX11_rule_35 rfl (q := 1) rfl ?_
      obtain ⟨x13, e14, hf⟩ := obnd hf
      refine ev_get (k := 0) C ok_11 dX11_rule_36 (by decide) kw_392 (fR_V e14) ?_
      obtain ⟨x15, e16, hf⟩ := obnd hf
      refine ev_get (k := 2) C ok_5 dX11_rule_39 (by decide) kw_190 (fR_V e16) ?_
      refine ev_iload_n C dX11_rule_42 rfl (q := 2) rfl ?_
      refine ev_iload_n C dX11_rule_43 rfl (q := 3) rfl ?_
      obtain ⟨M17, e18, hf⟩ := obnd hf
      refine ev_iast C dX11_rule_44 e18 ?_
      refine ev_aload_n C dX11_rule_45 rfl (q := 1) rfl ?_
      obtain ⟨x19, e20, hf⟩ := obnd hf
      refine ev_get (k := 3) C ok_11 dX11_rule_46 (by decide) kw_395 (fR_V e20) ?_
      obtain ⟨_, e21, hf⟩ := obnd hf
      obtain ⟨fs22, e21⟩ := oO_eq e21
      obtain ⟨x23, e24, hf⟩ := obnd hf
      refine ev_callV0 (As := []) (st := []) C rfl e21 (t_X10_forget e24) rfl hd_X10_forget rfl kw_443 kw_444 kw_76 kw_445 kw_446 (mRoom.of E (Nat.le_of_ble_eq_true rfl) (Nat.le_of_ble_eq_true rfl) (Nat.le_refl 0) (Nat.le_refl 0)) (Nat.le_of_ble_eq_true rfl) dX11_rule_49 ?_
      refine ev_iload_n C dX11_rule_52 rfl (q := 0) rfl ?_
      obtain rfl := Option.some.inj hf
      exact ev_iret C E (Nat.le_refl 0) (Nat.le_refl 0) dX11_rule_53
    · have hf := oit hf hc
      refine ev_bipush (v := (-2)) C dX11_rule_22 (by decide) ?_
      obtain rfl := Option.some.inj hf
      exact ev_iret C E (Nat.le_refl 0) (Nat.le_refl 0) dX11_rule_24
  · have hf := oit hf hc
    refine ev_iconst (v := (-1)) C dX11_rule_8 (by decide) ?_
    obtain rfl := Option.some.inj hf
    exact ev_iret C E (Nat.le_refl 0) (Nat.le_refl 0) dX11_rule_9
/-! FareLimits hand(II)I -/
theorem dX11_hand_0 : decode prog_1_method_7_code 0 = .ok (.aload_n 0, 1) := by decide +kernel
theorem dX11_hand_1 : decode prog_1_method_7_code 1 = .ok (.getfield 12, 3) := by decide +kernel
theorem dX11_hand_4 : decode prog_1_method_7_code 4 = .ok (.iload_n 1, 1) := by decide +kernel
theorem dX11_hand_5 : decode prog_1_method_7_code 5 = .ok (.invokevirtual 112, 3) := by decide +kernel
theorem dX11_hand_8 : decode prog_1_method_7_code 8 = .ok (.ifCond .ne 5, 3) := by decide +kernel
theorem dX11_hand_11 : decode prog_1_method_7_code 11 = .ok (.iconst (-1), 1) := by decide +kernel
theorem dX11_hand_12 : decode prog_1_method_7_code 12 = .ok (.ireturn, 1) := by decide +kernel
theorem dX11_hand_13 : decode prog_1_method_7_code 13 = .ok (.iload_n 2, 1) := by decide +kernel
theorem dX11_hand_14 : decode prog_1_method_7_code 14 = .ok (.bipush 30, 2) := by decide +kernel
theorem dX11_hand_16 : decode prog_1_method_7_code 16 = .ok (.invokestatic 91, 3) := by decide +kernel
theorem dX11_hand_19 : decode prog_1_method_7_code 19 = .ok (.ifCond .ne 6, 3) := by decide +kernel
theorem dX11_hand_22 : decode prog_1_method_7_code 22 = .ok (.bipush (-2), 2) := by decide +kernel
theorem dX11_hand_24 : decode prog_1_method_7_code 24 = .ok (.ireturn, 1) := by decide +kernel
theorem dX11_hand_25 : decode prog_1_method_7_code 25 = .ok (.aload_n 0, 1) := by decide +kernel
theorem dX11_hand_26 : decode prog_1_method_7_code 26 = .ok (.getfield 12, 3) := by decide +kernel
theorem dX11_hand_29 : decode prog_1_method_7_code 29 = .ok (.getfield 99, 3) := by decide +kernel
theorem dX11_hand_32 : decode prog_1_method_7_code 32 = .ok (.iload_n 1, 1) := by decide +kernel
theorem dX11_hand_33 : decode prog_1_method_7_code 33 = .ok (.aaload, 1) := by decide +kernel
theorem dX11_hand_34 : decode prog_1_method_7_code 34 = .ok (.getfield 141, 3) := by decide +kernel
theorem dX11_hand_37 : decode prog_1_method_7_code 37 = .ok (.istore_n 3, 1) := by decide +kernel
theorem dX11_hand_38 : decode prog_1_method_7_code 38 = .ok (.aload_n 0, 1) := by decide +kernel
theorem dX11_hand_39 : decode prog_1_method_7_code 39 = .ok (.getfield 12, 3) := by decide +kernel
theorem dX11_hand_42 : decode prog_1_method_7_code 42 = .ok (.getfield 99, 3) := by decide +kernel
theorem dX11_hand_45 : decode prog_1_method_7_code 45 = .ok (.iload_n 1, 1) := by decide +kernel
theorem dX11_hand_46 : decode prog_1_method_7_code 46 = .ok (.aaload, 1) := by decide +kernel
theorem dX11_hand_47 : decode prog_1_method_7_code 47 = .ok (.iload_n 2, 1) := by decide +kernel
theorem dX11_hand_48 : decode prog_1_method_7_code 48 = .ok (.putfield 141, 3) := by decide +kernel
theorem dX11_hand_51 : decode prog_1_method_7_code 51 = .ok (.iload_n 3, 1) := by decide +kernel
theorem dX11_hand_52 : decode prog_1_method_7_code 52 = .ok (.ireturn, 1) := by decide +kernel
def m_X11_hand (a0 : Nat) (i1 : Int32) (i2 : Int32) (M : mM) : Option (Int32 × mM) :=
  (fR M a0 11 0).bind fun x1 =>
  (oO M x1 5).bind fun _ =>
  (m_X5_hasFare x1 i1 M).bind fun x5 =>
  if x5 = 0 then (
    some ((-1), M)) else (
    (m_X11_within i2 30).bind fun x7 =>
    if x7 = 0 then (
      some ((-2), M)) else (
      (fR M a0 11 0).bind fun x9 =>
      (fR M x9 5 0).bind fun x11 =>
      (aR 5 M x11 i1).bind fun x13 =>
      (fI M x13 3 2).bind fun x15 =>
      (fR M a0 11 0).bind fun x17 =>
      (fR M x17 5 0).bind fun x19 =>
      (aR 5 M x19 i1).bind fun x21 =>
      (sV M x21 3 2 (.int i2)).bind fun M23 =>
      some (x15, M23)))
set_option maxHeartbeats 4000000 in
set_option maxRecDepth 100000 in
theorem t_X11_hand {L0 : Launch} {M : mM} {a0 : Nat} {i1 : Int32} {i2 : Int32} {res : Int32 × mM} (hf : m_X11_hand a0 i1 i2 M = some res) : CT L0 yX11_hand prog_1_method_7_code 4 (some .int) 1 21 0 0 [.ref a0, .int i1, .int i2] M (some (.int res.1)) res.2 := by
  refine CT.of (by decide +kernel) (Nat.le_of_ble_eq_true rfl) fun X C E => ?_
  have C : CX X RX11 "hand" prog_1_method_7_code 4 (some .int) := C
  show EV X 4 0 [(0, .ref a0), (1, .int i1), (2, .int i2)] [] 0 0 M
  unfold m_X11_hand at hf
  refine ev_aload_n C dX11_hand_0 rfl (q := 0) rfl ?_
  obtain ⟨x1, e2, hf⟩ := obnd hf
  refine ev_get (k := 0) C ok_11 dX11_hand_1 (by decide) kw_392 (fR_V e2) ?_
  refine ev_iload_n C dX11_hand_4 rfl (q := 1) rfl ?_
  obtain ⟨_, e3, hf⟩ := obnd hf
  obtain ⟨fs4, e3⟩ := oO_eq e3
  obtain ⟨x5, e6, hf⟩ := obnd hf
  refine ev_callV0 (As := [.int i1]) (st := []) C rfl e3 (t_X5_hasFare e6) rfl hd_X5_hasFare rfl kw_451 kw_452 kw_71 kw_453 kw_454 (mRoom.of E (Nat.le_of_ble_eq_true rfl) (Nat.le_of_ble_eq_true rfl) (Nat.le_refl 0) (Nat.le_refl 0)) (Nat.le_of_ble_eq_true rfl) dX11_hand_5 ?_
  refine ev_if_ne (tgt := 13) C dX11_hand_8 (by decide) (fun hc => ?_) (fun hc => ?_)
  · have hf := oie hf hc
    refine ev_iload_n C dX11_hand_13 rfl (q := 2) rfl ?_
    refine ev_bipush (v := 30) C dX11_hand_14 (by decide) ?_
    obtain ⟨x7, e8, hf⟩ := obnd hf
    refine ev_callS0 (As := [.int i2, .int 30]) (st := []) C (t_X11_within e8) hd_X11_within rfl kw_435 kw_436 kw_70 kw_437 (mRoom.of E (Nat.le_of_ble_eq_true rfl) (Nat.le_of_ble_eq_true rfl) (Nat.le_refl 0) (Nat.le_refl 0)) (Nat.le_of_ble_eq_true rfl) dX11_hand_16 ?_
    refine ev_if_ne (tgt := 25) C dX11_hand_19 (by decide) (fun hc => ?_) (fun hc => ?_)
    · have hf := oie hf hc
      refine ev_aload_n C dX11_hand_25 rfl (q := 0) rfl ?_
      obtain ⟨x9, e10, hf⟩ := obnd hf
      refine ev_get (k := 0) C ok_11 dX11_hand_26 (by decide) kw_392 (fR_V e10) ?_
      obtain ⟨x11, e12, hf⟩ := obnd hf
      refine ev_get (k := 0) C ok_5 dX11_hand_29 (by decide) kw_177 (fR_V e12) ?_
      refine ev_iload_n C dX11_hand_32 rfl (q := 1) rfl ?_
      obtain ⟨x13, e14, hf⟩ := obnd hf
      refine ev_aldr C (t := 5) rfl rfl dX11_hand_33 e14 ?_
      obtain ⟨x15, e16, hf⟩ := obnd hf
      refine ev_get (k := 2) C ok_3 dX11_hand_34 (by decide) kw_159 (fI_V e16) ?_
      refine ev_istore_n (l' := [(3, .int x15), (0, .ref a0), (1, .int i1), (2, .int i2)]) C dX11_hand_37 rfl (by decide) rfl ?_
      refine ev_aload_n C dX11_hand_38 rfl (q := 1) rfl ?_
      obtain ⟨x17, e18, hf⟩ := obnd hf
      refine ev_get (k := 0) C ok_11 dX11_hand_39 (by decide) kw_392 (fR_V e18) ?_
      obtain ⟨x19, e20, hf⟩ := obnd hf
      refine ev_get (k := 0) C ok_5 dX11_hand_42 (by decide) kw_177 (fR_V e20) ?_
      refine ev_iload_n C dX11_hand_45 rfl (q := 2) rfl ?_
      obtain ⟨x21, e22, hf⟩ := obnd hf
      refine ev_aldr C (t := 5) rfl rfl dX11_hand_46 e22 ?_
      refine ev_iload_n C dX11_hand_47 rfl (q := 3) rfl ?_
      obtain ⟨M23, e24, hf⟩ := obnd hf
      refine ev_put (k := 2) C ok_3 dX11_hand_48 (by decide) kw_159 rfl ⟨rfl, rfl⟩ e24 ?_
      refine ev_iload_n C dX11_hand_51 rfl (q := 0) rfl ?_
      obtain rfl := Option.some.inj hf
      exact ev_iret C E (Nat.le_refl 0) (Nat.le_refl 0) dX11_hand_52
    · have hf := oit hf hc
      refine ev_bipush (v := (-2)) C dX11_hand_22 (by decide) ?_
      obtain rfl := Option.some.inj hf
      exact ev_iret C E (Nat.le_refl 0) (Nat.le_refl 0) dX11_hand_24
  · have hf := oit hf hc
    refine ev_iconst (v := (-1)) C dX11_hand_11 (by decide) ?_
    obtain rfl := Option.some.inj hf
    exact ev_iret C E (Nat.le_refl 0) (Nat.le_refl 0) dX11_hand_12
/-! FareLimits$Plan showing(I)D -/
theorem dX5_showing_0 : decode prog_7_method_7_code 0 = .ok (.dconst 1, 1) := by decide +kernel
theorem dX5_showing_1 : decode prog_7_method_7_code 1 = .ok (.aload_n 0, 1) := by decide +kernel
theorem dX5_showing_2 : decode prog_7_method_7_code 2 = .ok (.getfield 17, 3) := by decide +kernel
theorem dX5_showing_5 : decode prog_7_method_7_code 5 = .ok (.iconst 1, 1) := by decide +kernel
theorem dX5_showing_6 : decode prog_7_method_7_code 6 = .ok (.iaload, 1) := by decide +kernel
theorem dX5_showing_7 : decode prog_7_method_7_code 7 = .ok (.i2d, 1) := by decide +kernel
theorem dX5_showing_8 : decode prog_7_method_7_code 8 = .ok (.ldc2_w 61, 3) := by decide +kernel
theorem dX5_showing_11 : decode prog_7_method_7_code 11 = .ok (.ddiv, 1) := by decide +kernel
theorem dX5_showing_12 : decode prog_7_method_7_code 12 = .ok (.dsub, 1) := by decide +kernel
theorem dX5_showing_13 : decode prog_7_method_7_code 13 = .ok (.dstore_n 2, 1) := by decide +kernel
theorem dX5_showing_14 : decode prog_7_method_7_code 14 = .ok (.dconst 1, 1) := by decide +kernel
theorem dX5_showing_15 : decode prog_7_method_7_code 15 = .ok (.aload_n 0, 1) := by decide +kernel
theorem dX5_showing_16 : decode prog_7_method_7_code 16 = .ok (.getfield 17, 3) := by decide +kernel
theorem dX5_showing_19 : decode prog_7_method_7_code 19 = .ok (.iconst 2, 1) := by decide +kernel
theorem dX5_showing_20 : decode prog_7_method_7_code 20 = .ok (.iaload, 1) := by decide +kernel
theorem dX5_showing_21 : decode prog_7_method_7_code 21 = .ok (.i2d, 1) := by decide +kernel
theorem dX5_showing_22 : decode prog_7_method_7_code 22 = .ok (.ldc2_w 61, 3) := by decide +kernel
theorem dX5_showing_25 : decode prog_7_method_7_code 25 = .ok (.ddiv, 1) := by decide +kernel
theorem dX5_showing_26 : decode prog_7_method_7_code 26 = .ok (.dsub, 1) := by decide +kernel
theorem dX5_showing_27 : decode prog_7_method_7_code 27 = .ok (.dstore 4, 2) := by decide +kernel
theorem dX5_showing_29 : decode prog_7_method_7_code 29 = .ok (.iconst 0, 1) := by decide +kernel
theorem dX5_showing_30 : decode prog_7_method_7_code 30 = .ok (.istore 6, 2) := by decide +kernel
theorem dX5_showing_32 : decode prog_7_method_7_code 32 = .ok (.iload 6, 2) := by decide +kernel
theorem dX5_showing_34 : decode prog_7_method_7_code 34 = .ok (.iload_n 1, 1) := by decide +kernel
theorem dX5_showing_35 : decode prog_7_method_7_code 35 = .ok (.if_icmp .ge 15, 3) := by decide +kernel
theorem dX5_showing_38 : decode prog_7_method_7_code 38 = .ok (.dload 4, 2) := by decide +kernel
theorem dX5_showing_40 : decode prog_7_method_7_code 40 = .ok (.dload_n 2, 1) := by decide +kernel
theorem dX5_showing_41 : decode prog_7_method_7_code 41 = .ok (.dmul, 1) := by decide +kernel
theorem dX5_showing_42 : decode prog_7_method_7_code 42 = .ok (.dstore 4, 2) := by decide +kernel
theorem dX5_showing_44 : decode prog_7_method_7_code 44 = .ok (.iinc 6 1, 3) := by decide +kernel
theorem dX5_showing_47 : decode prog_7_method_7_code 47 = .ok (.goto (-15), 3) := by decide +kernel
theorem dX5_showing_50 : decode prog_7_method_7_code 50 = .ok (.dload 4, 2) := by decide +kernel
theorem dX5_showing_52 : decode prog_7_method_7_code 52 = .ok (.dreturn, 1) := by decide +kernel
def m_X5_showing_L32 (N : Nat) (M : mM)  : Nat → Int32 → UInt64 → UInt64 → Int32 → Option (UInt64)
  | 0, _, _, _, _ => none
  | n + 1, i1, d2, d4, i6 =>
    if i1 ≤ i6 then (
      some d4) else (
      (oD (FP.dmul d4 d2)).bind fun x1 =>
      (m_X5_showing_L32 N M  n) i1 d2 x1 (i6 + 1))
set_option maxHeartbeats 4000000 in
set_option maxRecDepth 100000 in
theorem t_X5_showing_L32 {X : mX} {M : mM} {L0 : Launch} {res : UInt64} {N : Nat} (C : CX X RX5 "showing" prog_7_method_7_code 7 (some .double)) (E : EX X L0 0 0 0 0 (some (.double res)) M)   : ∀ (n : Nat) (i1 : Int32) (d2 : UInt64) (d4 : UInt64) (i6 : Int32), m_X5_showing_L32 N M  n i1 d2 d4 i6 = some res → EV X 7 32 [(1, .int i1), (2, .double d2), (4, .double d4), (6, .int i6)] [] 0 0 M := by
  intro n
  induction n with
  | zero => intro i1 d2 d4 i6 hf; cases (show (none : Option (UInt64)) = some res from hf)
  | succ n ih =>
    intro i1 d2 d4 i6 hf
    rw [m_X5_showing_L32] at hf
    refine ev_iload C dX5_showing_32 (q := 3) rfl ?_
    refine ev_iload_n C dX5_showing_34 rfl (q := 0) rfl ?_
    refine ev_icmp_ge (tgt := 50) C dX5_showing_35 (by decide) (fun hc => ?_) (fun hc => ?_)
    · have hf := oit hf hc
      refine ev_dload C dX5_showing_50 (q := 2) rfl ?_
      obtain rfl := Option.some.inj hf
      exact ev_dret C E (Nat.le_refl 0) (Nat.le_refl 0) dX5_showing_52
    · have hf := oie hf hc
      refine ev_dload C dX5_showing_38 (q := 2) rfl ?_
      refine ev_dload_n C dX5_showing_40 rfl (q := 1) rfl ?_
      obtain ⟨x1, e2, hf⟩ := obnd hf
      obtain ⟨e2, e2q⟩ := oD_eq e2
      refine ev_dmul C dX5_showing_41 e2 ?_
      rw [← e2q]
      refine ev_dstore (l' := [(4, .double x1), (1, .int i1), (2, .double d2), (6, .int i6)]) C dX5_showing_42 (by decide) rfl ?_
      refine ev_iinc (v := i6 + 1) (l' := [(6, .int (i6 + 1)), (4, .double x1), (1, .int i1), (2, .double d2)]) C dX5_showing_44 (q := 3) rfl rfl (by decide) rfl ?_
      refine ev_goto (tgt := 32) C dX5_showing_47 (by decide) ?_
      refine ev_sub [2, 3, 1, 0] rfl ?_
      exact ih i1 d2 x1 (i6 + 1) hf
def m_X5_showing (N : Nat) (a0 : Nat) (i1 : Int32) (M : mM) : Option (UInt64) :=
  (fR M a0 5 2).bind fun x1 =>
  (aI 0 M x1 1).bind fun x3 =>
  (oD (FP.ddiv (FP.i2d x3) 4636737291354636288)).bind fun x5 =>
  (oD (FP.dsub FP.dconst1 x5)).bind fun x7 =>
  (fR M a0 5 2).bind fun x9 =>
  (aI 0 M x9 2).bind fun x11 =>
  (oD (FP.ddiv (FP.i2d x11) 4636737291354636288)).bind fun x13 =>
  (oD (FP.dsub FP.dconst1 x13)).bind fun x15 =>
  m_X5_showing_L32 N M  N i1 x7 x15 0
set_option maxHeartbeats 4000000 in
set_option maxRecDepth 100000 in
theorem t_X5_showing {L0 : Launch} {M : mM} {N : Nat} {a0 : Nat} {i1 : Int32} {res : UInt64} (hf : m_X5_showing N a0 i1 M = some res) : CT L0 yX5_showing prog_7_method_7_code 7 (some .double) 0 0 0 0 [.ref a0, .int i1] M (some (.double res)) M := by
  refine CT.of (by decide +kernel) (Nat.le_of_ble_eq_true rfl) fun X C E => ?_
  have C : CX X RX5 "showing" prog_7_method_7_code 7 (some .double) := C
  show EV X 7 0 [(0, .ref a0), (1, .int i1)] [] 0 0 M
  unfold m_X5_showing at hf
  refine ev_dconst1 C dX5_showing_0 ?_
  refine ev_aload_n C dX5_showing_1 rfl (q := 0) rfl ?_
  obtain ⟨x1, e2, hf⟩ := obnd hf
  refine ev_get (k := 2) C ok_5 dX5_showing_2 (by decide) kw_187 (fR_V e2) ?_
  refine ev_iconst (v := 1) C dX5_showing_5 (by decide) ?_
  obtain ⟨x3, e4, hf⟩ := obnd hf
  refine ev_iald C dX5_showing_6 e4 ?_
  refine ev_i2d C dX5_showing_7 ?_
  refine ev_ldc2d (v := 4636737291354636288) C dX5_showing_8 kw_485 ?_
  obtain ⟨x5, e6, hf⟩ := obnd hf
  obtain ⟨e6, e6q⟩ := oD_eq e6
  refine ev_ddiv C dX5_showing_11 e6 ?_
  rw [← e6q]
  obtain ⟨x7, e8, hf⟩ := obnd hf
  obtain ⟨e8, e8q⟩ := oD_eq e8
  refine ev_dsub C dX5_showing_12 e8 ?_
  rw [← e8q]
  refine ev_dstore_n (l' := [(2, .double x7), (0, .ref a0), (1, .int i1)]) C dX5_showing_13 rfl (by decide) rfl ?_
  refine ev_dconst1 C dX5_showing_14 ?_
  refine ev_aload_n C dX5_showing_15 rfl (q := 1) rfl ?_
  obtain ⟨x9, e10, hf⟩ := obnd hf
  refine ev_get (k := 2) C ok_5 dX5_showing_16 (by decide) kw_187 (fR_V e10) ?_
  refine ev_iconst (v := 2) C dX5_showing_19 (by decide) ?_
  obtain ⟨x11, e12, hf⟩ := obnd hf
  refine ev_iald C dX5_showing_20 e12 ?_
  refine ev_i2d C dX5_showing_21 ?_
  refine ev_ldc2d (v := 4636737291354636288) C dX5_showing_22 kw_485 ?_
  obtain ⟨x13, e14, hf⟩ := obnd hf
  obtain ⟨e14, e14q⟩ := oD_eq e14
  refine ev_ddiv C dX5_showing_25 e14 ?_
  rw [← e14q]
  obtain ⟨x15, e16, hf⟩ := obnd hf
  obtain ⟨e16, e16q⟩ := oD_eq e16
  refine ev_dsub C dX5_showing_26 e16 ?_
  rw [← e16q]
  refine ev_dstore (l' := [(4, .double x15), (2, .double x7), (0, .ref a0), (1, .int i1)]) C dX5_showing_27 (by decide) rfl ?_
  refine ev_iconst (v := 0) C dX5_showing_29 (by decide) ?_
  refine ev_istore (l' := [(6, .int 0), (4, .double x15), (2, .double x7), (0, .ref a0), (1, .int i1)]) C dX5_showing_30 (by decide) rfl ?_
  refine ev_sub [4, 2, 1, 0] rfl ?_
  exact t_X5_showing_L32 C E   N i1 x7 x15 0 hf
/-! FareLimits$Whole bitsOfDouble(D)J -/
theorem dX9_bitsOfDouble_0 : decode prog_11_method_9_code 0 = .ok (.dload_n 0, 1) := by decide +kernel
theorem dX9_bitsOfDouble_1 : decode prog_11_method_9_code 1 = .ok (.dconst 0, 1) := by decide +kernel
theorem dX9_bitsOfDouble_2 : decode prog_11_method_9_code 2 = .ok (.dcmp .l, 1) := by decide +kernel
theorem dX9_bitsOfDouble_3 : decode prog_11_method_9_code 3 = .ok (.ifCond .ne 5, 3) := by decide +kernel
theorem dX9_bitsOfDouble_6 : decode prog_11_method_9_code 6 = .ok (.lconst 0, 1) := by decide +kernel
theorem dX9_bitsOfDouble_7 : decode prog_11_method_9_code 7 = .ok (.lreturn, 1) := by decide +kernel
theorem dX9_bitsOfDouble_8 : decode prog_11_method_9_code 8 = .ok (.dload_n 0, 1) := by decide +kernel
theorem dX9_bitsOfDouble_9 : decode prog_11_method_9_code 9 = .ok (.dconst 0, 1) := by decide +kernel
theorem dX9_bitsOfDouble_10 : decode prog_11_method_9_code 10 = .ok (.dcmp .g, 1) := by decide +kernel
theorem dX9_bitsOfDouble_11 : decode prog_11_method_9_code 11 = .ok (.ifCond .ge 8, 3) := by decide +kernel
theorem dX9_bitsOfDouble_14 : decode prog_11_method_9_code 14 = .ok (.dload_n 0, 1) := by decide +kernel
theorem dX9_bitsOfDouble_15 : decode prog_11_method_9_code 15 = .ok (.dneg, 1) := by decide +kernel
theorem dX9_bitsOfDouble_16 : decode prog_11_method_9_code 16 = .ok (.goto 4, 3) := by decide +kernel
theorem dX9_bitsOfDouble_19 : decode prog_11_method_9_code 19 = .ok (.dload_n 0, 1) := by decide +kernel
theorem dX9_bitsOfDouble_20 : decode prog_11_method_9_code 20 = .ok (.dstore_n 2, 1) := by decide +kernel
theorem dX9_bitsOfDouble_21 : decode prog_11_method_9_code 21 = .ok (.sipush 1023, 3) := by decide +kernel
theorem dX9_bitsOfDouble_24 : decode prog_11_method_9_code 24 = .ok (.istore 4, 2) := by decide +kernel
theorem dX9_bitsOfDouble_26 : decode prog_11_method_9_code 26 = .ok (.iconst 0, 1) := by decide +kernel
theorem dX9_bitsOfDouble_27 : decode prog_11_method_9_code 27 = .ok (.istore 5, 2) := by decide +kernel
theorem dX9_bitsOfDouble_29 : decode prog_11_method_9_code 29 = .ok (.iload 5, 2) := by decide +kernel
theorem dX9_bitsOfDouble_31 : decode prog_11_method_9_code 31 = .ok (.bipush 32, 2) := by decide +kernel
theorem dX9_bitsOfDouble_33 : decode prog_11_method_9_code 33 = .ok (.if_icmp .ge 24, 3) := by decide +kernel
theorem dX9_bitsOfDouble_36 : decode prog_11_method_9_code 36 = .ok (.dload_n 2, 1) := by decide +kernel
theorem dX9_bitsOfDouble_37 : decode prog_11_method_9_code 37 = .ok (.dconst 1, 1) := by decide +kernel
theorem dX9_bitsOfDouble_38 : decode prog_11_method_9_code 38 = .ok (.dcmp .g, 1) := by decide +kernel
theorem dX9_bitsOfDouble_39 : decode prog_11_method_9_code 39 = .ok (.ifCond .ge 18, 3) := by decide +kernel
theorem dX9_bitsOfDouble_42 : decode prog_11_method_9_code 42 = .ok (.dload_n 2, 1) := by decide +kernel
theorem dX9_bitsOfDouble_43 : decode prog_11_method_9_code 43 = .ok (.ldc2_w 73, 3) := by decide +kernel
theorem dX9_bitsOfDouble_46 : decode prog_11_method_9_code 46 = .ok (.dmul, 1) := by decide +kernel
theorem dX9_bitsOfDouble_47 : decode prog_11_method_9_code 47 = .ok (.dstore_n 2, 1) := by decide +kernel
theorem dX9_bitsOfDouble_48 : decode prog_11_method_9_code 48 = .ok (.iinc 4 (-32), 3) := by decide +kernel
theorem dX9_bitsOfDouble_51 : decode prog_11_method_9_code 51 = .ok (.iinc 5 1, 3) := by decide +kernel
theorem dX9_bitsOfDouble_54 : decode prog_11_method_9_code 54 = .ok (.goto (-25), 3) := by decide +kernel
theorem dX9_bitsOfDouble_57 : decode prog_11_method_9_code 57 = .ok (.iconst 0, 1) := by decide +kernel
theorem dX9_bitsOfDouble_58 : decode prog_11_method_9_code 58 = .ok (.istore 5, 2) := by decide +kernel
theorem dX9_bitsOfDouble_60 : decode prog_11_method_9_code 60 = .ok (.iload 5, 2) := by decide +kernel
theorem dX9_bitsOfDouble_62 : decode prog_11_method_9_code 62 = .ok (.bipush 32, 2) := by decide +kernel
theorem dX9_bitsOfDouble_64 : decode prog_11_method_9_code 64 = .ok (.if_icmp .ge 26, 3) := by decide +kernel
theorem dX9_bitsOfDouble_67 : decode prog_11_method_9_code 67 = .ok (.dload_n 2, 1) := by decide +kernel
theorem dX9_bitsOfDouble_68 : decode prog_11_method_9_code 68 = .ok (.ldc2_w 75, 3) := by decide +kernel
theorem dX9_bitsOfDouble_71 : decode prog_11_method_9_code 71 = .ok (.dcmp .l, 1) := by decide +kernel
theorem dX9_bitsOfDouble_72 : decode prog_11_method_9_code 72 = .ok (.ifCond .lt 18, 3) := by decide +kernel
theorem dX9_bitsOfDouble_75 : decode prog_11_method_9_code 75 = .ok (.dload_n 2, 1) := by decide +kernel
theorem dX9_bitsOfDouble_76 : decode prog_11_method_9_code 76 = .ok (.ldc2_w 75, 3) := by decide +kernel
theorem dX9_bitsOfDouble_79 : decode prog_11_method_9_code 79 = .ok (.ddiv, 1) := by decide +kernel
theorem dX9_bitsOfDouble_80 : decode prog_11_method_9_code 80 = .ok (.dstore_n 2, 1) := by decide +kernel
theorem dX9_bitsOfDouble_81 : decode prog_11_method_9_code 81 = .ok (.iinc 4 1, 3) := by decide +kernel
theorem dX9_bitsOfDouble_84 : decode prog_11_method_9_code 84 = .ok (.iinc 5 1, 3) := by decide +kernel
theorem dX9_bitsOfDouble_87 : decode prog_11_method_9_code 87 = .ok (.goto (-27), 3) := by decide +kernel
theorem dX9_bitsOfDouble_90 : decode prog_11_method_9_code 90 = .ok (.dload_n 2, 1) := by decide +kernel
theorem dX9_bitsOfDouble_91 : decode prog_11_method_9_code 91 = .ok (.dconst 1, 1) := by decide +kernel
theorem dX9_bitsOfDouble_92 : decode prog_11_method_9_code 92 = .ok (.dsub, 1) := by decide +kernel
theorem dX9_bitsOfDouble_93 : decode prog_11_method_9_code 93 = .ok (.ldc2_w 77, 3) := by decide +kernel
theorem dX9_bitsOfDouble_96 : decode prog_11_method_9_code 96 = .ok (.dmul, 1) := by decide +kernel
theorem dX9_bitsOfDouble_97 : decode prog_11_method_9_code 97 = .ok (.d2l, 1) := by decide +kernel
theorem dX9_bitsOfDouble_98 : decode prog_11_method_9_code 98 = .ok (.lstore 5, 2) := by decide +kernel
theorem dX9_bitsOfDouble_100 : decode prog_11_method_9_code 100 = .ok (.dload_n 0, 1) := by decide +kernel
theorem dX9_bitsOfDouble_101 : decode prog_11_method_9_code 101 = .ok (.dconst 0, 1) := by decide +kernel
theorem dX9_bitsOfDouble_102 : decode prog_11_method_9_code 102 = .ok (.dcmp .g, 1) := by decide +kernel
theorem dX9_bitsOfDouble_103 : decode prog_11_method_9_code 103 = .ok (.ifCond .ge 9, 3) := by decide +kernel
theorem dX9_bitsOfDouble_106 : decode prog_11_method_9_code 106 = .ok (.ldc2_w 79, 3) := by decide +kernel
theorem dX9_bitsOfDouble_109 : decode prog_11_method_9_code 109 = .ok (.goto 4, 3) := by decide +kernel
theorem dX9_bitsOfDouble_112 : decode prog_11_method_9_code 112 = .ok (.lconst 0, 1) := by decide +kernel
theorem dX9_bitsOfDouble_113 : decode prog_11_method_9_code 113 = .ok (.iload 4, 2) := by decide +kernel
theorem dX9_bitsOfDouble_115 : decode prog_11_method_9_code 115 = .ok (.i2l, 1) := by decide +kernel
theorem dX9_bitsOfDouble_116 : decode prog_11_method_9_code 116 = .ok (.bipush 52, 2) := by decide +kernel
theorem dX9_bitsOfDouble_118 : decode prog_11_method_9_code 118 = .ok (.lshl, 1) := by decide +kernel
theorem dX9_bitsOfDouble_119 : decode prog_11_method_9_code 119 = .ok (.lor, 1) := by decide +kernel
theorem dX9_bitsOfDouble_120 : decode prog_11_method_9_code 120 = .ok (.lload 5, 2) := by decide +kernel
theorem dX9_bitsOfDouble_122 : decode prog_11_method_9_code 122 = .ok (.lor, 1) := by decide +kernel
theorem dX9_bitsOfDouble_123 : decode prog_11_method_9_code 123 = .ok (.lreturn, 1) := by decide +kernel
def m_X9_bitsOfDouble_J113 (N : Nat)  (i4 : Int32) (j5 : Int64) (sj0 : Int64) : Option (Int64) :=
  some ((sj0 ||| (i4.toInt64 <<< ((52 : Int32).toInt64 &&& 63))) ||| j5)
set_option maxHeartbeats 4000000 in
set_option maxRecDepth 100000 in
theorem t_X9_bitsOfDouble_J113 {X : mX} {M : mM} {L0 : Launch} {res : Int64} {N : Nat} (C : CX X RX9 "bitsOfDouble" prog_11_method_9_code 7 (some .long)) (E : EX X L0 0 0 0 0 (some (.long res)) M)   (i4 : Int32) (j5 : Int64) (sj0 : Int64) (hf : m_X9_bitsOfDouble_J113 N  i4 j5 sj0 = some res) : EV X 7 113 [(4, .int i4), (5, .long j5)] [.long sj0] 0 0 M := by
  unfold m_X9_bitsOfDouble_J113 at hf
  refine ev_iload C dX9_bitsOfDouble_113 (q := 0) rfl ?_
  refine ev_i2l C dX9_bitsOfDouble_115 ?_
  refine ev_bipush (v := 52) C dX9_bitsOfDouble_116 (by decide) ?_
  refine ev_lshl C dX9_bitsOfDouble_118 ?_
  refine ev_lor C dX9_bitsOfDouble_119 ?_
  refine ev_lload C dX9_bitsOfDouble_120 (q := 1) rfl ?_
  refine ev_lor C dX9_bitsOfDouble_122 ?_
  obtain rfl := Option.some.inj hf
  exact ev_lret C E (Nat.le_refl 0) (Nat.le_refl 0) dX9_bitsOfDouble_123
def m_X9_bitsOfDouble_J90 (N : Nat)  (d0 : UInt64) (d2 : UInt64) (i4 : Int32) : Option (Int64) :=
  (oD (FP.dsub d2 FP.dconst1)).bind fun x1 =>
  (oD (FP.dmul x1 4841369599423283200)).bind fun x3 =>
  if 0 ≤ (Op.cmpValue (FP.dcmp d0 FP.dconst0) CmpOp.g) then (
    m_X9_bitsOfDouble_J113 N  i4 (FP.d2l x3) 0) else (
    m_X9_bitsOfDouble_J113 N  i4 (FP.d2l x3) (-9223372036854775808))
set_option maxHeartbeats 4000000 in
set_option maxRecDepth 100000 in
theorem t_X9_bitsOfDouble_J90 {X : mX} {M : mM} {L0 : Launch} {res : Int64} {N : Nat} (C : CX X RX9 "bitsOfDouble" prog_11_method_9_code 7 (some .long)) (E : EX X L0 0 0 0 0 (some (.long res)) M)   (d0 : UInt64) (d2 : UInt64) (i4 : Int32) (hf : m_X9_bitsOfDouble_J90 N  d0 d2 i4 = some res) : EV X 7 90 [(0, .double d0), (2, .double d2), (4, .int i4)] [] 0 0 M := by
  unfold m_X9_bitsOfDouble_J90 at hf
  refine ev_dload_n C dX9_bitsOfDouble_90 rfl (q := 1) rfl ?_
  refine ev_dconst1 C dX9_bitsOfDouble_91 ?_
  obtain ⟨x1, e2, hf⟩ := obnd hf
  obtain ⟨e2, e2q⟩ := oD_eq e2
  refine ev_dsub C dX9_bitsOfDouble_92 e2 ?_
  rw [← e2q]
  refine ev_ldc2d (v := 4841369599423283200) C dX9_bitsOfDouble_93 kw_491 ?_
  obtain ⟨x3, e4, hf⟩ := obnd hf
  obtain ⟨e4, e4q⟩ := oD_eq e4
  refine ev_dmul C dX9_bitsOfDouble_96 e4 ?_
  rw [← e4q]
  refine ev_d2l C dX9_bitsOfDouble_97 ?_
  refine ev_lstore (l' := [(5, .long (FP.d2l x3)), (0, .double d0), (2, .double d2), (4, .int i4)]) C dX9_bitsOfDouble_98 (by decide) rfl ?_
  refine ev_dload_n C dX9_bitsOfDouble_100 rfl (q := 1) rfl ?_
  refine ev_dconst0 C dX9_bitsOfDouble_101 ?_
  refine ev_dcmp C dX9_bitsOfDouble_102 ?_
  refine ev_if_ge (tgt := 112) C dX9_bitsOfDouble_103 (by decide) (fun hc => ?_) (fun hc => ?_)
  · have hf := oit hf hc
    refine ev_lconst (v := 0) C dX9_bitsOfDouble_112 (by decide) ?_
    refine ev_sub [3, 0] rfl ?_
    exact t_X9_bitsOfDouble_J113 C E   i4 (FP.d2l x3) 0 hf
  · have hf := oie hf hc
    refine ev_ldc2 (v := (-9223372036854775808)) C dX9_bitsOfDouble_106 kw_492 ?_
    refine ev_goto (tgt := 113) C dX9_bitsOfDouble_109 (by decide) ?_
    refine ev_sub [3, 0] rfl ?_
    exact t_X9_bitsOfDouble_J113 C E   i4 (FP.d2l x3) (-9223372036854775808) hf
def m_X9_bitsOfDouble_L60 (N : Nat)  : Nat → UInt64 → UInt64 → Int32 → Int32 → Option (Int64)
  | 0, _, _, _, _ => none
  | n + 1, d0, d2, i4, i5 =>
    if 32 ≤ i5 then (
      m_X9_bitsOfDouble_J90 N  d0 d2 i4) else (
      if (Op.cmpValue (FP.dcmp d2 4611686018427387904) CmpOp.l) < 0 then (
        m_X9_bitsOfDouble_J90 N  d0 d2 i4) else (
        (oD (FP.ddiv d2 4611686018427387904)).bind fun x1 =>
        (m_X9_bitsOfDouble_L60 N  n) d0 x1 (i4 + 1) (i5 + 1)))
set_option maxHeartbeats 4000000 in
set_option maxRecDepth 100000 in
theorem t_X9_bitsOfDouble_L60 {X : mX} {M : mM} {L0 : Launch} {res : Int64} {N : Nat} (C : CX X RX9 "bitsOfDouble" prog_11_method_9_code 7 (some .long)) (E : EX X L0 0 0 0 0 (some (.long res)) M)   : ∀ (n : Nat) (d0 : UInt64) (d2 : UInt64) (i4 : Int32) (i5 : Int32), m_X9_bitsOfDouble_L60 N  n d0 d2 i4 i5 = some res → EV X 7 60 [(0, .double d0), (2, .double d2), (4, .int i4), (5, .int i5)] [] 0 0 M := by
  intro n
  induction n with
  | zero => intro d0 d2 i4 i5 hf; cases (show (none : Option (Int64)) = some res from hf)
  | succ n ih =>
    intro d0 d2 i4 i5 hf
    rw [m_X9_bitsOfDouble_L60] at hf
    refine ev_iload C dX9_bitsOfDouble_60 (q := 3) rfl ?_
    refine ev_bipush (v := 32) C dX9_bitsOfDouble_62 (by decide) ?_
    refine ev_icmp_ge (tgt := 90) C dX9_bitsOfDouble_64 (by decide) (fun hc => ?_) (fun hc => ?_)
    · have hf := oit hf hc
      refine ev_sub [0, 1, 2] rfl ?_
      exact t_X9_bitsOfDouble_J90 C E   d0 d2 i4 hf
    · have hf := oie hf hc
      refine ev_dload_n C dX9_bitsOfDouble_67 rfl (q := 1) rfl ?_
      refine ev_ldc2d (v := 4611686018427387904) C dX9_bitsOfDouble_68 kw_490 ?_
      refine ev_dcmp C dX9_bitsOfDouble_71 ?_
      refine ev_if_lt (tgt := 90) C dX9_bitsOfDouble_72 (by decide) (fun hc => ?_) (fun hc => ?_)
      · have hf := oit hf hc
        refine ev_sub [0, 1, 2] rfl ?_
        exact t_X9_bitsOfDouble_J90 C E   d0 d2 i4 hf
      · have hf := oie hf hc
        refine ev_dload_n C dX9_bitsOfDouble_75 rfl (q := 1) rfl ?_
        refine ev_ldc2d (v := 4611686018427387904) C dX9_bitsOfDouble_76 kw_490 ?_
        obtain ⟨x1, e2, hf⟩ := obnd hf
        obtain ⟨e2, e2q⟩ := oD_eq e2
        refine ev_ddiv C dX9_bitsOfDouble_79 e2 ?_
        rw [← e2q]
        refine ev_dstore_n (l' := [(2, .double x1), (0, .double d0), (4, .int i4), (5, .int i5)]) C dX9_bitsOfDouble_80 rfl (by decide) rfl ?_
        refine ev_iinc (v := i4 + 1) (l' := [(4, .int (i4 + 1)), (2, .double x1), (0, .double d0), (5, .int i5)]) C dX9_bitsOfDouble_81 (q := 2) rfl rfl (by decide) rfl ?_
        refine ev_iinc (v := i5 + 1) (l' := [(5, .int (i5 + 1)), (4, .int (i4 + 1)), (2, .double x1), (0, .double d0)]) C dX9_bitsOfDouble_84 (q := 3) rfl rfl (by decide) rfl ?_
        refine ev_goto (tgt := 60) C dX9_bitsOfDouble_87 (by decide) ?_
        refine ev_sub [3, 2, 1, 0] rfl ?_
        exact ih d0 x1 (i4 + 1) (i5 + 1) hf
def m_X9_bitsOfDouble_J57 (N : Nat)  (d0 : UInt64) (d2 : UInt64) (i4 : Int32) : Option (Int64) :=
  m_X9_bitsOfDouble_L60 N  N d0 d2 i4 0
set_option maxHeartbeats 4000000 in
set_option maxRecDepth 100000 in
theorem t_X9_bitsOfDouble_J57 {X : mX} {M : mM} {L0 : Launch} {res : Int64} {N : Nat} (C : CX X RX9 "bitsOfDouble" prog_11_method_9_code 7 (some .long)) (E : EX X L0 0 0 0 0 (some (.long res)) M)   (d0 : UInt64) (d2 : UInt64) (i4 : Int32) (hf : m_X9_bitsOfDouble_J57 N  d0 d2 i4 = some res) : EV X 7 57 [(0, .double d0), (2, .double d2), (4, .int i4)] [] 0 0 M := by
  unfold m_X9_bitsOfDouble_J57 at hf
  refine ev_iconst (v := 0) C dX9_bitsOfDouble_57 (by decide) ?_
  refine ev_istore (l' := [(5, .int 0), (0, .double d0), (2, .double d2), (4, .int i4)]) C dX9_bitsOfDouble_58 (by decide) rfl ?_
  refine ev_sub [1, 2, 3, 0] rfl ?_
  exact t_X9_bitsOfDouble_L60 C E   N d0 d2 i4 0 hf
def m_X9_bitsOfDouble_L29 (N : Nat)  : Nat → UInt64 → UInt64 → Int32 → Int32 → Option (Int64)
  | 0, _, _, _, _ => none
  | n + 1, d0, d2, i4, i5 =>
    if 32 ≤ i5 then (
      m_X9_bitsOfDouble_J57 N  d0 d2 i4) else (
      if 0 ≤ (Op.cmpValue (FP.dcmp d2 FP.dconst1) CmpOp.g) then (
        m_X9_bitsOfDouble_J57 N  d0 d2 i4) else (
        (oD (FP.dmul d2 4751297606875873280)).bind fun x1 =>
        (m_X9_bitsOfDouble_L29 N  n) d0 x1 (i4 + (-32)) (i5 + 1)))
set_option maxHeartbeats 4000000 in
set_option maxRecDepth 100000 in
theorem t_X9_bitsOfDouble_L29 {X : mX} {M : mM} {L0 : Launch} {res : Int64} {N : Nat} (C : CX X RX9 "bitsOfDouble" prog_11_method_9_code 7 (some .long)) (E : EX X L0 0 0 0 0 (some (.long res)) M)   : ∀ (n : Nat) (d0 : UInt64) (d2 : UInt64) (i4 : Int32) (i5 : Int32), m_X9_bitsOfDouble_L29 N  n d0 d2 i4 i5 = some res → EV X 7 29 [(0, .double d0), (2, .double d2), (4, .int i4), (5, .int i5)] [] 0 0 M := by
  intro n
  induction n with
  | zero => intro d0 d2 i4 i5 hf; cases (show (none : Option (Int64)) = some res from hf)
  | succ n ih =>
    intro d0 d2 i4 i5 hf
    rw [m_X9_bitsOfDouble_L29] at hf
    refine ev_iload C dX9_bitsOfDouble_29 (q := 3) rfl ?_
    refine ev_bipush (v := 32) C dX9_bitsOfDouble_31 (by decide) ?_
    refine ev_icmp_ge (tgt := 57) C dX9_bitsOfDouble_33 (by decide) (fun hc => ?_) (fun hc => ?_)
    · have hf := oit hf hc
      refine ev_sub [0, 1, 2] rfl ?_
      exact t_X9_bitsOfDouble_J57 C E   d0 d2 i4 hf
    · have hf := oie hf hc
      refine ev_dload_n C dX9_bitsOfDouble_36 rfl (q := 1) rfl ?_
      refine ev_dconst1 C dX9_bitsOfDouble_37 ?_
      refine ev_dcmp C dX9_bitsOfDouble_38 ?_
      refine ev_if_ge (tgt := 57) C dX9_bitsOfDouble_39 (by decide) (fun hc => ?_) (fun hc => ?_)
      · have hf := oit hf hc
        refine ev_sub [0, 1, 2] rfl ?_
        exact t_X9_bitsOfDouble_J57 C E   d0 d2 i4 hf
      · have hf := oie hf hc
        refine ev_dload_n C dX9_bitsOfDouble_42 rfl (q := 1) rfl ?_
        refine ev_ldc2d (v := 4751297606875873280) C dX9_bitsOfDouble_43 kw_489 ?_
        obtain ⟨x1, e2, hf⟩ := obnd hf
        obtain ⟨e2, e2q⟩ := oD_eq e2
        refine ev_dmul C dX9_bitsOfDouble_46 e2 ?_
        rw [← e2q]
        refine ev_dstore_n (l' := [(2, .double x1), (0, .double d0), (4, .int i4), (5, .int i5)]) C dX9_bitsOfDouble_47 rfl (by decide) rfl ?_
        refine ev_iinc (v := i4 + (-32)) (l' := [(4, .int (i4 + (-32))), (2, .double x1), (0, .double d0), (5, .int i5)]) C dX9_bitsOfDouble_48 (q := 2) rfl rfl (by decide) rfl ?_
        refine ev_iinc (v := i5 + 1) (l' := [(5, .int (i5 + 1)), (4, .int (i4 + (-32))), (2, .double x1), (0, .double d0)]) C dX9_bitsOfDouble_51 (q := 3) rfl rfl (by decide) rfl ?_
        refine ev_goto (tgt := 29) C dX9_bitsOfDouble_54 (by decide) ?_
        refine ev_sub [3, 2, 1, 0] rfl ?_
        exact ih d0 x1 (i4 + (-32)) (i5 + 1) hf
def m_X9_bitsOfDouble_J20 (N : Nat)  (d0 : UInt64) (sd0 : UInt64) : Option (Int64) :=
  m_X9_bitsOfDouble_L29 N  N d0 sd0 1023 0
set_option maxHeartbeats 4000000 in
set_option maxRecDepth 100000 in
theorem t_X9_bitsOfDouble_J20 {X : mX} {M : mM} {L0 : Launch} {res : Int64} {N : Nat} (C : CX X RX9 "bitsOfDouble" prog_11_method_9_code 7 (some .long)) (E : EX X L0 0 0 0 0 (some (.long res)) M)   (d0 : UInt64) (sd0 : UInt64) (hf : m_X9_bitsOfDouble_J20 N  d0 sd0 = some res) : EV X 7 20 [(0, .double d0)] [.double sd0] 0 0 M := by
  unfold m_X9_bitsOfDouble_J20 at hf
  refine ev_dstore_n (l' := [(2, .double sd0), (0, .double d0)]) C dX9_bitsOfDouble_20 rfl (by decide) rfl ?_
  refine ev_sipush (v := 1023) C dX9_bitsOfDouble_21 (by decide) ?_
  refine ev_istore (l' := [(4, .int 1023), (2, .double sd0), (0, .double d0)]) C dX9_bitsOfDouble_24 (by decide) rfl ?_
  refine ev_iconst (v := 0) C dX9_bitsOfDouble_26 (by decide) ?_
  refine ev_istore (l' := [(5, .int 0), (4, .int 1023), (2, .double sd0), (0, .double d0)]) C dX9_bitsOfDouble_27 (by decide) rfl ?_
  refine ev_sub [3, 2, 1, 0] rfl ?_
  exact t_X9_bitsOfDouble_L29 C E   N d0 sd0 1023 0 hf
def m_X9_bitsOfDouble (N : Nat) (d0 : UInt64) : Option (Int64) :=
  if (Op.cmpValue (FP.dcmp d0 FP.dconst0) CmpOp.l) = 0 then (
    some 0) else (
    if 0 ≤ (Op.cmpValue (FP.dcmp d0 FP.dconst0) CmpOp.g) then (
      m_X9_bitsOfDouble_J20 N  d0 d0) else (
      m_X9_bitsOfDouble_J20 N  d0 (FP.dneg d0)))
set_option maxHeartbeats 4000000 in
set_option maxRecDepth 100000 in
theorem t_X9_bitsOfDouble {L0 : Launch} {M : mM} {N : Nat} {d0 : UInt64} {res : Int64} (hf : m_X9_bitsOfDouble N d0 = some res) : CT L0 yX9_bitsOfDouble prog_11_method_9_code 7 (some .long) 0 0 0 0 [.double d0] M (some (.long res)) M := by
  refine CT.of (by decide +kernel) (Nat.le_of_ble_eq_true rfl) fun X C E => ?_
  have C : CX X RX9 "bitsOfDouble" prog_11_method_9_code 7 (some .long) := C
  show EV X 7 0 [(0, .double d0)] [] 0 0 M
  unfold m_X9_bitsOfDouble at hf
  refine ev_dload_n C dX9_bitsOfDouble_0 rfl (q := 0) rfl ?_
  refine ev_dconst0 C dX9_bitsOfDouble_1 ?_
  refine ev_dcmp C dX9_bitsOfDouble_2 ?_
  refine ev_if_ne (tgt := 8) C dX9_bitsOfDouble_3 (by decide) (fun hc => ?_) (fun hc => ?_)
  · have hf := oie hf hc
    refine ev_dload_n C dX9_bitsOfDouble_8 rfl (q := 0) rfl ?_
    refine ev_dconst0 C dX9_bitsOfDouble_9 ?_
    refine ev_dcmp C dX9_bitsOfDouble_10 ?_
    refine ev_if_ge (tgt := 19) C dX9_bitsOfDouble_11 (by decide) (fun hc => ?_) (fun hc => ?_)
    · have hf := oit hf hc
      refine ev_dload_n C dX9_bitsOfDouble_19 rfl (q := 0) rfl ?_
      exact t_X9_bitsOfDouble_J20 C E   d0 d0 hf
    · have hf := oie hf hc
      refine ev_dload_n C dX9_bitsOfDouble_14 rfl (q := 0) rfl ?_
      refine ev_dneg C dX9_bitsOfDouble_15 ?_
      refine ev_goto (tgt := 20) C dX9_bitsOfDouble_16 (by decide) ?_
      exact t_X9_bitsOfDouble_J20 C E   d0 (FP.dneg d0) hf
  · have hf := oit hf hc
    refine ev_lconst (v := 0) C dX9_bitsOfDouble_6 (by decide) ?_
    obtain rfl := Option.some.inj hf
    exact ev_lret C E (Nat.le_refl 0) (Nat.le_refl 0) dX9_bitsOfDouble_7
/-! FareLimits shows(I)J -/
theorem dX11_shows_0 : decode prog_1_method_8_code 0 = .ok (.iload_n 1, 1) := by decide +kernel
theorem dX11_shows_1 : decode prog_1_method_8_code 1 = .ok (.bipush 20, 2) := by decide +kernel
theorem dX11_shows_3 : decode prog_1_method_8_code 3 = .ok (.invokestatic 91, 3) := by decide +kernel
theorem dX11_shows_6 : decode prog_1_method_8_code 6 = .ok (.ifCond .eq 17, 3) := by decide +kernel
theorem dX11_shows_9 : decode prog_1_method_8_code 9 = .ok (.aload_n 0, 1) := by decide +kernel
theorem dX11_shows_10 : decode prog_1_method_8_code 10 = .ok (.getfield 12, 3) := by decide +kernel
theorem dX11_shows_13 : decode prog_1_method_8_code 13 = .ok (.iload_n 1, 1) := by decide +kernel
theorem dX11_shows_14 : decode prog_1_method_8_code 14 = .ok (.invokevirtual 144, 3) := by decide +kernel
theorem dX11_shows_17 : decode prog_1_method_8_code 17 = .ok (.invokestatic 148, 3) := by decide +kernel
theorem dX11_shows_20 : decode prog_1_method_8_code 20 = .ok (.goto 6, 3) := by decide +kernel
theorem dX11_shows_23 : decode prog_1_method_8_code 23 = .ok (.ldc2_w 152, 3) := by decide +kernel
theorem dX11_shows_26 : decode prog_1_method_8_code 26 = .ok (.lreturn, 1) := by decide +kernel
def m_X11_shows (N : Nat) (a0 : Nat) (i1 : Int32) (M : mM) : Option (Int64) :=
  (m_X11_within i1 20).bind fun x1 =>
  if x1 = 0 then (
    some (-9223372036854775808)) else (
    (fR M a0 11 0).bind fun x3 =>
    (oO M x3 5).bind fun _ =>
    (m_X5_showing N x3 i1 M).bind fun x7 =>
    (m_X9_bitsOfDouble N x7).bind fun x9 =>
    some x9)
set_option maxHeartbeats 4000000 in
set_option maxRecDepth 100000 in
theorem t_X11_shows {L0 : Launch} {M : mM} {N : Nat} {a0 : Nat} {i1 : Int32} {res : Int64} (hf : m_X11_shows N a0 i1 M = some res) : CT L0 yX11_shows prog_1_method_8_code 2 (some .long) 1 26 0 0 [.ref a0, .int i1] M (some (.long res)) M := by
  refine CT.of (by decide +kernel) (Nat.le_of_ble_eq_true rfl) fun X C E => ?_
  have C : CX X RX11 "shows" prog_1_method_8_code 2 (some .long) := C
  show EV X 2 0 [(0, .ref a0), (1, .int i1)] [] 0 0 M
  unfold m_X11_shows at hf
  refine ev_iload_n C dX11_shows_0 rfl (q := 1) rfl ?_
  refine ev_bipush (v := 20) C dX11_shows_1 (by decide) ?_
  obtain ⟨x1, e2, hf⟩ := obnd hf
  refine ev_callS0 (As := [.int i1, .int 20]) (st := []) C (t_X11_within e2) hd_X11_within rfl kw_435 kw_436 kw_70 kw_437 (mRoom.of E (Nat.le_of_ble_eq_true rfl) (Nat.le_of_ble_eq_true rfl) (Nat.le_refl 0) (Nat.le_refl 0)) (Nat.le_of_ble_eq_true rfl) dX11_shows_3 ?_
  refine ev_if_eq (tgt := 23) C dX11_shows_6 (by decide) (fun hc => ?_) (fun hc => ?_)
  · have hf := oit hf hc
    refine ev_ldc2 (v := (-9223372036854775808)) C dX11_shows_23 kw_493 ?_
    obtain rfl := Option.some.inj hf
    exact ev_lret C E (Nat.le_refl 0) (Nat.le_refl 0) dX11_shows_26
  · have hf := oie hf hc
    refine ev_aload_n C dX11_shows_9 rfl (q := 0) rfl ?_
    obtain ⟨x3, e4, hf⟩ := obnd hf
    refine ev_get (k := 0) C ok_11 dX11_shows_10 (by decide) kw_392 (fR_V e4) ?_
    refine ev_iload_n C dX11_shows_13 rfl (q := 1) rfl ?_
    obtain ⟨_, e5, hf⟩ := obnd hf
    obtain ⟨fs6, e5⟩ := oO_eq e5
    obtain ⟨x7, e8, hf⟩ := obnd hf
    refine ev_callV0 (As := [.int i1]) (st := []) C rfl e5 (t_X5_showing e8) rfl hd_X5_showing rfl kw_481 kw_482 kw_71 kw_483 kw_484 (mRoom.of E (Nat.le_of_ble_eq_true rfl) (Nat.le_of_ble_eq_true rfl) (Nat.le_refl 0) (Nat.le_refl 0)) (Nat.le_of_ble_eq_true rfl) dX11_shows_14 ?_
    obtain ⟨x9, e10, hf⟩ := obnd hf
    refine ev_callS0 (As := [.double x7]) (st := []) C (t_X9_bitsOfDouble e10) hd_X9_bitsOfDouble rfl kw_486 kw_487 kw_77 kw_488 (mRoom.of E (Nat.le_of_ble_eq_true rfl) (Nat.le_of_ble_eq_true rfl) (Nat.le_refl 0) (Nat.le_refl 0)) (Nat.le_of_ble_eq_true rfl) dX11_shows_17 ?_
    refine ev_goto (tgt := 26) C dX11_shows_20 (by decide) ?_
    obtain rfl := Option.some.inj hf
    exact ev_lret C E (Nat.le_refl 0) (Nat.le_refl 0) dX11_shows_26
/-! FareLimits$Plan netBy(ID)D -/
theorem dX5_netBy_0 : decode prog_7_method_8_code 0 = .ok (.aload_n 0, 1) := by decide +kernel
theorem dX5_netBy_1 : decode prog_7_method_8_code 1 = .ok (.getfield 11, 3) := by decide +kernel
theorem dX5_netBy_4 : decode prog_7_method_8_code 4 = .ok (.iload_n 1, 1) := by decide +kernel
theorem dX5_netBy_5 : decode prog_7_method_8_code 5 = .ok (.aaload, 1) := by decide +kernel
theorem dX5_netBy_6 : decode prog_7_method_8_code 6 = .ok (.getfield 63, 3) := by decide +kernel
theorem dX5_netBy_9 : decode prog_7_method_8_code 9 = .ok (.getfield 67, 3) := by decide +kernel
theorem dX5_netBy_12 : decode prog_7_method_8_code 12 = .ok (.i2d, 1) := by decide +kernel
theorem dX5_netBy_13 : decode prog_7_method_8_code 13 = .ok (.ldc2_w 72, 3) := by decide +kernel
theorem dX5_netBy_16 : decode prog_7_method_8_code 16 = .ok (.ddiv, 1) := by decide +kernel
theorem dX5_netBy_17 : decode prog_7_method_8_code 17 = .ok (.dstore 4, 2) := by decide +kernel
theorem dX5_netBy_19 : decode prog_7_method_8_code 19 = .ok (.aload_n 0, 1) := by decide +kernel
theorem dX5_netBy_20 : decode prog_7_method_8_code 20 = .ok (.getfield 11, 3) := by decide +kernel
theorem dX5_netBy_23 : decode prog_7_method_8_code 23 = .ok (.iload_n 1, 1) := by decide +kernel
theorem dX5_netBy_24 : decode prog_7_method_8_code 24 = .ok (.aaload, 1) := by decide +kernel
theorem dX5_netBy_25 : decode prog_7_method_8_code 25 = .ok (.getfield 52, 3) := by decide +kernel
theorem dX5_netBy_28 : decode prog_7_method_8_code 28 = .ok (.i2d, 1) := by decide +kernel
theorem dX5_netBy_29 : decode prog_7_method_8_code 29 = .ok (.dload_n 2, 1) := by decide +kernel
theorem dX5_netBy_30 : decode prog_7_method_8_code 30 = .ok (.dconst 1, 1) := by decide +kernel
theorem dX5_netBy_31 : decode prog_7_method_8_code 31 = .ok (.dload_n 2, 1) := by decide +kernel
theorem dX5_netBy_32 : decode prog_7_method_8_code 32 = .ok (.dsub, 1) := by decide +kernel
theorem dX5_netBy_33 : decode prog_7_method_8_code 33 = .ok (.dload 4, 2) := by decide +kernel
theorem dX5_netBy_35 : decode prog_7_method_8_code 35 = .ok (.dmul, 1) := by decide +kernel
theorem dX5_netBy_36 : decode prog_7_method_8_code 36 = .ok (.dadd, 1) := by decide +kernel
theorem dX5_netBy_37 : decode prog_7_method_8_code 37 = .ok (.dmul, 1) := by decide +kernel
theorem dX5_netBy_38 : decode prog_7_method_8_code 38 = .ok (.dreturn, 1) := by decide +kernel
def m_X5_netBy (a0 : Nat) (i1 : Int32) (d2 : UInt64) (M : mM) : Option (UInt64) :=
  (fR M a0 5 0).bind fun x1 =>
  (aR 5 M x1 i1).bind fun x3 =>
  (fR M x3 3 0).bind fun x5 =>
  (zK2 x5).bind fun x7 =>
  (oD (FP.ddiv (FP.i2d x7) 4616189618054758400)).bind fun x9 =>
  (fR M a0 5 0).bind fun x11 =>
  (aR 5 M x11 i1).bind fun x13 =>
  (fI M x13 3 1).bind fun x15 =>
  (oD (FP.dsub FP.dconst1 d2)).bind fun x17 =>
  (oD (FP.dmul x17 x9)).bind fun x19 =>
  (oD (FP.dadd d2 x19)).bind fun x21 =>
  (oD (FP.dmul (FP.i2d x15) x21)).bind fun x23 =>
  some x23
set_option maxHeartbeats 4000000 in
set_option maxRecDepth 100000 in
theorem t_X5_netBy {L0 : Launch} {M : mM} {a0 : Nat} {i1 : Int32} {d2 : UInt64} {res : UInt64} (hf : m_X5_netBy a0 i1 d2 M = some res) : CT L0 yX5_netBy prog_7_method_8_code 6 (some .double) 0 0 0 0 [.ref a0, .int i1, .double d2] M (some (.double res)) M := by
  refine CT.of (by decide +kernel) (Nat.le_of_ble_eq_true rfl) fun X C E => ?_
  have C : CX X RX5 "netBy" prog_7_method_8_code 6 (some .double) := C
  show EV X 6 0 [(0, .ref a0), (1, .int i1), (2, .double d2)] [] 0 0 M
  unfold m_X5_netBy at hf
  refine ev_aload_n C dX5_netBy_0 rfl (q := 0) rfl ?_
  obtain ⟨x1, e2, hf⟩ := obnd hf
  refine ev_get (k := 0) C ok_5 dX5_netBy_1 (by decide) kw_176 (fR_V e2) ?_
  refine ev_iload_n C dX5_netBy_4 rfl (q := 1) rfl ?_
  obtain ⟨x3, e4, hf⟩ := obnd hf
  refine ev_aldr C (t := 5) rfl rfl dX5_netBy_5 e4 ?_
  obtain ⟨x5, e6, hf⟩ := obnd hf
  refine ev_get (k := 0) C ok_3 dX5_netBy_6 (by decide) kw_150 (fR_V e6) ?_
  obtain ⟨x7, e8, hf⟩ := obnd hf
  refine ev_zK2 C kw_1712 dX5_netBy_9 e8 ?_
  refine ev_i2d C dX5_netBy_12 ?_
  refine ev_ldc2d (v := 4616189618054758400) C dX5_netBy_13 kw_502 ?_
  obtain ⟨x9, e10, hf⟩ := obnd hf
  obtain ⟨e10, e10q⟩ := oD_eq e10
  refine ev_ddiv C dX5_netBy_16 e10 ?_
  rw [← e10q]
  refine ev_dstore (l' := [(4, .double x9), (0, .ref a0), (1, .int i1), (2, .double d2)]) C dX5_netBy_17 (by decide) rfl ?_
  refine ev_aload_n C dX5_netBy_19 rfl (q := 1) rfl ?_
  obtain ⟨x11, e12, hf⟩ := obnd hf
  refine ev_get (k := 0) C ok_5 dX5_netBy_20 (by decide) kw_176 (fR_V e12) ?_
  refine ev_iload_n C dX5_netBy_23 rfl (q := 2) rfl ?_
  obtain ⟨x13, e14, hf⟩ := obnd hf
  refine ev_aldr C (t := 5) rfl rfl dX5_netBy_24 e14 ?_
  obtain ⟨x15, e16, hf⟩ := obnd hf
  refine ev_get (k := 1) C ok_3 dX5_netBy_25 (by decide) kw_154 (fI_V e16) ?_
  refine ev_i2d C dX5_netBy_28 ?_
  refine ev_dload_n C dX5_netBy_29 rfl (q := 3) rfl ?_
  refine ev_dconst1 C dX5_netBy_30 ?_
  refine ev_dload_n C dX5_netBy_31 rfl (q := 3) rfl ?_
  obtain ⟨x17, e18, hf⟩ := obnd hf
  obtain ⟨e18, e18q⟩ := oD_eq e18
  refine ev_dsub C dX5_netBy_32 e18 ?_
  rw [← e18q]
  refine ev_dload C dX5_netBy_33 (q := 0) rfl ?_
  obtain ⟨x19, e20, hf⟩ := obnd hf
  obtain ⟨e20, e20q⟩ := oD_eq e20
  refine ev_dmul C dX5_netBy_35 e20 ?_
  rw [← e20q]
  obtain ⟨x21, e22, hf⟩ := obnd hf
  obtain ⟨e22, e22q⟩ := oD_eq e22
  refine ev_dadd C dX5_netBy_36 e22 ?_
  rw [← e22q]
  obtain ⟨x23, e24, hf⟩ := obnd hf
  obtain ⟨e24, e24q⟩ := oD_eq e24
  refine ev_dmul C dX5_netBy_37 e24 ?_
  rw [← e24q]
  obtain rfl := Option.some.inj hf
  exact ev_dret C E (Nat.le_refl 0) (Nat.le_refl 0) dX5_netBy_38
/-! FareLimits net(II)J -/
theorem dX11_net_0 : decode prog_1_method_9_code 0 = .ok (.aload_n 0, 1) := by decide +kernel
theorem dX11_net_1 : decode prog_1_method_9_code 1 = .ok (.getfield 12, 3) := by decide +kernel
theorem dX11_net_4 : decode prog_1_method_9_code 4 = .ok (.iload_n 1, 1) := by decide +kernel
theorem dX11_net_5 : decode prog_1_method_9_code 5 = .ok (.invokevirtual 112, 3) := by decide +kernel
theorem dX11_net_8 : decode prog_1_method_9_code 8 = .ok (.ifCond .eq 34, 3) := by decide +kernel
theorem dX11_net_11 : decode prog_1_method_9_code 11 = .ok (.iload_n 2, 1) := by decide +kernel
theorem dX11_net_12 : decode prog_1_method_9_code 12 = .ok (.bipush 20, 2) := by decide +kernel
theorem dX11_net_14 : decode prog_1_method_9_code 14 = .ok (.invokestatic 91, 3) := by decide +kernel
theorem dX11_net_17 : decode prog_1_method_9_code 17 = .ok (.ifCond .eq 25, 3) := by decide +kernel
theorem dX11_net_20 : decode prog_1_method_9_code 20 = .ok (.aload_n 0, 1) := by decide +kernel
theorem dX11_net_21 : decode prog_1_method_9_code 21 = .ok (.getfield 12, 3) := by decide +kernel
theorem dX11_net_24 : decode prog_1_method_9_code 24 = .ok (.iload_n 1, 1) := by decide +kernel
theorem dX11_net_25 : decode prog_1_method_9_code 25 = .ok (.aload_n 0, 1) := by decide +kernel
theorem dX11_net_26 : decode prog_1_method_9_code 26 = .ok (.getfield 12, 3) := by decide +kernel
theorem dX11_net_29 : decode prog_1_method_9_code 29 = .ok (.iload_n 2, 1) := by decide +kernel
theorem dX11_net_30 : decode prog_1_method_9_code 30 = .ok (.invokevirtual 144, 3) := by decide +kernel
theorem dX11_net_33 : decode prog_1_method_9_code 33 = .ok (.invokevirtual 154, 3) := by decide +kernel
theorem dX11_net_36 : decode prog_1_method_9_code 36 = .ok (.invokestatic 148, 3) := by decide +kernel
theorem dX11_net_39 : decode prog_1_method_9_code 39 = .ok (.goto 6, 3) := by decide +kernel
theorem dX11_net_42 : decode prog_1_method_9_code 42 = .ok (.ldc2_w 152, 3) := by decide +kernel
theorem dX11_net_45 : decode prog_1_method_9_code 45 = .ok (.lreturn, 1) := by decide +kernel
def m_X11_net (N : Nat) (a0 : Nat) (i1 : Int32) (i2 : Int32) (M : mM) : Option (Int64) :=
  (fR M a0 11 0).bind fun x1 =>
  (oO M x1 5).bind fun _ =>
  (m_X5_hasFare x1 i1 M).bind fun x5 =>
  if x5 = 0 then (
    some (-9223372036854775808)) else (
    (m_X11_within i2 20).bind fun x7 =>
    if x7 = 0 then (
      some (-9223372036854775808)) else (
      (fR M a0 11 0).bind fun x9 =>
      (fR M a0 11 0).bind fun x11 =>
      (oO M x11 5).bind fun _ =>
      (m_X5_showing N x11 i2 M).bind fun x15 =>
      (oO M x9 5).bind fun _ =>
      (m_X5_netBy x9 i1 x15 M).bind fun x19 =>
      (m_X9_bitsOfDouble N x19).bind fun x21 =>
      some x21))
set_option maxHeartbeats 4000000 in
set_option maxRecDepth 100000 in
theorem t_X11_net {L0 : Launch} {M : mM} {N : Nat} {a0 : Nat} {i1 : Int32} {i2 : Int32} {res : Int64} (hf : m_X11_net N a0 i1 i2 M = some res) : CT L0 yX11_net prog_1_method_9_code 3 (some .long) 1 26 0 0 [.ref a0, .int i1, .int i2] M (some (.long res)) M := by
  refine CT.of (by decide +kernel) (Nat.le_of_ble_eq_true rfl) fun X C E => ?_
  have C : CX X RX11 "net" prog_1_method_9_code 3 (some .long) := C
  show EV X 3 0 [(0, .ref a0), (1, .int i1), (2, .int i2)] [] 0 0 M
  unfold m_X11_net at hf
  refine ev_aload_n C dX11_net_0 rfl (q := 0) rfl ?_
  obtain ⟨x1, e2, hf⟩ := obnd hf
  refine ev_get (k := 0) C ok_11 dX11_net_1 (by decide) kw_392 (fR_V e2) ?_
  refine ev_iload_n C dX11_net_4 rfl (q := 1) rfl ?_
  obtain ⟨_, e3, hf⟩ := obnd hf
  obtain ⟨fs4, e3⟩ := oO_eq e3
  obtain ⟨x5, e6, hf⟩ := obnd hf
  refine ev_callV0 (As := [.int i1]) (st := []) C rfl e3 (t_X5_hasFare e6) rfl hd_X5_hasFare rfl kw_451 kw_452 kw_71 kw_453 kw_454 (mRoom.of E (Nat.le_of_ble_eq_true rfl) (Nat.le_of_ble_eq_true rfl) (Nat.le_refl 0) (Nat.le_refl 0)) (Nat.le_of_ble_eq_true rfl) dX11_net_5 ?_
  refine ev_if_eq (tgt := 42) C dX11_net_8 (by decide) (fun hc => ?_) (fun hc => ?_)
  · have hf := oit hf hc
    refine ev_ldc2 (v := (-9223372036854775808)) C dX11_net_42 kw_493 ?_
    obtain rfl := Option.some.inj hf
    exact ev_lret C E (Nat.le_refl 0) (Nat.le_refl 0) dX11_net_45
  · have hf := oie hf hc
    refine ev_iload_n C dX11_net_11 rfl (q := 2) rfl ?_
    refine ev_bipush (v := 20) C dX11_net_12 (by decide) ?_
    obtain ⟨x7, e8, hf⟩ := obnd hf
    refine ev_callS0 (As := [.int i2, .int 20]) (st := []) C (t_X11_within e8) hd_X11_within rfl kw_435 kw_436 kw_70 kw_437 (mRoom.of E (Nat.le_of_ble_eq_true rfl) (Nat.le_of_ble_eq_true rfl) (Nat.le_refl 0) (Nat.le_refl 0)) (Nat.le_of_ble_eq_true rfl) dX11_net_14 ?_
    refine ev_if_eq (tgt := 42) C dX11_net_17 (by decide) (fun hc => ?_) (fun hc => ?_)
    · have hf := oit hf hc
      refine ev_ldc2 (v := (-9223372036854775808)) C dX11_net_42 kw_493 ?_
      obtain rfl := Option.some.inj hf
      exact ev_lret C E (Nat.le_refl 0) (Nat.le_refl 0) dX11_net_45
    · have hf := oie hf hc
      refine ev_aload_n C dX11_net_20 rfl (q := 0) rfl ?_
      obtain ⟨x9, e10, hf⟩ := obnd hf
      refine ev_get (k := 0) C ok_11 dX11_net_21 (by decide) kw_392 (fR_V e10) ?_
      refine ev_iload_n C dX11_net_24 rfl (q := 1) rfl ?_
      refine ev_aload_n C dX11_net_25 rfl (q := 0) rfl ?_
      obtain ⟨x11, e12, hf⟩ := obnd hf
      refine ev_get (k := 0) C ok_11 dX11_net_26 (by decide) kw_392 (fR_V e12) ?_
      refine ev_iload_n C dX11_net_29 rfl (q := 2) rfl ?_
      obtain ⟨_, e13, hf⟩ := obnd hf
      obtain ⟨fs14, e13⟩ := oO_eq e13
      obtain ⟨x15, e16, hf⟩ := obnd hf
      refine ev_callV0 (As := [.int i2]) (st := [.int i1, .ref x9]) C rfl e13 (t_X5_showing e16) rfl hd_X5_showing rfl kw_481 kw_482 kw_71 kw_483 kw_484 (mRoom.of E (Nat.le_of_ble_eq_true rfl) (Nat.le_of_ble_eq_true rfl) (Nat.le_refl 0) (Nat.le_refl 0)) (Nat.le_of_ble_eq_true rfl) dX11_net_30 ?_
      obtain ⟨_, e17, hf⟩ := obnd hf
      obtain ⟨fs18, e17⟩ := oO_eq e17
      obtain ⟨x19, e20, hf⟩ := obnd hf
      refine ev_callV0 (As := [.int i1, .double x15]) (st := []) C rfl e17 (t_X5_netBy e20) rfl hd_X5_netBy rfl kw_498 kw_499 kw_71 kw_500 kw_501 (mRoom.of E (Nat.le_of_ble_eq_true rfl) (Nat.le_of_ble_eq_true rfl) (Nat.le_refl 0) (Nat.le_refl 0)) (Nat.le_of_ble_eq_true rfl) dX11_net_33 ?_
      obtain ⟨x21, e22, hf⟩ := obnd hf
      refine ev_callS0 (As := [.double x19]) (st := []) C (t_X9_bitsOfDouble e22) hd_X9_bitsOfDouble rfl kw_486 kw_487 kw_77 kw_488 (mRoom.of E (Nat.le_of_ble_eq_true rfl) (Nat.le_of_ble_eq_true rfl) (Nat.le_refl 0) (Nat.le_refl 0)) (Nat.le_of_ble_eq_true rfl) dX11_net_36 ?_
      refine ev_goto (tgt := 45) C dX11_net_39 (by decide) ?_
      obtain rfl := Option.some.inj hf
      exact ev_lret C E (Nat.le_refl 0) (Nat.le_refl 0) dX11_net_45
/-! FareLimits netCut(II)I -/
theorem dX11_netCut_0 : decode prog_1_method_10_code 0 = .ok (.aload_n 0, 1) := by decide +kernel
theorem dX11_netCut_1 : decode prog_1_method_10_code 1 = .ok (.getfield 12, 3) := by decide +kernel
theorem dX11_netCut_4 : decode prog_1_method_10_code 4 = .ok (.iload_n 1, 1) := by decide +kernel
theorem dX11_netCut_5 : decode prog_1_method_10_code 5 = .ok (.invokevirtual 112, 3) := by decide +kernel
theorem dX11_netCut_8 : decode prog_1_method_10_code 8 = .ok (.ifCond .eq 32, 3) := by decide +kernel
theorem dX11_netCut_11 : decode prog_1_method_10_code 11 = .ok (.iload_n 2, 1) := by decide +kernel
theorem dX11_netCut_12 : decode prog_1_method_10_code 12 = .ok (.bipush 20, 2) := by decide +kernel
theorem dX11_netCut_14 : decode prog_1_method_10_code 14 = .ok (.invokestatic 91, 3) := by decide +kernel
theorem dX11_netCut_17 : decode prog_1_method_10_code 17 = .ok (.ifCond .eq 23, 3) := by decide +kernel
theorem dX11_netCut_20 : decode prog_1_method_10_code 20 = .ok (.aload_n 0, 1) := by decide +kernel
theorem dX11_netCut_21 : decode prog_1_method_10_code 21 = .ok (.getfield 12, 3) := by decide +kernel
theorem dX11_netCut_24 : decode prog_1_method_10_code 24 = .ok (.iload_n 1, 1) := by decide +kernel
theorem dX11_netCut_25 : decode prog_1_method_10_code 25 = .ok (.aload_n 0, 1) := by decide +kernel
theorem dX11_netCut_26 : decode prog_1_method_10_code 26 = .ok (.getfield 12, 3) := by decide +kernel
theorem dX11_netCut_29 : decode prog_1_method_10_code 29 = .ok (.iload_n 2, 1) := by decide +kernel
theorem dX11_netCut_30 : decode prog_1_method_10_code 30 = .ok (.invokevirtual 144, 3) := by decide +kernel
theorem dX11_netCut_33 : decode prog_1_method_10_code 33 = .ok (.invokevirtual 154, 3) := by decide +kernel
theorem dX11_netCut_36 : decode prog_1_method_10_code 36 = .ok (.d2i, 1) := by decide +kernel
theorem dX11_netCut_37 : decode prog_1_method_10_code 37 = .ok (.goto 4, 3) := by decide +kernel
theorem dX11_netCut_40 : decode prog_1_method_10_code 40 = .ok (.iconst (-1), 1) := by decide +kernel
theorem dX11_netCut_41 : decode prog_1_method_10_code 41 = .ok (.ireturn, 1) := by decide +kernel
def m_X11_netCut (N : Nat) (a0 : Nat) (i1 : Int32) (i2 : Int32) (M : mM) : Option (Int32) :=
  (fR M a0 11 0).bind fun x1 =>
  (oO M x1 5).bind fun _ =>
  (m_X5_hasFare x1 i1 M).bind fun x5 =>
  if x5 = 0 then (
    some (-1)) else (
    (m_X11_within i2 20).bind fun x7 =>
    if x7 = 0 then (
      some (-1)) else (
      (fR M a0 11 0).bind fun x9 =>
      (fR M a0 11 0).bind fun x11 =>
      (oO M x11 5).bind fun _ =>
      (m_X5_showing N x11 i2 M).bind fun x15 =>
      (oO M x9 5).bind fun _ =>
      (m_X5_netBy x9 i1 x15 M).bind fun x19 =>
      some (FP.d2i x19)))
set_option maxHeartbeats 4000000 in
set_option maxRecDepth 100000 in
theorem t_X11_netCut {L0 : Launch} {M : mM} {N : Nat} {a0 : Nat} {i1 : Int32} {i2 : Int32} {res : Int32} (hf : m_X11_netCut N a0 i1 i2 M = some res) : CT L0 yX11_netCut prog_1_method_10_code 3 (some .int) 1 26 0 0 [.ref a0, .int i1, .int i2] M (some (.int res)) M := by
  refine CT.of (by decide +kernel) (Nat.le_of_ble_eq_true rfl) fun X C E => ?_
  have C : CX X RX11 "netCut" prog_1_method_10_code 3 (some .int) := C
  show EV X 3 0 [(0, .ref a0), (1, .int i1), (2, .int i2)] [] 0 0 M
  unfold m_X11_netCut at hf
  refine ev_aload_n C dX11_netCut_0 rfl (q := 0) rfl ?_
  obtain ⟨x1, e2, hf⟩ := obnd hf
  refine ev_get (k := 0) C ok_11 dX11_netCut_1 (by decide) kw_392 (fR_V e2) ?_
  refine ev_iload_n C dX11_netCut_4 rfl (q := 1) rfl ?_
  obtain ⟨_, e3, hf⟩ := obnd hf
  obtain ⟨fs4, e3⟩ := oO_eq e3
  obtain ⟨x5, e6, hf⟩ := obnd hf
  refine ev_callV0 (As := [.int i1]) (st := []) C rfl e3 (t_X5_hasFare e6) rfl hd_X5_hasFare rfl kw_451 kw_452 kw_71 kw_453 kw_454 (mRoom.of E (Nat.le_of_ble_eq_true rfl) (Nat.le_of_ble_eq_true rfl) (Nat.le_refl 0) (Nat.le_refl 0)) (Nat.le_of_ble_eq_true rfl) dX11_netCut_5 ?_
  refine ev_if_eq (tgt := 40) C dX11_netCut_8 (by decide) (fun hc => ?_) (fun hc => ?_)
  · have hf := oit hf hc
    refine ev_iconst (v := (-1)) C dX11_netCut_40 (by decide) ?_
    obtain rfl := Option.some.inj hf
    exact ev_iret C E (Nat.le_refl 0) (Nat.le_refl 0) dX11_netCut_41
  · have hf := oie hf hc
    refine ev_iload_n C dX11_netCut_11 rfl (q := 2) rfl ?_
    refine ev_bipush (v := 20) C dX11_netCut_12 (by decide) ?_
    obtain ⟨x7, e8, hf⟩ := obnd hf
    refine ev_callS0 (As := [.int i2, .int 20]) (st := []) C (t_X11_within e8) hd_X11_within rfl kw_435 kw_436 kw_70 kw_437 (mRoom.of E (Nat.le_of_ble_eq_true rfl) (Nat.le_of_ble_eq_true rfl) (Nat.le_refl 0) (Nat.le_refl 0)) (Nat.le_of_ble_eq_true rfl) dX11_netCut_14 ?_
    refine ev_if_eq (tgt := 40) C dX11_netCut_17 (by decide) (fun hc => ?_) (fun hc => ?_)
    · have hf := oit hf hc
      refine ev_iconst (v := (-1)) C dX11_netCut_40 (by decide) ?_
      obtain rfl := Option.some.inj hf
      exact ev_iret C E (Nat.le_refl 0) (Nat.le_refl 0) dX11_netCut_41
    · have hf := oie hf hc
      refine ev_aload_n C dX11_netCut_20 rfl (q := 0) rfl ?_
      obtain ⟨x9, e10, hf⟩ := obnd hf
      refine ev_get (k := 0) C ok_11 dX11_netCut_21 (by decide) kw_392 (fR_V e10) ?_
      refine ev_iload_n C dX11_netCut_24 rfl (q := 1) rfl ?_
      refine ev_aload_n C dX11_netCut_25 rfl (q := 0) rfl ?_
      obtain ⟨x11, e12, hf⟩ := obnd hf
      refine ev_get (k := 0) C ok_11 dX11_netCut_26 (by decide) kw_392 (fR_V e12) ?_
      refine ev_iload_n C dX11_netCut_29 rfl (q := 2) rfl ?_
      obtain ⟨_, e13, hf⟩ := obnd hf
      obtain ⟨fs14, e13⟩ := oO_eq e13
      obtain ⟨x15, e16, hf⟩ := obnd hf
      refine ev_callV0 (As := [.int i2]) (st := [.int i1, .ref x9]) C rfl e13 (t_X5_showing e16) rfl hd_X5_showing rfl kw_481 kw_482 kw_71 kw_483 kw_484 (mRoom.of E (Nat.le_of_ble_eq_true rfl) (Nat.le_of_ble_eq_true rfl) (Nat.le_refl 0) (Nat.le_refl 0)) (Nat.le_of_ble_eq_true rfl) dX11_netCut_30 ?_
      obtain ⟨_, e17, hf⟩ := obnd hf
      obtain ⟨fs18, e17⟩ := oO_eq e17
      obtain ⟨x19, e20, hf⟩ := obnd hf
      refine ev_callV0 (As := [.int i1, .double x15]) (st := []) C rfl e17 (t_X5_netBy e20) rfl hd_X5_netBy rfl kw_498 kw_499 kw_71 kw_500 kw_501 (mRoom.of E (Nat.le_of_ble_eq_true rfl) (Nat.le_of_ble_eq_true rfl) (Nat.le_refl 0) (Nat.le_refl 0)) (Nat.le_of_ble_eq_true rfl) dX11_netCut_33 ?_
      refine ev_d2i C dX11_netCut_36 ?_
      refine ev_goto (tgt := 41) C dX11_netCut_37 (by decide) ?_
      obtain rfl := Option.some.inj hf
      exact ev_iret C E (Nat.le_refl 0) (Nat.le_refl 0) dX11_netCut_41
/-! FareLimits phaseOf(I)I -/
theorem dX11_phaseOf_0 : decode prog_1_method_52_code 0 = .ok (.iload_n 0, 1) := by decide +kernel
theorem dX11_phaseOf_1 : decode prog_1_method_52_code 1 = .ok (.iconst 1, 1) := by decide +kernel
theorem dX11_phaseOf_2 : decode prog_1_method_52_code 2 = .ok (.isub, 1) := by decide +kernel
theorem dX11_phaseOf_3 : decode prog_1_method_52_code 3 = .ok (.iconst 5, 1) := by decide +kernel
theorem dX11_phaseOf_4 : decode prog_1_method_52_code 4 = .ok (.idiv, 1) := by decide +kernel
theorem dX11_phaseOf_5 : decode prog_1_method_52_code 5 = .ok (.ireturn, 1) := by decide +kernel
def m_X11_phaseOf (i0 : Int32) : Option (Int32) :=
  some ((i0 - 1) / 5)
set_option maxHeartbeats 4000000 in
set_option maxRecDepth 100000 in
theorem t_X11_phaseOf {L0 : Launch} {M : mM} {i0 : Int32} {res : Int32} (hf : m_X11_phaseOf i0 = some res) : CT L0 yX11_phaseOf prog_1_method_52_code 1 (some .int) 0 0 0 0 [.int i0] M (some (.int res)) M := by
  refine CT.of (by decide +kernel) (Nat.le_of_ble_eq_true rfl) fun X C E => ?_
  have C : CX X RX11 "phaseOf" prog_1_method_52_code 1 (some .int) := C
  show EV X 1 0 [(0, .int i0)] [] 0 0 M
  unfold m_X11_phaseOf at hf
  refine ev_iload_n C dX11_phaseOf_0 rfl (q := 0) rfl ?_
  refine ev_iconst (v := 1) C dX11_phaseOf_1 (by decide) ?_
  refine ev_isub C dX11_phaseOf_2 ?_
  refine ev_iconst (v := 5) C dX11_phaseOf_3 (by decide) ?_
  refine ev_idiv C dX11_phaseOf_4 (by decide) ?_
  obtain rfl := Option.some.inj hf
  exact ev_iret C E (Nat.le_refl 0) (Nat.le_refl 0) dX11_phaseOf_5
/-! FareLimits$Worths worthOf([DII)D -/
theorem dX10_worthOf_0 : decode prog_12_method_5_code 0 = .ok (.aload_n 1, 1) := by decide +kernel
theorem dX10_worthOf_1 : decode prog_12_method_5_code 1 = .ok (.iload_n 2, 1) := by decide +kernel
theorem dX10_worthOf_2 : decode prog_12_method_5_code 2 = .ok (.daload, 1) := by decide +kernel
theorem dX10_worthOf_3 : decode prog_12_method_5_code 3 = .ok (.aload_n 1, 1) := by decide +kernel
theorem dX10_worthOf_4 : decode prog_12_method_5_code 4 = .ok (.iload_n 2, 1) := by decide +kernel
theorem dX10_worthOf_5 : decode prog_12_method_5_code 5 = .ok (.iconst 1, 1) := by decide +kernel
theorem dX10_worthOf_6 : decode prog_12_method_5_code 6 = .ok (.isub, 1) := by decide +kernel
theorem dX10_worthOf_7 : decode prog_12_method_5_code 7 = .ok (.daload, 1) := by decide +kernel
theorem dX10_worthOf_8 : decode prog_12_method_5_code 8 = .ok (.dsub, 1) := by decide +kernel
theorem dX10_worthOf_9 : decode prog_12_method_5_code 9 = .ok (.dstore 4, 2) := by decide +kernel
theorem dX10_worthOf_11 : decode prog_12_method_5_code 11 = .ok (.aload_n 1, 1) := by decide +kernel
theorem dX10_worthOf_12 : decode prog_12_method_5_code 12 = .ok (.iload_n 2, 1) := by decide +kernel
theorem dX10_worthOf_13 : decode prog_12_method_5_code 13 = .ok (.daload, 1) := by decide +kernel
theorem dX10_worthOf_14 : decode prog_12_method_5_code 14 = .ok (.dstore 6, 2) := by decide +kernel
theorem dX10_worthOf_16 : decode prog_12_method_5_code 16 = .ok (.iconst 0, 1) := by decide +kernel
theorem dX10_worthOf_17 : decode prog_12_method_5_code 17 = .ok (.istore 8, 2) := by decide +kernel
theorem dX10_worthOf_19 : decode prog_12_method_5_code 19 = .ok (.iload 8, 2) := by decide +kernel
theorem dX10_worthOf_21 : decode prog_12_method_5_code 21 = .ok (.aload_n 0, 1) := by decide +kernel
theorem dX10_worthOf_22 : decode prog_12_method_5_code 22 = .ok (.getfield 20, 3) := by decide +kernel
theorem dX10_worthOf_25 : decode prog_12_method_5_code 25 = .ok (.getfield 44, 3) := by decide +kernel
theorem dX10_worthOf_28 : decode prog_12_method_5_code 28 = .ok (.if_icmp .ge 56, 3) := by decide +kernel
theorem dX10_worthOf_31 : decode prog_12_method_5_code 31 = .ok (.aload_n 0, 1) := by decide +kernel
theorem dX10_worthOf_32 : decode prog_12_method_5_code 32 = .ok (.getfield 16, 3) := by decide +kernel
theorem dX10_worthOf_35 : decode prog_12_method_5_code 35 = .ok (.iload 8, 2) := by decide +kernel
theorem dX10_worthOf_37 : decode prog_12_method_5_code 37 = .ok (.daload, 1) := by decide +kernel
theorem dX10_worthOf_38 : decode prog_12_method_5_code 38 = .ok (.dload 4, 2) := by decide +kernel
theorem dX10_worthOf_40 : decode prog_12_method_5_code 40 = .ok (.dsub, 1) := by decide +kernel
theorem dX10_worthOf_41 : decode prog_12_method_5_code 41 = .ok (.dstore 9, 2) := by decide +kernel
theorem dX10_worthOf_43 : decode prog_12_method_5_code 43 = .ok (.dload 9, 2) := by decide +kernel
theorem dX10_worthOf_45 : decode prog_12_method_5_code 45 = .ok (.dconst 0, 1) := by decide +kernel
theorem dX10_worthOf_46 : decode prog_12_method_5_code 46 = .ok (.dcmp .l, 1) := by decide +kernel
theorem dX10_worthOf_47 : decode prog_12_method_5_code 47 = .ok (.ifCond .le 31, 3) := by decide +kernel
theorem dX10_worthOf_50 : decode prog_12_method_5_code 50 = .ok (.dload 6, 2) := by decide +kernel
theorem dX10_worthOf_52 : decode prog_12_method_5_code 52 = .ok (.aload_n 0, 1) := by decide +kernel
theorem dX10_worthOf_53 : decode prog_12_method_5_code 53 = .ok (.getfield 20, 3) := by decide +kernel
theorem dX10_worthOf_56 : decode prog_12_method_5_code 56 = .ok (.getfield 63, 3) := by decide +kernel
theorem dX10_worthOf_59 : decode prog_12_method_5_code 59 = .ok (.iload 8, 2) := by decide +kernel
theorem dX10_worthOf_61 : decode prog_12_method_5_code 61 = .ok (.aaload, 1) := by decide +kernel
theorem dX10_worthOf_62 : decode prog_12_method_5_code 62 = .ok (.getfield 67, 3) := by decide +kernel
theorem dX10_worthOf_65 : decode prog_12_method_5_code 65 = .ok (.iload_n 3, 1) := by decide +kernel
theorem dX10_worthOf_66 : decode prog_12_method_5_code 66 = .ok (.iaload, 1) := by decide +kernel
theorem dX10_worthOf_67 : decode prog_12_method_5_code 67 = .ok (.i2d, 1) := by decide +kernel
theorem dX10_worthOf_68 : decode prog_12_method_5_code 68 = .ok (.ldc2_w 72, 3) := by decide +kernel
theorem dX10_worthOf_71 : decode prog_12_method_5_code 71 = .ok (.ddiv, 1) := by decide +kernel
theorem dX10_worthOf_72 : decode prog_12_method_5_code 72 = .ok (.dload 9, 2) := by decide +kernel
theorem dX10_worthOf_74 : decode prog_12_method_5_code 74 = .ok (.dmul, 1) := by decide +kernel
theorem dX10_worthOf_75 : decode prog_12_method_5_code 75 = .ok (.dadd, 1) := by decide +kernel
theorem dX10_worthOf_76 : decode prog_12_method_5_code 76 = .ok (.dstore 6, 2) := by decide +kernel
theorem dX10_worthOf_78 : decode prog_12_method_5_code 78 = .ok (.iinc 8 1, 3) := by decide +kernel
theorem dX10_worthOf_81 : decode prog_12_method_5_code 81 = .ok (.goto (-62), 3) := by decide +kernel
theorem dX10_worthOf_84 : decode prog_12_method_5_code 84 = .ok (.dload 6, 2) := by decide +kernel
theorem dX10_worthOf_86 : decode prog_12_method_5_code 86 = .ok (.dreturn, 1) := by decide +kernel
def m_X10_worthOf_J78 (N : Nat) (M : mM) (k19 : Nat → Int32 → UInt64 → UInt64 → Int32 → Option (UInt64)) (a0 : Nat) (i3 : Int32) (d4 : UInt64) (d6 : UInt64) (i8 : Int32) : Option (UInt64) :=
  k19 a0 i3 d4 d6 (i8 + 1)
set_option maxHeartbeats 4000000 in
set_option maxRecDepth 100000 in
theorem t_X10_worthOf_J78 {X : mX} {M : mM} {L0 : Launch} {res : UInt64} {N : Nat} (C : CX X RX10 "worthOf" prog_12_method_5_code 11 (some .double)) (E : EX X L0 0 0 0 0 (some (.double res)) M) (k19 : Nat → Int32 → UInt64 → UInt64 → Int32 → Option (UInt64)) (Hk19 : ∀ (a0 : Nat) (i3 : Int32) (d4 : UInt64) (d6 : UInt64) (i8 : Int32), k19 a0 i3 d4 d6 i8 = some res → EV X 11 19 [(0, .ref a0), (3, .int i3), (4, .double d4), (6, .double d6), (8, .int i8)] [] 0 0 M) (a0 : Nat) (i3 : Int32) (d4 : UInt64) (d6 : UInt64) (i8 : Int32) (hf : m_X10_worthOf_J78 N M k19 a0 i3 d4 d6 i8 = some res) : EV X 11 78 [(0, .ref a0), (3, .int i3), (4, .double d4), (6, .double d6), (8, .int i8)] [] 0 0 M := by
  unfold m_X10_worthOf_J78 at hf
  refine ev_iinc (v := i8 + 1) (l' := [(8, .int (i8 + 1)), (0, .ref a0), (3, .int i3), (4, .double d4), (6, .double d6)]) C dX10_worthOf_78 (q := 4) rfl rfl (by decide) rfl ?_
  refine ev_goto (tgt := 19) C dX10_worthOf_81 (by decide) ?_
  refine ev_sub [1, 2, 3, 4, 0] rfl ?_
  exact Hk19 a0 i3 d4 d6 (i8 + 1) hf
def m_X10_worthOf_L19 (N : Nat) (M : mM)  : Nat → Nat → Int32 → UInt64 → UInt64 → Int32 → Option (UInt64)
  | 0, _, _, _, _, _ => none
  | n + 1, a0, i3, d4, d6, i8 =>
    (fR M a0 10 0).bind fun x1 =>
    (fI M x1 5 1).bind fun x3 =>
    if x3 ≤ i8 then (
      some d6) else (
      (fR M a0 10 2).bind fun x5 =>
      (aD M x5 i8).bind fun x7 =>
      (oD (FP.dsub x7 d4)).bind fun x9 =>
      if (Op.cmpValue (FP.dcmp x9 FP.dconst0) CmpOp.l) ≤ 0 then (
        m_X10_worthOf_J78 N M (m_X10_worthOf_L19 N M  n) a0 i3 d4 d6 i8) else (
        (fR M a0 10 0).bind fun x11 =>
        (fR M x11 5 0).bind fun x13 =>
        (aR 5 M x13 i8).bind fun x15 =>
        (fR M x15 3 3).bind fun x17 =>
        (aI 0 M x17 i3).bind fun x19 =>
        (oD (FP.ddiv (FP.i2d x19) 4636737291354636288)).bind fun x21 =>
        (oD (FP.dmul x21 x9)).bind fun x23 =>
        (oD (FP.dadd d6 x23)).bind fun x25 =>
        m_X10_worthOf_J78 N M (m_X10_worthOf_L19 N M  n) a0 i3 d4 x25 i8))
set_option maxHeartbeats 4000000 in
set_option maxRecDepth 100000 in
theorem t_X10_worthOf_L19 {X : mX} {M : mM} {L0 : Launch} {res : UInt64} {N : Nat} (C : CX X RX10 "worthOf" prog_12_method_5_code 11 (some .double)) (E : EX X L0 0 0 0 0 (some (.double res)) M)   : ∀ (n : Nat) (a0 : Nat) (i3 : Int32) (d4 : UInt64) (d6 : UInt64) (i8 : Int32), m_X10_worthOf_L19 N M  n a0 i3 d4 d6 i8 = some res → EV X 11 19 [(0, .ref a0), (3, .int i3), (4, .double d4), (6, .double d6), (8, .int i8)] [] 0 0 M := by
  intro n
  induction n with
  | zero => intro a0 i3 d4 d6 i8 hf; cases (show (none : Option (UInt64)) = some res from hf)
  | succ n ih =>
    intro a0 i3 d4 d6 i8 hf
    rw [m_X10_worthOf_L19] at hf
    refine ev_iload C dX10_worthOf_19 (q := 4) rfl ?_
    refine ev_aload_n C dX10_worthOf_21 rfl (q := 0) rfl ?_
    obtain ⟨x1, e2, hf⟩ := obnd hf
    refine ev_get (k := 0) C ok_10 dX10_worthOf_22 (by decide) kw_216 (fR_V e2) ?_
    obtain ⟨x3, e4, hf⟩ := obnd hf
    refine ev_get (k := 1) C ok_5 dX10_worthOf_25 (by decide) kw_184 (fI_V e4) ?_
    refine ev_icmp_ge (tgt := 84) C dX10_worthOf_28 (by decide) (fun hc => ?_) (fun hc => ?_)
    · have hf := oit hf hc
      refine ev_dload C dX10_worthOf_84 (q := 3) rfl ?_
      obtain rfl := Option.some.inj hf
      exact ev_dret C E (Nat.le_refl 0) (Nat.le_refl 0) dX10_worthOf_86
    · have hf := oie hf hc
      refine ev_aload_n C dX10_worthOf_31 rfl (q := 0) rfl ?_
      obtain ⟨x5, e6, hf⟩ := obnd hf
      refine ev_get (k := 2) C ok_10 dX10_worthOf_32 (by decide) kw_218 (fR_V e6) ?_
      refine ev_iload C dX10_worthOf_35 (q := 4) rfl ?_
      obtain ⟨x7, e8, hf⟩ := obnd hf
      refine ev_dald C dX10_worthOf_37 e8 ?_
      refine ev_dload C dX10_worthOf_38 (q := 2) rfl ?_
      obtain ⟨x9, e10, hf⟩ := obnd hf
      obtain ⟨e10, e10q⟩ := oD_eq e10
      refine ev_dsub C dX10_worthOf_40 e10 ?_
      rw [← e10q]
      refine ev_dstore (l' := [(9, .double x9), (0, .ref a0), (3, .int i3), (4, .double d4), (6, .double d6), (8, .int i8)]) C dX10_worthOf_41 (by decide) rfl ?_
      refine ev_dload C dX10_worthOf_43 (q := 0) rfl ?_
      refine ev_dconst0 C dX10_worthOf_45 ?_
      refine ev_dcmp C dX10_worthOf_46 ?_
      refine ev_if_le (tgt := 78) C dX10_worthOf_47 (by decide) (fun hc => ?_) (fun hc => ?_)
      · have hf := oit hf hc
        refine ev_sub [1, 2, 3, 4, 5] rfl ?_
        exact t_X10_worthOf_J78 C E (m_X10_worthOf_L19 N M  n) ih a0 i3 d4 d6 i8 hf
      · have hf := oie hf hc
        refine ev_dload C dX10_worthOf_50 (q := 4) rfl ?_
        refine ev_aload_n C dX10_worthOf_52 rfl (q := 1) rfl ?_
        obtain ⟨x11, e12, hf⟩ := obnd hf
        refine ev_get (k := 0) C ok_10 dX10_worthOf_53 (by decide) kw_216 (fR_V e12) ?_
        obtain ⟨x13, e14, hf⟩ := obnd hf
        refine ev_get (k := 0) C ok_5 dX10_worthOf_56 (by decide) kw_180 (fR_V e14) ?_
        refine ev_iload C dX10_worthOf_59 (q := 5) rfl ?_
        obtain ⟨x15, e16, hf⟩ := obnd hf
        refine ev_aldr C (t := 5) rfl rfl dX10_worthOf_61 e16 ?_
        obtain ⟨x17, e18, hf⟩ := obnd hf
        refine ev_get (k := 3) C ok_3 dX10_worthOf_62 (by decide) kw_164 (fR_V e18) ?_
        refine ev_iload_n C dX10_worthOf_65 rfl (q := 2) rfl ?_
        obtain ⟨x19, e20, hf⟩ := obnd hf
        refine ev_iald C dX10_worthOf_66 e20 ?_
        refine ev_i2d C dX10_worthOf_67 ?_
        refine ev_ldc2d (v := 4636737291354636288) C dX10_worthOf_68 kw_528 ?_
        obtain ⟨x21, e22, hf⟩ := obnd hf
        obtain ⟨e22, e22q⟩ := oD_eq e22
        refine ev_ddiv C dX10_worthOf_71 e22 ?_
        rw [← e22q]
        refine ev_dload C dX10_worthOf_72 (q := 0) rfl ?_
        obtain ⟨x23, e24, hf⟩ := obnd hf
        obtain ⟨e24, e24q⟩ := oD_eq e24
        refine ev_dmul C dX10_worthOf_74 e24 ?_
        rw [← e24q]
        obtain ⟨x25, e26, hf⟩ := obnd hf
        obtain ⟨e26, e26q⟩ := oD_eq e26
        refine ev_dadd C dX10_worthOf_75 e26 ?_
        rw [← e26q]
        refine ev_dstore (l' := [(6, .double x25), (9, .double x9), (0, .ref a0), (3, .int i3), (4, .double d4), (8, .int i8)]) C dX10_worthOf_76 (by decide) rfl ?_
        refine ev_sub [2, 3, 4, 0, 5] rfl ?_
        exact t_X10_worthOf_J78 C E (m_X10_worthOf_L19 N M  n) ih a0 i3 d4 x25 i8 hf
def m_X10_worthOf (N : Nat) (a0 : Nat) (a1 : Nat) (i2 : Int32) (i3 : Int32) (M : mM) : Option (UInt64) :=
  (aD M a1 i2).bind fun x1 =>
  (aD M a1 (i2 - 1)).bind fun x3 =>
  (oD (FP.dsub x1 x3)).bind fun x5 =>
  (aD M a1 i2).bind fun x7 =>
  m_X10_worthOf_L19 N M  N a0 i3 x5 x7 0
set_option maxHeartbeats 4000000 in
set_option maxRecDepth 100000 in
theorem t_X10_worthOf {L0 : Launch} {M : mM} {N : Nat} {a0 : Nat} {a1 : Nat} {i2 : Int32} {i3 : Int32} {res : UInt64} (hf : m_X10_worthOf N a0 a1 i2 i3 M = some res) : CT L0 yX10_worthOf prog_12_method_5_code 11 (some .double) 0 0 0 0 [.ref a0, .ref a1, .int i2, .int i3] M (some (.double res)) M := by
  refine CT.of (by decide +kernel) (Nat.le_of_ble_eq_true rfl) fun X C E => ?_
  have C : CX X RX10 "worthOf" prog_12_method_5_code 11 (some .double) := C
  show EV X 11 0 [(0, .ref a0), (1, .ref a1), (2, .int i2), (3, .int i3)] [] 0 0 M
  unfold m_X10_worthOf at hf
  refine ev_aload_n C dX10_worthOf_0 rfl (q := 1) rfl ?_
  refine ev_iload_n C dX10_worthOf_1 rfl (q := 2) rfl ?_
  obtain ⟨x1, e2, hf⟩ := obnd hf
  refine ev_dald C dX10_worthOf_2 e2 ?_
  refine ev_aload_n C dX10_worthOf_3 rfl (q := 1) rfl ?_
  refine ev_iload_n C dX10_worthOf_4 rfl (q := 2) rfl ?_
  refine ev_iconst (v := 1) C dX10_worthOf_5 (by decide) ?_
  refine ev_isub C dX10_worthOf_6 ?_
  obtain ⟨x3, e4, hf⟩ := obnd hf
  refine ev_dald C dX10_worthOf_7 e4 ?_
  obtain ⟨x5, e6, hf⟩ := obnd hf
  obtain ⟨e6, e6q⟩ := oD_eq e6
  refine ev_dsub C dX10_worthOf_8 e6 ?_
  rw [← e6q]
  refine ev_dstore (l' := [(4, .double x5), (0, .ref a0), (1, .ref a1), (2, .int i2), (3, .int i3)]) C dX10_worthOf_9 (by decide) rfl ?_
  refine ev_aload_n C dX10_worthOf_11 rfl (q := 2) rfl ?_
  refine ev_iload_n C dX10_worthOf_12 rfl (q := 3) rfl ?_
  obtain ⟨x7, e8, hf⟩ := obnd hf
  refine ev_dald C dX10_worthOf_13 e8 ?_
  refine ev_dstore (l' := [(6, .double x7), (4, .double x5), (0, .ref a0), (1, .ref a1), (2, .int i2), (3, .int i3)]) C dX10_worthOf_14 (by decide) rfl ?_
  refine ev_iconst (v := 0) C dX10_worthOf_16 (by decide) ?_
  refine ev_istore (l' := [(8, .int 0), (6, .double x7), (4, .double x5), (0, .ref a0), (1, .ref a1), (2, .int i2), (3, .int i3)]) C dX10_worthOf_17 (by decide) rfl ?_
  refine ev_sub [3, 6, 2, 1, 0] rfl ?_
  exact t_X10_worthOf_L19 C E   N a0 i3 x5 x7 0 hf

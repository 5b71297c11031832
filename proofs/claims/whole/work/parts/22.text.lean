/-! java/util/Arrays copyOf([BI)[B -/
theorem dJ7_copyOf_9075b_0 : decode prog_28_method_121_code 0 = .ok (.iload_n 1, 1) := by decide +kernel
theorem dJ7_copyOf_9075b_1 : decode prog_28_method_121_code 1 = .ok (.aload_n 0, 1) := by decide +kernel
theorem dJ7_copyOf_9075b_2 : decode prog_28_method_121_code 2 = .ok (.arraylength, 1) := by decide +kernel
theorem dJ7_copyOf_9075b_3 : decode prog_28_method_121_code 3 = .ok (.if_icmp .ne 11, 3) := by decide +kernel
theorem dJ7_copyOf_9075b_6 : decode prog_28_method_121_code 6 = .ok (.aload_n 0, 1) := by decide +kernel
theorem dJ7_copyOf_9075b_7 : decode prog_28_method_121_code 7 = .ok (.invokevirtual 310, 3) := by decide +kernel
theorem dJ7_copyOf_9075b_10 : decode prog_28_method_121_code 10 = .ok (.checkcast 311, 3) := by decide +kernel
theorem dJ7_copyOf_9075b_13 : decode prog_28_method_121_code 13 = .ok (.areturn, 1) := by decide +kernel
theorem dJ7_copyOf_9075b_14 : decode prog_28_method_121_code 14 = .ok (.iload_n 1, 1) := by decide +kernel
theorem dJ7_copyOf_9075b_15 : decode prog_28_method_121_code 15 = .ok (.newarray .byte, 2) := by decide +kernel
theorem dJ7_copyOf_9075b_17 : decode prog_28_method_121_code 17 = .ok (.astore_n 2, 1) := by decide +kernel
theorem dJ7_copyOf_9075b_18 : decode prog_28_method_121_code 18 = .ok (.aload_n 0, 1) := by decide +kernel
theorem dJ7_copyOf_9075b_19 : decode prog_28_method_121_code 19 = .ok (.iconst 0, 1) := by decide +kernel
theorem dJ7_copyOf_9075b_20 : decode prog_28_method_121_code 20 = .ok (.aload_n 2, 1) := by decide +kernel
theorem dJ7_copyOf_9075b_21 : decode prog_28_method_121_code 21 = .ok (.iconst 0, 1) := by decide +kernel
theorem dJ7_copyOf_9075b_22 : decode prog_28_method_121_code 22 = .ok (.aload_n 0, 1) := by decide +kernel
theorem dJ7_copyOf_9075b_23 : decode prog_28_method_121_code 23 = .ok (.arraylength, 1) := by decide +kernel
theorem dJ7_copyOf_9075b_24 : decode prog_28_method_121_code 24 = .ok (.iload_n 1, 1) := by decide +kernel
theorem dJ7_copyOf_9075b_25 : decode prog_28_method_121_code 25 = .ok (.invokestatic 304, 3) := by decide +kernel
theorem dJ7_copyOf_9075b_28 : decode prog_28_method_121_code 28 = .ok (.invokestatic 150, 3) := by decide +kernel
theorem dJ7_copyOf_9075b_31 : decode prog_28_method_121_code 31 = .ok (.aload_n 2, 1) := by decide +kernel
theorem dJ7_copyOf_9075b_32 : decode prog_28_method_121_code 32 = .ok (.areturn, 1) := by decide +kernel
def m_J7_copyOf_9075b (mc ms : Nat) (a0 : Nat) (i1 : Int32) (M : mM) : Option (Nat × mM) :=
  (aN 4 M a0).bind fun x1 =>
  if i1 = x1 then (
    none) else (
    (oif (¬ i1 < 0 ∧ (i1).toNatClampNeg ≤ 60000000)).bind fun _ =>
    (oif (0 + 1 ≤ mc ∧ 0 + ((i1).toNatClampNeg) ≤ ms)).bind fun _ =>
    (aN 4 (M ++ [.inl (4, (i1).toNatClampNeg, .inl (fun _ => 0))]) a0).bind fun x4 =>
    (cpB (M ++ [.inl (4, (i1).toNatClampNeg, .inl (fun _ => 0))]) a0 0 M.length 0 (iMin x4 i1)).bind fun M6 =>
    some (M.length, M6))
set_option maxHeartbeats 4000000 in
set_option maxRecDepth 100000 in
theorem t_J7_copyOf_9075b {L0 : Launch} {M : mM} {mc ms : Nat} {a0 : Nat} {i1 : Int32} {res : Nat × mM} (hf : m_J7_copyOf_9075b mc ms a0 i1 M = some res) : CT L0 yJ7_copyOf_9075b prog_28_method_121_code 3 (some (.array .byte)) 1 40 mc ms [.ref a0, .int i1] M (some (.ref res.1)) res.2 := by
  refine CT.of (by decide +kernel) (Nat.le_of_ble_eq_true rfl) fun X C E => ?_
  have C : CX X RJ7 "copyOf" prog_28_method_121_code 3 (some (.array .byte)) := C
  show EV X 3 0 [(0, .ref a0), (1, .int i1)] [] 0 0 M
  unfold m_J7_copyOf_9075b at hf
  have hk : 0 ≤ mc ∧ 0 ≤ ms := ⟨Nat.zero_le _, Nat.zero_le _⟩
  refine ev_iload_n C dJ7_copyOf_9075b_0 rfl (q := 1) rfl ?_
  refine ev_aload_n C dJ7_copyOf_9075b_1 rfl (q := 0) rfl ?_
  obtain ⟨x1, e2, hf⟩ := obnd hf
  refine ev_alen (t := 4) C rfl dJ7_copyOf_9075b_2 e2 ?_
  refine ev_icmp_ne (tgt := 14) C dJ7_copyOf_9075b_3 (by decide) (fun hc => ?_) (fun hc => ?_)
  · have hf := oie hf hc
    refine ev_iload_n C dJ7_copyOf_9075b_14 rfl (q := 1) rfl ?_
    obtain ⟨_, e3, hf⟩ := obnd hf
    have e3 := oif_eq e3
    obtain ⟨_, hk, hf⟩ := obnd hf
    have hk := oif_eq hk
    refine ev_newa_b (N := (i1).toNatClampNeg) C dJ7_copyOf_9075b_15 kw_365 e3.1 rfl e3.2 (mcap E hk).1 (mcap E hk).2 ?_
    refine ev_astore_n (l' := [(2, .ref M.length), (0, .ref a0), (1, .int i1)]) C dJ7_copyOf_9075b_17 rfl (by decide) rfl ?_
    refine ev_aload_n C dJ7_copyOf_9075b_18 rfl (q := 1) rfl ?_
    refine ev_iconst (v := 0) C dJ7_copyOf_9075b_19 (by decide) ?_
    refine ev_aload_n C dJ7_copyOf_9075b_20 rfl (q := 0) rfl ?_
    refine ev_iconst (v := 0) C dJ7_copyOf_9075b_21 (by decide) ?_
    refine ev_aload_n C dJ7_copyOf_9075b_22 rfl (q := 1) rfl ?_
    obtain ⟨x4, e5, hf⟩ := obnd hf
    refine ev_alen (t := 4) C rfl dJ7_copyOf_9075b_23 e5 ?_
    refine ev_iload_n C dJ7_copyOf_9075b_24 rfl (q := 2) rfl ?_
    refine ev_mmin C kw_869 kw_630 kw_90 kw_631 (mfr E (by decide)) (mlo E (by decide)) (mcap E hk).1 (mcap E hk).2 (Nat.le_of_ble_eq_true rfl) dJ7_copyOf_9075b_25 ?_
    obtain ⟨M6, e7, hf⟩ := obnd hf
    refine ev_cpB C kw_870 kw_872 kw_871 kw_94 (mfr E (by decide)) (mlo E (by decide)) (Nat.le_of_ble_eq_true rfl) dJ7_copyOf_9075b_28 e7 ?_
    refine ev_aload_n C dJ7_copyOf_9075b_31 rfl (q := 0) rfl ?_
    obtain rfl := Option.some.inj hf
    exact ev_aret C (by first | exact Or.inl ⟨_, rfl⟩ | exact Or.inr ⟨_, rfl⟩) E hk.1 hk.2 dJ7_copyOf_9075b_32
  · have hf := oit hf hc
    refine ev_aload_n C dJ7_copyOf_9075b_6 rfl (q := 0) rfl ?_
    cases hf
/-! java/lang/AbstractStringBuilder ensureCapacityInternal(I)V -/
theorem dJ5_ensureCapacityInternal_d00df_0 : decode prog_15_method_9_code 0 = .ok (.aload_n 0, 1) := by decide +kernel
theorem dJ5_ensureCapacityInternal_d00df_1 : decode prog_15_method_9_code 1 = .ok (.getfield 15, 3) := by decide +kernel
theorem dJ5_ensureCapacityInternal_d00df_4 : decode prog_15_method_9_code 4 = .ok (.arraylength, 1) := by decide +kernel
theorem dJ5_ensureCapacityInternal_d00df_5 : decode prog_15_method_9_code 5 = .ok (.aload_n 0, 1) := by decide +kernel
theorem dJ5_ensureCapacityInternal_d00df_6 : decode prog_15_method_9_code 6 = .ok (.getfield 22, 3) := by decide +kernel
theorem dJ5_ensureCapacityInternal_d00df_9 : decode prog_15_method_9_code 9 = .ok (.ishr, 1) := by decide +kernel
theorem dJ5_ensureCapacityInternal_d00df_10 : decode prog_15_method_9_code 10 = .ok (.istore_n 2, 1) := by decide +kernel
theorem dJ5_ensureCapacityInternal_d00df_11 : decode prog_15_method_9_code 11 = .ok (.iload_n 1, 1) := by decide +kernel
theorem dJ5_ensureCapacityInternal_d00df_12 : decode prog_15_method_9_code 12 = .ok (.iload_n 2, 1) := by decide +kernel
theorem dJ5_ensureCapacityInternal_d00df_13 : decode prog_15_method_9_code 13 = .ok (.isub, 1) := by decide +kernel
theorem dJ5_ensureCapacityInternal_d00df_14 : decode prog_15_method_9_code 14 = .ok (.ifCond .le 24, 3) := by decide +kernel
theorem dJ5_ensureCapacityInternal_d00df_17 : decode prog_15_method_9_code 17 = .ok (.aload_n 0, 1) := by decide +kernel
theorem dJ5_ensureCapacityInternal_d00df_18 : decode prog_15_method_9_code 18 = .ok (.aload_n 0, 1) := by decide +kernel
theorem dJ5_ensureCapacityInternal_d00df_19 : decode prog_15_method_9_code 19 = .ok (.getfield 15, 3) := by decide +kernel
theorem dJ5_ensureCapacityInternal_d00df_22 : decode prog_15_method_9_code 22 = .ok (.aload_n 0, 1) := by decide +kernel
theorem dJ5_ensureCapacityInternal_d00df_23 : decode prog_15_method_9_code 23 = .ok (.iload_n 1, 1) := by decide +kernel
theorem dJ5_ensureCapacityInternal_d00df_24 : decode prog_15_method_9_code 24 = .ok (.invokevirtual 104, 3) := by decide +kernel
theorem dJ5_ensureCapacityInternal_d00df_27 : decode prog_15_method_9_code 27 = .ok (.aload_n 0, 1) := by decide +kernel
theorem dJ5_ensureCapacityInternal_d00df_28 : decode prog_15_method_9_code 28 = .ok (.getfield 22, 3) := by decide +kernel
theorem dJ5_ensureCapacityInternal_d00df_31 : decode prog_15_method_9_code 31 = .ok (.ishl, 1) := by decide +kernel
theorem dJ5_ensureCapacityInternal_d00df_32 : decode prog_15_method_9_code 32 = .ok (.invokestatic 108, 3) := by decide +kernel
theorem dJ5_ensureCapacityInternal_d00df_35 : decode prog_15_method_9_code 35 = .ok (.putfield 15, 3) := by decide +kernel
theorem dJ5_ensureCapacityInternal_d00df_38 : decode prog_15_method_9_code 38 = .ok (.return_, 1) := by decide +kernel
def m_J5_ensureCapacityInternal_d00df (mc ms : Nat) (a0 : Nat) (i1 : Int32) (M : mM) : Option (mM) :=
  (fR M a0 0 0).bind fun x1 =>
  (aN 4 M x1).bind fun x3 =>
  (fI M a0 0 1).bind fun x5 =>
  if (i1 - (x3 >>> (x5 &&& 31))) ≤ 0 then (
    some M) else (
    (fR M a0 0 0).bind fun x7 =>
    (oO M a0 0).bind fun _ =>
    (m_J5_newCapacity_0f7a4 a0 i1 M).bind fun x11 =>
    (fI M a0 0 1).bind fun x13 =>
    (oif (0 + mc ≤ mc ∧ 0 + ms ≤ ms)).bind fun _ =>
    (m_J7_copyOf_9075b mc ms x7 (x11 <<< (x13 &&& 31)) M).bind fun x15 =>
    (sV x15.2 a0 0 0 (.ref x15.1)).bind fun M17 =>
    some M17)
set_option maxHeartbeats 4000000 in
set_option maxRecDepth 100000 in
theorem t_J5_ensureCapacityInternal_d00df {L0 : Launch} {M : mM} {mc ms : Nat} {a0 : Nat} {i1 : Int32} {res : mM} (hf : m_J5_ensureCapacityInternal_d00df mc ms a0 i1 M = some res) : CT L0 yJ5_ensureCapacityInternal_d00df prog_15_method_9_code 3 none 3 88 mc ms [.ref a0, .int i1] M none res := by
  refine CT.of (by decide +kernel) (Nat.le_of_ble_eq_true rfl) fun X C E => ?_
  have C : CX X RJ5 "ensureCapacityInternal" prog_15_method_9_code 3 none := C
  show EV X 3 0 [(0, .ref a0), (1, .int i1)] [] 0 0 M
  unfold m_J5_ensureCapacityInternal_d00df at hf
  have hk : 0 ≤ mc ∧ 0 ≤ ms := ⟨Nat.zero_le _, Nat.zero_le _⟩
  refine ev_aload_n C dJ5_ensureCapacityInternal_d00df_0 rfl (q := 0) rfl ?_
  obtain ⟨x1, e2, hf⟩ := obnd hf
  refine ev_get (k := 0) C ok_0 dJ5_ensureCapacityInternal_d00df_1 (by decide) kw_352 (fR_V e2) ?_
  obtain ⟨x3, e4, hf⟩ := obnd hf
  refine ev_alen (t := 4) C rfl dJ5_ensureCapacityInternal_d00df_4 e4 ?_
  refine ev_aload_n C dJ5_ensureCapacityInternal_d00df_5 rfl (q := 0) rfl ?_
  obtain ⟨x5, e6, hf⟩ := obnd hf
  refine ev_get (k := 1) C ok_0 dJ5_ensureCapacityInternal_d00df_6 (by decide) kw_353 (fI_V e6) ?_
  refine ev_ishr C dJ5_ensureCapacityInternal_d00df_9 ?_
  refine ev_istore_n (l' := [(2, .int (x3 >>> (x5 &&& 31))), (0, .ref a0), (1, .int i1)]) C dJ5_ensureCapacityInternal_d00df_10 rfl (by decide) rfl ?_
  refine ev_iload_n C dJ5_ensureCapacityInternal_d00df_11 rfl (q := 2) rfl ?_
  refine ev_iload_n C dJ5_ensureCapacityInternal_d00df_12 rfl (q := 0) rfl ?_
  refine ev_isub C dJ5_ensureCapacityInternal_d00df_13 ?_
  refine ev_if_le (tgt := 38) C dJ5_ensureCapacityInternal_d00df_14 (by decide) (fun hc => ?_) (fun hc => ?_)
  · have hf := oit hf hc
    obtain rfl := Option.some.inj hf
    exact ev_vret C E hk.1 hk.2 dJ5_ensureCapacityInternal_d00df_38
  · have hf := oie hf hc
    refine ev_aload_n C dJ5_ensureCapacityInternal_d00df_17 rfl (q := 1) rfl ?_
    refine ev_aload_n C dJ5_ensureCapacityInternal_d00df_18 rfl (q := 1) rfl ?_
    obtain ⟨x7, e8, hf⟩ := obnd hf
    refine ev_get (k := 0) C ok_0 dJ5_ensureCapacityInternal_d00df_19 (by decide) kw_352 (fR_V e8) ?_
    refine ev_aload_n C dJ5_ensureCapacityInternal_d00df_22 rfl (q := 1) rfl ?_
    refine ev_iload_n C dJ5_ensureCapacityInternal_d00df_23 rfl (q := 2) rfl ?_
    obtain ⟨_, e9, hf⟩ := obnd hf
    obtain ⟨fs10, e9⟩ := oO_eq e9
    obtain ⟨x11, e12, hf⟩ := obnd hf
    refine ev_callU0 (As := [.int i1]) (st := [.ref x7, .ref a0]) C rfl e9 (t_J5_newCapacity_0f7a4 e12) hd_J5_newCapacity_0f7a4 rfl kw_846 kw_1705 kw_9001 kw_848 kw_81 kw_849 (mRoom.of E (Nat.le_of_ble_eq_true rfl) (Nat.le_of_ble_eq_true rfl) hk.1 hk.2) (Nat.le_of_ble_eq_true rfl) dJ5_ensureCapacityInternal_d00df_24 ?_
    refine ev_aload_n C dJ5_ensureCapacityInternal_d00df_27 rfl (q := 1) rfl ?_
    obtain ⟨x13, e14, hf⟩ := obnd hf
    refine ev_get (k := 1) C ok_0 dJ5_ensureCapacityInternal_d00df_28 (by decide) kw_353 (fI_V e14) ?_
    refine ev_ishl C dJ5_ensureCapacityInternal_d00df_31 ?_
    obtain ⟨_, hk, hf⟩ := obnd hf
    have hk := oif_eq hk
    obtain ⟨x15, e16, hf⟩ := obnd hf
    refine ev_callS (As := [.ref x7, .int (x11 <<< (x13 &&& 31))]) (st := [.ref a0]) C (t_J7_copyOf_9075b e16) hd_J7_copyOf_9075b rfl kw_859 kw_860 kw_86 kw_861 (mRoom.of E (Nat.le_of_ble_eq_true rfl) (Nat.le_of_ble_eq_true rfl) hk.1 hk.2) (Nat.le_of_ble_eq_true rfl) dJ5_ensureCapacityInternal_d00df_32 ?_
    obtain ⟨M17, e18, hf⟩ := obnd hf
    refine ev_put (k := 0) C ok_0 dJ5_ensureCapacityInternal_d00df_35 (by decide) kw_352 rfl ⟨rfl, rfl⟩ e18 ?_
    obtain rfl := Option.some.inj hf
    exact ev_vret C E hk.1 hk.2 dJ5_ensureCapacityInternal_d00df_38
/-! java/lang/AbstractStringBuilder setLength(I)V -/
theorem dJ5_setLength_d00df_0 : decode prog_15_method_13_code 0 = .ok (.iload_n 1, 1) := by decide +kernel
theorem dJ5_setLength_d00df_1 : decode prog_15_method_13_code 1 = .ok (.ifCond .ge 12, 3) := by decide +kernel
theorem dJ5_setLength_d00df_4 : decode prog_15_method_13_code 4 = .ok (.new 129, 3) := by decide +kernel
theorem dJ5_setLength_d00df_7 : decode prog_15_method_13_code 7 = .ok (.dup, 1) := by decide +kernel
theorem dJ5_setLength_d00df_8 : decode prog_15_method_13_code 8 = .ok (.iload_n 1, 1) := by decide +kernel
theorem dJ5_setLength_d00df_9 : decode prog_15_method_13_code 9 = .ok (.invokespecial 131, 3) := by decide +kernel
theorem dJ5_setLength_d00df_12 : decode prog_15_method_13_code 12 = .ok (.athrow, 1) := by decide +kernel
theorem dJ5_setLength_d00df_13 : decode prog_15_method_13_code 13 = .ok (.aload_n 0, 1) := by decide +kernel
theorem dJ5_setLength_d00df_14 : decode prog_15_method_13_code 14 = .ok (.iload_n 1, 1) := by decide +kernel
theorem dJ5_setLength_d00df_15 : decode prog_15_method_13_code 15 = .ok (.invokevirtual 100, 3) := by decide +kernel
theorem dJ5_setLength_d00df_18 : decode prog_15_method_13_code 18 = .ok (.aload_n 0, 1) := by decide +kernel
theorem dJ5_setLength_d00df_19 : decode prog_15_method_13_code 19 = .ok (.getfield 79, 3) := by decide +kernel
theorem dJ5_setLength_d00df_22 : decode prog_15_method_13_code 22 = .ok (.iload_n 1, 1) := by decide +kernel
theorem dJ5_setLength_d00df_23 : decode prog_15_method_13_code 23 = .ok (.if_icmp .ge 40, 3) := by decide +kernel
theorem dJ5_setLength_d00df_26 : decode prog_15_method_13_code 26 = .ok (.aload_n 0, 1) := by decide +kernel
theorem dJ5_setLength_d00df_27 : decode prog_15_method_13_code 27 = .ok (.invokevirtual 83, 3) := by decide +kernel
theorem dJ5_setLength_d00df_30 : decode prog_15_method_13_code 30 = .ok (.ifCond .eq 18, 3) := by decide +kernel
theorem dJ5_setLength_d00df_33 : decode prog_15_method_13_code 33 = .ok (.aload_n 0, 1) := by decide +kernel
theorem dJ5_setLength_d00df_34 : decode prog_15_method_13_code 34 = .ok (.getfield 15, 3) := by decide +kernel
theorem dJ5_setLength_d00df_37 : decode prog_15_method_13_code 37 = .ok (.aload_n 0, 1) := by decide +kernel
theorem dJ5_setLength_d00df_38 : decode prog_15_method_13_code 38 = .ok (.getfield 79, 3) := by decide +kernel
theorem dJ5_setLength_d00df_41 : decode prog_15_method_13_code 41 = .ok (.iload_n 1, 1) := by decide +kernel
theorem dJ5_setLength_d00df_42 : decode prog_15_method_13_code 42 = .ok (.invokestatic 133, 3) := by decide +kernel
theorem dJ5_setLength_d00df_45 : decode prog_15_method_13_code 45 = .ok (.goto 31, 3) := by decide +kernel
theorem dJ5_setLength_d00df_48 : decode prog_15_method_13_code 48 = .ok (.aload_n 0, 1) := by decide +kernel
theorem dJ5_setLength_d00df_49 : decode prog_15_method_13_code 49 = .ok (.getfield 15, 3) := by decide +kernel
theorem dJ5_setLength_d00df_52 : decode prog_15_method_13_code 52 = .ok (.aload_n 0, 1) := by decide +kernel
theorem dJ5_setLength_d00df_53 : decode prog_15_method_13_code 53 = .ok (.getfield 79, 3) := by decide +kernel
theorem dJ5_setLength_d00df_56 : decode prog_15_method_13_code 56 = .ok (.iload_n 1, 1) := by decide +kernel
theorem dJ5_setLength_d00df_57 : decode prog_15_method_13_code 57 = .ok (.invokestatic 137, 3) := by decide +kernel
theorem dJ5_setLength_d00df_60 : decode prog_15_method_13_code 60 = .ok (.goto 16, 3) := by decide +kernel
theorem dJ5_setLength_d00df_63 : decode prog_15_method_13_code 63 = .ok (.aload_n 0, 1) := by decide +kernel
theorem dJ5_setLength_d00df_64 : decode prog_15_method_13_code 64 = .ok (.getfield 79, 3) := by decide +kernel
theorem dJ5_setLength_d00df_67 : decode prog_15_method_13_code 67 = .ok (.iload_n 1, 1) := by decide +kernel
theorem dJ5_setLength_d00df_68 : decode prog_15_method_13_code 68 = .ok (.if_icmp .le 8, 3) := by decide +kernel
theorem dJ5_setLength_d00df_71 : decode prog_15_method_13_code 71 = .ok (.aload_n 0, 1) := by decide +kernel
theorem dJ5_setLength_d00df_72 : decode prog_15_method_13_code 72 = .ok (.iconst 1, 1) := by decide +kernel
theorem dJ5_setLength_d00df_73 : decode prog_15_method_13_code 73 = .ok (.putfield 73, 3) := by decide +kernel
theorem dJ5_setLength_d00df_76 : decode prog_15_method_13_code 76 = .ok (.aload_n 0, 1) := by decide +kernel
theorem dJ5_setLength_d00df_77 : decode prog_15_method_13_code 77 = .ok (.iload_n 1, 1) := by decide +kernel
theorem dJ5_setLength_d00df_78 : decode prog_15_method_13_code 78 = .ok (.putfield 79, 3) := by decide +kernel
theorem dJ5_setLength_d00df_81 : decode prog_15_method_13_code 81 = .ok (.return_, 1) := by decide +kernel
def m_J5_setLength_d00df (N : Nat) (mc ms : Nat) (a0 : Nat) (i1 : Int32) (M : mM) : Option (mM) :=
  if 0 ≤ i1 then (
    (oO M a0 0).bind fun _ =>
    (oif (0 + mc ≤ mc ∧ 0 + ms ≤ ms)).bind fun _ =>
    (m_J5_ensureCapacityInternal_d00df mc ms a0 i1 M).bind fun x3 =>
    (fI x3 a0 0 3).bind fun x5 =>
    if i1 ≤ x5 then (
      (fI x3 a0 0 3).bind fun x7 =>
      if x7 ≤ i1 then (
        (sV x3 a0 0 3 (.int i1)).bind fun M9 =>
        some M9) else (
        (sZ x3 a0 0 2 1).bind fun M11 =>
        (sV M11 a0 0 3 (.int i1)).bind fun M13 =>
        some M13)) else (
      (oO x3 a0 0).bind fun _ =>
      (m_J5_isLatin1_aae02 a0 x3).bind fun x17 =>
      if x17 = 0 then (
        (fR x3 a0 0 0).bind fun x19 =>
        (fI x3 a0 0 3).bind fun x21 =>
        none) else (
        (fR x3 a0 0 0).bind fun x23 =>
        (fI x3 a0 0 3).bind fun x25 =>
        (m_J1_fillNull_b72d1 N x23 x25 i1 x3).bind fun x27 =>
        (sV x27 a0 0 3 (.int i1)).bind fun M29 =>
        some M29))) else (
    none)
set_option maxHeartbeats 4000000 in
set_option maxRecDepth 100000 in
theorem t_J5_setLength_d00df {L0 : Launch} {M : mM} {N : Nat} {mc ms : Nat} {a0 : Nat} {i1 : Int32} {res : mM} (hf : m_J5_setLength_d00df N mc ms a0 i1 M = some res) : CT L0 yJ5_setLength_d00df prog_15_method_13_code 2 none 4 110 mc ms [.ref a0, .int i1] M none res := by
  refine CT.of (by decide +kernel) (Nat.le_of_ble_eq_true rfl) fun X C E => ?_
  have C : CX X RJ5 "setLength" prog_15_method_13_code 2 none := C
  show EV X 2 0 [(0, .ref a0), (1, .int i1)] [] 0 0 M
  unfold m_J5_setLength_d00df at hf
  have hk : 0 ≤ mc ∧ 0 ≤ ms := ⟨Nat.zero_le _, Nat.zero_le _⟩
  refine ev_iload_n C dJ5_setLength_d00df_0 rfl (q := 1) rfl ?_
  refine ev_if_ge (tgt := 13) C dJ5_setLength_d00df_1 (by decide) (fun hc => ?_) (fun hc => ?_)
  · have hf := oit hf hc
    refine ev_aload_n C dJ5_setLength_d00df_13 rfl (q := 0) rfl ?_
    refine ev_iload_n C dJ5_setLength_d00df_14 rfl (q := 1) rfl ?_
    obtain ⟨_, e1, hf⟩ := obnd hf
    obtain ⟨fs2, e1⟩ := oO_eq e1
    obtain ⟨_, hk, hf⟩ := obnd hf
    have hk := oif_eq hk
    obtain ⟨x3, e4, hf⟩ := obnd hf
    refine ev_callU (As := [.int i1]) (st := []) C rfl e1 (t_J5_ensureCapacityInternal_d00df e4) hd_J5_ensureCapacityInternal_d00df rfl kw_842 kw_1704 kw_9000 kw_844 kw_81 kw_845 (mRoom.of E (Nat.le_of_ble_eq_true rfl) (Nat.le_of_ble_eq_true rfl) hk.1 hk.2) (Nat.le_of_ble_eq_true rfl) dJ5_setLength_d00df_15 ?_
    refine ev_aload_n C dJ5_setLength_d00df_18 rfl (q := 0) rfl ?_
    obtain ⟨x5, e6, hf⟩ := obnd hf
    refine ev_get (k := 3) C ok_0 dJ5_setLength_d00df_19 (by decide) kw_355 (fI_V e6) ?_
    refine ev_iload_n C dJ5_setLength_d00df_22 rfl (q := 1) rfl ?_
    refine ev_icmp_ge (tgt := 63) C dJ5_setLength_d00df_23 (by decide) (fun hc => ?_) (fun hc => ?_)
    · have hf := oit hf hc
      refine ev_aload_n C dJ5_setLength_d00df_63 rfl (q := 0) rfl ?_
      obtain ⟨x7, e8, hf⟩ := obnd hf
      refine ev_get (k := 3) C ok_0 dJ5_setLength_d00df_64 (by decide) kw_355 (fI_V e8) ?_
      refine ev_iload_n C dJ5_setLength_d00df_67 rfl (q := 1) rfl ?_
      refine ev_icmp_le (tgt := 76) C dJ5_setLength_d00df_68 (by decide) (fun hc => ?_) (fun hc => ?_)
      · have hf := oit hf hc
        refine ev_aload_n C dJ5_setLength_d00df_76 rfl (q := 0) rfl ?_
        refine ev_iload_n C dJ5_setLength_d00df_77 rfl (q := 1) rfl ?_
        obtain ⟨M9, e10, hf⟩ := obnd hf
        refine ev_put (k := 3) C ok_0 dJ5_setLength_d00df_78 (by decide) kw_355 rfl ⟨rfl, rfl⟩ e10 ?_
        obtain rfl := Option.some.inj hf
        exact ev_vret C E hk.1 hk.2 dJ5_setLength_d00df_81
      · have hf := oie hf hc
        refine ev_aload_n C dJ5_setLength_d00df_71 rfl (q := 0) rfl ?_
        refine ev_iconst (v := 1) C dJ5_setLength_d00df_72 (by decide) ?_
        obtain ⟨M11, e12, hf⟩ := obnd hf
        refine ev_put (k := 2) C ok_0 dJ5_setLength_d00df_73 (by decide) kw_354 rfl (sZ_fit e12) (sZ_V e12) ?_
        refine ev_aload_n C dJ5_setLength_d00df_76 rfl (q := 0) rfl ?_
        refine ev_iload_n C dJ5_setLength_d00df_77 rfl (q := 1) rfl ?_
        obtain ⟨M13, e14, hf⟩ := obnd hf
        refine ev_put (k := 3) C ok_0 dJ5_setLength_d00df_78 (by decide) kw_355 rfl ⟨rfl, rfl⟩ e14 ?_
        obtain rfl := Option.some.inj hf
        exact ev_vret C E hk.1 hk.2 dJ5_setLength_d00df_81
    · have hf := oie hf hc
      refine ev_aload_n C dJ5_setLength_d00df_26 rfl (q := 0) rfl ?_
      obtain ⟨_, e15, hf⟩ := obnd hf
      obtain ⟨fs16, e15⟩ := oO_eq e15
      obtain ⟨x17, e18, hf⟩ := obnd hf
      refine ev_callU0 (As := []) (st := []) C rfl e15 (t_J5_isLatin1_aae02 e18) hd_J5_isLatin1_aae02 rfl kw_873 kw_875 kw_876 kw_874 kw_81 kw_877 (mRoom.of E (Nat.le_of_ble_eq_true rfl) (Nat.le_of_ble_eq_true rfl) hk.1 hk.2) (Nat.le_of_ble_eq_true rfl) dJ5_setLength_d00df_27 ?_
      refine ev_if_eq (tgt := 48) C dJ5_setLength_d00df_30 (by decide) (fun hc => ?_) (fun hc => ?_)
      · have hf := oit hf hc
        refine ev_aload_n C dJ5_setLength_d00df_48 rfl (q := 0) rfl ?_
        obtain ⟨x19, e20, hf⟩ := obnd hf
        refine ev_get (k := 0) C ok_0 dJ5_setLength_d00df_49 (by decide) kw_352 (fR_V e20) ?_
        refine ev_aload_n C dJ5_setLength_d00df_52 rfl (q := 0) rfl ?_
        obtain ⟨x21, e22, hf⟩ := obnd hf
        refine ev_get (k := 3) C ok_0 dJ5_setLength_d00df_53 (by decide) kw_355 (fI_V e22) ?_
        refine ev_iload_n C dJ5_setLength_d00df_56 rfl (q := 1) rfl ?_
        cases hf
      · have hf := oie hf hc
        refine ev_aload_n C dJ5_setLength_d00df_33 rfl (q := 0) rfl ?_
        obtain ⟨x23, e24, hf⟩ := obnd hf
        refine ev_get (k := 0) C ok_0 dJ5_setLength_d00df_34 (by decide) kw_352 (fR_V e24) ?_
        refine ev_aload_n C dJ5_setLength_d00df_37 rfl (q := 0) rfl ?_
        obtain ⟨x25, e26, hf⟩ := obnd hf
        refine ev_get (k := 3) C ok_0 dJ5_setLength_d00df_38 (by decide) kw_355 (fI_V e26) ?_
        refine ev_iload_n C dJ5_setLength_d00df_41 rfl (q := 1) rfl ?_
        obtain ⟨x27, e28, hf⟩ := obnd hf
        refine ev_callS0 (As := [.ref x23, .int x25, .int i1]) (st := []) C (t_J1_fillNull_b72d1 e28) hd_J1_fillNull_b72d1 rfl kw_878 kw_879 kw_95 kw_880 (mRoom.of E (Nat.le_of_ble_eq_true rfl) (Nat.le_of_ble_eq_true rfl) hk.1 hk.2) (Nat.le_of_ble_eq_true rfl) dJ5_setLength_d00df_42 ?_
        refine ev_goto (tgt := 76) C dJ5_setLength_d00df_45 (by decide) ?_
        refine ev_aload_n C dJ5_setLength_d00df_76 rfl (q := 0) rfl ?_
        refine ev_iload_n C dJ5_setLength_d00df_77 rfl (q := 1) rfl ?_
        obtain ⟨M29, e30, hf⟩ := obnd hf
        refine ev_put (k := 3) C ok_0 dJ5_setLength_d00df_78 (by decide) kw_355 rfl ⟨rfl, rfl⟩ e30 ?_
        obtain rfl := Option.some.inj hf
        exact ev_vret C E hk.1 hk.2 dJ5_setLength_d00df_81
  · have hf := oie hf hc
    cases hf
/-! java/lang/StringBuilder setLength(I)V -/
theorem dJ4_setLength_d00df_0 : decode prog_24_method_89_code 0 = .ok (.aload_n 0, 1) := by decide +kernel
theorem dJ4_setLength_d00df_1 : decode prog_24_method_89_code 1 = .ok (.iload_n 1, 1) := by decide +kernel
theorem dJ4_setLength_d00df_2 : decode prog_24_method_89_code 2 = .ok (.invokespecial 333, 3) := by decide +kernel
theorem dJ4_setLength_d00df_5 : decode prog_24_method_89_code 5 = .ok (.return_, 1) := by decide +kernel
def m_J4_setLength_d00df (N : Nat) (mc ms : Nat) (a0 : Nat) (i1 : Int32) (M : mM) : Option (mM) :=
  (oO M a0 0).bind fun _ =>
  (oif (0 + mc ≤ mc ∧ 0 + ms ≤ ms)).bind fun _ =>
  (m_J5_setLength_d00df N mc ms a0 i1 M).bind fun x3 =>
  some x3
set_option maxHeartbeats 4000000 in
set_option maxRecDepth 100000 in
theorem t_J4_setLength_d00df {L0 : Launch} {M : mM} {N : Nat} {mc ms : Nat} {a0 : Nat} {i1 : Int32} {res : mM} (hf : m_J4_setLength_d00df N mc ms a0 i1 M = some res) : CT L0 yJ4_setLength_d00df prog_24_method_89_code 2 none 5 131 mc ms [.ref a0, .int i1] M none res := by
  refine CT.of (by decide +kernel) (Nat.le_of_ble_eq_true rfl) fun X C E => ?_
  have C : CX X RJ4 "setLength" prog_24_method_89_code 2 none := C
  show EV X 2 0 [(0, .ref a0), (1, .int i1)] [] 0 0 M
  unfold m_J4_setLength_d00df at hf
  have hk : 0 ≤ mc ∧ 0 ≤ ms := ⟨Nat.zero_le _, Nat.zero_le _⟩
  refine ev_aload_n C dJ4_setLength_d00df_0 rfl (q := 0) rfl ?_
  refine ev_iload_n C dJ4_setLength_d00df_1 rfl (q := 1) rfl ?_
  obtain ⟨_, e1, hf⟩ := obnd hf
  obtain ⟨fs2, e1⟩ := oO_eq e1
  obtain ⟨_, hk, hf⟩ := obnd hf
  have hk := oif_eq hk
  obtain ⟨x3, e4, hf⟩ := obnd hf
  refine ev_callSU (As := [.int i1]) (st := []) C rfl e1 (t_J5_setLength_d00df e4) (by decide +kernel) hd_J5_setLength_d00df rfl kw_839 kw_1703 kw_364 kw_840 kw_81 kw_841 (mRoom.of E (Nat.le_of_ble_eq_true rfl) (Nat.le_of_ble_eq_true rfl) hk.1 hk.2) (Nat.le_of_ble_eq_true rfl) dJ4_setLength_d00df_2 ?_
  obtain rfl := Option.some.inj hf
  exact ev_vret C E hk.1 hk.2 dJ4_setLength_d00df_5
/-! java/lang/AbstractStringBuilder append(C)Ljava/lang/AbstractStringBuilder; -/
theorem dJ5_append_3fe6f_0 : decode prog_15_method_31_code 0 = .ok (.aload_n 0, 1) := by decide +kernel
theorem dJ5_append_3fe6f_1 : decode prog_15_method_31_code 1 = .ok (.aload_n 0, 1) := by decide +kernel
theorem dJ5_append_3fe6f_2 : decode prog_15_method_31_code 2 = .ok (.getfield 79, 3) := by decide +kernel
theorem dJ5_append_3fe6f_5 : decode prog_15_method_31_code 5 = .ok (.iconst 1, 1) := by decide +kernel
theorem dJ5_append_3fe6f_6 : decode prog_15_method_31_code 6 = .ok (.iadd, 1) := by decide +kernel
theorem dJ5_append_3fe6f_7 : decode prog_15_method_31_code 7 = .ok (.invokevirtual 100, 3) := by decide +kernel
theorem dJ5_append_3fe6f_10 : decode prog_15_method_31_code 10 = .ok (.aload_n 0, 1) := by decide +kernel
theorem dJ5_append_3fe6f_11 : decode prog_15_method_31_code 11 = .ok (.invokevirtual 83, 3) := by decide +kernel
theorem dJ5_append_3fe6f_14 : decode prog_15_method_31_code 14 = .ok (.ifCond .eq 31, 3) := by decide +kernel
theorem dJ5_append_3fe6f_17 : decode prog_15_method_31_code 17 = .ok (.iload_n 1, 1) := by decide +kernel
theorem dJ5_append_3fe6f_18 : decode prog_15_method_31_code 18 = .ok (.invokestatic 191, 3) := by decide +kernel
theorem dJ5_append_3fe6f_21 : decode prog_15_method_31_code 21 = .ok (.ifCond .eq 24, 3) := by decide +kernel
theorem dJ5_append_3fe6f_24 : decode prog_15_method_31_code 24 = .ok (.aload_n 0, 1) := by decide +kernel
theorem dJ5_append_3fe6f_25 : decode prog_15_method_31_code 25 = .ok (.getfield 15, 3) := by decide +kernel
theorem dJ5_append_3fe6f_28 : decode prog_15_method_31_code 28 = .ok (.aload_n 0, 1) := by decide +kernel
theorem dJ5_append_3fe6f_29 : decode prog_15_method_31_code 29 = .ok (.dup, 1) := by decide +kernel
theorem dJ5_append_3fe6f_30 : decode prog_15_method_31_code 30 = .ok (.getfield 79, 3) := by decide +kernel
theorem dJ5_append_3fe6f_33 : decode prog_15_method_31_code 33 = .ok (.dup_x1, 1) := by decide +kernel
theorem dJ5_append_3fe6f_34 : decode prog_15_method_31_code 34 = .ok (.iconst 1, 1) := by decide +kernel
theorem dJ5_append_3fe6f_35 : decode prog_15_method_31_code 35 = .ok (.iadd, 1) := by decide +kernel
theorem dJ5_append_3fe6f_36 : decode prog_15_method_31_code 36 = .ok (.putfield 79, 3) := by decide +kernel
theorem dJ5_append_3fe6f_39 : decode prog_15_method_31_code 39 = .ok (.iload_n 1, 1) := by decide +kernel
theorem dJ5_append_3fe6f_40 : decode prog_15_method_31_code 40 = .ok (.i2b, 1) := by decide +kernel
theorem dJ5_append_3fe6f_41 : decode prog_15_method_31_code 41 = .ok (.bastore, 1) := by decide +kernel
theorem dJ5_append_3fe6f_42 : decode prog_15_method_31_code 42 = .ok (.goto 33, 3) := by decide +kernel
theorem dJ5_append_3fe6f_45 : decode prog_15_method_31_code 45 = .ok (.aload_n 0, 1) := by decide +kernel
theorem dJ5_append_3fe6f_46 : decode prog_15_method_31_code 46 = .ok (.invokevirtual 83, 3) := by decide +kernel
theorem dJ5_append_3fe6f_49 : decode prog_15_method_31_code 49 = .ok (.ifCond .eq 7, 3) := by decide +kernel
theorem dJ5_append_3fe6f_52 : decode prog_15_method_31_code 52 = .ok (.aload_n 0, 1) := by decide +kernel
theorem dJ5_append_3fe6f_53 : decode prog_15_method_31_code 53 = .ok (.invokevirtual 195, 3) := by decide +kernel
theorem dJ5_append_3fe6f_56 : decode prog_15_method_31_code 56 = .ok (.aload_n 0, 1) := by decide +kernel
theorem dJ5_append_3fe6f_57 : decode prog_15_method_31_code 57 = .ok (.getfield 15, 3) := by decide +kernel
theorem dJ5_append_3fe6f_60 : decode prog_15_method_31_code 60 = .ok (.aload_n 0, 1) := by decide +kernel
theorem dJ5_append_3fe6f_61 : decode prog_15_method_31_code 61 = .ok (.dup, 1) := by decide +kernel
theorem dJ5_append_3fe6f_62 : decode prog_15_method_31_code 62 = .ok (.getfield 79, 3) := by decide +kernel
theorem dJ5_append_3fe6f_65 : decode prog_15_method_31_code 65 = .ok (.dup_x1, 1) := by decide +kernel
theorem dJ5_append_3fe6f_66 : decode prog_15_method_31_code 66 = .ok (.iconst 1, 1) := by decide +kernel
theorem dJ5_append_3fe6f_67 : decode prog_15_method_31_code 67 = .ok (.iadd, 1) := by decide +kernel
theorem dJ5_append_3fe6f_68 : decode prog_15_method_31_code 68 = .ok (.putfield 79, 3) := by decide +kernel
theorem dJ5_append_3fe6f_71 : decode prog_15_method_31_code 71 = .ok (.iload_n 1, 1) := by decide +kernel
theorem dJ5_append_3fe6f_72 : decode prog_15_method_31_code 72 = .ok (.invokestatic 197, 3) := by decide +kernel
theorem dJ5_append_3fe6f_75 : decode prog_15_method_31_code 75 = .ok (.aload_n 0, 1) := by decide +kernel
theorem dJ5_append_3fe6f_76 : decode prog_15_method_31_code 76 = .ok (.areturn, 1) := by decide +kernel
def m_J5_append_3fe6f_J45 (mc ms : Nat)  (a0 : Nat) (i1 : Int32) (M : mM) (kc ks : Nat) : Option (Nat × mM) :=
  (oO M a0 0).bind fun _ =>
  (m_J5_isLatin1_aae02 a0 M).bind fun x3 =>
  if x3 = 0 then (
    (fR M a0 0 0).bind fun x5 =>
    (fI M a0 0 3).bind fun x7 =>
    (sV M a0 0 3 (.int (x7 + 1))).bind fun M9 =>
    none) else (
    none)
set_option maxHeartbeats 4000000 in
set_option maxRecDepth 100000 in
theorem t_J5_append_3fe6f_J45 {X : mX} {L0 : Launch} {res : Nat × mM} {mc ms : Nat} (C : CX X RJ5 "append" prog_15_method_31_code 2 (some (.object "java/lang/AbstractStringBuilder"))) (E : EX X L0 4 110 mc ms (some (.ref res.1)) res.2)   (a0 : Nat) (i1 : Int32) (M : mM) (kc ks : Nat) (hk : kc ≤ mc ∧ ks ≤ ms) (hf : m_J5_append_3fe6f_J45 mc ms  a0 i1 M kc ks = some res) : EV X 2 45 [(0, .ref a0), (1, .int i1)] [] kc ks M := by
  unfold m_J5_append_3fe6f_J45 at hf
  refine ev_aload_n C dJ5_append_3fe6f_45 rfl (q := 0) rfl ?_
  obtain ⟨_, e1, hf⟩ := obnd hf
  obtain ⟨fs2, e1⟩ := oO_eq e1
  obtain ⟨x3, e4, hf⟩ := obnd hf
  refine ev_callU0 (As := []) (st := []) C rfl e1 (t_J5_isLatin1_aae02 e4) hd_J5_isLatin1_aae02 rfl kw_873 kw_875 kw_876 kw_874 kw_81 kw_877 (mRoom.of E (Nat.le_of_ble_eq_true rfl) (Nat.le_of_ble_eq_true rfl) hk.1 hk.2) (Nat.le_of_ble_eq_true rfl) dJ5_append_3fe6f_46 ?_
  refine ev_if_eq (tgt := 56) C dJ5_append_3fe6f_49 (by decide) (fun hc => ?_) (fun hc => ?_)
  · have hf := oit hf hc
    refine ev_aload_n C dJ5_append_3fe6f_56 rfl (q := 0) rfl ?_
    obtain ⟨x5, e6, hf⟩ := obnd hf
    refine ev_get (k := 0) C ok_0 dJ5_append_3fe6f_57 (by decide) kw_352 (fR_V e6) ?_
    refine ev_aload_n C dJ5_append_3fe6f_60 rfl (q := 0) rfl ?_
    refine ev_dup C dJ5_append_3fe6f_61 rfl ?_
    obtain ⟨x7, e8, hf⟩ := obnd hf
    refine ev_get (k := 3) C ok_0 dJ5_append_3fe6f_62 (by decide) kw_355 (fI_V e8) ?_
    refine ev_dup_x1 C dJ5_append_3fe6f_65 rfl rfl ?_
    refine ev_iconst (v := 1) C dJ5_append_3fe6f_66 (by decide) ?_
    refine ev_iadd C dJ5_append_3fe6f_67 ?_
    obtain ⟨M9, e10, hf⟩ := obnd hf
    refine ev_put (k := 3) C ok_0 dJ5_append_3fe6f_68 (by decide) kw_355 rfl ⟨rfl, rfl⟩ e10 ?_
    refine ev_iload_n C dJ5_append_3fe6f_71 rfl (q := 1) rfl ?_
    cases hf
  · have hf := oie hf hc
    refine ev_aload_n C dJ5_append_3fe6f_52 rfl (q := 0) rfl ?_
    cases hf
def m_J5_append_3fe6f (mc ms : Nat) (a0 : Nat) (i1 : Int32) (M : mM) : Option (Nat × mM) :=
  (fI M a0 0 3).bind fun x1 =>
  (oO M a0 0).bind fun _ =>
  (oif (0 + mc ≤ mc ∧ 0 + ms ≤ ms)).bind fun _ =>
  (m_J5_ensureCapacityInternal_d00df mc ms a0 (x1 + 1) M).bind fun x5 =>
  (oO x5 a0 0).bind fun _ =>
  (m_J5_isLatin1_aae02 a0 x5).bind fun x9 =>
  if x9 = 0 then (
    m_J5_append_3fe6f_J45 mc ms  a0 i1 x5 (0 + mc) (0 + ms)) else (
    (m_J1_canEncode_fc78d i1).bind fun x11 =>
    if x11 = 0 then (
      m_J5_append_3fe6f_J45 mc ms  a0 i1 x5 (0 + mc) (0 + ms)) else (
      (fR x5 a0 0 0).bind fun x13 =>
      (fI x5 a0 0 3).bind fun x15 =>
      (sV x5 a0 0 3 (.int (x15 + 1))).bind fun M17 =>
      (uI 4 .byte M17 x13 x15 i1.toInt8.toInt32).bind fun M19 =>
      some (a0, M19)))
set_option maxHeartbeats 4000000 in
set_option maxRecDepth 100000 in
theorem t_J5_append_3fe6f {L0 : Launch} {M : mM} {mc ms : Nat} {a0 : Nat} {i1 : Int32} {res : Nat × mM} (hf : m_J5_append_3fe6f mc ms a0 i1 M = some res) : CT L0 yJ5_append_3fe6f prog_15_method_31_code 2 (some (.object "java/lang/AbstractStringBuilder")) 4 110 mc ms [.ref a0, .int i1] M (some (.ref res.1)) res.2 := by
  refine CT.of (by decide +kernel) (Nat.le_of_ble_eq_true rfl) fun X C E => ?_
  have C : CX X RJ5 "append" prog_15_method_31_code 2 (some (.object "java/lang/AbstractStringBuilder")) := C
  show EV X 2 0 [(0, .ref a0), (1, .int i1)] [] 0 0 M
  unfold m_J5_append_3fe6f at hf
  have hk : 0 ≤ mc ∧ 0 ≤ ms := ⟨Nat.zero_le _, Nat.zero_le _⟩
  refine ev_aload_n C dJ5_append_3fe6f_0 rfl (q := 0) rfl ?_
  refine ev_aload_n C dJ5_append_3fe6f_1 rfl (q := 0) rfl ?_
  obtain ⟨x1, e2, hf⟩ := obnd hf
  refine ev_get (k := 3) C ok_0 dJ5_append_3fe6f_2 (by decide) kw_355 (fI_V e2) ?_
  refine ev_iconst (v := 1) C dJ5_append_3fe6f_5 (by decide) ?_
  refine ev_iadd C dJ5_append_3fe6f_6 ?_
  obtain ⟨_, e3, hf⟩ := obnd hf
  obtain ⟨fs4, e3⟩ := oO_eq e3
  obtain ⟨_, hk, hf⟩ := obnd hf
  have hk := oif_eq hk
  obtain ⟨x5, e6, hf⟩ := obnd hf
  refine ev_callU (As := [.int (x1 + 1)]) (st := []) C rfl e3 (t_J5_ensureCapacityInternal_d00df e6) hd_J5_ensureCapacityInternal_d00df rfl kw_842 kw_1704 kw_9000 kw_844 kw_81 kw_845 (mRoom.of E (Nat.le_of_ble_eq_true rfl) (Nat.le_of_ble_eq_true rfl) hk.1 hk.2) (Nat.le_of_ble_eq_true rfl) dJ5_append_3fe6f_7 ?_
  refine ev_aload_n C dJ5_append_3fe6f_10 rfl (q := 0) rfl ?_
  obtain ⟨_, e7, hf⟩ := obnd hf
  obtain ⟨fs8, e7⟩ := oO_eq e7
  obtain ⟨x9, e10, hf⟩ := obnd hf
  refine ev_callU0 (As := []) (st := []) C rfl e7 (t_J5_isLatin1_aae02 e10) hd_J5_isLatin1_aae02 rfl kw_873 kw_875 kw_876 kw_874 kw_81 kw_877 (mRoom.of E (Nat.le_of_ble_eq_true rfl) (Nat.le_of_ble_eq_true rfl) hk.1 hk.2) (Nat.le_of_ble_eq_true rfl) dJ5_append_3fe6f_11 ?_
  refine ev_if_eq (tgt := 45) C dJ5_append_3fe6f_14 (by decide) (fun hc => ?_) (fun hc => ?_)
  · have hf := oit hf hc
    exact t_J5_append_3fe6f_J45 C E   a0 i1 x5 (0 + mc) (0 + ms) hk hf
  · have hf := oie hf hc
    refine ev_iload_n C dJ5_append_3fe6f_17 rfl (q := 1) rfl ?_
    obtain ⟨x11, e12, hf⟩ := obnd hf
    refine ev_callS0 (As := [.int i1]) (st := []) C (t_J1_canEncode_fc78d e12) hd_J1_canEncode_fc78d rfl kw_898 kw_899 kw_95 kw_900 (mRoom.of E (Nat.le_of_ble_eq_true rfl) (Nat.le_of_ble_eq_true rfl) hk.1 hk.2) (Nat.le_of_ble_eq_true rfl) dJ5_append_3fe6f_18 ?_
    refine ev_if_eq (tgt := 45) C dJ5_append_3fe6f_21 (by decide) (fun hc => ?_) (fun hc => ?_)
    · have hf := oit hf hc
      exact t_J5_append_3fe6f_J45 C E   a0 i1 x5 (0 + mc) (0 + ms) hk hf
    · have hf := oie hf hc
      refine ev_aload_n C dJ5_append_3fe6f_24 rfl (q := 0) rfl ?_
      obtain ⟨x13, e14, hf⟩ := obnd hf
      refine ev_get (k := 0) C ok_0 dJ5_append_3fe6f_25 (by decide) kw_352 (fR_V e14) ?_
      refine ev_aload_n C dJ5_append_3fe6f_28 rfl (q := 0) rfl ?_
      refine ev_dup C dJ5_append_3fe6f_29 rfl ?_
      obtain ⟨x15, e16, hf⟩ := obnd hf
      refine ev_get (k := 3) C ok_0 dJ5_append_3fe6f_30 (by decide) kw_355 (fI_V e16) ?_
      refine ev_dup_x1 C dJ5_append_3fe6f_33 rfl rfl ?_
      refine ev_iconst (v := 1) C dJ5_append_3fe6f_34 (by decide) ?_
      refine ev_iadd C dJ5_append_3fe6f_35 ?_
      obtain ⟨M17, e18, hf⟩ := obnd hf
      refine ev_put (k := 3) C ok_0 dJ5_append_3fe6f_36 (by decide) kw_355 rfl ⟨rfl, rfl⟩ e18 ?_
      refine ev_iload_n C dJ5_append_3fe6f_39 rfl (q := 1) rfl ?_
      refine ev_i2b C dJ5_append_3fe6f_40 ?_
      obtain ⟨M19, e20, hf⟩ := obnd hf
      refine ev_bast C dJ5_append_3fe6f_41 e20 ?_
      refine ev_goto (tgt := 75) C dJ5_append_3fe6f_42 (by decide) ?_
      refine ev_aload_n C dJ5_append_3fe6f_75 rfl (q := 0) rfl ?_
      obtain rfl := Option.some.inj hf
      exact ev_aret C (by first | exact Or.inl ⟨_, rfl⟩ | exact Or.inr ⟨_, rfl⟩) E hk.1 hk.2 dJ5_append_3fe6f_76
/-! java/lang/StringBuilder append(C)Ljava/lang/StringBuilder; -/
theorem dJ4_append_cf468_0 : decode prog_24_method_14_code 0 = .ok (.aload_n 0, 1) := by decide +kernel
theorem dJ4_append_cf468_1 : decode prog_24_method_14_code 1 = .ok (.iload_n 1, 1) := by decide +kernel
theorem dJ4_append_cf468_2 : decode prog_24_method_14_code 2 = .ok (.invokespecial 50, 3) := by decide +kernel
theorem dJ4_append_cf468_5 : decode prog_24_method_14_code 5 = .ok (.pop, 1) := by decide +kernel
theorem dJ4_append_cf468_6 : decode prog_24_method_14_code 6 = .ok (.aload_n 0, 1) := by decide +kernel
theorem dJ4_append_cf468_7 : decode prog_24_method_14_code 7 = .ok (.areturn, 1) := by decide +kernel
def m_J4_append_cf468 (mc ms : Nat) (a0 : Nat) (i1 : Int32) (M : mM) : Option (Nat × mM) :=
  (oO M a0 0).bind fun _ =>
  (oif (0 + mc ≤ mc ∧ 0 + ms ≤ ms)).bind fun _ =>
  (m_J5_append_3fe6f mc ms a0 i1 M).bind fun x3 =>
  some (a0, x3.2)
set_option maxHeartbeats 4000000 in
set_option maxRecDepth 100000 in
theorem t_J4_append_cf468 {L0 : Launch} {M : mM} {mc ms : Nat} {a0 : Nat} {i1 : Int32} {res : Nat × mM} (hf : m_J4_append_cf468 mc ms a0 i1 M = some res) : CT L0 yJ4_append_cf468 prog_24_method_14_code 2 (some (.object "java/lang/StringBuilder")) 5 131 mc ms [.ref a0, .int i1] M (some (.ref res.1)) res.2 := by
  refine CT.of (by decide +kernel) (Nat.le_of_ble_eq_true rfl) fun X C E => ?_
  have C : CX X RJ4 "append" prog_24_method_14_code 2 (some (.object "java/lang/StringBuilder")) := C
  show EV X 2 0 [(0, .ref a0), (1, .int i1)] [] 0 0 M
  unfold m_J4_append_cf468 at hf
  have hk : 0 ≤ mc ∧ 0 ≤ ms := ⟨Nat.zero_le _, Nat.zero_le _⟩
  refine ev_aload_n C dJ4_append_cf468_0 rfl (q := 0) rfl ?_
  refine ev_iload_n C dJ4_append_cf468_1 rfl (q := 1) rfl ?_
  obtain ⟨_, e1, hf⟩ := obnd hf
  obtain ⟨fs2, e1⟩ := oO_eq e1
  obtain ⟨_, hk, hf⟩ := obnd hf
  have hk := oif_eq hk
  obtain ⟨x3, e4, hf⟩ := obnd hf
  refine ev_callSU (As := [.int i1]) (st := []) C rfl e1 (t_J5_append_3fe6f e4) (by decide +kernel) hd_J5_append_3fe6f rfl kw_895 kw_1706 kw_364 kw_896 kw_81 kw_897 (mRoom.of E (Nat.le_of_ble_eq_true rfl) (Nat.le_of_ble_eq_true rfl) hk.1 hk.2) (Nat.le_of_ble_eq_true rfl) dJ4_append_cf468_2 ?_
  refine ev_pop C dJ4_append_cf468_5 rfl ?_
  refine ev_aload_n C dJ4_append_cf468_6 rfl (q := 0) rfl ?_
  obtain rfl := Option.some.inj hf
  exact ev_aret C (by first | exact Or.inl ⟨_, rfl⟩ | exact Or.inr ⟨_, rfl⟩) E hk.1 hk.2 dJ4_append_cf468_7
/-! java/lang/AbstractStringBuilder append(I)Ljava/lang/AbstractStringBuilder; -/
theorem dJ5_append_c97b9_0 : decode prog_15_method_32_code 0 = .ok (.aload_n 0, 1) := by decide +kernel
theorem dJ5_append_c97b9_1 : decode prog_15_method_32_code 1 = .ok (.getfield 79, 3) := by decide +kernel
theorem dJ5_append_c97b9_4 : decode prog_15_method_32_code 4 = .ok (.istore_n 2, 1) := by decide +kernel
theorem dJ5_append_c97b9_5 : decode prog_15_method_32_code 5 = .ok (.iload_n 2, 1) := by decide +kernel
theorem dJ5_append_c97b9_6 : decode prog_15_method_32_code 6 = .ok (.iload_n 1, 1) := by decide +kernel
theorem dJ5_append_c97b9_7 : decode prog_15_method_32_code 7 = .ok (.invokestatic 245, 3) := by decide +kernel
theorem dJ5_append_c97b9_10 : decode prog_15_method_32_code 10 = .ok (.iadd, 1) := by decide +kernel
theorem dJ5_append_c97b9_11 : decode prog_15_method_32_code 11 = .ok (.istore_n 3, 1) := by decide +kernel
theorem dJ5_append_c97b9_12 : decode prog_15_method_32_code 12 = .ok (.aload_n 0, 1) := by decide +kernel
theorem dJ5_append_c97b9_13 : decode prog_15_method_32_code 13 = .ok (.iload_n 3, 1) := by decide +kernel
theorem dJ5_append_c97b9_14 : decode prog_15_method_32_code 14 = .ok (.invokevirtual 100, 3) := by decide +kernel
theorem dJ5_append_c97b9_17 : decode prog_15_method_32_code 17 = .ok (.aload_n 0, 1) := by decide +kernel
theorem dJ5_append_c97b9_18 : decode prog_15_method_32_code 18 = .ok (.invokevirtual 83, 3) := by decide +kernel
theorem dJ5_append_c97b9_21 : decode prog_15_method_32_code 21 = .ok (.ifCond .eq 16, 3) := by decide +kernel
theorem dJ5_append_c97b9_24 : decode prog_15_method_32_code 24 = .ok (.iload_n 1, 1) := by decide +kernel
theorem dJ5_append_c97b9_25 : decode prog_15_method_32_code 25 = .ok (.iload_n 3, 1) := by decide +kernel
theorem dJ5_append_c97b9_26 : decode prog_15_method_32_code 26 = .ok (.aload_n 0, 1) := by decide +kernel
theorem dJ5_append_c97b9_27 : decode prog_15_method_32_code 27 = .ok (.getfield 15, 3) := by decide +kernel
theorem dJ5_append_c97b9_30 : decode prog_15_method_32_code 30 = .ok (.invokestatic 248, 3) := by decide +kernel
theorem dJ5_append_c97b9_33 : decode prog_15_method_32_code 33 = .ok (.pop, 1) := by decide +kernel
theorem dJ5_append_c97b9_34 : decode prog_15_method_32_code 34 = .ok (.goto 14, 3) := by decide +kernel
theorem dJ5_append_c97b9_37 : decode prog_15_method_32_code 37 = .ok (.iload_n 1, 1) := by decide +kernel
theorem dJ5_append_c97b9_38 : decode prog_15_method_32_code 38 = .ok (.iload_n 2, 1) := by decide +kernel
theorem dJ5_append_c97b9_39 : decode prog_15_method_32_code 39 = .ok (.iload_n 3, 1) := by decide +kernel
theorem dJ5_append_c97b9_40 : decode prog_15_method_32_code 40 = .ok (.aload_n 0, 1) := by decide +kernel
theorem dJ5_append_c97b9_41 : decode prog_15_method_32_code 41 = .ok (.getfield 15, 3) := by decide +kernel
theorem dJ5_append_c97b9_44 : decode prog_15_method_32_code 44 = .ok (.invokestatic 251, 3) := by decide +kernel
theorem dJ5_append_c97b9_47 : decode prog_15_method_32_code 47 = .ok (.pop, 1) := by decide +kernel
theorem dJ5_append_c97b9_48 : decode prog_15_method_32_code 48 = .ok (.aload_n 0, 1) := by decide +kernel
theorem dJ5_append_c97b9_49 : decode prog_15_method_32_code 49 = .ok (.iload_n 3, 1) := by decide +kernel
theorem dJ5_append_c97b9_50 : decode prog_15_method_32_code 50 = .ok (.putfield 79, 3) := by decide +kernel
theorem dJ5_append_c97b9_53 : decode prog_15_method_32_code 53 = .ok (.aload_n 0, 1) := by decide +kernel
theorem dJ5_append_c97b9_54 : decode prog_15_method_32_code 54 = .ok (.areturn, 1) := by decide +kernel
def m_J5_append_c97b9 (N : Nat) (mc ms : Nat) (a0 : Nat) (i1 : Int32) (M : mM) : Option (Nat × mM) :=
  (fI M a0 0 3).bind fun x1 =>
  (m_J6_stringSize_0f7a4 N i1).bind fun x3 =>
  (oO M a0 0).bind fun _ =>
  (oif (0 + mc ≤ mc ∧ 0 + ms ≤ ms)).bind fun _ =>
  (m_J5_ensureCapacityInternal_d00df mc ms a0 (x1 + x3) M).bind fun x7 =>
  (oO x7 a0 0).bind fun _ =>
  (m_J5_isLatin1_aae02 a0 x7).bind fun x11 =>
  if x11 = 0 then (
    (fR x7 a0 0 0).bind fun x13 =>
    none) else (
    (fR x7 a0 0 0).bind fun x15 =>
    (m_J6_getChars_ba4f3 N i1 (x1 + x3) x15 x7).bind fun x17 =>
    (sV x17.2 a0 0 3 (.int (x1 + x3))).bind fun M19 =>
    some (a0, M19))
set_option maxHeartbeats 4000000 in
set_option maxRecDepth 100000 in
theorem t_J5_append_c97b9 {L0 : Launch} {M : mM} {N : Nat} {mc ms : Nat} {a0 : Nat} {i1 : Int32} {res : Nat × mM} (hf : m_J5_append_c97b9 N mc ms a0 i1 M = some res) : CT L0 yJ5_append_c97b9 prog_15_method_32_code 4 (some (.object "java/lang/AbstractStringBuilder")) 4 110 mc ms [.ref a0, .int i1] M (some (.ref res.1)) res.2 := by
  refine CT.of (by decide +kernel) (Nat.le_of_ble_eq_true rfl) fun X C E => ?_
  have C : CX X RJ5 "append" prog_15_method_32_code 4 (some (.object "java/lang/AbstractStringBuilder")) := C
  show EV X 4 0 [(0, .ref a0), (1, .int i1)] [] 0 0 M
  unfold m_J5_append_c97b9 at hf
  have hk : 0 ≤ mc ∧ 0 ≤ ms := ⟨Nat.zero_le _, Nat.zero_le _⟩
  refine ev_aload_n C dJ5_append_c97b9_0 rfl (q := 0) rfl ?_
  obtain ⟨x1, e2, hf⟩ := obnd hf
  refine ev_get (k := 3) C ok_0 dJ5_append_c97b9_1 (by decide) kw_355 (fI_V e2) ?_
  refine ev_istore_n (l' := [(2, .int x1), (0, .ref a0), (1, .int i1)]) C dJ5_append_c97b9_4 rfl (by decide) rfl ?_
  refine ev_iload_n C dJ5_append_c97b9_5 rfl (q := 0) rfl ?_
  refine ev_iload_n C dJ5_append_c97b9_6 rfl (q := 2) rfl ?_
  obtain ⟨x3, e4, hf⟩ := obnd hf
  refine ev_callS0 (As := [.int i1]) (st := [.int x1]) C (t_J6_stringSize_0f7a4 e4) hd_J6_stringSize_0f7a4 rfl kw_959 kw_960 kw_97 kw_961 (mRoom.of E (Nat.le_of_ble_eq_true rfl) (Nat.le_of_ble_eq_true rfl) hk.1 hk.2) (Nat.le_of_ble_eq_true rfl) dJ5_append_c97b9_7 ?_
  refine ev_iadd C dJ5_append_c97b9_10 ?_
  refine ev_istore_n (l' := [(3, .int (x1 + x3)), (2, .int x1), (0, .ref a0), (1, .int i1)]) C dJ5_append_c97b9_11 rfl (by decide) rfl ?_
  refine ev_aload_n C dJ5_append_c97b9_12 rfl (q := 2) rfl ?_
  refine ev_iload_n C dJ5_append_c97b9_13 rfl (q := 0) rfl ?_
  obtain ⟨_, e5, hf⟩ := obnd hf
  obtain ⟨fs6, e5⟩ := oO_eq e5
  obtain ⟨_, hk, hf⟩ := obnd hf
  have hk := oif_eq hk
  obtain ⟨x7, e8, hf⟩ := obnd hf
  refine ev_callU (As := [.int (x1 + x3)]) (st := []) C rfl e5 (t_J5_ensureCapacityInternal_d00df e8) hd_J5_ensureCapacityInternal_d00df rfl kw_842 kw_1704 kw_9000 kw_844 kw_81 kw_845 (mRoom.of E (Nat.le_of_ble_eq_true rfl) (Nat.le_of_ble_eq_true rfl) hk.1 hk.2) (Nat.le_of_ble_eq_true rfl) dJ5_append_c97b9_14 ?_
  refine ev_aload_n C dJ5_append_c97b9_17 rfl (q := 2) rfl ?_
  obtain ⟨_, e9, hf⟩ := obnd hf
  obtain ⟨fs10, e9⟩ := oO_eq e9
  obtain ⟨x11, e12, hf⟩ := obnd hf
  refine ev_callU0 (As := []) (st := []) C rfl e9 (t_J5_isLatin1_aae02 e12) hd_J5_isLatin1_aae02 rfl kw_873 kw_875 kw_876 kw_874 kw_81 kw_877 (mRoom.of E (Nat.le_of_ble_eq_true rfl) (Nat.le_of_ble_eq_true rfl) hk.1 hk.2) (Nat.le_of_ble_eq_true rfl) dJ5_append_c97b9_18 ?_
  refine ev_if_eq (tgt := 37) C dJ5_append_c97b9_21 (by decide) (fun hc => ?_) (fun hc => ?_)
  · have hf := oit hf hc
    refine ev_iload_n C dJ5_append_c97b9_37 rfl (q := 3) rfl ?_
    refine ev_iload_n C dJ5_append_c97b9_38 rfl (q := 1) rfl ?_
    refine ev_iload_n C dJ5_append_c97b9_39 rfl (q := 0) rfl ?_
    refine ev_aload_n C dJ5_append_c97b9_40 rfl (q := 2) rfl ?_
    obtain ⟨x13, e14, hf⟩ := obnd hf
    refine ev_get (k := 0) C ok_0 dJ5_append_c97b9_41 (by decide) kw_352 (fR_V e14) ?_
    cases hf
  · have hf := oie hf hc
    refine ev_iload_n C dJ5_append_c97b9_24 rfl (q := 3) rfl ?_
    refine ev_iload_n C dJ5_append_c97b9_25 rfl (q := 0) rfl ?_
    refine ev_aload_n C dJ5_append_c97b9_26 rfl (q := 2) rfl ?_
    obtain ⟨x15, e16, hf⟩ := obnd hf
    refine ev_get (k := 0) C ok_0 dJ5_append_c97b9_27 (by decide) kw_352 (fR_V e16) ?_
    obtain ⟨x17, e18, hf⟩ := obnd hf
    refine ev_callS0 (As := [.int i1, .int (x1 + x3), .ref x15]) (st := []) C (t_J6_getChars_ba4f3 e18) hd_J6_getChars_ba4f3 rfl kw_962 kw_963 kw_97 kw_964 (mRoom.of E (Nat.le_of_ble_eq_true rfl) (Nat.le_of_ble_eq_true rfl) hk.1 hk.2) (Nat.le_of_ble_eq_true rfl) dJ5_append_c97b9_30 ?_
    refine ev_pop C dJ5_append_c97b9_33 rfl ?_
    refine ev_goto (tgt := 48) C dJ5_append_c97b9_34 (by decide) ?_
    refine ev_aload_n C dJ5_append_c97b9_48 rfl (q := 2) rfl ?_
    refine ev_iload_n C dJ5_append_c97b9_49 rfl (q := 0) rfl ?_
    obtain ⟨M19, e20, hf⟩ := obnd hf
    refine ev_put (k := 3) C ok_0 dJ5_append_c97b9_50 (by decide) kw_355 rfl ⟨rfl, rfl⟩ e20 ?_
    refine ev_aload_n C dJ5_append_c97b9_53 rfl (q := 2) rfl ?_
    obtain rfl := Option.some.inj hf
    exact ev_aret C (by first | exact Or.inl ⟨_, rfl⟩ | exact Or.inr ⟨_, rfl⟩) E hk.1 hk.2 dJ5_append_c97b9_54
/-! java/lang/StringBuilder append(I)Ljava/lang/StringBuilder; -/
theorem dJ4_append_bf812_0 : decode prog_24_method_15_code 0 = .ok (.aload_n 0, 1) := by decide +kernel
theorem dJ4_append_bf812_1 : decode prog_24_method_15_code 1 = .ok (.iload_n 1, 1) := by decide +kernel
theorem dJ4_append_bf812_2 : decode prog_24_method_15_code 2 = .ok (.invokespecial 53, 3) := by decide +kernel
theorem dJ4_append_bf812_5 : decode prog_24_method_15_code 5 = .ok (.pop, 1) := by decide +kernel
theorem dJ4_append_bf812_6 : decode prog_24_method_15_code 6 = .ok (.aload_n 0, 1) := by decide +kernel
theorem dJ4_append_bf812_7 : decode prog_24_method_15_code 7 = .ok (.areturn, 1) := by decide +kernel
def m_J4_append_bf812 (N : Nat) (mc ms : Nat) (a0 : Nat) (i1 : Int32) (M : mM) : Option (Nat × mM) :=
  (oO M a0 0).bind fun _ =>
  (oif (0 + mc ≤ mc ∧ 0 + ms ≤ ms)).bind fun _ =>
  (m_J5_append_c97b9 N mc ms a0 i1 M).bind fun x3 =>
  some (a0, x3.2)
set_option maxHeartbeats 4000000 in
set_option maxRecDepth 100000 in
theorem t_J4_append_bf812 {L0 : Launch} {M : mM} {N : Nat} {mc ms : Nat} {a0 : Nat} {i1 : Int32} {res : Nat × mM} (hf : m_J4_append_bf812 N mc ms a0 i1 M = some res) : CT L0 yJ4_append_bf812 prog_24_method_15_code 2 (some (.object "java/lang/StringBuilder")) 5 133 mc ms [.ref a0, .int i1] M (some (.ref res.1)) res.2 := by
  refine CT.of (by decide +kernel) (Nat.le_of_ble_eq_true rfl) fun X C E => ?_
  have C : CX X RJ4 "append" prog_24_method_15_code 2 (some (.object "java/lang/StringBuilder")) := C
  show EV X 2 0 [(0, .ref a0), (1, .int i1)] [] 0 0 M
  unfold m_J4_append_bf812 at hf
  have hk : 0 ≤ mc ∧ 0 ≤ ms := ⟨Nat.zero_le _, Nat.zero_le _⟩
  refine ev_aload_n C dJ4_append_bf812_0 rfl (q := 0) rfl ?_
  refine ev_iload_n C dJ4_append_bf812_1 rfl (q := 1) rfl ?_
  obtain ⟨_, e1, hf⟩ := obnd hf
  obtain ⟨fs2, e1⟩ := oO_eq e1
  obtain ⟨_, hk, hf⟩ := obnd hf
  have hk := oif_eq hk
  obtain ⟨x3, e4, hf⟩ := obnd hf
  refine ev_callSU (As := [.int i1]) (st := []) C rfl e1 (t_J5_append_c97b9 e4) (by decide +kernel) hd_J5_append_c97b9 rfl kw_956 kw_1708 kw_364 kw_957 kw_81 kw_958 (mRoom.of E (Nat.le_of_ble_eq_true rfl) (Nat.le_of_ble_eq_true rfl) hk.1 hk.2) (Nat.le_of_ble_eq_true rfl) dJ4_append_bf812_2 ?_
  refine ev_pop C dJ4_append_bf812_5 rfl ?_
  refine ev_aload_n C dJ4_append_bf812_6 rfl (q := 0) rfl ?_
  obtain rfl := Option.some.inj hf
  exact ev_aret C (by first | exact Or.inl ⟨_, rfl⟩ | exact Or.inr ⟨_, rfl⟩) E hk.1 hk.2 dJ4_append_bf812_7
/-! FareLimits$Network spellRoute(Ljava/lang/StringBuilder;LFareLimits$Route;)V -/
theorem dX4_spellRoute_0 : decode prog_6_method_11_code 0 = .ok (.iconst 0, 1) := by decide +kernel
theorem dX4_spellRoute_1 : decode prog_6_method_11_code 1 = .ok (.istore_n 3, 1) := by decide +kernel
theorem dX4_spellRoute_2 : decode prog_6_method_11_code 2 = .ok (.iload_n 3, 1) := by decide +kernel
theorem dX4_spellRoute_3 : decode prog_6_method_11_code 3 = .ok (.aload_n 2, 1) := by decide +kernel
theorem dX4_spellRoute_4 : decode prog_6_method_11_code 4 = .ok (.invokevirtual 73, 3) := by decide +kernel
theorem dX4_spellRoute_7 : decode prog_6_method_11_code 7 = .ok (.if_icmp .ge 20, 3) := by decide +kernel
theorem dX4_spellRoute_10 : decode prog_6_method_11_code 10 = .ok (.aload_n 1, 1) := by decide +kernel
theorem dX4_spellRoute_11 : decode prog_6_method_11_code 11 = .ok (.aload_n 2, 1) := by decide +kernel
theorem dX4_spellRoute_12 : decode prog_6_method_11_code 12 = .ok (.iload_n 3, 1) := by decide +kernel
theorem dX4_spellRoute_13 : decode prog_6_method_11_code 13 = .ok (.invokevirtual 77, 3) := by decide +kernel
theorem dX4_spellRoute_16 : decode prog_6_method_11_code 16 = .ok (.i2c, 1) := by decide +kernel
theorem dX4_spellRoute_17 : decode prog_6_method_11_code 17 = .ok (.invokevirtual 65, 3) := by decide +kernel
theorem dX4_spellRoute_20 : decode prog_6_method_11_code 20 = .ok (.pop, 1) := by decide +kernel
theorem dX4_spellRoute_21 : decode prog_6_method_11_code 21 = .ok (.iinc 3 1, 3) := by decide +kernel
theorem dX4_spellRoute_24 : decode prog_6_method_11_code 24 = .ok (.goto (-22), 3) := by decide +kernel
theorem dX4_spellRoute_27 : decode prog_6_method_11_code 27 = .ok (.aload_n 1, 1) := by decide +kernel
theorem dX4_spellRoute_28 : decode prog_6_method_11_code 28 = .ok (.bipush 61, 2) := by decide +kernel
theorem dX4_spellRoute_30 : decode prog_6_method_11_code 30 = .ok (.invokevirtual 65, 3) := by decide +kernel
theorem dX4_spellRoute_33 : decode prog_6_method_11_code 33 = .ok (.pop, 1) := by decide +kernel
theorem dX4_spellRoute_34 : decode prog_6_method_11_code 34 = .ok (.iconst 0, 1) := by decide +kernel
theorem dX4_spellRoute_35 : decode prog_6_method_11_code 35 = .ok (.istore_n 3, 1) := by decide +kernel
theorem dX4_spellRoute_36 : decode prog_6_method_11_code 36 = .ok (.iload_n 3, 1) := by decide +kernel
theorem dX4_spellRoute_37 : decode prog_6_method_11_code 37 = .ok (.iconst 4, 1) := by decide +kernel
theorem dX4_spellRoute_38 : decode prog_6_method_11_code 38 = .ok (.if_icmp .ge 23, 3) := by decide +kernel
theorem dX4_spellRoute_41 : decode prog_6_method_11_code 41 = .ok (.aload_n 2, 1) := by decide +kernel
theorem dX4_spellRoute_42 : decode prog_6_method_11_code 42 = .ok (.iload_n 3, 1) := by decide +kernel
theorem dX4_spellRoute_43 : decode prog_6_method_11_code 43 = .ok (.invokevirtual 37, 3) := by decide +kernel
theorem dX4_spellRoute_46 : decode prog_6_method_11_code 46 = .ok (.ifCond .eq 9, 3) := by decide +kernel
theorem dX4_spellRoute_49 : decode prog_6_method_11_code 49 = .ok (.aload_n 1, 1) := by decide +kernel
theorem dX4_spellRoute_50 : decode prog_6_method_11_code 50 = .ok (.iload_n 3, 1) := by decide +kernel
theorem dX4_spellRoute_51 : decode prog_6_method_11_code 51 = .ok (.invokevirtual 81, 3) := by decide +kernel
theorem dX4_spellRoute_54 : decode prog_6_method_11_code 54 = .ok (.pop, 1) := by decide +kernel
theorem dX4_spellRoute_55 : decode prog_6_method_11_code 55 = .ok (.iinc 3 1, 3) := by decide +kernel
theorem dX4_spellRoute_58 : decode prog_6_method_11_code 58 = .ok (.goto (-22), 3) := by decide +kernel
theorem dX4_spellRoute_61 : decode prog_6_method_11_code 61 = .ok (.aload_n 1, 1) := by decide +kernel
theorem dX4_spellRoute_62 : decode prog_6_method_11_code 62 = .ok (.bipush 58, 2) := by decide +kernel
theorem dX4_spellRoute_64 : decode prog_6_method_11_code 64 = .ok (.invokevirtual 65, 3) := by decide +kernel
theorem dX4_spellRoute_67 : decode prog_6_method_11_code 67 = .ok (.aload_n 2, 1) := by decide +kernel
theorem dX4_spellRoute_68 : decode prog_6_method_11_code 68 = .ok (.getfield 41, 3) := by decide +kernel
theorem dX4_spellRoute_71 : decode prog_6_method_11_code 71 = .ok (.invokevirtual 81, 3) := by decide +kernel
theorem dX4_spellRoute_74 : decode prog_6_method_11_code 74 = .ok (.pop, 1) := by decide +kernel
theorem dX4_spellRoute_75 : decode prog_6_method_11_code 75 = .ok (.aload_n 2, 1) := by decide +kernel
theorem dX4_spellRoute_76 : decode prog_6_method_11_code 76 = .ok (.getfield 48, 3) := by decide +kernel
theorem dX4_spellRoute_79 : decode prog_6_method_11_code 79 = .ok (.ifCond .eq 17, 3) := by decide +kernel
theorem dX4_spellRoute_82 : decode prog_6_method_11_code 82 = .ok (.aload_n 1, 1) := by decide +kernel
theorem dX4_spellRoute_83 : decode prog_6_method_11_code 83 = .ok (.bipush 42, 2) := by decide +kernel
theorem dX4_spellRoute_85 : decode prog_6_method_11_code 85 = .ok (.invokevirtual 65, 3) := by decide +kernel
theorem dX4_spellRoute_88 : decode prog_6_method_11_code 88 = .ok (.aload_n 2, 1) := by decide +kernel
theorem dX4_spellRoute_89 : decode prog_6_method_11_code 89 = .ok (.getfield 48, 3) := by decide +kernel
theorem dX4_spellRoute_92 : decode prog_6_method_11_code 92 = .ok (.invokevirtual 81, 3) := by decide +kernel
theorem dX4_spellRoute_95 : decode prog_6_method_11_code 95 = .ok (.pop, 1) := by decide +kernel
theorem dX4_spellRoute_96 : decode prog_6_method_11_code 96 = .ok (.return_, 1) := by decide +kernel
def m_X4_spellRoute_J55 (N : Nat) (mc ms : Nat) (k36 : Nat → Nat → Int32 → mM → Nat → Nat → Option (mM)) (a1 : Nat) (a2 : Nat) (i3 : Int32) (M : mM) (kc ks : Nat) : Option (mM) :=
  k36 a1 a2 (i3 + 1) M kc ks
set_option maxHeartbeats 4000000 in
set_option maxRecDepth 100000 in
theorem t_X4_spellRoute_J55 {X : mX} {L0 : Launch} {res : mM} {N : Nat} {mc ms : Nat} (C : CX X RX4 "spellRoute" prog_6_method_11_code 4 none) (E : EX X L0 6 154 mc ms none res) (k36 : Nat → Nat → Int32 → mM → Nat → Nat → Option (mM)) (Hk36 : ∀ (a1 : Nat) (a2 : Nat) (i3 : Int32) (M : mM) (kc ks : Nat) (hk : kc ≤ mc ∧ ks ≤ ms), k36 a1 a2 i3 M kc ks = some res → EV X 4 36 [(1, .ref a1), (2, .ref a2), (3, .int i3)] [] kc ks M) (a1 : Nat) (a2 : Nat) (i3 : Int32) (M : mM) (kc ks : Nat) (hk : kc ≤ mc ∧ ks ≤ ms) (hf : m_X4_spellRoute_J55 N mc ms k36 a1 a2 i3 M kc ks = some res) : EV X 4 55 [(1, .ref a1), (2, .ref a2), (3, .int i3)] [] kc ks M := by
  unfold m_X4_spellRoute_J55 at hf
  refine ev_iinc (v := i3 + 1) (l' := [(3, .int (i3 + 1)), (1, .ref a1), (2, .ref a2)]) C dX4_spellRoute_55 (q := 2) rfl rfl (by decide) rfl ?_
  refine ev_goto (tgt := 36) C dX4_spellRoute_58 (by decide) ?_
  refine ev_sub [1, 2, 0] rfl ?_
  exact Hk36 a1 a2 (i3 + 1) M kc ks hk hf
def m_X4_spellRoute_L36 (N : Nat) (mc ms : Nat)  : Nat → Nat → Nat → Int32 → mM → Nat → Nat → Option (mM)
  | 0, _, _, _, _, _, _ => none
  | n + 1, a1, a2, i3, M, kc, ks =>
    if 4 ≤ i3 then (
      (oO M a1 0).bind fun _ =>
      (oif (kc + (bC M a1 1) ≤ mc ∧ ks + (bS M a1 1) ≤ ms)).bind fun _ =>
      (m_J4_append_cf468 (bC M a1 1) (bS M a1 1) a1 58 M).bind fun x3 =>
      (fI x3.2 a2 6 2).bind fun x5 =>
      (oO x3.2 x3.1 0).bind fun _ =>
      (oif ((kc + (bC M a1 1)) + (bC x3.2 x3.1 (dgN x5)) ≤ mc ∧ (ks + (bS M a1 1)) + (bS x3.2 x3.1 (dgN x5)) ≤ ms)).bind fun _ =>
      (m_J4_append_bf812 N (bC x3.2 x3.1 (dgN x5)) (bS x3.2 x3.1 (dgN x5)) x3.1 x5 x3.2).bind fun x9 =>
      (fI x9.2 a2 6 3).bind fun x11 =>
      if x11 = 0 then (
        some x9.2) else (
        (oO x9.2 a1 0).bind fun _ =>
        (oif (((kc + (bC M a1 1)) + (bC x3.2 x3.1 (dgN x5))) + (bC x9.2 a1 1) ≤ mc ∧ ((ks + (bS M a1 1)) + (bS x3.2 x3.1 (dgN x5))) + (bS x9.2 a1 1) ≤ ms)).bind fun _ =>
        (m_J4_append_cf468 (bC x9.2 a1 1) (bS x9.2 a1 1) a1 42 x9.2).bind fun x15 =>
        (fI x15.2 a2 6 3).bind fun x17 =>
        (oO x15.2 x15.1 0).bind fun _ =>
        (oif ((((kc + (bC M a1 1)) + (bC x3.2 x3.1 (dgN x5))) + (bC x9.2 a1 1)) + (bC x15.2 x15.1 (dgN x17)) ≤ mc ∧ (((ks + (bS M a1 1)) + (bS x3.2 x3.1 (dgN x5))) + (bS x9.2 a1 1)) + (bS x15.2 x15.1 (dgN x17)) ≤ ms)).bind fun _ =>
        (m_J4_append_bf812 N (bC x15.2 x15.1 (dgN x17)) (bS x15.2 x15.1 (dgN x17)) x15.1 x17 x15.2).bind fun x21 =>
        some x21.2)) else (
      (oO M a2 6).bind fun _ =>
      (m_X6_goesOver a2 i3 M).bind fun x25 =>
      if x25 = 0 then (
        m_X4_spellRoute_J55 N mc ms (m_X4_spellRoute_L36 N mc ms  n) a1 a2 i3 M kc ks) else (
        (oO M a1 0).bind fun _ =>
        (oif (kc + (bC M a1 (dgN i3)) ≤ mc ∧ ks + (bS M a1 (dgN i3)) ≤ ms)).bind fun _ =>
        (m_J4_append_bf812 N (bC M a1 (dgN i3)) (bS M a1 (dgN i3)) a1 i3 M).bind fun x29 =>
        m_X4_spellRoute_J55 N mc ms (m_X4_spellRoute_L36 N mc ms  n) a1 a2 i3 x29.2 (kc + (bC M a1 (dgN i3))) (ks + (bS M a1 (dgN i3)))))
set_option maxHeartbeats 4000000 in
set_option maxRecDepth 100000 in
theorem t_X4_spellRoute_L36 {X : mX} {L0 : Launch} {res : mM} {N : Nat} {mc ms : Nat} (C : CX X RX4 "spellRoute" prog_6_method_11_code 4 none) (E : EX X L0 6 154 mc ms none res)   : ∀ (n : Nat) (a1 : Nat) (a2 : Nat) (i3 : Int32) (M : mM) (kc ks : Nat) (hk : kc ≤ mc ∧ ks ≤ ms), m_X4_spellRoute_L36 N mc ms  n a1 a2 i3 M kc ks = some res → EV X 4 36 [(1, .ref a1), (2, .ref a2), (3, .int i3)] [] kc ks M := by
  intro n
  induction n with
  | zero => intro a1 a2 i3 M kc ks hk hf; cases (show (none : Option (mM)) = some res from hf)
  | succ n ih =>
    intro a1 a2 i3 M kc ks hk hf
    rw [m_X4_spellRoute_L36] at hf
    refine ev_iload_n C dX4_spellRoute_36 rfl (q := 2) rfl ?_
    refine ev_iconst (v := 4) C dX4_spellRoute_37 (by decide) ?_
    refine ev_icmp_ge (tgt := 61) C dX4_spellRoute_38 (by decide) (fun hc => ?_) (fun hc => ?_)
    · have hf := oit hf hc
      refine ev_aload_n C dX4_spellRoute_61 rfl (q := 0) rfl ?_
      refine ev_bipush (v := 58) C dX4_spellRoute_62 (by decide) ?_
      obtain ⟨_, e1, hf⟩ := obnd hf
      obtain ⟨fs2, e1⟩ := oO_eq e1
      obtain ⟨_, hk, hf⟩ := obnd hf
      have hk := oif_eq hk
      obtain ⟨x3, e4, hf⟩ := obnd hf
      refine ev_callV (As := [.int 58]) (st := []) C rfl e1 (t_J4_append_cf468 e4) rfl hd_J4_append_cf468 rfl kw_891 kw_892 kw_82 kw_893 kw_894 (mRoom.of E (Nat.le_of_ble_eq_true rfl) (Nat.le_of_ble_eq_true rfl) hk.1 hk.2) (Nat.le_of_ble_eq_true rfl) dX4_spellRoute_64 ?_
      refine ev_aload_n C dX4_spellRoute_67 rfl (q := 1) rfl ?_
      obtain ⟨x5, e6, hf⟩ := obnd hf
      refine ev_get (k := 2) C ok_6 dX4_spellRoute_68 (by decide) kw_753 (fI_V e6) ?_
      obtain ⟨_, e7, hf⟩ := obnd hf
      obtain ⟨fs8, e7⟩ := oO_eq e7
      obtain ⟨_, hk, hf⟩ := obnd hf
      have hk := oif_eq hk
      obtain ⟨x9, e10, hf⟩ := obnd hf
      refine ev_callV (As := [.int x5]) (st := []) C rfl e7 (t_J4_append_bf812 e10) rfl hd_J4_append_bf812 rfl kw_952 kw_953 kw_82 kw_954 kw_955 (mRoom.of E (Nat.le_of_ble_eq_true rfl) (Nat.le_of_ble_eq_true rfl) hk.1 hk.2) (Nat.le_of_ble_eq_true rfl) dX4_spellRoute_71 ?_
      refine ev_pop C dX4_spellRoute_74 rfl ?_
      refine ev_aload_n C dX4_spellRoute_75 rfl (q := 1) rfl ?_
      obtain ⟨x11, e12, hf⟩ := obnd hf
      refine ev_get (k := 3) C ok_6 dX4_spellRoute_76 (by decide) kw_756 (fI_V e12) ?_
      refine ev_if_eq (tgt := 96) C dX4_spellRoute_79 (by decide) (fun hc => ?_) (fun hc => ?_)
      · have hf := oit hf hc
        obtain rfl := Option.some.inj hf
        exact ev_vret C E hk.1 hk.2 dX4_spellRoute_96
      · have hf := oie hf hc
        refine ev_aload_n C dX4_spellRoute_82 rfl (q := 0) rfl ?_
        refine ev_bipush (v := 42) C dX4_spellRoute_83 (by decide) ?_
        obtain ⟨_, e13, hf⟩ := obnd hf
        obtain ⟨fs14, e13⟩ := oO_eq e13
        obtain ⟨_, hk, hf⟩ := obnd hf
        have hk := oif_eq hk
        obtain ⟨x15, e16, hf⟩ := obnd hf
        refine ev_callV (As := [.int 42]) (st := []) C rfl e13 (t_J4_append_cf468 e16) rfl hd_J4_append_cf468 rfl kw_891 kw_892 kw_82 kw_893 kw_894 (mRoom.of E (Nat.le_of_ble_eq_true rfl) (Nat.le_of_ble_eq_true rfl) hk.1 hk.2) (Nat.le_of_ble_eq_true rfl) dX4_spellRoute_85 ?_
        refine ev_aload_n C dX4_spellRoute_88 rfl (q := 1) rfl ?_
        obtain ⟨x17, e18, hf⟩ := obnd hf
        refine ev_get (k := 3) C ok_6 dX4_spellRoute_89 (by decide) kw_756 (fI_V e18) ?_
        obtain ⟨_, e19, hf⟩ := obnd hf
        obtain ⟨fs20, e19⟩ := oO_eq e19
        obtain ⟨_, hk, hf⟩ := obnd hf
        have hk := oif_eq hk
        obtain ⟨x21, e22, hf⟩ := obnd hf
        refine ev_callV (As := [.int x17]) (st := []) C rfl e19 (t_J4_append_bf812 e22) rfl hd_J4_append_bf812 rfl kw_952 kw_953 kw_82 kw_954 kw_955 (mRoom.of E (Nat.le_of_ble_eq_true rfl) (Nat.le_of_ble_eq_true rfl) hk.1 hk.2) (Nat.le_of_ble_eq_true rfl) dX4_spellRoute_92 ?_
        refine ev_pop C dX4_spellRoute_95 rfl ?_
        obtain rfl := Option.some.inj hf
        exact ev_vret C E hk.1 hk.2 dX4_spellRoute_96
    · have hf := oie hf hc
      refine ev_aload_n C dX4_spellRoute_41 rfl (q := 1) rfl ?_
      refine ev_iload_n C dX4_spellRoute_42 rfl (q := 2) rfl ?_
      obtain ⟨_, e23, hf⟩ := obnd hf
      obtain ⟨fs24, e23⟩ := oO_eq e23
      obtain ⟨x25, e26, hf⟩ := obnd hf
      refine ev_callV0 (As := [.int i3]) (st := []) C rfl e23 (t_X6_goesOver e26) rfl hd_X6_goesOver rfl kw_792 kw_793 kw_92 kw_794 kw_795 (mRoom.of E (Nat.le_of_ble_eq_true rfl) (Nat.le_of_ble_eq_true rfl) hk.1 hk.2) (Nat.le_of_ble_eq_true rfl) dX4_spellRoute_43 ?_
      refine ev_if_eq (tgt := 55) C dX4_spellRoute_46 (by decide) (fun hc => ?_) (fun hc => ?_)
      · have hf := oit hf hc
        exact t_X4_spellRoute_J55 C E (m_X4_spellRoute_L36 N mc ms  n) ih a1 a2 i3 M kc ks hk hf
      · have hf := oie hf hc
        refine ev_aload_n C dX4_spellRoute_49 rfl (q := 0) rfl ?_
        refine ev_iload_n C dX4_spellRoute_50 rfl (q := 2) rfl ?_
        obtain ⟨_, e27, hf⟩ := obnd hf
        obtain ⟨fs28, e27⟩ := oO_eq e27
        obtain ⟨_, hk, hf⟩ := obnd hf
        have hk := oif_eq hk
        obtain ⟨x29, e30, hf⟩ := obnd hf
        refine ev_callV (As := [.int i3]) (st := []) C rfl e27 (t_J4_append_bf812 e30) rfl hd_J4_append_bf812 rfl kw_952 kw_953 kw_82 kw_954 kw_955 (mRoom.of E (Nat.le_of_ble_eq_true rfl) (Nat.le_of_ble_eq_true rfl) hk.1 hk.2) (Nat.le_of_ble_eq_true rfl) dX4_spellRoute_51 ?_
        refine ev_pop C dX4_spellRoute_54 rfl ?_
        exact t_X4_spellRoute_J55 C E (m_X4_spellRoute_L36 N mc ms  n) ih a1 a2 i3 x29.2 (kc + (bC M a1 (dgN i3))) (ks + (bS M a1 (dgN i3))) hk hf
def m_X4_spellRoute_L2 (N : Nat) (mc ms : Nat)  : Nat → Nat → Nat → Int32 → mM → Nat → Nat → Option (mM)
  | 0, _, _, _, _, _, _ => none
  | n + 1, a1, a2, i3, M, kc, ks =>
    (oO M a2 6).bind fun _ =>
    (m_X6_letters N a2 M).bind fun x3 =>
    if x3 ≤ i3 then (
      (oO M a1 0).bind fun _ =>
      (oif (kc + (bC M a1 1) ≤ mc ∧ ks + (bS M a1 1) ≤ ms)).bind fun _ =>
      (m_J4_append_cf468 (bC M a1 1) (bS M a1 1) a1 61 M).bind fun x7 =>
      m_X4_spellRoute_L36 N mc ms  N a1 a2 0 x7.2 (kc + (bC M a1 1)) (ks + (bS M a1 1))) else (
      (oO M a2 6).bind fun _ =>
      (m_X6_letter a2 i3 M).bind fun x11 =>
      (oO M a1 0).bind fun _ =>
      (oif (kc + (bC M a1 1) ≤ mc ∧ ks + (bS M a1 1) ≤ ms)).bind fun _ =>
      (m_J4_append_cf468 (bC M a1 1) (bS M a1 1) a1 ((x11.toUInt32 % 65536).toInt32) M).bind fun x15 =>
      (m_X4_spellRoute_L2 N mc ms  n) a1 a2 (i3 + 1) x15.2 (kc + (bC M a1 1)) (ks + (bS M a1 1)))
set_option maxHeartbeats 4000000 in
set_option maxRecDepth 100000 in
theorem t_X4_spellRoute_L2 {X : mX} {L0 : Launch} {res : mM} {N : Nat} {mc ms : Nat} (C : CX X RX4 "spellRoute" prog_6_method_11_code 4 none) (E : EX X L0 6 154 mc ms none res)   : ∀ (n : Nat) (a1 : Nat) (a2 : Nat) (i3 : Int32) (M : mM) (kc ks : Nat) (hk : kc ≤ mc ∧ ks ≤ ms), m_X4_spellRoute_L2 N mc ms  n a1 a2 i3 M kc ks = some res → EV X 4 2 [(1, .ref a1), (2, .ref a2), (3, .int i3)] [] kc ks M := by
  intro n
  induction n with
  | zero => intro a1 a2 i3 M kc ks hk hf; cases (show (none : Option (mM)) = some res from hf)
  | succ n ih =>
    intro a1 a2 i3 M kc ks hk hf
    rw [m_X4_spellRoute_L2] at hf
    refine ev_iload_n C dX4_spellRoute_2 rfl (q := 2) rfl ?_
    refine ev_aload_n C dX4_spellRoute_3 rfl (q := 1) rfl ?_
    obtain ⟨_, e1, hf⟩ := obnd hf
    obtain ⟨fs2, e1⟩ := oO_eq e1
    obtain ⟨x3, e4, hf⟩ := obnd hf
    refine ev_callV0 (As := []) (st := [.int i3]) C rfl e1 (t_X6_letters e4) rfl hd_X6_letters rfl kw_950 kw_809 kw_92 kw_810 kw_811 (mRoom.of E (Nat.le_of_ble_eq_true rfl) (Nat.le_of_ble_eq_true rfl) hk.1 hk.2) (Nat.le_of_ble_eq_true rfl) dX4_spellRoute_4 ?_
    refine ev_icmp_ge (tgt := 27) C dX4_spellRoute_7 (by decide) (fun hc => ?_) (fun hc => ?_)
    · have hf := oit hf hc
      refine ev_aload_n C dX4_spellRoute_27 rfl (q := 0) rfl ?_
      refine ev_bipush (v := 61) C dX4_spellRoute_28 (by decide) ?_
      obtain ⟨_, e5, hf⟩ := obnd hf
      obtain ⟨fs6, e5⟩ := oO_eq e5
      obtain ⟨_, hk, hf⟩ := obnd hf
      have hk := oif_eq hk
      obtain ⟨x7, e8, hf⟩ := obnd hf
      refine ev_callV (As := [.int 61]) (st := []) C rfl e5 (t_J4_append_cf468 e8) rfl hd_J4_append_cf468 rfl kw_891 kw_892 kw_82 kw_893 kw_894 (mRoom.of E (Nat.le_of_ble_eq_true rfl) (Nat.le_of_ble_eq_true rfl) hk.1 hk.2) (Nat.le_of_ble_eq_true rfl) dX4_spellRoute_30 ?_
      refine ev_pop C dX4_spellRoute_33 rfl ?_
      refine ev_iconst (v := 0) C dX4_spellRoute_34 (by decide) ?_
      refine ev_istore_n (l' := [(3, .int 0), (1, .ref a1), (2, .ref a2)]) C dX4_spellRoute_35 rfl (by decide) rfl ?_
      refine ev_sub [1, 2, 0] rfl ?_
      exact t_X4_spellRoute_L36 C E   N a1 a2 0 x7.2 (kc + (bC M a1 1)) (ks + (bS M a1 1)) hk hf
    · have hf := oie hf hc
      refine ev_aload_n C dX4_spellRoute_10 rfl (q := 0) rfl ?_
      refine ev_aload_n C dX4_spellRoute_11 rfl (q := 1) rfl ?_
      refine ev_iload_n C dX4_spellRoute_12 rfl (q := 2) rfl ?_
      obtain ⟨_, e9, hf⟩ := obnd hf
      obtain ⟨fs10, e9⟩ := oO_eq e9
      obtain ⟨x11, e12, hf⟩ := obnd hf
      refine ev_callV0 (As := [.int i3]) (st := [.ref a1]) C rfl e9 (t_X6_letter e12) rfl hd_X6_letter rfl kw_951 kw_813 kw_92 kw_814 kw_815 (mRoom.of E (Nat.le_of_ble_eq_true rfl) (Nat.le_of_ble_eq_true rfl) hk.1 hk.2) (Nat.le_of_ble_eq_true rfl) dX4_spellRoute_13 ?_
      refine ev_i2c C dX4_spellRoute_16 ?_
      obtain ⟨_, e13, hf⟩ := obnd hf
      obtain ⟨fs14, e13⟩ := oO_eq e13
      obtain ⟨_, hk, hf⟩ := obnd hf
      have hk := oif_eq hk
      obtain ⟨x15, e16, hf⟩ := obnd hf
      refine ev_callV (As := [.int ((x11.toUInt32 % 65536).toInt32)]) (st := []) C rfl e13 (t_J4_append_cf468 e16) rfl hd_J4_append_cf468 rfl kw_891 kw_892 kw_82 kw_893 kw_894 (mRoom.of E (Nat.le_of_ble_eq_true rfl) (Nat.le_of_ble_eq_true rfl) hk.1 hk.2) (Nat.le_of_ble_eq_true rfl) dX4_spellRoute_17 ?_
      refine ev_pop C dX4_spellRoute_20 rfl ?_
      refine ev_iinc (v := i3 + 1) (l' := [(3, .int (i3 + 1)), (1, .ref a1), (2, .ref a2)]) C dX4_spellRoute_21 (q := 2) rfl rfl (by decide) rfl ?_
      refine ev_goto (tgt := 2) C dX4_spellRoute_24 (by decide) ?_
      refine ev_sub [1, 2, 0] rfl ?_
      exact ih a1 a2 (i3 + 1) x15.2 (kc + (bC M a1 1)) (ks + (bS M a1 1)) hk hf
def m_X4_spellRoute (N : Nat) (mc ms : Nat) (a0 : Nat) (a1 : Nat) (a2 : Nat) (M : mM) : Option (mM) :=
  m_X4_spellRoute_L2 N mc ms  N a1 a2 0 M 0 0
set_option maxHeartbeats 4000000 in
set_option maxRecDepth 100000 in
theorem t_X4_spellRoute {L0 : Launch} {M : mM} {N : Nat} {mc ms : Nat} {a0 : Nat} {a1 : Nat} {a2 : Nat} {res : mM} (hf : m_X4_spellRoute N mc ms a0 a1 a2 M = some res) : CT L0 yX4_spellRoute prog_6_method_11_code 4 none 6 154 mc ms [.ref a0, .ref a1, .ref a2] M none res := by
  refine CT.of (by decide +kernel) (Nat.le_of_ble_eq_true rfl) fun X C E => ?_
  have C : CX X RX4 "spellRoute" prog_6_method_11_code 4 none := C
  show EV X 4 0 [(0, .ref a0), (1, .ref a1), (2, .ref a2)] [] 0 0 M
  unfold m_X4_spellRoute at hf
  have hk : 0 ≤ mc ∧ 0 ≤ ms := ⟨Nat.zero_le _, Nat.zero_le _⟩
  refine ev_iconst (v := 0) C dX4_spellRoute_0 (by decide) ?_
  refine ev_istore_n (l' := [(3, .int 0), (0, .ref a0), (1, .ref a1), (2, .ref a2)]) C dX4_spellRoute_1 rfl (by decide) rfl ?_
  refine ev_sub [2, 3, 0] rfl ?_
  exact t_X4_spellRoute_L2 C E   N a1 a2 0 M 0 0 hk hf
/-! FareLimits$Network spellOn(Ljava/lang/StringBuilder;)V -/
theorem dX4_spellOn_0 : decode prog_6_method_10_code 0 = .ok (.aload_n 1, 1) := by decide +kernel
theorem dX4_spellOn_1 : decode prog_6_method_10_code 1 = .ok (.iconst 0, 1) := by decide +kernel
theorem dX4_spellOn_2 : decode prog_6_method_10_code 2 = .ok (.invokevirtual 59, 3) := by decide +kernel
theorem dX4_spellOn_5 : decode prog_6_method_10_code 5 = .ok (.iconst 0, 1) := by decide +kernel
theorem dX4_spellOn_6 : decode prog_6_method_10_code 6 = .ok (.istore_n 2, 1) := by decide +kernel
theorem dX4_spellOn_7 : decode prog_6_method_10_code 7 = .ok (.iload_n 2, 1) := by decide +kernel
theorem dX4_spellOn_8 : decode prog_6_method_10_code 8 = .ok (.aload_n 0, 1) := by decide +kernel
theorem dX4_spellOn_9 : decode prog_6_method_10_code 9 = .ok (.getfield 30, 3) := by decide +kernel
theorem dX4_spellOn_12 : decode prog_6_method_10_code 12 = .ok (.if_icmp .ge 31, 3) := by decide +kernel
theorem dX4_spellOn_15 : decode prog_6_method_10_code 15 = .ok (.iload_n 2, 1) := by decide +kernel
theorem dX4_spellOn_16 : decode prog_6_method_10_code 16 = .ok (.ifCond .le 10, 3) := by decide +kernel
theorem dX4_spellOn_19 : decode prog_6_method_10_code 19 = .ok (.aload_n 1, 1) := by decide +kernel
theorem dX4_spellOn_20 : decode prog_6_method_10_code 20 = .ok (.bipush 59, 2) := by decide +kernel
theorem dX4_spellOn_22 : decode prog_6_method_10_code 22 = .ok (.invokevirtual 65, 3) := by decide +kernel
theorem dX4_spellOn_25 : decode prog_6_method_10_code 25 = .ok (.pop, 1) := by decide +kernel
theorem dX4_spellOn_26 : decode prog_6_method_10_code 26 = .ok (.aload_n 0, 1) := by decide +kernel
theorem dX4_spellOn_27 : decode prog_6_method_10_code 27 = .ok (.aload_n 1, 1) := by decide +kernel
theorem dX4_spellOn_28 : decode prog_6_method_10_code 28 = .ok (.aload_n 0, 1) := by decide +kernel
theorem dX4_spellOn_29 : decode prog_6_method_10_code 29 = .ok (.getfield 20, 3) := by decide +kernel
theorem dX4_spellOn_32 : decode prog_6_method_10_code 32 = .ok (.iload_n 2, 1) := by decide +kernel
theorem dX4_spellOn_33 : decode prog_6_method_10_code 33 = .ok (.aaload, 1) := by decide +kernel
theorem dX4_spellOn_34 : decode prog_6_method_10_code 34 = .ok (.invokevirtual 69, 3) := by decide +kernel
theorem dX4_spellOn_37 : decode prog_6_method_10_code 37 = .ok (.iinc 2 1, 3) := by decide +kernel
theorem dX4_spellOn_40 : decode prog_6_method_10_code 40 = .ok (.goto (-33), 3) := by decide +kernel
theorem dX4_spellOn_43 : decode prog_6_method_10_code 43 = .ok (.return_, 1) := by decide +kernel
def m_X4_spellOn_J26 (N : Nat) (mc ms : Nat) (k7 : Nat → Nat → Int32 → mM → Nat → Nat → Option (mM)) (a0 : Nat) (a1 : Nat) (i2 : Int32) (M : mM) (kc ks : Nat) : Option (mM) :=
  (fR M a0 4 2).bind fun x1 =>
  (aR 6 M x1 i2).bind fun x3 =>
  (oO M a0 4).bind fun _ =>
  (oif (kc + (bC M a1 (rl M x3)) ≤ mc ∧ ks + (bS M a1 (rl M x3)) ≤ ms)).bind fun _ =>
  (m_X4_spellRoute N (bC M a1 (rl M x3)) (bS M a1 (rl M x3)) a0 a1 x3 M).bind fun x7 =>
  k7 a0 a1 (i2 + 1) x7 (kc + (bC M a1 (rl M x3))) (ks + (bS M a1 (rl M x3)))
set_option maxHeartbeats 4000000 in
set_option maxRecDepth 100000 in
theorem t_X4_spellOn_J26 {X : mX} {L0 : Launch} {res : mM} {N : Nat} {mc ms : Nat} (C : CX X RX4 "spellOn" prog_6_method_10_code 3 none) (E : EX X L0 7 177 mc ms none res) (k7 : Nat → Nat → Int32 → mM → Nat → Nat → Option (mM)) (Hk7 : ∀ (a0 : Nat) (a1 : Nat) (i2 : Int32) (M : mM) (kc ks : Nat) (hk : kc ≤ mc ∧ ks ≤ ms), k7 a0 a1 i2 M kc ks = some res → EV X 3 7 [(0, .ref a0), (1, .ref a1), (2, .int i2)] [] kc ks M) (a0 : Nat) (a1 : Nat) (i2 : Int32) (M : mM) (kc ks : Nat) (hk : kc ≤ mc ∧ ks ≤ ms) (hf : m_X4_spellOn_J26 N mc ms k7 a0 a1 i2 M kc ks = some res) : EV X 3 26 [(0, .ref a0), (1, .ref a1), (2, .int i2)] [] kc ks M := by
  unfold m_X4_spellOn_J26 at hf
  refine ev_aload_n C dX4_spellOn_26 rfl (q := 0) rfl ?_
  refine ev_aload_n C dX4_spellOn_27 rfl (q := 1) rfl ?_
  refine ev_aload_n C dX4_spellOn_28 rfl (q := 0) rfl ?_
  obtain ⟨x1, e2, hf⟩ := obnd hf
  refine ev_get (k := 2) C ok_4 dX4_spellOn_29 (by decide) kw_126 (fR_V e2) ?_
  refine ev_iload_n C dX4_spellOn_32 rfl (q := 2) rfl ?_
  obtain ⟨x3, e4, hf⟩ := obnd hf
  refine ev_aldr C (t := 6) rfl rfl dX4_spellOn_33 e4 ?_
  obtain ⟨_, e5, hf⟩ := obnd hf
  obtain ⟨fs6, e5⟩ := oO_eq e5
  obtain ⟨_, hk, hf⟩ := obnd hf
  have hk := oif_eq hk
  obtain ⟨x7, e8, hf⟩ := obnd hf
  refine ev_callV (As := [.ref a1, .ref x3]) (st := []) C rfl e5 (t_X4_spellRoute e8) rfl hd_X4_spellRoute rfl kw_946 kw_948 kw_72 kw_16 kw_949 (mRoom.of E (Nat.le_of_ble_eq_true rfl) (Nat.le_of_ble_eq_true rfl) hk.1 hk.2) (Nat.le_of_ble_eq_true rfl) dX4_spellOn_34 ?_
  refine ev_iinc (v := i2 + 1) (l' := [(2, .int (i2 + 1)), (0, .ref a0), (1, .ref a1)]) C dX4_spellOn_37 (q := 2) rfl rfl (by decide) rfl ?_
  refine ev_goto (tgt := 7) C dX4_spellOn_40 (by decide) ?_
  refine ev_sub [1, 2, 0] rfl ?_
  exact Hk7 a0 a1 (i2 + 1) x7 (kc + (bC M a1 (rl M x3))) (ks + (bS M a1 (rl M x3))) hk hf
def m_X4_spellOn_L7 (N : Nat) (mc ms : Nat)  : Nat → Nat → Nat → Int32 → mM → Nat → Nat → Option (mM)
  | 0, _, _, _, _, _, _ => none
  | n + 1, a0, a1, i2, M, kc, ks =>
    (fI M a0 4 3).bind fun x1 =>
    if x1 ≤ i2 then (
      some M) else (
      if i2 ≤ 0 then (
        m_X4_spellOn_J26 N mc ms (m_X4_spellOn_L7 N mc ms  n) a0 a1 i2 M kc ks) else (
        (oO M a1 0).bind fun _ =>
        (oif (kc + (bC M a1 1) ≤ mc ∧ ks + (bS M a1 1) ≤ ms)).bind fun _ =>
        (m_J4_append_cf468 (bC M a1 1) (bS M a1 1) a1 59 M).bind fun x5 =>
        m_X4_spellOn_J26 N mc ms (m_X4_spellOn_L7 N mc ms  n) a0 a1 i2 x5.2 (kc + (bC M a1 1)) (ks + (bS M a1 1))))
set_option maxHeartbeats 4000000 in
set_option maxRecDepth 100000 in
theorem t_X4_spellOn_L7 {X : mX} {L0 : Launch} {res : mM} {N : Nat} {mc ms : Nat} (C : CX X RX4 "spellOn" prog_6_method_10_code 3 none) (E : EX X L0 7 177 mc ms none res)   : ∀ (n : Nat) (a0 : Nat) (a1 : Nat) (i2 : Int32) (M : mM) (kc ks : Nat) (hk : kc ≤ mc ∧ ks ≤ ms), m_X4_spellOn_L7 N mc ms  n a0 a1 i2 M kc ks = some res → EV X 3 7 [(0, .ref a0), (1, .ref a1), (2, .int i2)] [] kc ks M := by
  intro n
  induction n with
  | zero => intro a0 a1 i2 M kc ks hk hf; cases (show (none : Option (mM)) = some res from hf)
  | succ n ih =>
    intro a0 a1 i2 M kc ks hk hf
    rw [m_X4_spellOn_L7] at hf
    refine ev_iload_n C dX4_spellOn_7 rfl (q := 2) rfl ?_
    refine ev_aload_n C dX4_spellOn_8 rfl (q := 0) rfl ?_
    obtain ⟨x1, e2, hf⟩ := obnd hf
    refine ev_get (k := 3) C ok_4 dX4_spellOn_9 (by decide) kw_128 (fI_V e2) ?_
    refine ev_icmp_ge (tgt := 43) C dX4_spellOn_12 (by decide) (fun hc => ?_) (fun hc => ?_)
    · have hf := oit hf hc
      obtain rfl := Option.some.inj hf
      exact ev_vret C E hk.1 hk.2 dX4_spellOn_43
    · have hf := oie hf hc
      refine ev_iload_n C dX4_spellOn_15 rfl (q := 2) rfl ?_
      refine ev_if_le (tgt := 26) C dX4_spellOn_16 (by decide) (fun hc => ?_) (fun hc => ?_)
      · have hf := oit hf hc
        exact t_X4_spellOn_J26 C E (m_X4_spellOn_L7 N mc ms  n) ih a0 a1 i2 M kc ks hk hf
      · have hf := oie hf hc
        refine ev_aload_n C dX4_spellOn_19 rfl (q := 1) rfl ?_
        refine ev_bipush (v := 59) C dX4_spellOn_20 (by decide) ?_
        obtain ⟨_, e3, hf⟩ := obnd hf
        obtain ⟨fs4, e3⟩ := oO_eq e3
        obtain ⟨_, hk, hf⟩ := obnd hf
        have hk := oif_eq hk
        obtain ⟨x5, e6, hf⟩ := obnd hf
        refine ev_callV (As := [.int 59]) (st := []) C rfl e3 (t_J4_append_cf468 e6) rfl hd_J4_append_cf468 rfl kw_891 kw_892 kw_82 kw_893 kw_894 (mRoom.of E (Nat.le_of_ble_eq_true rfl) (Nat.le_of_ble_eq_true rfl) hk.1 hk.2) (Nat.le_of_ble_eq_true rfl) dX4_spellOn_22 ?_
        refine ev_pop C dX4_spellOn_25 rfl ?_
        exact t_X4_spellOn_J26 C E (m_X4_spellOn_L7 N mc ms  n) ih a0 a1 i2 x5.2 (kc + (bC M a1 1)) (ks + (bS M a1 1)) hk hf
def m_X4_spellOn (N : Nat) (mc ms : Nat) (a0 : Nat) (a1 : Nat) (M : mM) : Option (mM) :=
  (oO M a1 0).bind fun _ =>
  (oif (0 + 0 ≤ mc ∧ 0 + 0 ≤ ms)).bind fun _ =>
  (m_J4_setLength_d00df N 0 0 a1 0 M).bind fun x3 =>
  m_X4_spellOn_L7 N mc ms  N a0 a1 0 x3 (0 + 0) (0 + 0)
set_option maxHeartbeats 4000000 in
set_option maxRecDepth 100000 in
theorem t_X4_spellOn {L0 : Launch} {M : mM} {N : Nat} {mc ms : Nat} {a0 : Nat} {a1 : Nat} {res : mM} (hf : m_X4_spellOn N mc ms a0 a1 M = some res) : CT L0 yX4_spellOn prog_6_method_10_code 3 none 7 177 mc ms [.ref a0, .ref a1] M none res := by
  refine CT.of (by decide +kernel) (Nat.le_of_ble_eq_true rfl) fun X C E => ?_
  have C : CX X RX4 "spellOn" prog_6_method_10_code 3 none := C
  show EV X 3 0 [(0, .ref a0), (1, .ref a1)] [] 0 0 M
  unfold m_X4_spellOn at hf
  have hk : 0 ≤ mc ∧ 0 ≤ ms := ⟨Nat.zero_le _, Nat.zero_le _⟩
  refine ev_aload_n C dX4_spellOn_0 rfl (q := 1) rfl ?_
  refine ev_iconst (v := 0) C dX4_spellOn_1 (by decide) ?_
  obtain ⟨_, e1, hf⟩ := obnd hf
  obtain ⟨fs2, e1⟩ := oO_eq e1
  obtain ⟨_, hk, hf⟩ := obnd hf
  have hk := oif_eq hk
  obtain ⟨x3, e4, hf⟩ := obnd hf
  refine ev_callV (As := [.int 0]) (st := []) C rfl e1 (t_J4_setLength_d00df e4) rfl hd_J4_setLength_d00df rfl kw_835 kw_836 kw_82 kw_837 kw_838 (mRoom.of E (Nat.le_of_ble_eq_true rfl) (Nat.le_of_ble_eq_true rfl) hk.1 hk.2) (Nat.le_of_ble_eq_true rfl) dX4_spellOn_2 ?_
  refine ev_iconst (v := 0) C dX4_spellOn_5 (by decide) ?_
  refine ev_istore_n (l' := [(2, .int 0), (0, .ref a0), (1, .ref a1)]) C dX4_spellOn_6 rfl (by decide) rfl ?_
  refine ev_sub [1, 2, 0] rfl ?_
  exact t_X4_spellOn_L7 C E   N a0 a1 0 x3 (0 + 0) (0 + 0) hk hf
/-! FareLimits spell()I -/
theorem dX11_spell_0 : decode prog_1_method_32_code 0 = .ok (.aload_n 0, 1) := by decide +kernel
theorem dX11_spell_1 : decode prog_1_method_32_code 1 = .ok (.getfield 12, 3) := by decide +kernel
theorem dX11_spell_4 : decode prog_1_method_32_code 4 = .ok (.getfield 202, 3) := by decide +kernel
theorem dX11_spell_7 : decode prog_1_method_32_code 7 = .ok (.aload_n 0, 1) := by decide +kernel
theorem dX11_spell_8 : decode prog_1_method_32_code 8 = .ok (.getfield 61, 3) := by decide +kernel
theorem dX11_spell_11 : decode prog_1_method_32_code 11 = .ok (.invokevirtual 282, 3) := by decide +kernel
theorem dX11_spell_14 : decode prog_1_method_32_code 14 = .ok (.aload_n 0, 1) := by decide +kernel
theorem dX11_spell_15 : decode prog_1_method_32_code 15 = .ok (.getfield 61, 3) := by decide +kernel
theorem dX11_spell_18 : decode prog_1_method_32_code 18 = .ok (.invokevirtual 286, 3) := by decide +kernel
theorem dX11_spell_21 : decode prog_1_method_32_code 21 = .ok (.ireturn, 1) := by decide +kernel
def m_X11_spell (N : Nat) (mc ms : Nat) (a0 : Nat) (M : mM) : Option (Int32 × mM) :=
  (fR M a0 11 0).bind fun x1 =>
  (fR M x1 5 3).bind fun x3 =>
  (fR M a0 11 8).bind fun x5 =>
  (oO M x3 4).bind fun _ =>
  (oif (0 + mc ≤ mc ∧ 0 + ms ≤ ms)).bind fun _ =>
  (m_X4_spellOn N mc ms x3 x5 M).bind fun x9 =>
  (fR x9 a0 11 8).bind fun x11 =>
  (oO x9 x11 0).bind fun _ =>
  (m_J4_length_8abf5 x11 x9).bind fun x15 =>
  some (x15, x9)
set_option maxHeartbeats 4000000 in
set_option maxRecDepth 100000 in
theorem t_X11_spell {L0 : Launch} {M : mM} {N : Nat} {mc ms : Nat} {a0 : Nat} {res : Int32 × mM} (hf : m_X11_spell N mc ms a0 M = some res) : CT L0 yX11_spell prog_1_method_32_code 1 (some .int) 8 199 mc ms [.ref a0] M (some (.int res.1)) res.2 := by
  refine CT.of (by decide +kernel) (Nat.le_of_ble_eq_true rfl) fun X C E => ?_
  have C : CX X RX11 "spell" prog_1_method_32_code 1 (some .int) := C
  show EV X 1 0 [(0, .ref a0)] [] 0 0 M
  unfold m_X11_spell at hf
  have hk : 0 ≤ mc ∧ 0 ≤ ms := ⟨Nat.zero_le _, Nat.zero_le _⟩
  refine ev_aload_n C dX11_spell_0 rfl (q := 0) rfl ?_
  obtain ⟨x1, e2, hf⟩ := obnd hf
  refine ev_get (k := 0) C ok_11 dX11_spell_1 (by decide) kw_392 (fR_V e2) ?_
  obtain ⟨x3, e4, hf⟩ := obnd hf
  refine ev_get (k := 3) C ok_5 dX11_spell_4 (by decide) kw_193 (fR_V e4) ?_
  refine ev_aload_n C dX11_spell_7 rfl (q := 0) rfl ?_
  obtain ⟨x5, e6, hf⟩ := obnd hf
  refine ev_get (k := 8) C ok_11 dX11_spell_8 (by decide) kw_400 (fR_V e6) ?_
  obtain ⟨_, e7, hf⟩ := obnd hf
  obtain ⟨fs8, e7⟩ := oO_eq e7
  obtain ⟨_, hk, hf⟩ := obnd hf
  have hk := oif_eq hk
  obtain ⟨x9, e10, hf⟩ := obnd hf
  refine ev_callV (As := [.ref x5]) (st := []) C rfl e7 (t_X4_spellOn e10) rfl hd_X4_spellOn rfl kw_831 kw_832 kw_72 kw_833 kw_834 (mRoom.of E (Nat.le_of_ble_eq_true rfl) (Nat.le_of_ble_eq_true rfl) hk.1 hk.2) (Nat.le_of_ble_eq_true rfl) dX11_spell_11 ?_
  refine ev_aload_n C dX11_spell_14 rfl (q := 0) rfl ?_
  obtain ⟨x11, e12, hf⟩ := obnd hf
  refine ev_get (k := 8) C ok_11 dX11_spell_15 (by decide) kw_400 (fR_V e12) ?_
  obtain ⟨_, e13, hf⟩ := obnd hf
  obtain ⟨fs14, e13⟩ := oO_eq e13
  obtain ⟨x15, e16, hf⟩ := obnd hf
  refine ev_callV0 (As := []) (st := []) C rfl e13 (t_J4_length_8abf5 e16) rfl hd_J4_length_8abf5 rfl kw_986 kw_987 kw_82 kw_988 kw_989 (mRoom.of E (Nat.le_of_ble_eq_true rfl) (Nat.le_of_ble_eq_true rfl) hk.1 hk.2) (Nat.le_of_ble_eq_true rfl) dX11_spell_18 ?_
  obtain rfl := Option.some.inj hf
  exact ev_iret C E hk.1 hk.2 dX11_spell_21

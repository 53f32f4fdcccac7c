def f_X10_witness (S0 : SR) (a1 : Int32) (a2 : Int32) : Option (Int32) :=
  bo (f_X10_isWitness S0 a1) (fun (r1 : Int32) => if r1 = 0 then (some (-101)) else (bo (f_X10_within a2 0 7) (fun (r3 : Int32) => if r3 = 0 then (some (-102)) else (bo (f_X10_witnessNow S0 a1 a2) (fun (r5 : Int32) => some r5)))))
abbrev rmX10_witness : Room := { frames := 5, cells := 0, slots := 0, locals := 116 }
theorem hdV_X10_witness : yX10_witness.cls = "WitnessWallModel" ∧ yX10_witness.cls ≠ "java/lang/invoke/MethodHandle" ∧ yX10_witness.cls ≠ "java/lang/invoke/VarHandle" ∧ (parseMethodDescriptor yX10_witness.desc).map (fun d => d.parameters.length) = some 2 := by decide +kernel
set_option maxHeartbeats 4000000 in
set_option maxRecDepth 100000 in
theorem k_X10_witness {l : Launch} {D : va_G} {ad : Nat → Nat} {cI cB : ClassId} (hij : inj 31 ad)  {S0 : SR} {a1 : Int32} {a2 : Int32} {r : Int32} (hE : f_X10_witness S0 a1 a2 = some r) {sz : Nat} : Met l yX10_witness (wz yX10_witness cX10_witness 3 (some FieldType.int)) rmX10_witness (PG 31 ad (er ad cI cB) D (KR D cI cB) ZR [.ref (ad 0), .int a1, .int a2] S0 sz) (QGi 31 ad (er ad cI cB) D r S0 sz) 0 0 (AD 31 ad sz) := by
  unfold f_X10_witness at hE
  refine g_start (cc := cX10_witness) (maxL := 3) (ret := (some FieldType.int)) (Qc := fun sz => QGi 31 ad (er ad cI cB) D r S0 sz) (by decide) rfl (Nat.le_of_ble_eq_true rfl) ?_
  intro p e s m args below meth c H locs ls hx hb hr hts hown hlocks hml hK hZ hP hS hl
  replace hl : lv_has ls 3 [(0, .ref (ad 0)), (1, .int a1), (2, .int a2)] := hl
  obtain ⟨QQ, hQQ⟩ : ∃ q, q = MQ below (QGi 31 ad (er ad cI cB) D r S0 s.heap.size) args s 0 0 (AD 31 ad s.heap.size) := ⟨_, rfl⟩
  rw [← hQQ]
  refine lv_aload_n hx hb dX10_witness_0 rfl (lv_at hl 0 rfl) ?_
  refine lv_iload_n hx hb dX10_witness_1 rfl (lv_at hl 1 rfl) ?_
  obtain ⟨r1, hCr1, hE⟩ := st_bo hE
  refine g_calli (va_runV (As := [.int a1]) (rest := []) ⟨hx, hb, hml, hown, hts⟩ (k_X10_isWitness hij hCr1) (cwV 1 hts (wz_V tw_4_124 tw_4_126 tp_11 tw_1_11 tw_4_127) rfl rfl rfl hdV_X10_isWitness ⟨Nat.le_of_ble_eq_true rfl, Nat.le_of_ble_eq_true rfl⟩) (g_preV KR_st ZR_st hK hZ hP hS hK.1 (q_Ref).1 (er_o q_Ref) rfl) rfl rfl hl.1 rfl (lv_room (Nat.le_of_ble_eq_true rfl)) dX10_witness_2 ⟨Nat.zero_le _, Nat.zero_le _⟩) hS (fun H locs hP hS => ?_)
  refine lv_if_ne (tgt := 13) hx hb dX10_witness_5 (by decide) (fun hc2 => ?_) (fun hc2 => ?_)
  · have hE := st_f hE hc2
    refine lv_iload_n hx hb dX10_witness_13 rfl (lv_at hl 2 rfl) ?_
    refine lv_iconst (v := 0) hx hb dX10_witness_14 (by decide) ?_
    refine lv_bipush (v := 7) hx hb dX10_witness_15 (by decide) ?_
    obtain ⟨r3, hCr3, hE⟩ := st_bo hE
    refine g_calli (va_runS (As := [.int a2, .int 0, .int 7]) (rest := []) ⟨hx, hb, hml, hown, hts⟩ (k_X10_within hij (S0 := S0) hCr3) (va_cwS 3 hts (wz_S tw_4_66 tw_4_67 tw_1_11 tw_4_68) rfl rfl rfl hdS_X10_within ⟨Nat.le_of_ble_eq_true rfl, Nat.le_of_ble_eq_true rfl⟩) (g_preS KR_st ZR_st hK hZ hP hS) rfl rfl hl.1 rfl (lv_room (Nat.le_of_ble_eq_true rfl)) dX10_witness_17 ⟨Nat.zero_le _, Nat.zero_le _⟩) hS (fun H locs hP hS => ?_)
    refine lv_if_eq (tgt := 32) hx hb dX10_witness_20 (by decide) (fun hc4 => ?_) (fun hc4 => ?_)
    · have hE := st_t hE hc4
      refine lv_bipush (v := (-102)) hx hb dX10_witness_32 (by decide) ?_
      replace hE := Option.some.inj hE
      subst hQQ
      exact g_iret hx hb hr hlocks hP hS hE rfl dX10_witness_34
    · have hE := st_f hE hc4
      refine lv_aload_n hx hb dX10_witness_23 rfl (lv_at hl 0 rfl) ?_
      refine lv_iload_n hx hb dX10_witness_24 rfl (lv_at hl 1 rfl) ?_
      refine lv_iload_n hx hb dX10_witness_25 rfl (lv_at hl 2 rfl) ?_
      obtain ⟨r5, hCr5, hE⟩ := st_bo hE
      refine g_calli (va_runV (As := [.int a1, .int a2]) (rest := []) ⟨hx, hb, hml, hown, hts⟩ (k_X10_witnessNow hij hCr5) (cwV 2 hts (wz_V tw_4_128 tw_4_130 tp_12 tw_1_11 tw_4_131) rfl rfl rfl hdV_X10_witnessNow ⟨Nat.le_of_ble_eq_true rfl, Nat.le_of_ble_eq_true rfl⟩) (g_preV KR_st ZR_st hK hZ hP hS hK.1 (q_Ref).1 (er_o q_Ref) rfl) rfl rfl hl.1 rfl (lv_room (Nat.le_of_ble_eq_true rfl)) dX10_witness_26 ⟨Nat.zero_le _, Nat.zero_le _⟩) hS (fun H locs hP hS => ?_)
      refine lv_goto (tgt := 34) hx hb dX10_witness_29 (by decide) ?_
      replace hE := Option.some.inj hE
      subst hQQ
      exact g_iret hx hb hr hlocks hP hS hE rfl dX10_witness_34
  · have hE := st_t hE hc2
    refine lv_bipush (v := (-101)) hx hb dX10_witness_8 (by decide) ?_
    refine lv_goto (tgt := 34) hx hb dX10_witness_10 (by decide) ?_
    replace hE := Option.some.inj hE
    subst hQQ
    exact g_iret hx hb hr hlocks hP hS hE rfl dX10_witness_34
def f_X10_worlds (S0 : SR) (a1 : Int32) : Option (Int32) :=
  bo (f_X10_within a1 0 5) (fun (r1 : Int32) => if r1 = 0 then (some (-102)) else (if (ri S0 0 0) = 0 then (some (-103)) else (bo (f_X10_worldsNow S0 a1) (fun (r4 : Int32) => some r4))))
abbrev rmX10_worlds : Room := { frames := 3, cells := 0, slots := 0, locals := 71 }
theorem hdV_X10_worlds : yX10_worlds.cls = "WitnessWallModel" ∧ yX10_worlds.cls ≠ "java/lang/invoke/MethodHandle" ∧ yX10_worlds.cls ≠ "java/lang/invoke/VarHandle" ∧ (parseMethodDescriptor yX10_worlds.desc).map (fun d => d.parameters.length) = some 1 := by decide +kernel
set_option maxHeartbeats 4000000 in
set_option maxRecDepth 100000 in
theorem k_X10_worlds {l : Launch} {D : va_G} {ad : Nat → Nat} {cI cB : ClassId} (hij : inj 31 ad)  {S0 : SR} {a1 : Int32} {r : Int32} (hE : f_X10_worlds S0 a1 = some r) {sz : Nat} : Met l yX10_worlds (wz yX10_worlds cX10_worlds 2 (some FieldType.int)) rmX10_worlds (PG 31 ad (er ad cI cB) D (KR D cI cB) ZR [.ref (ad 0), .int a1] S0 sz) (QGi 31 ad (er ad cI cB) D r S0 sz) 0 0 (AD 31 ad sz) := by
  unfold f_X10_worlds at hE
  refine g_start (cc := cX10_worlds) (maxL := 2) (ret := (some FieldType.int)) (Qc := fun sz => QGi 31 ad (er ad cI cB) D r S0 sz) (by decide) rfl (Nat.le_of_ble_eq_true rfl) ?_
  intro p e s m args below meth c H locs ls hx hb hr hts hown hlocks hml hK hZ hP hS hl
  replace hl : lv_has ls 2 [(0, .ref (ad 0)), (1, .int a1)] := hl
  obtain ⟨QQ, hQQ⟩ : ∃ q, q = MQ below (QGi 31 ad (er ad cI cB) D r S0 s.heap.size) args s 0 0 (AD 31 ad s.heap.size) := ⟨_, rfl⟩
  rw [← hQQ]
  refine lv_iload_n hx hb dX10_worlds_0 rfl (lv_at hl 1 rfl) ?_
  refine lv_iconst (v := 0) hx hb dX10_worlds_1 (by decide) ?_
  refine lv_iconst (v := 5) hx hb dX10_worlds_2 (by decide) ?_
  obtain ⟨r1, hCr1, hE⟩ := st_bo hE
  refine g_calli (va_runS (As := [.int a1, .int 0, .int 5]) (rest := []) ⟨hx, hb, hml, hown, hts⟩ (k_X10_within hij (S0 := S0) hCr1) (va_cwS 3 hts (wz_S tw_4_66 tw_4_67 tw_1_11 tw_4_68) rfl rfl rfl hdS_X10_within ⟨Nat.le_of_ble_eq_true rfl, Nat.le_of_ble_eq_true rfl⟩) (g_preS KR_st ZR_st hK hZ hP hS) rfl rfl hl.1 rfl (lv_room (Nat.le_of_ble_eq_true rfl)) dX10_worlds_3 ⟨Nat.zero_le _, Nat.zero_le _⟩) hS (fun H locs hP hS => ?_)
  refine lv_if_ne (tgt := 12) hx hb dX10_worlds_6 (by decide) (fun hc2 => ?_) (fun hc2 => ?_)
  · have hE := st_f hE hc2
    refine lv_aload_n hx hb dX10_worlds_12 rfl (lv_at hl 0 rfl) ?_
    refine r_get (v := .int (ri S0 0 0)) hx hb hts (fun w h => wz_m (inX10 w h)) hown hK hP q_Ref rfl 0 (by decide) (hts _ (wz_m tw_3_156)) (fun _ h9 => h9) rfl dX10_worlds_13 ?_
    refine lv_if_ne (tgt := 24) hx hb dX10_worlds_16 (by decide) (fun hc3 => ?_) (fun hc3 => ?_)
    · have hE := st_f hE hc3
      refine lv_aload_n hx hb dX10_worlds_24 rfl (lv_at hl 0 rfl) ?_
      refine lv_iload_n hx hb dX10_worlds_25 rfl (lv_at hl 1 rfl) ?_
      obtain ⟨r4, hCr4, hE⟩ := st_bo hE
      refine g_calli (va_runV (As := [.int a1]) (rest := []) ⟨hx, hb, hml, hown, hts⟩ (k_X10_worldsNow hij hCr4) (cwV 1 hts (wz_V tw_5_39 tw_5_41 tp_33 tw_1_11 tw_5_42) rfl rfl rfl hdV_X10_worldsNow ⟨Nat.le_of_ble_eq_true rfl, Nat.le_of_ble_eq_true rfl⟩) (g_preV KR_st ZR_st hK hZ hP hS hK.1 (q_Ref).1 (er_o q_Ref) rfl) rfl rfl hl.1 rfl (lv_room (Nat.le_of_ble_eq_true rfl)) dX10_worlds_26 ⟨Nat.zero_le _, Nat.zero_le _⟩) hS (fun H locs hP hS => ?_)
      replace hE := Option.some.inj hE
      subst hQQ
      exact g_iret hx hb hr hlocks hP hS hE rfl dX10_worlds_29
    · have hE := st_t hE hc3
      refine lv_bipush (v := (-103)) hx hb dX10_worlds_19 (by decide) ?_
      refine lv_goto (tgt := 29) hx hb dX10_worlds_21 (by decide) ?_
      replace hE := Option.some.inj hE
      subst hQQ
      exact g_iret hx hb hr hlocks hP hS hE rfl dX10_worlds_29
  · have hE := st_t hE hc2
    refine lv_bipush (v := (-102)) hx hb dX10_worlds_9 (by decide) ?_
    replace hE := Option.some.inj hE
    subst hQQ
    exact g_iret hx hb hr hlocks hP hS hE rfl dX10_worlds_11

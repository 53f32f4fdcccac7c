def f_X10_within (a1 : Int32) (a2 : Int32) (a3 : Int32) : Option (Int32) :=
  if a1 < a2 then (some 0) else (if a3 < a1 then (some 0) else (some 1))
abbrev rmX10_within : Room := { frames := 0, cells := 0, slots := 0, locals := 0 }
theorem hdS_X10_within : yX10_within.cls ≠ "java/lang/invoke/MethodHandle" ∧ yX10_within.cls ≠ "java/lang/invoke/VarHandle" ∧ (parseMethodDescriptor yX10_within.desc).map (fun d => d.parameters.length) = some 3 := by decide +kernel
set_option maxHeartbeats 4000000 in
set_option maxRecDepth 100000 in
theorem k_X10_within {l : Launch} {D : va_G} {ad : Nat → Nat} {cI cB : ClassId} (hij : inj 31 ad)  {S0 : SR} {a1 : Int32} {a2 : Int32} {a3 : Int32} {r : Int32} (hE : f_X10_within a1 a2 a3 = some r) {sz : Nat} : Met l yX10_within (wz yX10_within cX10_within 3 (some FieldType.boolean)) rmX10_within (PG 31 ad (er ad cI cB) D (KR D cI cB) ZR [.int a1, .int a2, .int a3] S0 sz) (QGi 31 ad (er ad cI cB) D r S0 sz) 0 0 (AD 31 ad sz) := by
  unfold f_X10_within at hE
  refine g_start (cc := cX10_within) (maxL := 3) (ret := (some FieldType.boolean)) (Qc := fun sz => QGi 31 ad (er ad cI cB) D r S0 sz) (by decide) rfl (Nat.le_of_ble_eq_true rfl) ?_
  intro p e s m args below meth c H locs ls hx hb hr hts hown hlocks hml hK hZ hP hS hl
  replace hl : lv_has ls 3 [(0, .int a1), (1, .int a2), (2, .int a3)] := hl
  obtain ⟨QQ, hQQ⟩ : ∃ q, q = MQ below (QGi 31 ad (er ad cI cB) D r S0 s.heap.size) args s 0 0 (AD 31 ad s.heap.size) := ⟨_, rfl⟩
  rw [← hQQ]
  refine lv_iload_n hx hb dX10_within_0 rfl (lv_at hl 0 rfl) ?_
  refine lv_iload_n hx hb dX10_within_1 rfl (lv_at hl 1 rfl) ?_
  refine lv_icmp_lt (tgt := 14) hx hb dX10_within_2 (by decide) (fun hc1 => ?_) (fun hc1 => ?_)
  · have hE := st_t hE hc1
    refine lv_iconst (v := 0) hx hb dX10_within_14 (by decide) ?_
    replace hE := Option.some.inj hE
    subst hQQ
    exact g_zret hx hb hr hlocks hP hS ((by decide : (0 : Int32) &&& 1 = 0).trans hE) rfl dX10_within_15
  · have hE := st_f hE hc1
    refine lv_iload_n hx hb dX10_within_5 rfl (lv_at hl 0 rfl) ?_
    refine lv_iload_n hx hb dX10_within_6 rfl (lv_at hl 2 rfl) ?_
    refine lv_icmp_gt (tgt := 14) hx hb dX10_within_7 (by decide) (fun hc2 => ?_) (fun hc2 => ?_)
    · have hE := st_t hE hc2
      refine lv_iconst (v := 0) hx hb dX10_within_14 (by decide) ?_
      replace hE := Option.some.inj hE
      subst hQQ
      exact g_zret hx hb hr hlocks hP hS ((by decide : (0 : Int32) &&& 1 = 0).trans hE) rfl dX10_within_15
    · have hE := st_f hE hc2
      refine lv_iconst (v := 1) hx hb dX10_within_10 (by decide) ?_
      refine lv_goto (tgt := 15) hx hb dX10_within_11 (by decide) ?_
      replace hE := Option.some.inj hE
      subst hQQ
      exact g_zret hx hb hr hlocks hP hS ((by decide : (1 : Int32) &&& 1 = 1).trans hE) rfl dX10_within_15
def f_X10_isWitness (S0 : SR) (a1 : Int32) : Option (Int32) :=
  bo (f_X10_within a1 0 ((ri S0 0 1) - 1)) (fun (r1 : Int32) => some (r1 &&& 1))
abbrev rmX10_isWitness : Room := { frames := 1, cells := 0, slots := 0, locals := 22 }
theorem hdV_X10_isWitness : yX10_isWitness.cls = "WitnessWallModel" ∧ yX10_isWitness.cls ≠ "java/lang/invoke/MethodHandle" ∧ yX10_isWitness.cls ≠ "java/lang/invoke/VarHandle" ∧ (parseMethodDescriptor yX10_isWitness.desc).map (fun d => d.parameters.length) = some 1 := by decide +kernel
set_option maxHeartbeats 4000000 in
set_option maxRecDepth 100000 in
theorem k_X10_isWitness {l : Launch} {D : va_G} {ad : Nat → Nat} {cI cB : ClassId} (hij : inj 31 ad)  {S0 : SR} {a1 : Int32} {r : Int32} (hE : f_X10_isWitness S0 a1 = some r) {sz : Nat} : Met l yX10_isWitness (wz yX10_isWitness cX10_isWitness 2 (some FieldType.boolean)) rmX10_isWitness (PG 31 ad (er ad cI cB) D (KR D cI cB) ZR [.ref (ad 0), .int a1] S0 sz) (QGi 31 ad (er ad cI cB) D r S0 sz) 0 0 (AD 31 ad sz) := by
  unfold f_X10_isWitness at hE
  refine g_start (cc := cX10_isWitness) (maxL := 2) (ret := (some FieldType.boolean)) (Qc := fun sz => QGi 31 ad (er ad cI cB) D r S0 sz) (by decide) rfl (Nat.le_of_ble_eq_true rfl) ?_
  intro p e s m args below meth c H locs ls hx hb hr hts hown hlocks hml hK hZ hP hS hl
  replace hl : lv_has ls 2 [(0, .ref (ad 0)), (1, .int a1)] := hl
  obtain ⟨QQ, hQQ⟩ : ∃ q, q = MQ below (QGi 31 ad (er ad cI cB) D r S0 s.heap.size) args s 0 0 (AD 31 ad s.heap.size) := ⟨_, rfl⟩
  rw [← hQQ]
  refine lv_iload_n hx hb dX10_isWitness_0 rfl (lv_at hl 1 rfl) ?_
  refine lv_iconst (v := 0) hx hb dX10_isWitness_1 (by decide) ?_
  refine lv_aload_n hx hb dX10_isWitness_2 rfl (lv_at hl 0 rfl) ?_
  refine r_get (v := .int (ri S0 0 1)) hx hb hts (fun w h => wz_m (inX10 w h)) hown hK hP (q_Ref (ad := ad) (cI := cI) (cB := cB)) rfl 1 (by decide) (hts _ (wz_m tw_3_157)) (fun _ h9 => h9) rfl dX10_isWitness_3 ?_
  refine lv_iconst (v := 1) hx hb dX10_isWitness_6 (by decide) ?_
  refine lv_isub hx hb dX10_isWitness_7 ?_
  obtain ⟨r1, hCr1, hE⟩ := st_bo hE
  refine g_calli (va_runS (As := [.int a1, .int 0, .int ((ri S0 0 1) - 1)]) (rest := []) ⟨hx, hb, hml, hown, hts⟩ (k_X10_within hij (S0 := S0) hCr1) (va_cwS 3 hts (wz_S tw_4_66 tw_4_67 tw_1_11 tw_4_68) rfl rfl rfl hdS_X10_within ⟨Nat.le_of_ble_eq_true rfl, Nat.le_of_ble_eq_true rfl⟩) (g_preS KR_st ZR_st hK hZ hP hS) rfl rfl hl.1 rfl (lv_room (Nat.le_of_ble_eq_true rfl)) dX10_isWitness_8 ⟨Nat.zero_le _, Nat.zero_le _⟩) hS (fun H locs hP hS => ?_)
  replace hE := Option.some.inj hE
  subst hQQ
  exact g_zret hx hb hr hlocks hP hS hE rfl dX10_isWitness_11
def f_X10_as (S0 : SR) (a1 : Int32) (a2 : Int32) : Option (Int32) :=
  bo (f_X10_isWitness S0 a1) (fun (r1 : Int32) => if r1 = 0 then (some (-101)) else (bo (f_X10_within a2 0 4) (fun (r3 : Int32) => if r3 = 0 then (some (-102)) else (gd (inb a1 5) (bv (ri S0 1 (a1.toNatClampNeg)) (fun (v6 : Int32) => if a2 = 0 then (some a1) else (if v6 = a2 then (some a1) else (if a2 = 3 then (if v6 = 4 then (some a1) else (some (-1))) else (some (-1))))))))))
abbrev rmX10_as : Room := { frames := 2, cells := 0, slots := 0, locals := 43 }
theorem hdV_X10_as : yX10_as.cls = "WitnessWallModel" ∧ yX10_as.cls ≠ "java/lang/invoke/MethodHandle" ∧ yX10_as.cls ≠ "java/lang/invoke/VarHandle" ∧ (parseMethodDescriptor yX10_as.desc).map (fun d => d.parameters.length) = some 2 := by decide +kernel
set_option maxHeartbeats 4000000 in
set_option maxRecDepth 100000 in
theorem k_X10_as {l : Launch} {D : va_G} {ad : Nat → Nat} {cI cB : ClassId} (hij : inj 31 ad)  {S0 : SR} {a1 : Int32} {a2 : Int32} {r : Int32} (hE : f_X10_as S0 a1 a2 = some r) {sz : Nat} : Met l yX10_as (wz yX10_as cX10_as 4 (some FieldType.int)) rmX10_as (PG 31 ad (er ad cI cB) D (KR D cI cB) ZR [.ref (ad 0), .int a1, .int a2] S0 sz) (QGi 31 ad (er ad cI cB) D r S0 sz) 0 0 (AD 31 ad sz) := by
  unfold f_X10_as at hE
  refine g_start (cc := cX10_as) (maxL := 4) (ret := (some FieldType.int)) (Qc := fun sz => QGi 31 ad (er ad cI cB) D r S0 sz) (by decide) rfl (Nat.le_of_ble_eq_true rfl) ?_
  intro p e s m args below meth c H locs ls hx hb hr hts hown hlocks hml hK hZ hP hS hl
  replace hl : lv_has ls 4 [(0, .ref (ad 0)), (1, .int a1), (2, .int a2)] := hl
  obtain ⟨QQ, hQQ⟩ : ∃ q, q = MQ below (QGi 31 ad (er ad cI cB) D r S0 s.heap.size) args s 0 0 (AD 31 ad s.heap.size) := ⟨_, rfl⟩
  rw [← hQQ]
  refine lv_aload_n hx hb dX10_as_0 rfl (lv_at hl 0 rfl) ?_
  refine lv_iload_n hx hb dX10_as_1 rfl (lv_at hl 1 rfl) ?_
  obtain ⟨r1, hCr1, hE⟩ := st_bo hE
  refine g_calli (va_runV (As := [.int a1]) (rest := []) ⟨hx, hb, hml, hown, hts⟩ (k_X10_isWitness hij hCr1) (cwV 1 hts (wz_V tw_4_124 tw_4_126 tp_11 tw_1_11 tw_4_127) rfl rfl rfl hdV_X10_isWitness ⟨Nat.le_of_ble_eq_true rfl, Nat.le_of_ble_eq_true rfl⟩) (g_preV KR_st ZR_st hK hZ hP hS hK.1 ((q_Ref (ad := ad) (cI := cI) (cB := cB))).1 (er_o (q_Ref (ad := ad) (cI := cI) (cB := cB))) rfl) rfl rfl hl.1 rfl (lv_room (Nat.le_of_ble_eq_true rfl)) dX10_as_2 ⟨Nat.zero_le _, Nat.zero_le _⟩) hS (fun H locs hP hS => ?_)
  refine lv_if_ne (tgt := 11) hx hb dX10_as_5 (by decide) (fun hc2 => ?_) (fun hc2 => ?_)
  · have hE := st_f hE hc2
    refine lv_iload_n hx hb dX10_as_11 rfl (lv_at hl 2 rfl) ?_
    refine lv_iconst (v := 0) hx hb dX10_as_12 (by decide) ?_
    refine lv_iconst (v := 4) hx hb dX10_as_13 (by decide) ?_
    obtain ⟨r3, hCr3, hE⟩ := st_bo hE
    refine g_calli (va_runS (As := [.int a2, .int 0, .int 4]) (rest := []) ⟨hx, hb, hml, hown, hts⟩ (k_X10_within hij (S0 := S0) hCr3) (va_cwS 3 hts (wz_S tw_4_66 tw_4_67 tw_1_11 tw_4_68) rfl rfl rfl hdS_X10_within ⟨Nat.le_of_ble_eq_true rfl, Nat.le_of_ble_eq_true rfl⟩) (g_preS KR_st ZR_st hK hZ hP hS) rfl rfl hl.1 rfl (lv_room (Nat.le_of_ble_eq_true rfl)) dX10_as_14 ⟨Nat.zero_le _, Nat.zero_le _⟩) hS (fun H locs hP hS => ?_)
    refine lv_if_ne (tgt := 23) hx hb dX10_as_17 (by decide) (fun hc4 => ?_) (fun hc4 => ?_)
    · have hE := st_f hE hc4
      refine lv_aload_n hx hb dX10_as_23 rfl (lv_at hl 0 rfl) ?_
      refine r_get (v := .ref (ad 1)) hx hb hts (fun w h => wz_m (inX10 w h)) hown hK hP (q_Ref (ad := ad) (cI := cI) (cB := cB)) rfl 2 (by decide) (hts _ (wz_m tw_3_158)) (fun _ h9 => h9) rfl dX10_as_24 ?_
      refine lv_iload_n hx hb dX10_as_27 rfl (lv_at hl 1 rfl) ?_
      obtain ⟨hi5, hE⟩ := st_gd hE
      refine r_iald hx hb hK hP qr_1 hi5 dX10_as_28 ?_
      obtain ⟨v6, ev6, hE⟩ := st_bv hE
      refine nm_i ev6 ?_
      refine lv_istore_n (lv' := [(3, .int v6), (0, .ref (ad 0)), (1, .int a1), (2, .int a2)]) hx hb dX10_as_29 rfl hl (by decide) rfl (fun ls hl => ?_)
      refine lv_iload_n hx hb dX10_as_30 rfl (lv_at hl 3 rfl) ?_
      refine lv_if_eq (tgt := 49) hx hb dX10_as_31 (by decide) (fun hc7 => ?_) (fun hc7 => ?_)
      · have hE := st_t hE hc7
        refine lv_iload_n hx hb dX10_as_49 rfl (lv_at hl 2 rfl) ?_
        refine lv_goto (tgt := 54) hx hb dX10_as_50 (by decide) ?_
        replace hE := Option.some.inj hE
        subst hQQ
        exact g_iret hx hb hr hlocks hP hS hE rfl dX10_as_54
      · have hE := st_f hE hc7
        refine lv_iload_n hx hb dX10_as_34 rfl (lv_at hl 0 rfl) ?_
        refine lv_iload_n hx hb dX10_as_35 rfl (lv_at hl 3 rfl) ?_
        refine lv_icmp_eq (tgt := 49) hx hb dX10_as_36 (by decide) (fun hc8 => ?_) (fun hc8 => ?_)
        · have hE := st_t hE hc8
          refine lv_iload_n hx hb dX10_as_49 rfl (lv_at hl 2 rfl) ?_
          refine lv_goto (tgt := 54) hx hb dX10_as_50 (by decide) ?_
          replace hE := Option.some.inj hE
          subst hQQ
          exact g_iret hx hb hr hlocks hP hS hE rfl dX10_as_54
        · have hE := st_f hE hc8
          refine lv_iload_n hx hb dX10_as_39 rfl (lv_at hl 3 rfl) ?_
          refine lv_iconst (v := 3) hx hb dX10_as_40 (by decide) ?_
          refine lv_icmp_ne (tgt := 53) hx hb dX10_as_41 (by decide) (fun hc9 => ?_) (fun hc9 => ?_)
          · have hE := st_f hE hc9
            refine lv_iconst (v := (-1)) hx hb dX10_as_53 (by decide) ?_
            replace hE := Option.some.inj hE
            subst hQQ
            exact g_iret hx hb hr hlocks hP hS hE rfl dX10_as_54
          · have hE := st_t hE hc9
            refine lv_iload_n hx hb dX10_as_44 rfl (lv_at hl 0 rfl) ?_
            refine lv_iconst (v := 4) hx hb dX10_as_45 (by decide) ?_
            refine lv_icmp_ne (tgt := 53) hx hb dX10_as_46 (by decide) (fun hc10 => ?_) (fun hc10 => ?_)
            · have hE := st_f hE hc10
              refine lv_iconst (v := (-1)) hx hb dX10_as_53 (by decide) ?_
              replace hE := Option.some.inj hE
              subst hQQ
              exact g_iret hx hb hr hlocks hP hS hE rfl dX10_as_54
            · have hE := st_t hE hc10
              refine lv_iload_n hx hb dX10_as_49 rfl (lv_at hl 2 rfl) ?_
              refine lv_goto (tgt := 54) hx hb dX10_as_50 (by decide) ?_
              replace hE := Option.some.inj hE
              subst hQQ
              exact g_iret hx hb hr hlocks hP hS hE rfl dX10_as_54
    · have hE := st_t hE hc4
      refine lv_bipush (v := (-102)) hx hb dX10_as_20 (by decide) ?_
      replace hE := Option.some.inj hE
      subst hQQ
      exact g_iret hx hb hr hlocks hP hS hE rfl dX10_as_22
  · have hE := st_t hE hc2
    refine lv_bipush (v := (-101)) hx hb dX10_as_8 (by decide) ?_
    replace hE := Option.some.inj hE
    subst hQQ
    exact g_iret hx hb hr hlocks hP hS hE rfl dX10_as_10
def f_X10_could (a1 : Int32) (a2 : Int32) : Option (Int32) :=
  if a2 = 0 then (if a1 = 0 then (some 1) else (if a1 = 3 then (some 1) else (if a1 = 4 then (some 1) else (some 0)))) else (if a2 = 1 then (if a1 = 0 then (some 1) else (if a1 = 1 then (some 1) else (if a1 = 3 then (some 1) else (some 0)))) else (if a2 = 2 then (if a1 = 2 then (some 0) else (some 1)) else (if a1 = 0 then (some 1) else (some 0))))
abbrev rmX10_could : Room := { frames := 0, cells := 0, slots := 0, locals := 0 }
theorem hdS_X10_could : yX10_could.cls ≠ "java/lang/invoke/MethodHandle" ∧ yX10_could.cls ≠ "java/lang/invoke/VarHandle" ∧ (parseMethodDescriptor yX10_could.desc).map (fun d => d.parameters.length) = some 2 := by decide +kernel
set_option maxHeartbeats 4000000 in
set_option maxRecDepth 100000 in
theorem k_X10_could {l : Launch} {D : va_G} {ad : Nat → Nat} {cI cB : ClassId} (hij : inj 31 ad)  {S0 : SR} {a1 : Int32} {a2 : Int32} {r : Int32} (hE : f_X10_could a1 a2 = some r) {sz : Nat} : Met l yX10_could (wz yX10_could cX10_could 2 (some FieldType.boolean)) rmX10_could (PG 31 ad (er ad cI cB) D (KR D cI cB) ZR [.int a1, .int a2] S0 sz) (QGi 31 ad (er ad cI cB) D r S0 sz) 0 0 (AD 31 ad sz) := by
  unfold f_X10_could at hE
  refine g_start (cc := cX10_could) (maxL := 2) (ret := (some FieldType.boolean)) (Qc := fun sz => QGi 31 ad (er ad cI cB) D r S0 sz) (by decide) rfl (Nat.le_of_ble_eq_true rfl) ?_
  intro p e s m args below meth c H locs ls hx hb hr hts hown hlocks hml hK hZ hP hS hl
  replace hl : lv_has ls 2 [(0, .int a1), (1, .int a2)] := hl
  obtain ⟨QQ, hQQ⟩ : ∃ q, q = MQ below (QGi 31 ad (er ad cI cB) D r S0 s.heap.size) args s 0 0 (AD 31 ad s.heap.size) := ⟨_, rfl⟩
  rw [← hQQ]
  refine lv_iload_n hx hb dX10_could_0 rfl (lv_at hl 1 rfl) ?_
  by_cases hc1 : a2 = 0
  · have hE := st_t hE hc1
    refine lv_tableIn (tgt := 28) hx hb dX10_could_1 (by rw [hc1]; decide) (by rw [hc1]; decide) (by rw [hc1]; rfl) (by decide) ?_
    refine lv_iload_n hx hb dX10_could_28 rfl (lv_at hl 0 rfl) ?_
    refine lv_if_eq (tgt := 42) hx hb dX10_could_29 (by decide) (fun hc2 => ?_) (fun hc2 => ?_)
    · have hE := st_t hE hc2
      refine lv_iconst (v := 1) hx hb dX10_could_42 (by decide) ?_
      refine lv_goto (tgt := 47) hx hb dX10_could_43 (by decide) ?_
      replace hE := Option.some.inj hE
      subst hQQ
      exact g_zret hx hb hr hlocks hP hS ((by decide : (1 : Int32) &&& 1 = 1).trans hE) rfl dX10_could_47
    · have hE := st_f hE hc2
      refine lv_iload_n hx hb dX10_could_32 rfl (lv_at hl 0 rfl) ?_
      refine lv_iconst (v := 3) hx hb dX10_could_33 (by decide) ?_
      refine lv_icmp_eq (tgt := 42) hx hb dX10_could_34 (by decide) (fun hc3 => ?_) (fun hc3 => ?_)
      · have hE := st_t hE hc3
        refine lv_iconst (v := 1) hx hb dX10_could_42 (by decide) ?_
        refine lv_goto (tgt := 47) hx hb dX10_could_43 (by decide) ?_
        replace hE := Option.some.inj hE
        subst hQQ
        exact g_zret hx hb hr hlocks hP hS ((by decide : (1 : Int32) &&& 1 = 1).trans hE) rfl dX10_could_47
      · have hE := st_f hE hc3
        refine lv_iload_n hx hb dX10_could_37 rfl (lv_at hl 0 rfl) ?_
        refine lv_iconst (v := 4) hx hb dX10_could_38 (by decide) ?_
        refine lv_icmp_ne (tgt := 46) hx hb dX10_could_39 (by decide) (fun hc4 => ?_) (fun hc4 => ?_)
        · have hE := st_f hE hc4
          refine lv_iconst (v := 0) hx hb dX10_could_46 (by decide) ?_
          replace hE := Option.some.inj hE
          subst hQQ
          exact g_zret hx hb hr hlocks hP hS ((by decide : (0 : Int32) &&& 1 = 0).trans hE) rfl dX10_could_47
        · have hE := st_t hE hc4
          refine lv_iconst (v := 1) hx hb dX10_could_42 (by decide) ?_
          refine lv_goto (tgt := 47) hx hb dX10_could_43 (by decide) ?_
          replace hE := Option.some.inj hE
          subst hQQ
          exact g_zret hx hb hr hlocks hP hS ((by decide : (1 : Int32) &&& 1 = 1).trans hE) rfl dX10_could_47
  replace hE := st_f hE hc1
  by_cases hc5 : a2 = 1
  · have hE := st_t hE hc5
    refine lv_tableIn (tgt := 48) hx hb dX10_could_1 (by rw [hc5]; decide) (by rw [hc5]; decide) (by rw [hc5]; rfl) (by decide) ?_
    refine lv_iload_n hx hb dX10_could_48 rfl (lv_at hl 0 rfl) ?_
    refine lv_if_eq (tgt := 62) hx hb dX10_could_49 (by decide) (fun hc6 => ?_) (fun hc6 => ?_)
    · have hE := st_t hE hc6
      refine lv_iconst (v := 1) hx hb dX10_could_62 (by decide) ?_
      refine lv_goto (tgt := 67) hx hb dX10_could_63 (by decide) ?_
      replace hE := Option.some.inj hE
      subst hQQ
      exact g_zret hx hb hr hlocks hP hS ((by decide : (1 : Int32) &&& 1 = 1).trans hE) rfl dX10_could_67
    · have hE := st_f hE hc6
      refine lv_iload_n hx hb dX10_could_52 rfl (lv_at hl 0 rfl) ?_
      refine lv_iconst (v := 1) hx hb dX10_could_53 (by decide) ?_
      refine lv_icmp_eq (tgt := 62) hx hb dX10_could_54 (by decide) (fun hc7 => ?_) (fun hc7 => ?_)
      · have hE := st_t hE hc7
        refine lv_iconst (v := 1) hx hb dX10_could_62 (by decide) ?_
        refine lv_goto (tgt := 67) hx hb dX10_could_63 (by decide) ?_
        replace hE := Option.some.inj hE
        subst hQQ
        exact g_zret hx hb hr hlocks hP hS ((by decide : (1 : Int32) &&& 1 = 1).trans hE) rfl dX10_could_67
      · have hE := st_f hE hc7
        refine lv_iload_n hx hb dX10_could_57 rfl (lv_at hl 0 rfl) ?_
        refine lv_iconst (v := 3) hx hb dX10_could_58 (by decide) ?_
        refine lv_icmp_ne (tgt := 66) hx hb dX10_could_59 (by decide) (fun hc8 => ?_) (fun hc8 => ?_)
        · have hE := st_f hE hc8
          refine lv_iconst (v := 0) hx hb dX10_could_66 (by decide) ?_
          replace hE := Option.some.inj hE
          subst hQQ
          exact g_zret hx hb hr hlocks hP hS ((by decide : (0 : Int32) &&& 1 = 0).trans hE) rfl dX10_could_67
        · have hE := st_t hE hc8
          refine lv_iconst (v := 1) hx hb dX10_could_62 (by decide) ?_
          refine lv_goto (tgt := 67) hx hb dX10_could_63 (by decide) ?_
          replace hE := Option.some.inj hE
          subst hQQ
          exact g_zret hx hb hr hlocks hP hS ((by decide : (1 : Int32) &&& 1 = 1).trans hE) rfl dX10_could_67
  replace hE := st_f hE hc5
  by_cases hc9 : a2 = 2
  · have hE := st_t hE hc9
    refine lv_tableIn (tgt := 68) hx hb dX10_could_1 (by rw [hc9]; decide) (by rw [hc9]; decide) (by rw [hc9]; rfl) (by decide) ?_
    refine lv_iload_n hx hb dX10_could_68 rfl (lv_at hl 0 rfl) ?_
    refine lv_iconst (v := 2) hx hb dX10_could_69 (by decide) ?_
    refine lv_icmp_eq (tgt := 77) hx hb dX10_could_70 (by decide) (fun hc10 => ?_) (fun hc10 => ?_)
    · have hE := st_t hE hc10
      refine lv_iconst (v := 0) hx hb dX10_could_77 (by decide) ?_
      replace hE := Option.some.inj hE
      subst hQQ
      exact g_zret hx hb hr hlocks hP hS ((by decide : (0 : Int32) &&& 1 = 0).trans hE) rfl dX10_could_78
    · have hE := st_f hE hc10
      refine lv_iconst (v := 1) hx hb dX10_could_73 (by decide) ?_
      refine lv_goto (tgt := 78) hx hb dX10_could_74 (by decide) ?_
      replace hE := Option.some.inj hE
      subst hQQ
      exact g_zret hx hb hr hlocks hP hS ((by decide : (1 : Int32) &&& 1 = 1).trans hE) rfl dX10_could_78
  replace hE := st_f hE hc9
  have nhc1 := lv_neT hc1 (show (0 : Int32).toInt = 0 from by decide)
  have nhc5 := lv_neT hc5 (show (1 : Int32).toInt = 1 from by decide)
  have nhc9 := lv_neT hc9 (show (2 : Int32).toInt = 2 from by decide)
  refine lv_tableOut (tgt := 79) hx hb dX10_could_1 (by omega) (by decide) ?_
  refine lv_iload_n hx hb dX10_could_79 rfl (lv_at hl 0 rfl) ?_
  refine lv_if_ne (tgt := 87) hx hb dX10_could_80 (by decide) (fun hc11 => ?_) (fun hc11 => ?_)
  · have hE := st_f hE hc11
    refine lv_iconst (v := 0) hx hb dX10_could_87 (by decide) ?_
    replace hE := Option.some.inj hE
    subst hQQ
    exact g_zret hx hb hr hlocks hP hS ((by decide : (0 : Int32) &&& 1 = 0).trans hE) rfl dX10_could_88
  · have hE := st_t hE hc11
    refine lv_iconst (v := 1) hx hb dX10_could_83 (by decide) ?_
    refine lv_goto (tgt := 88) hx hb dX10_could_84 (by decide) ?_
    replace hE := Option.some.inj hE
    subst hQQ
    exact g_zret hx hb hr hlocks hP hS ((by decide : (1 : Int32) &&& 1 = 1).trans hE) rfl dX10_could_88
def b_X10_sortsOf_15 (S0 : SR) (a1 : Int32) (c5 : Int32) (c10 : Int32) (c11 : Int32) : Option ((Int32 × Int32) ⊕ (Int32)) :=
  if (ri S0 0 13) ≤ c11 then (some (.inr c10)) else (if c10 = 0 then (bv (c11 + 1) (fun (v14 : Int32) => some (.inl (0, v14)))) else (gd (inb c11 6) (if (ri S0 9 (c11.toNatClampNeg)) = a1 then (gd (inb c11 6) (bo (f_X10_could c5 (ri S0 10 (c11.toNatClampNeg))) (fun (r19 : Int32) => gd (inb c11 6) (bo (if (ri S0 11 (c11.toNatClampNeg)) = 1 then (some 1) else (some 0)) (fun (q21 : Int32) => if r19 = q21 then (bv (c11 + 1) (fun (v26 : Int32) => some (.inl (1, v26)))) else (bv (c11 + 1) (fun (v25 : Int32) => some (.inl (0, v25))))))))) else (bv (c11 + 1) (fun (v17 : Int32) => some (.inl (1, v17)))))))
def b_X10_sortsOf_4 (S0 : SR) (a1 : Int32) (c4 : Int32) (c5 : Int32) : Option ((Int32 × Int32) ⊕ (Int32)) :=
  if 4 < c5 then (some (.inr c4)) else (bo (lp (fun (s7 : Int32 × Int32) => b_X10_sortsOf_15 S0 a1 c5 s7.1 s7.2) 5000 (1, 0)) (fun (x8 : Int32) => if x8 = 0 then (bv (c4 ||| 0) (fun (v28 : Int32) => bv (c5 + 1) (fun (v29 : Int32) => some (.inl (v28, v29))))) else (bv (c4 ||| ((1 : Int32) <<< (c5 &&& 31))) (fun (v30 : Int32) => bv (c5 + 1) (fun (v31 : Int32) => some (.inl (v30, v31)))))))
def f_X10_sortsOf (S0 : SR) (a1 : Int32) : Option (Int32) :=
  bo (lp (fun (s1 : Int32 × Int32) => b_X10_sortsOf_4 S0 a1 s1.1 s1.2) 5000 (0, 0)) (fun (x2 : Int32) => some x2)
abbrev rmX10_sortsOf : Room := { frames := 1, cells := 0, slots := 0, locals := 21 }
theorem hdV_X10_sortsOf : yX10_sortsOf.cls = "WitnessWallModel" ∧ yX10_sortsOf.cls ≠ "java/lang/invoke/MethodHandle" ∧ yX10_sortsOf.cls ≠ "java/lang/invoke/VarHandle" ∧ (parseMethodDescriptor yX10_sortsOf.desc).map (fun d => d.parameters.length) = some 1 := by decide +kernel
set_option maxHeartbeats 4000000 in
set_option maxRecDepth 100000 in
theorem k_X10_sortsOf {l : Launch} {D : va_G} {ad : Nat → Nat} {cI cB : ClassId} (hij : inj 31 ad)  {S0 : SR} {a1 : Int32} {r : Int32} (hE : f_X10_sortsOf S0 a1 = some r) {sz : Nat} : Met l yX10_sortsOf (wz yX10_sortsOf cX10_sortsOf 6 (some FieldType.int)) rmX10_sortsOf (PG 31 ad (er ad cI cB) D (KR D cI cB) ZR [.ref (ad 0), .int a1] S0 sz) (QGi 31 ad (er ad cI cB) D r S0 sz) 0 0 (AD 31 ad sz) := by
  unfold f_X10_sortsOf at hE
  refine g_start (cc := cX10_sortsOf) (maxL := 6) (ret := (some FieldType.int)) (Qc := fun sz => QGi 31 ad (er ad cI cB) D r S0 sz) (by decide) rfl (Nat.le_of_ble_eq_true rfl) ?_
  intro p e s m args below meth c H locs ls hx hb hr hts hown hlocks hml hK hZ hP hS hl
  replace hl : lv_has ls 6 [(0, .ref (ad 0)), (1, .int a1)] := hl
  obtain ⟨QQ, hQQ⟩ : ∃ q, q = MQ below (QGi 31 ad (er ad cI cB) D r S0 s.heap.size) args s 0 0 (AD 31 ad s.heap.size) := ⟨_, rfl⟩
  rw [← hQQ]
  refine lv_iconst (v := 0) hx hb dX10_sortsOf_0 (by decide) ?_
  refine lv_istore_n (lv' := [(2, .int 0), (0, .ref (ad 0)), (1, .int a1)]) hx hb dX10_sortsOf_1 rfl hl (by decide) rfl (fun ls hl => ?_)
  refine lv_iconst (v := 0) hx hb dX10_sortsOf_2 (by decide) ?_
  refine lv_istore_n (lv' := [(3, .int 0), (2, .int 0), (0, .ref (ad 0)), (1, .int a1)]) hx hb dX10_sortsOf_3 rfl hl (by decide) rfl (fun ls hl => ?_)
  obtain ⟨x2, hx2, hE⟩ := st_bo hE
  refine lp_walk (body := fun (s1 : Int32 × Int32) => b_X10_sortsOf_4 S0 a1 s1.1 s1.2) (fun s1 => ∀ (ls : Array Slot) (H : Heap) (locs : List Loc), lv_has ls 6 [(0, .ref (ad 0)), (1, .int a1), (2, .int s1.1), (3, .int s1.2)] → rP D ad cI cB S0 H → rS ad s H locs → W p l e rmX10_sortsOf s m args below meth c H locs 0 0 QQ (F0 m 4 ls [])) (fun x2 => ∀ (ls : Array Slot) (H : Heap) (locs : List Loc), lv_has ls 6 [(2, .int x2)] → rP D ad cI cB S0 H → rS ad s H locs → W p l e rmX10_sortsOf s m args below meth c H locs 0 0 QQ (F0 m 104 ls [])) ?_ _ _ _ hx2 ?_ ls H locs (lv_sub hl [2, 3, 1, 0] rfl) hP hS
  · intro s1 t3 hE hKt3 ls H locs hl hP hS
    obtain ⟨c4, c5⟩ := s1
    replace hE : b_X10_sortsOf_4 S0 a1 c4 c5 = some t3 := hE
    replace hl : lv_has ls 6 [(0, .ref (ad 0)), (1, .int a1), (2, .int c4), (3, .int c5)] := hl
    replace hP : rP D ad cI cB S0 H := hP
    unfold b_X10_sortsOf_4 at hE
    refine lv_iload_n hx hb dX10_sortsOf_4 rfl (lv_at hl 3 rfl) ?_
    refine lv_iconst (v := 4) hx hb dX10_sortsOf_5 (by decide) ?_
    refine lv_icmp_gt (tgt := 104) hx hb dX10_sortsOf_6 (by decide) (fun hc6 => ?_) (fun hc6 => ?_)
    · have hE := st_t hE hc6
      have hq := Option.some.inj hE
      subst hq
      exact hKt3 ls H locs (lv_sub hl [2] rfl) hP hS
    · have hE := st_f hE hc6
      refine lv_iconst (v := 1) hx hb dX10_sortsOf_9 (by decide) ?_
      refine lv_istore (lv' := [(4, .int 1), (0, .ref (ad 0)), (1, .int a1), (2, .int c4), (3, .int c5)]) hx hb dX10_sortsOf_10 hl (by decide) rfl (fun ls hl => ?_)
      refine lv_iconst (v := 0) hx hb dX10_sortsOf_12 (by decide) ?_
      refine lv_istore (lv' := [(5, .int 0), (4, .int 1), (0, .ref (ad 0)), (1, .int a1), (2, .int c4), (3, .int c5)]) hx hb dX10_sortsOf_13 hl (by decide) rfl (fun ls hl => ?_)
      obtain ⟨x8, hx8, hE⟩ := st_bo hE
      refine lp_walk (body := fun (s7 : Int32 × Int32) => b_X10_sortsOf_15 S0 a1 c5 s7.1 s7.2) (fun s7 => ∀ (ls : Array Slot) (H : Heap) (locs : List Loc), lv_has ls 6 [(0, .ref (ad 0)), (1, .int a1), (2, .int c4), (3, .int c5), (4, .int s7.1), (5, .int s7.2)] → rP D ad cI cB S0 H → rS ad s H locs → W p l e rmX10_sortsOf s m args below meth c H locs 0 0 QQ (F0 m 15 ls [])) (fun x8 => ∀ (ls : Array Slot) (H : Heap) (locs : List Loc), lv_has ls 6 [(0, .ref (ad 0)), (1, .int a1), (2, .int c4), (3, .int c5), (4, .int x8)] → rP D ad cI cB S0 H → rS ad s H locs → W p l e rmX10_sortsOf s m args below meth c H locs 0 0 QQ (F0 m 83 ls [])) ?_ _ _ _ hx8 ?_ ls H locs (lv_sub hl [2, 3, 4, 5, 1, 0] rfl) hP hS
      · intro s7 t9 hE hKt9 ls H locs hl hP hS
        obtain ⟨c10, c11⟩ := s7
        replace hE : b_X10_sortsOf_15 S0 a1 c5 c10 c11 = some t9 := hE
        replace hl : lv_has ls 6 [(0, .ref (ad 0)), (1, .int a1), (2, .int c4), (3, .int c5), (4, .int c10), (5, .int c11)] := hl
        replace hP : rP D ad cI cB S0 H := hP
        unfold b_X10_sortsOf_15 at hE
        refine lv_iload hx hb dX10_sortsOf_15 (lv_at hl 5 rfl) ?_
        refine lv_aload_n hx hb dX10_sortsOf_17 rfl (lv_at hl 0 rfl) ?_
        refine r_get (v := .int (ri S0 0 13)) hx hb hts (fun w h => wz_m (inX10 w h)) hown hK hP (q_Ref (ad := ad) (cI := cI) (cB := cB)) rfl 13 (by decide) (hts _ (wz_m tw_3_169)) (fun _ h9 => h9) rfl dX10_sortsOf_18 ?_
        refine lv_icmp_ge (tgt := 83) hx hb dX10_sortsOf_21 (by decide) (fun hc12 => ?_) (fun hc12 => ?_)
        · have hE := st_t hE hc12
          have hq := Option.some.inj hE
          subst hq
          exact hKt9 ls H locs (lv_sub hl [0, 1, 2, 3, 4] rfl) hP hS
        · have hE := st_f hE hc12
          refine lv_iload hx hb dX10_sortsOf_24 (lv_at hl 4 rfl) ?_
          refine lv_if_eq (tgt := 74) hx hb dX10_sortsOf_26 (by decide) (fun hc13 => ?_) (fun hc13 => ?_)
          · have hE := st_t hE hc13
            refine lv_iconst (v := 0) hx hb dX10_sortsOf_74 (by decide) ?_
            refine lv_istore (lv' := [(4, .int 0), (0, .ref (ad 0)), (1, .int a1), (2, .int c4), (3, .int c5), (5, .int c11)]) hx hb dX10_sortsOf_75 hl (by decide) rfl (fun ls hl => ?_)
            obtain ⟨v14, ev14, hE⟩ := st_bv hE
            refine lv_iinc (v := v14) (lv' := [(5, .int v14), (4, .int 0), (0, .ref (ad 0)), (1, .int a1), (2, .int c4), (3, .int c5)]) hx hb dX10_sortsOf_77 hl (k := 5) rfl (by rw [ev14]; rfl) (by decide) rfl (fun ls hl => ?_)
            refine lv_goto (tgt := 15) hx hb dX10_sortsOf_80 (by decide) ?_
            have hq := Option.some.inj hE
            subst hq
            exact hKt9 ls H locs (lv_sub hl [2, 3, 4, 5, 1, 0] rfl) hP hS
          · have hE := st_f hE hc13
            refine lv_aload_n hx hb dX10_sortsOf_29 rfl (lv_at hl 0 rfl) ?_
            refine r_get (v := .ref (ad 9)) hx hb hts (fun w h => wz_m (inX10 w h)) hown hK hP (q_Ref (ad := ad) (cI := cI) (cB := cB)) rfl 14 (by decide) (hts _ (wz_m tw_3_170)) (fun _ h9 => h9) rfl dX10_sortsOf_30 ?_
            refine lv_iload hx hb dX10_sortsOf_33 (lv_at hl 5 rfl) ?_
            obtain ⟨hi15, hE⟩ := st_gd hE
            refine r_iald hx hb hK hP qr_9 hi15 dX10_sortsOf_35 ?_
            refine lv_iload_n hx hb dX10_sortsOf_36 rfl (lv_at hl 1 rfl) ?_
            refine lv_icmp_ne (tgt := 70) hx hb dX10_sortsOf_37 (by decide) (fun hc16 => ?_) (fun hc16 => ?_)
            · have hE := st_f hE hc16
              refine lv_iconst (v := 1) hx hb dX10_sortsOf_70 (by decide) ?_
              refine lv_goto (tgt := 75) hx hb dX10_sortsOf_71 (by decide) ?_
              refine lv_istore (lv' := [(4, .int 1), (0, .ref (ad 0)), (1, .int a1), (2, .int c4), (3, .int c5), (5, .int c11)]) hx hb dX10_sortsOf_75 hl (by decide) rfl (fun ls hl => ?_)
              obtain ⟨v17, ev17, hE⟩ := st_bv hE
              refine lv_iinc (v := v17) (lv' := [(5, .int v17), (4, .int 1), (0, .ref (ad 0)), (1, .int a1), (2, .int c4), (3, .int c5)]) hx hb dX10_sortsOf_77 hl (k := 5) rfl (by rw [ev17]; rfl) (by decide) rfl (fun ls hl => ?_)
              refine lv_goto (tgt := 15) hx hb dX10_sortsOf_80 (by decide) ?_
              have hq := Option.some.inj hE
              subst hq
              exact hKt9 ls H locs (lv_sub hl [2, 3, 4, 5, 1, 0] rfl) hP hS
            · have hE := st_t hE hc16
              refine lv_iload_n hx hb dX10_sortsOf_40 rfl (lv_at hl 3 rfl) ?_
              refine lv_aload_n hx hb dX10_sortsOf_41 rfl (lv_at hl 0 rfl) ?_
              refine r_get (v := .ref (ad 10)) hx hb hts (fun w h => wz_m (inX10 w h)) hown hK hP (q_Ref (ad := ad) (cI := cI) (cB := cB)) rfl 15 (by decide) (hts _ (wz_m tw_3_171)) (fun _ h9 => h9) rfl dX10_sortsOf_42 ?_
              refine lv_iload hx hb dX10_sortsOf_45 (lv_at hl 5 rfl) ?_
              obtain ⟨hi18, hE⟩ := st_gd hE
              refine r_iald hx hb hK hP qr_10 hi18 dX10_sortsOf_47 ?_
              obtain ⟨r19, hCr19, hE⟩ := st_bo hE
              refine g_calli (va_runS (As := [.int c5, .int (ri S0 10 (c11.toNatClampNeg))]) (rest := []) ⟨hx, hb, hml, hown, hts⟩ (k_X10_could hij (S0 := S0) hCr19) (va_cwS 2 hts (wz_S tw_4_136 tw_4_137 tw_1_11 tw_4_138) rfl rfl rfl hdS_X10_could ⟨Nat.le_of_ble_eq_true rfl, Nat.le_of_ble_eq_true rfl⟩) (g_preS KR_st ZR_st hK hZ hP hS) rfl rfl hl.1 rfl (lv_room (Nat.le_of_ble_eq_true rfl)) dX10_sortsOf_48 ⟨Nat.zero_le _, Nat.zero_le _⟩) hS (fun H locs hP hS => ?_)
              refine lv_aload_n hx hb dX10_sortsOf_51 rfl (lv_at hl 0 rfl) ?_
              refine r_get (v := .ref (ad 11)) hx hb hts (fun w h => wz_m (inX10 w h)) hown hK hP (q_Ref (ad := ad) (cI := cI) (cB := cB)) rfl 16 (by decide) (hts _ (wz_m tw_3_172)) (fun _ h9 => h9) rfl dX10_sortsOf_52 ?_
              refine lv_iload hx hb dX10_sortsOf_55 (lv_at hl 5 rfl) ?_
              obtain ⟨hi20, hE⟩ := st_gd hE
              refine r_iald hx hb hK hP qr_11 hi20 dX10_sortsOf_57 ?_
              refine lv_iconst (v := 1) hx hb dX10_sortsOf_58 (by decide) ?_
              obtain ⟨q21, hq21, hE⟩ := st_bo hE
              have J22 : ∀ (ls : Array Slot) (H : Heap) (locs : List Loc), lv_has ls 6 [(0, .ref (ad 0)), (1, .int a1), (2, .int c4), (3, .int c5), (5, .int c11)] → rP D ad cI cB S0 H → rS ad s H locs → W p l e rmX10_sortsOf s m args below meth c H locs 0 0 QQ (F0 m 67 ls [.int q21, .int r19]) := by
                intro ls H locs hl hP hS
                refine lv_icmp_ne (tgt := 74) hx hb dX10_sortsOf_67 (by decide) (fun hc24 => ?_) (fun hc24 => ?_)
                · have hE := st_f hE hc24
                  refine lv_iconst (v := 0) hx hb dX10_sortsOf_74 (by decide) ?_
                  refine lv_istore (lv' := [(4, .int 0), (0, .ref (ad 0)), (1, .int a1), (2, .int c4), (3, .int c5), (5, .int c11)]) hx hb dX10_sortsOf_75 hl (by decide) rfl (fun ls hl => ?_)
                  obtain ⟨v25, ev25, hE⟩ := st_bv hE
                  refine lv_iinc (v := v25) (lv' := [(5, .int v25), (4, .int 0), (0, .ref (ad 0)), (1, .int a1), (2, .int c4), (3, .int c5)]) hx hb dX10_sortsOf_77 hl (k := 5) rfl (by rw [ev25]; rfl) (by decide) rfl (fun ls hl => ?_)
                  refine lv_goto (tgt := 15) hx hb dX10_sortsOf_80 (by decide) ?_
                  have hq := Option.some.inj hE
                  subst hq
                  exact hKt9 ls H locs (lv_sub hl [2, 3, 4, 5, 1, 0] rfl) hP hS
                · have hE := st_t hE hc24
                  refine lv_iconst (v := 1) hx hb dX10_sortsOf_70 (by decide) ?_
                  refine lv_goto (tgt := 75) hx hb dX10_sortsOf_71 (by decide) ?_
                  refine lv_istore (lv' := [(4, .int 1), (0, .ref (ad 0)), (1, .int a1), (2, .int c4), (3, .int c5), (5, .int c11)]) hx hb dX10_sortsOf_75 hl (by decide) rfl (fun ls hl => ?_)
                  obtain ⟨v26, ev26, hE⟩ := st_bv hE
                  refine lv_iinc (v := v26) (lv' := [(5, .int v26), (4, .int 1), (0, .ref (ad 0)), (1, .int a1), (2, .int c4), (3, .int c5)]) hx hb dX10_sortsOf_77 hl (k := 5) rfl (by rw [ev26]; rfl) (by decide) rfl (fun ls hl => ?_)
                  refine lv_goto (tgt := 15) hx hb dX10_sortsOf_80 (by decide) ?_
                  have hq := Option.some.inj hE
                  subst hq
                  exact hKt9 ls H locs (lv_sub hl [2, 3, 4, 5, 1, 0] rfl) hP hS
              replace hE := hq21
              refine lv_icmp_ne (tgt := 66) hx hb dX10_sortsOf_59 (by decide) (fun hc23 => ?_) (fun hc23 => ?_)
              · have hE := st_f hE hc23
                refine lv_iconst (v := 0) hx hb dX10_sortsOf_66 (by decide) ?_
                have hq := Option.some.inj hE
                subst hq
                exact J22 ls H locs (lv_sub hl [0, 1, 2, 3, 5] rfl) hP hS
              · have hE := st_t hE hc23
                refine lv_iconst (v := 1) hx hb dX10_sortsOf_62 (by decide) ?_
                refine lv_goto (tgt := 67) hx hb dX10_sortsOf_63 (by decide) ?_
                have hq := Option.some.inj hE
                subst hq
                exact J22 ls H locs (lv_sub hl [0, 1, 2, 3, 5] rfl) hP hS
      · intro ls H locs hl hP hS
        refine lv_iload_n hx hb dX10_sortsOf_83 rfl (lv_at hl 2 rfl) ?_
        refine lv_iload hx hb dX10_sortsOf_84 (lv_at hl 4 rfl) ?_
        refine lv_if_eq (tgt := 95) hx hb dX10_sortsOf_86 (by decide) (fun hc27 => ?_) (fun hc27 => ?_)
        · have hE := st_t hE hc27
          refine lv_iconst (v := 0) hx hb dX10_sortsOf_95 (by decide) ?_
          refine lv_ior hx hb dX10_sortsOf_96 ?_
          obtain ⟨v28, ev28, hE⟩ := st_bv hE
          refine nm_i ev28 ?_
          refine lv_istore_n (lv' := [(2, .int v28), (0, .ref (ad 0)), (1, .int a1), (3, .int c5), (4, .int x8)]) hx hb dX10_sortsOf_97 rfl hl (by decide) rfl (fun ls hl => ?_)
          obtain ⟨v29, ev29, hE⟩ := st_bv hE
          refine lv_iinc (v := v29) (lv' := [(3, .int v29), (2, .int v28), (0, .ref (ad 0)), (1, .int a1), (4, .int x8)]) hx hb dX10_sortsOf_98 hl (k := 3) rfl (by rw [ev29]; rfl) (by decide) rfl (fun ls hl => ?_)
          refine lv_goto (tgt := 4) hx hb dX10_sortsOf_101 (by decide) ?_
          have hq := Option.some.inj hE
          subst hq
          exact hKt3 ls H locs (lv_sub hl [2, 3, 1, 0] rfl) hP hS
        · have hE := st_f hE hc27
          refine lv_iconst (v := 1) hx hb dX10_sortsOf_89 (by decide) ?_
          refine lv_iload_n hx hb dX10_sortsOf_90 rfl (lv_at hl 3 rfl) ?_
          refine lv_ishl hx hb dX10_sortsOf_91 ?_
          refine lv_goto (tgt := 96) hx hb dX10_sortsOf_92 (by decide) ?_
          refine lv_ior hx hb dX10_sortsOf_96 ?_
          obtain ⟨v30, ev30, hE⟩ := st_bv hE
          refine nm_i ev30 ?_
          refine lv_istore_n (lv' := [(2, .int v30), (0, .ref (ad 0)), (1, .int a1), (3, .int c5), (4, .int x8)]) hx hb dX10_sortsOf_97 rfl hl (by decide) rfl (fun ls hl => ?_)
          obtain ⟨v31, ev31, hE⟩ := st_bv hE
          refine lv_iinc (v := v31) (lv' := [(3, .int v31), (2, .int v30), (0, .ref (ad 0)), (1, .int a1), (4, .int x8)]) hx hb dX10_sortsOf_98 hl (k := 3) rfl (by rw [ev31]; rfl) (by decide) rfl (fun ls hl => ?_)
          refine lv_goto (tgt := 4) hx hb dX10_sortsOf_101 (by decide) ?_
          have hq := Option.some.inj hE
          subst hq
          exact hKt3 ls H locs (lv_sub hl [2, 3, 1, 0] rfl) hP hS
  · intro ls H locs hl hP hS
    refine lv_iload_n hx hb dX10_sortsOf_104 rfl (lv_at hl 0 rfl) ?_
    replace hE := Option.some.inj hE
    subst hQQ
    exact g_iret hx hb hr hlocks hP hS hE rfl dX10_sortsOf_105
def f_X10_isIn (a1 : Int32) (a2 : Int32) : Option (Int32) :=
  if ((a1 >>> (a2 &&& 31)) &&& 1) = 1 then (some 1) else (some 0)
abbrev rmX10_isIn : Room := { frames := 0, cells := 0, slots := 0, locals := 0 }
theorem hdS_X10_isIn : yX10_isIn.cls ≠ "java/lang/invoke/MethodHandle" ∧ yX10_isIn.cls ≠ "java/lang/invoke/VarHandle" ∧ (parseMethodDescriptor yX10_isIn.desc).map (fun d => d.parameters.length) = some 2 := by decide +kernel
set_option maxHeartbeats 4000000 in
set_option maxRecDepth 100000 in
theorem k_X10_isIn {l : Launch} {D : va_G} {ad : Nat → Nat} {cI cB : ClassId} (hij : inj 31 ad)  {S0 : SR} {a1 : Int32} {a2 : Int32} {r : Int32} (hE : f_X10_isIn a1 a2 = some r) {sz : Nat} : Met l yX10_isIn (wz yX10_isIn cX10_isIn 2 (some FieldType.boolean)) rmX10_isIn (PG 31 ad (er ad cI cB) D (KR D cI cB) ZR [.int a1, .int a2] S0 sz) (QGi 31 ad (er ad cI cB) D r S0 sz) 0 0 (AD 31 ad sz) := by
  unfold f_X10_isIn at hE
  refine g_start (cc := cX10_isIn) (maxL := 2) (ret := (some FieldType.boolean)) (Qc := fun sz => QGi 31 ad (er ad cI cB) D r S0 sz) (by decide) rfl (Nat.le_of_ble_eq_true rfl) ?_
  intro p e s m args below meth c H locs ls hx hb hr hts hown hlocks hml hK hZ hP hS hl
  replace hl : lv_has ls 2 [(0, .int a1), (1, .int a2)] := hl
  obtain ⟨QQ, hQQ⟩ : ∃ q, q = MQ below (QGi 31 ad (er ad cI cB) D r S0 s.heap.size) args s 0 0 (AD 31 ad s.heap.size) := ⟨_, rfl⟩
  rw [← hQQ]
  refine lv_iload_n hx hb dX10_isIn_0 rfl (lv_at hl 0 rfl) ?_
  refine lv_iload_n hx hb dX10_isIn_1 rfl (lv_at hl 1 rfl) ?_
  refine lv_ishr hx hb dX10_isIn_2 ?_
  refine lv_iconst (v := 1) hx hb dX10_isIn_3 (by decide) ?_
  refine lv_iand hx hb dX10_isIn_4 ?_
  refine lv_iconst (v := 1) hx hb dX10_isIn_5 (by decide) ?_
  refine lv_icmp_ne (tgt := 13) hx hb dX10_isIn_6 (by decide) (fun hc1 => ?_) (fun hc1 => ?_)
  · have hE := st_f hE hc1
    refine lv_iconst (v := 0) hx hb dX10_isIn_13 (by decide) ?_
    replace hE := Option.some.inj hE
    subst hQQ
    exact g_zret hx hb hr hlocks hP hS ((by decide : (0 : Int32) &&& 1 = 0).trans hE) rfl dX10_isIn_14
  · have hE := st_t hE hc1
    refine lv_iconst (v := 1) hx hb dX10_isIn_9 (by decide) ?_
    refine lv_goto (tgt := 14) hx hb dX10_isIn_10 (by decide) ?_
    replace hE := Option.some.inj hE
    subst hQQ
    exact g_zret hx hb hr hlocks hP hS ((by decide : (1 : Int32) &&& 1 = 1).trans hE) rfl dX10_isIn_14
def b_X10_size_4 (a1 : Int32) (c4 : Int32) (c5 : Int32) : Option ((Int32 × Int32) ⊕ (Int32)) :=
  if 24 ≤ c5 then (some (.inr c4)) else (bv (c4 + ((a1 >>> (c5 &&& 31)) &&& 1)) (fun (v7 : Int32) => bv (c5 + 1) (fun (v8 : Int32) => some (.inl (v7, v8)))))
def f_X10_size (a1 : Int32) : Option (Int32) :=
  bo (lp (fun (s1 : Int32 × Int32) => b_X10_size_4 a1 s1.1 s1.2) 5000 (0, 0)) (fun (x2 : Int32) => some x2)
abbrev rmX10_size : Room := { frames := 0, cells := 0, slots := 0, locals := 0 }
theorem hdS_X10_size : yX10_size.cls ≠ "java/lang/invoke/MethodHandle" ∧ yX10_size.cls ≠ "java/lang/invoke/VarHandle" ∧ (parseMethodDescriptor yX10_size.desc).map (fun d => d.parameters.length) = some 1 := by decide +kernel
set_option maxHeartbeats 4000000 in
set_option maxRecDepth 100000 in
theorem k_X10_size {l : Launch} {D : va_G} {ad : Nat → Nat} {cI cB : ClassId} (hij : inj 31 ad)  {S0 : SR} {a1 : Int32} {r : Int32} (hE : f_X10_size a1 = some r) {sz : Nat} : Met l yX10_size (wz yX10_size cX10_size 3 (some FieldType.int)) rmX10_size (PG 31 ad (er ad cI cB) D (KR D cI cB) ZR [.int a1] S0 sz) (QGi 31 ad (er ad cI cB) D r S0 sz) 0 0 (AD 31 ad sz) := by
  unfold f_X10_size at hE
  refine g_start (cc := cX10_size) (maxL := 3) (ret := (some FieldType.int)) (Qc := fun sz => QGi 31 ad (er ad cI cB) D r S0 sz) (by decide) rfl (Nat.le_of_ble_eq_true rfl) ?_
  intro p e s m args below meth c H locs ls hx hb hr hts hown hlocks hml hK hZ hP hS hl
  replace hl : lv_has ls 3 [(0, .int a1)] := hl
  obtain ⟨QQ, hQQ⟩ : ∃ q, q = MQ below (QGi 31 ad (er ad cI cB) D r S0 s.heap.size) args s 0 0 (AD 31 ad s.heap.size) := ⟨_, rfl⟩
  rw [← hQQ]
  refine lv_iconst (v := 0) hx hb dX10_size_0 (by decide) ?_
  refine lv_istore_n (lv' := [(1, .int 0), (0, .int a1)]) hx hb dX10_size_1 rfl hl (by decide) rfl (fun ls hl => ?_)
  refine lv_iconst (v := 0) hx hb dX10_size_2 (by decide) ?_
  refine lv_istore_n (lv' := [(2, .int 0), (1, .int 0), (0, .int a1)]) hx hb dX10_size_3 rfl hl (by decide) rfl (fun ls hl => ?_)
  obtain ⟨x2, hx2, hE⟩ := st_bo hE
  refine lp_walk (body := fun (s1 : Int32 × Int32) => b_X10_size_4 a1 s1.1 s1.2) (fun s1 => ∀ (ls : Array Slot) (H : Heap) (locs : List Loc), lv_has ls 3 [(0, .int a1), (1, .int s1.1), (2, .int s1.2)] → rP D ad cI cB S0 H → rS ad s H locs → W p l e rmX10_size s m args below meth c H locs 0 0 QQ (F0 m 4 ls [])) (fun x2 => ∀ (ls : Array Slot) (H : Heap) (locs : List Loc), lv_has ls 3 [(1, .int x2)] → rP D ad cI cB S0 H → rS ad s H locs → W p l e rmX10_size s m args below meth c H locs 0 0 QQ (F0 m 24 ls [])) ?_ _ _ _ hx2 ?_ ls H locs (lv_sub hl [2, 1, 0] rfl) hP hS
  · intro s1 t3 hE hKt3 ls H locs hl hP hS
    obtain ⟨c4, c5⟩ := s1
    replace hE : b_X10_size_4 a1 c4 c5 = some t3 := hE
    replace hl : lv_has ls 3 [(0, .int a1), (1, .int c4), (2, .int c5)] := hl
    replace hP : rP D ad cI cB S0 H := hP
    unfold b_X10_size_4 at hE
    refine lv_iload_n hx hb dX10_size_4 rfl (lv_at hl 2 rfl) ?_
    refine lv_bipush (v := 24) hx hb dX10_size_5 (by decide) ?_
    refine lv_icmp_ge (tgt := 24) hx hb dX10_size_7 (by decide) (fun hc6 => ?_) (fun hc6 => ?_)
    · have hE := st_t hE hc6
      have hq := Option.some.inj hE
      subst hq
      exact hKt3 ls H locs (lv_sub hl [1] rfl) hP hS
    · have hE := st_f hE hc6
      refine lv_iload_n hx hb dX10_size_10 rfl (lv_at hl 1 rfl) ?_
      refine lv_iload_n hx hb dX10_size_11 rfl (lv_at hl 0 rfl) ?_
      refine lv_iload_n hx hb dX10_size_12 rfl (lv_at hl 2 rfl) ?_
      refine lv_ishr hx hb dX10_size_13 ?_
      refine lv_iconst (v := 1) hx hb dX10_size_14 (by decide) ?_
      refine lv_iand hx hb dX10_size_15 ?_
      refine lv_iadd hx hb dX10_size_16 ?_
      obtain ⟨v7, ev7, hE⟩ := st_bv hE
      refine nm_i ev7 ?_
      refine lv_istore_n (lv' := [(1, .int v7), (0, .int a1), (2, .int c5)]) hx hb dX10_size_17 rfl hl (by decide) rfl (fun ls hl => ?_)
      obtain ⟨v8, ev8, hE⟩ := st_bv hE
      refine lv_iinc (v := v8) (lv' := [(2, .int v8), (1, .int v7), (0, .int a1)]) hx hb dX10_size_18 hl (k := 2) rfl (by rw [ev8]; rfl) (by decide) rfl (fun ls hl => ?_)
      refine lv_goto (tgt := 4) hx hb dX10_size_21 (by decide) ?_
      have hq := Option.some.inj hE
      subst hq
      exact hKt3 ls H locs (lv_sub hl [2, 1, 0] rfl) hP hS
  · intro ls H locs hl hP hS
    refine lv_iload_n hx hb dX10_size_24 rfl (lv_at hl 0 rfl) ?_
    replace hE := Option.some.inj hE
    subst hQQ
    exact g_iret hx hb hr hlocks hP hS hE rfl dX10_size_25

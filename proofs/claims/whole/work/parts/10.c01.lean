def f_X9_isWithin (a1 : Int32) (a2 : Int32) (a3 : Int32) : Option (Int32) :=
  if a1 < a2 then (some 0) else (if a3 < a1 then (some 0) else (some 1))
abbrev rmX9_isWithin : Room := { frames := 0, cells := 0, slots := 0, locals := 0 }
theorem hdS_X9_isWithin : yX9_isWithin.cls ≠ "java/lang/invoke/MethodHandle" ∧ yX9_isWithin.cls ≠ "java/lang/invoke/VarHandle" ∧ (parseMethodDescriptor yX9_isWithin.desc).map (fun d => d.parameters.length) = some 3 := by decide +kernel
set_option maxHeartbeats 4000000 in
set_option maxRecDepth 100000 in
theorem k_X9_isWithin {l : Launch} {D : va_G} {ad : Nat → Nat} {cI cW : ClassId} {tK tC : Nat} (hij : inj 83 ad)  {S0 : (Nat → Nat → Int32)} {a1 : Int32} {a2 : Int32} {a3 : Int32} {r : Int32} (hE : f_X9_isWithin a1 a2 a3 = some r) {sz : Nat} : Met l yX9_isWithin (wz yX9_isWithin cX9_isWithin 3 (some FieldType.boolean)) rmX9_isWithin (PG 83 ad (ec ad cI cW) D (KC D cI cW) (ZC tK tC) [.int a1, .int a2, .int a3] S0 sz) (QGi 83 ad (ec ad cI cW) D r S0 sz) 0 0 (AD 83 ad sz) := by
  unfold f_X9_isWithin at hE
  refine g_start (cc := cX9_isWithin) (maxL := 3) (ret := (some FieldType.boolean)) (Qc := fun sz => QGi 83 ad (ec ad cI cW) D r S0 sz) (by decide) rfl (Nat.le_of_ble_eq_true rfl) ?_
  intro p e s m args below meth c H locs ls hx hb hr hts hown hlocks hml hK hZ hP hS hl
  replace hl : lv_has ls 3 [(0, .int a1), (1, .int a2), (2, .int a3)] := hl
  obtain ⟨QQ, hQQ⟩ : ∃ q, q = MQ below (QGi 83 ad (ec ad cI cW) D r S0 s.heap.size) args s 0 0 (AD 83 ad s.heap.size) := ⟨_, rfl⟩
  rw [← hQQ]
  refine lv_iload_n hx hb dX9_isWithin_0 rfl (lv_at hl 0 rfl) ?_
  refine lv_iload_n hx hb dX9_isWithin_1 rfl (lv_at hl 1 rfl) ?_
  refine lv_icmp_lt (tgt := 14) hx hb dX9_isWithin_2 (by decide) (fun hc1 => ?_) (fun hc1 => ?_)
  · have hE := st_t hE hc1
    refine lv_iconst (v := 0) hx hb dX9_isWithin_14 (by decide) ?_
    replace hE := Option.some.inj hE
    subst hQQ
    exact g_zret hx hb hr hlocks hP hS ((by decide : (0 : Int32) &&& 1 = 0).trans hE) rfl dX9_isWithin_15
  · have hE := st_f hE hc1
    refine lv_iload_n hx hb dX9_isWithin_5 rfl (lv_at hl 0 rfl) ?_
    refine lv_iload_n hx hb dX9_isWithin_6 rfl (lv_at hl 2 rfl) ?_
    refine lv_icmp_gt (tgt := 14) hx hb dX9_isWithin_7 (by decide) (fun hc2 => ?_) (fun hc2 => ?_)
    · have hE := st_t hE hc2
      refine lv_iconst (v := 0) hx hb dX9_isWithin_14 (by decide) ?_
      replace hE := Option.some.inj hE
      subst hQQ
      exact g_zret hx hb hr hlocks hP hS ((by decide : (0 : Int32) &&& 1 = 0).trans hE) rfl dX9_isWithin_15
    · have hE := st_f hE hc2
      refine lv_iconst (v := 1) hx hb dX9_isWithin_10 (by decide) ?_
      refine lv_goto (tgt := 15) hx hb dX9_isWithin_11 (by decide) ?_
      replace hE := Option.some.inj hE
      subst hQQ
      exact g_zret hx hb hr hlocks hP hS ((by decide : (1 : Int32) &&& 1 = 1).trans hE) rfl dX9_isWithin_15
def f_X9_isWitness (S0 : (Nat → Nat → Int32)) (a1 : Int32) : Option (Int32) :=
  bo (f_X9_isWithin a1 0 ((S0 23 2) - 1)) (fun (r1 : Int32) => some (r1 &&& 1))
abbrev rmX9_isWitness : Room := { frames := 1, cells := 0, slots := 0, locals := 22 }
theorem hdV_X9_isWitness : yX9_isWitness.cls = "WitnessWall" ∧ yX9_isWitness.cls ≠ "java/lang/invoke/MethodHandle" ∧ yX9_isWitness.cls ≠ "java/lang/invoke/VarHandle" ∧ (parseMethodDescriptor yX9_isWitness.desc).map (fun d => d.parameters.length) = some 1 := by decide +kernel
set_option maxHeartbeats 4000000 in
set_option maxRecDepth 100000 in
theorem k_X9_isWitness {l : Launch} {D : va_G} {ad : Nat → Nat} {cI cW : ClassId} {tK tC : Nat} (hij : inj 83 ad)  {S0 : (Nat → Nat → Int32)} {a1 : Int32} {r : Int32} (hE : f_X9_isWitness S0 a1 = some r) {sz : Nat} : Met l yX9_isWitness (wz yX9_isWitness cX9_isWitness 2 (some FieldType.boolean)) rmX9_isWitness (PG 83 ad (ec ad cI cW) D (KC D cI cW) (ZC tK tC) [.ref (ad 0), .int a1] S0 sz) (QGi 83 ad (ec ad cI cW) D r S0 sz) 0 0 (AD 83 ad sz) := by
  unfold f_X9_isWitness at hE
  refine g_start (cc := cX9_isWitness) (maxL := 2) (ret := (some FieldType.boolean)) (Qc := fun sz => QGi 83 ad (ec ad cI cW) D r S0 sz) (by decide) rfl (Nat.le_of_ble_eq_true rfl) ?_
  intro p e s m args below meth c H locs ls hx hb hr hts hown hlocks hml hK hZ hP hS hl
  replace hl : lv_has ls 2 [(0, .ref (ad 0)), (1, .int a1)] := hl
  obtain ⟨QQ, hQQ⟩ : ∃ q, q = MQ below (QGi 83 ad (ec ad cI cW) D r S0 s.heap.size) args s 0 0 (AD 83 ad s.heap.size) := ⟨_, rfl⟩
  rw [← hQQ]
  refine lv_iload_n hx hb dX9_isWitness_0 rfl (lv_at hl 1 rfl) ?_
  refine lv_iconst (v := 0) hx hb dX9_isWitness_1 (by decide) ?_
  refine lv_aload_n hx hb dX9_isWitness_2 rfl (lv_at hl 0 rfl) ?_
  refine c_get (v := .ref (ad 22)) hx hb hts (fun w h => wz_m (inX9 w h)) hown hK hP (q_WW (ad := ad) (cI := cI) (cW := cW)) rfl 2 (by decide) (hts _ (wz_m tw_1_211)) (fun _ h9 => h9) rfl dX9_isWitness_3 ?_
  refine c_getN (v := .ref (ad 23)) hx hb hts (fun w h => wz_m (inX3 w h)) hown hK hP (q_Scene_22 (ad := ad) (cI := cI) (cW := cW)).1 rfl 0 (by decide) (List.mem_of_getElem? (i := 29) rfl) (fun _ h9 => h9) rfl dX9_isWitness_6 ?_
  refine c_getN (v := .int (S0 23 2)) hx hb hts (fun w h => wz_m (inX1 w h)) hown hK hP (q_Hall_23 (ad := ad) (cI := cI) (cW := cW)).1 rfl 2 (by decide) (List.mem_of_getElem? (i := 10) rfl) (fun _ h9 => h9) rfl dX9_isWitness_9 ?_
  refine lv_iconst (v := 1) hx hb dX9_isWitness_12 (by decide) ?_
  refine lv_isub hx hb dX9_isWitness_13 ?_
  obtain ⟨r1, hCr1, hE⟩ := st_bo hE
  refine g_calli (va_runS (As := [.int a1, .int 0, .int ((S0 23 2) - 1)]) (rest := []) ⟨hx, hb, hml, hown, hts⟩ (k_X9_isWithin hij (S0 := S0) hCr1) (va_cwS 3 hts (wz_S tw_2_1 tw_2_2 tw_1_1 tw_2_3) rfl rfl rfl hdS_X9_isWithin ⟨Nat.le_of_ble_eq_true rfl, Nat.le_of_ble_eq_true rfl⟩) (g_preS KC_st ZC_st hK hZ hP hS) rfl rfl hl.1 rfl (lv_room (Nat.le_of_ble_eq_true rfl)) dX9_isWitness_14 ⟨Nat.zero_le _, Nat.zero_le _⟩) hS (fun H locs hP hS => ?_)
  replace hE := Option.some.inj hE
  subst hQQ
  exact g_zret hx hb hr hlocks hP hS hE rfl dX9_isWitness_17
def f_X7_isSuch (k : Nat) (S0 : (Nat → Nat → Int32)) (a1 : Int32) : Option (Int32) :=
  if a1 = 0 then (some 1) else (if a1 = (S0 k 2) then (some 1) else (if a1 = 3 then (if (S0 k 2) = 4 then (some 1) else (some 0)) else (some 0)))
abbrev rmX7_isSuch : Room := { frames := 0, cells := 0, slots := 0, locals := 0 }
theorem hdV_X7_isSuch : yX7_isSuch.cls = "WitnessWall$Witness" ∧ yX7_isSuch.cls ≠ "java/lang/invoke/MethodHandle" ∧ yX7_isSuch.cls ≠ "java/lang/invoke/VarHandle" ∧ (parseMethodDescriptor yX7_isSuch.desc).map (fun d => d.parameters.length) = some 1 := by decide +kernel
set_option maxHeartbeats 4000000 in
set_option maxRecDepth 100000 in
theorem k_X7_isSuch {l : Launch} {D : va_G} {ad : Nat → Nat} {cI cW : ClassId} {tK tC : Nat} (hij : inj 83 ad) {k : Nat} (h0 : iWit ad cI cW k) {S0 : (Nat → Nat → Int32)} {a1 : Int32} {r : Int32} (hE : f_X7_isSuch k S0 a1 = some r) {sz : Nat} : Met l yX7_isSuch (wz yX7_isSuch cX7_isSuch 2 (some FieldType.boolean)) rmX7_isSuch (PG 83 ad (ec ad cI cW) D (KC D cI cW) (ZC tK tC) [.ref (ad k), .int a1] S0 sz) (QGi 83 ad (ec ad cI cW) D r S0 sz) 0 0 (AD 83 ad sz) := by
  unfold f_X7_isSuch at hE
  refine g_start (cc := cX7_isSuch) (maxL := 2) (ret := (some FieldType.boolean)) (Qc := fun sz => QGi 83 ad (ec ad cI cW) D r S0 sz) (by decide) rfl (Nat.le_of_ble_eq_true rfl) ?_
  intro p e s m args below meth c H locs ls hx hb hr hts hown hlocks hml hK hZ hP hS hl
  replace hl : lv_has ls 2 [(0, .ref (ad k)), (1, .int a1)] := hl
  obtain ⟨QQ, hQQ⟩ : ∃ q, q = MQ below (QGi 83 ad (ec ad cI cW) D r S0 s.heap.size) args s 0 0 (AD 83 ad s.heap.size) := ⟨_, rfl⟩
  rw [← hQQ]
  refine lv_iload_n hx hb dX7_isSuch_0 rfl (lv_at hl 1 rfl) ?_
  refine lv_if_eq (tgt := 25) hx hb dX7_isSuch_1 (by decide) (fun hc1 => ?_) (fun hc1 => ?_)
  · have hE := st_t hE hc1
    refine lv_iconst (v := 1) hx hb dX7_isSuch_25 (by decide) ?_
    refine lv_goto (tgt := 30) hx hb dX7_isSuch_26 (by decide) ?_
    replace hE := Option.some.inj hE
    subst hQQ
    exact g_zret hx hb hr hlocks hP hS ((by decide : (1 : Int32) &&& 1 = 1).trans hE) rfl dX7_isSuch_30
  · have hE := st_f hE hc1
    refine lv_iload_n hx hb dX7_isSuch_4 rfl (lv_at hl 1 rfl) ?_
    refine lv_aload_n hx hb dX7_isSuch_5 rfl (lv_at hl 0 rfl) ?_
    refine c_get (v := .int (S0 k 2)) hx hb hts (fun w h => wz_m (inX7 w h)) hown hK hP h0.1 rfl 2 (by decide) (hts _ (wz_m tw_1_45)) (fun _ h9 => h9) rfl dX7_isSuch_6 ?_
    refine lv_icmp_eq (tgt := 25) hx hb dX7_isSuch_9 (by decide) (fun hc2 => ?_) (fun hc2 => ?_)
    · have hE := st_t hE hc2
      refine lv_iconst (v := 1) hx hb dX7_isSuch_25 (by decide) ?_
      refine lv_goto (tgt := 30) hx hb dX7_isSuch_26 (by decide) ?_
      replace hE := Option.some.inj hE
      subst hQQ
      exact g_zret hx hb hr hlocks hP hS ((by decide : (1 : Int32) &&& 1 = 1).trans hE) rfl dX7_isSuch_30
    · have hE := st_f hE hc2
      refine lv_iload_n hx hb dX7_isSuch_12 rfl (lv_at hl 1 rfl) ?_
      refine lv_iconst (v := 3) hx hb dX7_isSuch_13 (by decide) ?_
      refine lv_icmp_ne (tgt := 29) hx hb dX7_isSuch_14 (by decide) (fun hc3 => ?_) (fun hc3 => ?_)
      · have hE := st_f hE hc3
        refine lv_iconst (v := 0) hx hb dX7_isSuch_29 (by decide) ?_
        replace hE := Option.some.inj hE
        subst hQQ
        exact g_zret hx hb hr hlocks hP hS ((by decide : (0 : Int32) &&& 1 = 0).trans hE) rfl dX7_isSuch_30
      · have hE := st_t hE hc3
        refine lv_aload_n hx hb dX7_isSuch_17 rfl (lv_at hl 0 rfl) ?_
        refine c_get (v := .int (S0 k 2)) hx hb hts (fun w h => wz_m (inX7 w h)) hown hK hP h0.1 rfl 2 (by decide) (hts _ (wz_m tw_1_45)) (fun _ h9 => h9) rfl dX7_isSuch_18 ?_
        refine lv_iconst (v := 4) hx hb dX7_isSuch_21 (by decide) ?_
        refine lv_icmp_ne (tgt := 29) hx hb dX7_isSuch_22 (by decide) (fun hc4 => ?_) (fun hc4 => ?_)
        · have hE := st_f hE hc4
          refine lv_iconst (v := 0) hx hb dX7_isSuch_29 (by decide) ?_
          replace hE := Option.some.inj hE
          subst hQQ
          exact g_zret hx hb hr hlocks hP hS ((by decide : (0 : Int32) &&& 1 = 0).trans hE) rfl dX7_isSuch_30
        · have hE := st_t hE hc4
          refine lv_iconst (v := 1) hx hb dX7_isSuch_25 (by decide) ?_
          refine lv_goto (tgt := 30) hx hb dX7_isSuch_26 (by decide) ?_
          replace hE := Option.some.inj hE
          subst hQQ
          exact g_zret hx hb hr hlocks hP hS ((by decide : (1 : Int32) &&& 1 = 1).trans hE) rfl dX7_isSuch_30
def f_X9_as (S0 : (Nat → Nat → Int32)) (a1 : Int32) (a2 : Int32) : Option (Int32) :=
  bo (f_X9_isWitness S0 a1) (fun (r1 : Int32) => if r1 = 0 then (some (-101)) else (bo (f_X9_isWithin a2 0 4) (fun (r3 : Int32) => if r3 = 0 then (some (-102)) else (gd (inb a1 5) (bo (f_X7_isSuch (26 + 2 * a1.toNatClampNeg) S0 a2) (fun (r6 : Int32) => if r6 = 0 then (some (-1)) else (some a1)))))))
abbrev rmX9_as : Room := { frames := 2, cells := 0, slots := 0, locals := 43 }
theorem hdV_X9_as : yX9_as.cls = "WitnessWall" ∧ yX9_as.cls ≠ "java/lang/invoke/MethodHandle" ∧ yX9_as.cls ≠ "java/lang/invoke/VarHandle" ∧ (parseMethodDescriptor yX9_as.desc).map (fun d => d.parameters.length) = some 2 := by decide +kernel
set_option maxHeartbeats 4000000 in
set_option maxRecDepth 100000 in
theorem k_X9_as {l : Launch} {D : va_G} {ad : Nat → Nat} {cI cW : ClassId} {tK tC : Nat} (hij : inj 83 ad)  {S0 : (Nat → Nat → Int32)} {a1 : Int32} {a2 : Int32} {r : Int32} (hE : f_X9_as S0 a1 a2 = some r) {sz : Nat} : Met l yX9_as (wz yX9_as cX9_as 3 (some FieldType.int)) rmX9_as (PG 83 ad (ec ad cI cW) D (KC D cI cW) (ZC tK tC) [.ref (ad 0), .int a1, .int a2] S0 sz) (QGi 83 ad (ec ad cI cW) D r S0 sz) 0 0 (AD 83 ad sz) := by
  unfold f_X9_as at hE
  refine g_start (cc := cX9_as) (maxL := 3) (ret := (some FieldType.int)) (Qc := fun sz => QGi 83 ad (ec ad cI cW) D r S0 sz) (by decide) rfl (Nat.le_of_ble_eq_true rfl) ?_
  intro p e s m args below meth c H locs ls hx hb hr hts hown hlocks hml hK hZ hP hS hl
  replace hl : lv_has ls 3 [(0, .ref (ad 0)), (1, .int a1), (2, .int a2)] := hl
  obtain ⟨QQ, hQQ⟩ : ∃ q, q = MQ below (QGi 83 ad (ec ad cI cW) D r S0 s.heap.size) args s 0 0 (AD 83 ad s.heap.size) := ⟨_, rfl⟩
  rw [← hQQ]
  refine lv_aload_n hx hb dX9_as_0 rfl (lv_at hl 0 rfl) ?_
  refine lv_iload_n hx hb dX9_as_1 rfl (lv_at hl 1 rfl) ?_
  obtain ⟨r1, hCr1, hE⟩ := st_bo hE
  refine g_calli (va_runV (As := [.int a1]) (rest := []) ⟨hx, hb, hml, hown, hts⟩ (k_X9_isWitness hij hCr1) (cwV 1 hts (wz_V tw_2_116 tw_2_118 tp_0 tw_1_1 tw_2_119) rfl rfl rfl hdV_X9_isWitness ⟨Nat.le_of_ble_eq_true rfl, Nat.le_of_ble_eq_true rfl⟩) (g_preV KC_st ZC_st hK hZ hP hS hK.1 ((q_WW (ad := ad) (cI := cI) (cW := cW))).1 (ec_o (q_WW (ad := ad) (cI := cI) (cW := cW))) rfl) rfl rfl hl.1 rfl (lv_room (Nat.le_of_ble_eq_true rfl)) dX9_as_2 ⟨Nat.zero_le _, Nat.zero_le _⟩) hS (fun H locs hP hS => ?_)
  refine lv_if_ne (tgt := 11) hx hb dX9_as_5 (by decide) (fun hc2 => ?_) (fun hc2 => ?_)
  · have hE := st_f hE hc2
    refine lv_iload_n hx hb dX9_as_11 rfl (lv_at hl 2 rfl) ?_
    refine lv_iconst (v := 0) hx hb dX9_as_12 (by decide) ?_
    refine lv_iconst (v := 4) hx hb dX9_as_13 (by decide) ?_
    obtain ⟨r3, hCr3, hE⟩ := st_bo hE
    refine g_calli (va_runS (As := [.int a2, .int 0, .int 4]) (rest := []) ⟨hx, hb, hml, hown, hts⟩ (k_X9_isWithin hij (S0 := S0) hCr3) (va_cwS 3 hts (wz_S tw_2_1 tw_2_2 tw_1_1 tw_2_3) rfl rfl rfl hdS_X9_isWithin ⟨Nat.le_of_ble_eq_true rfl, Nat.le_of_ble_eq_true rfl⟩) (g_preS KC_st ZC_st hK hZ hP hS) rfl rfl hl.1 rfl (lv_room (Nat.le_of_ble_eq_true rfl)) dX9_as_14 ⟨Nat.zero_le _, Nat.zero_le _⟩) hS (fun H locs hP hS => ?_)
    refine lv_if_ne (tgt := 23) hx hb dX9_as_17 (by decide) (fun hc4 => ?_) (fun hc4 => ?_)
    · have hE := st_f hE hc4
      refine lv_aload_n hx hb dX9_as_23 rfl (lv_at hl 0 rfl) ?_
      refine c_get (v := .ref (ad 22)) hx hb hts (fun w h => wz_m (inX9 w h)) hown hK hP (q_WW (ad := ad) (cI := cI) (cW := cW)) rfl 2 (by decide) (hts _ (wz_m tw_1_211)) (fun _ h9 => h9) rfl dX9_as_24 ?_
      refine c_getN (v := .ref (ad 23)) hx hb hts (fun w h => wz_m (inX3 w h)) hown hK hP (q_Scene_22 (ad := ad) (cI := cI) (cW := cW)).1 rfl 0 (by decide) (List.mem_of_getElem? (i := 29) rfl) (fun _ h9 => h9) rfl dX9_as_27 ?_
      refine c_getN (v := .ref (ad 24)) hx hb hts (fun w h => wz_m (inX1 w h)) hown hK hP (q_Hall_23 (ad := ad) (cI := cI) (cW := cW)).1 rfl 0 (by decide) (List.mem_of_getElem? (i := 6) rfl) (fun _ h9 => h9) rfl dX9_as_30 ?_
      refine lv_iload_n hx hb dX9_as_33 rfl (lv_at hl 1 rfl) ?_
      obtain ⟨hi5, hE⟩ := st_gd hE
      refine c_aald hx hb hK hP (q_Hall_23 (ad := ad) (cI := cI) (cW := cW)).2.1 hi5 dX9_as_34 ?_
      refine lv_iload_n hx hb dX9_as_35 rfl (lv_at hl 2 rfl) ?_
      obtain ⟨r6, hCr6, hE⟩ := st_bo hE
      refine g_calli (va_runV (As := [.int a2]) (rest := []) ⟨hx, hb, hml, hown, hts⟩ (k_X7_isSuch hij ((q_Hall_23 (ad := ad) (cI := cI) (cW := cW)).2.2.2 _ (st_lt hi5)) hCr6) (cwV 1 hts (wz_V tw_2_158 tw_2_159 tw_2_160 tw_1_4 tw_2_161) rfl rfl rfl hdV_X7_isSuch ⟨Nat.le_of_ble_eq_true rfl, Nat.le_of_ble_eq_true rfl⟩) (g_preV KC_st ZC_st hK hZ hP hS hK.1 (((q_Hall_23 (ad := ad) (cI := cI) (cW := cW)).2.2.2 _ (st_lt hi5)).1).1 (ec_o ((q_Hall_23 (ad := ad) (cI := cI) (cW := cW)).2.2.2 _ (st_lt hi5)).1) rfl) rfl rfl hl.1 rfl (lv_room (Nat.le_of_ble_eq_true rfl)) dX9_as_36 ⟨Nat.zero_le _, Nat.zero_le _⟩) hS (fun H locs hP hS => ?_)
      refine lv_if_eq (tgt := 46) hx hb dX9_as_39 (by decide) (fun hc7 => ?_) (fun hc7 => ?_)
      · have hE := st_t hE hc7
        refine lv_iconst (v := (-1)) hx hb dX9_as_46 (by decide) ?_
        replace hE := Option.some.inj hE
        subst hQQ
        exact g_iret hx hb hr hlocks hP hS hE rfl dX9_as_47
      · have hE := st_f hE hc7
        refine lv_iload_n hx hb dX9_as_42 rfl (lv_at hl 1 rfl) ?_
        refine lv_goto (tgt := 47) hx hb dX9_as_43 (by decide) ?_
        replace hE := Option.some.inj hE
        subst hQQ
        exact g_iret hx hb hr hlocks hP hS hE rfl dX9_as_47
    · have hE := st_t hE hc4
      refine lv_bipush (v := (-102)) hx hb dX9_as_20 (by decide) ?_
      replace hE := Option.some.inj hE
      subst hQQ
      exact g_iret hx hb hr hlocks hP hS hE rfl dX9_as_22
  · have hE := st_t hE hc2
    refine lv_bipush (v := (-101)) hx hb dX9_as_8 (by decide) ?_
    replace hE := Option.some.inj hE
    subst hQQ
    exact g_iret hx hb hr hlocks hP hS hE rfl dX9_as_10
def f_X9_be (S0 : (Nat → Nat → Int32)) (a1 : Int32) (a2 : Int32) : Option (Int32 × (Nat → Nat → Int32)) :=
  bo (f_X9_isWitness S0 a1) (fun (r1 : Int32) => if r1 = 0 then (some ((-101), S0)) else (bo (f_X9_isWithin a2 0 4) (fun (r3 : Int32) => if r3 = 0 then (some ((-102), S0)) else (gd (inb a1 5) (bv (S0 (26 + 2 * a1.toNatClampNeg) 2) (fun (v6 : Int32) => bv (up2 S0 (26 + 2 * a1.toNatClampNeg) 2 a2) (fun S7 => some (v6, S7))))))))
abbrev rmX9_be : Room := { frames := 2, cells := 0, slots := 0, locals := 43 }
theorem hdV_X9_be : yX9_be.cls = "WitnessWall" ∧ yX9_be.cls ≠ "java/lang/invoke/MethodHandle" ∧ yX9_be.cls ≠ "java/lang/invoke/VarHandle" ∧ (parseMethodDescriptor yX9_be.desc).map (fun d => d.parameters.length) = some 2 := by decide +kernel
set_option maxHeartbeats 4000000 in
set_option maxRecDepth 100000 in
theorem k_X9_be {l : Launch} {D : va_G} {ad : Nat → Nat} {cI cW : ClassId} {tK tC : Nat} (hij : inj 83 ad)  {S0 : (Nat → Nat → Int32)} {a1 : Int32} {a2 : Int32} {r : Int32} {Sr : (Nat → Nat → Int32)} (hE : f_X9_be S0 a1 a2 = some (r, Sr)) {sz : Nat} : Met l yX9_be (wz yX9_be cX9_be 5 (some FieldType.int)) rmX9_be (PG 83 ad (ec ad cI cW) D (KC D cI cW) (ZC tK tC) [.ref (ad 0), .int a1, .int a2] S0 sz) (QGi 83 ad (ec ad cI cW) D r Sr sz) 0 0 (AD 83 ad sz) := by
  unfold f_X9_be at hE
  refine g_start (cc := cX9_be) (maxL := 5) (ret := (some FieldType.int)) (Qc := fun sz => QGi 83 ad (ec ad cI cW) D r Sr sz) (by decide) rfl (Nat.le_of_ble_eq_true rfl) ?_
  intro p e s m args below meth c H locs ls hx hb hr hts hown hlocks hml hK hZ hP hS hl
  replace hl : lv_has ls 5 [(0, .ref (ad 0)), (1, .int a1), (2, .int a2)] := hl
  obtain ⟨QQ, hQQ⟩ : ∃ q, q = MQ below (QGi 83 ad (ec ad cI cW) D r Sr s.heap.size) args s 0 0 (AD 83 ad s.heap.size) := ⟨_, rfl⟩
  rw [← hQQ]
  refine lv_aload_n hx hb dX9_be_0 rfl (lv_at hl 0 rfl) ?_
  refine lv_iload_n hx hb dX9_be_1 rfl (lv_at hl 1 rfl) ?_
  obtain ⟨r1, hCr1, hE⟩ := st_bo hE
  refine g_calli (va_runV (As := [.int a1]) (rest := []) ⟨hx, hb, hml, hown, hts⟩ (k_X9_isWitness hij hCr1) (cwV 1 hts (wz_V tw_2_116 tw_2_118 tp_0 tw_1_1 tw_2_119) rfl rfl rfl hdV_X9_isWitness ⟨Nat.le_of_ble_eq_true rfl, Nat.le_of_ble_eq_true rfl⟩) (g_preV KC_st ZC_st hK hZ hP hS hK.1 ((q_WW (ad := ad) (cI := cI) (cW := cW))).1 (ec_o (q_WW (ad := ad) (cI := cI) (cW := cW))) rfl) rfl rfl hl.1 rfl (lv_room (Nat.le_of_ble_eq_true rfl)) dX9_be_2 ⟨Nat.zero_le _, Nat.zero_le _⟩) hS (fun H locs hP hS => ?_)
  refine lv_if_ne (tgt := 11) hx hb dX9_be_5 (by decide) (fun hc2 => ?_) (fun hc2 => ?_)
  · have hE := st_f hE hc2
    refine lv_iload_n hx hb dX9_be_11 rfl (lv_at hl 2 rfl) ?_
    refine lv_iconst (v := 0) hx hb dX9_be_12 (by decide) ?_
    refine lv_iconst (v := 4) hx hb dX9_be_13 (by decide) ?_
    obtain ⟨r3, hCr3, hE⟩ := st_bo hE
    refine g_calli (va_runS (As := [.int a2, .int 0, .int 4]) (rest := []) ⟨hx, hb, hml, hown, hts⟩ (k_X9_isWithin hij (S0 := S0) hCr3) (va_cwS 3 hts (wz_S tw_2_1 tw_2_2 tw_1_1 tw_2_3) rfl rfl rfl hdS_X9_isWithin ⟨Nat.le_of_ble_eq_true rfl, Nat.le_of_ble_eq_true rfl⟩) (g_preS KC_st ZC_st hK hZ hP hS) rfl rfl hl.1 rfl (lv_room (Nat.le_of_ble_eq_true rfl)) dX9_be_14 ⟨Nat.zero_le _, Nat.zero_le _⟩) hS (fun H locs hP hS => ?_)
    refine lv_if_ne (tgt := 23) hx hb dX9_be_17 (by decide) (fun hc4 => ?_) (fun hc4 => ?_)
    · have hE := st_f hE hc4
      refine lv_aload_n hx hb dX9_be_23 rfl (lv_at hl 0 rfl) ?_
      refine c_get (v := .ref (ad 22)) hx hb hts (fun w h => wz_m (inX9 w h)) hown hK hP (q_WW (ad := ad) (cI := cI) (cW := cW)) rfl 2 (by decide) (hts _ (wz_m tw_1_211)) (fun _ h9 => h9) rfl dX9_be_24 ?_
      refine c_getN (v := .ref (ad 23)) hx hb hts (fun w h => wz_m (inX3 w h)) hown hK hP (q_Scene_22 (ad := ad) (cI := cI) (cW := cW)).1 rfl 0 (by decide) (List.mem_of_getElem? (i := 29) rfl) (fun _ h9 => h9) rfl dX9_be_27 ?_
      refine c_getN (v := .ref (ad 24)) hx hb hts (fun w h => wz_m (inX1 w h)) hown hK hP (q_Hall_23 (ad := ad) (cI := cI) (cW := cW)).1 rfl 0 (by decide) (List.mem_of_getElem? (i := 6) rfl) (fun _ h9 => h9) rfl dX9_be_30 ?_
      refine lv_iload_n hx hb dX9_be_33 rfl (lv_at hl 1 rfl) ?_
      obtain ⟨hi5, hE⟩ := st_gd hE
      refine c_aald hx hb hK hP (q_Hall_23 (ad := ad) (cI := cI) (cW := cW)).2.1 hi5 dX9_be_34 ?_
      refine lv_astore_n (lv' := [(3, .ref (ad (26 + 2 * a1.toNatClampNeg))), (0, .ref (ad 0)), (1, .int a1), (2, .int a2)]) hx hb dX9_be_35 rfl hl (by decide) rfl (fun ls hl => ?_)
      refine lv_aload_n hx hb dX9_be_36 rfl (lv_at hl 0 rfl) ?_
      refine c_getN (v := .int (S0 (26 + 2 * a1.toNatClampNeg) 2)) hx hb hts (fun w h => wz_m (inX7 w h)) hown hK hP ((q_Hall_23 (ad := ad) (cI := cI) (cW := cW)).2.2.2 _ (st_lt hi5)).1 rfl 2 (by decide) (List.mem_of_getElem? (i := 4) rfl) (fun _ h9 => h9) rfl dX9_be_37 ?_
      obtain ⟨v6, ev6, hE⟩ := st_bv hE
      refine nm_i ev6 ?_
      refine lv_istore (lv' := [(4, .int v6), (3, .ref (ad (26 + 2 * a1.toNatClampNeg))), (0, .ref (ad 0)), (1, .int a1), (2, .int a2)]) hx hb dX9_be_40 hl (by decide) rfl (fun ls hl => ?_)
      refine lv_aload_n hx hb dX9_be_42 rfl (lv_at hl 1 rfl) ?_
      refine lv_iload_n hx hb dX9_be_43 rfl (lv_at hl 4 rfl) ?_
      refine c_putN hij hx hb hts (fun w h => wz_m (inX7 w h)) tyX7 tyX7_ok nmX7 hown hK hP hS ((q_Hall_23 (ad := ad) (cI := cI) (cW := cW)).2.2.2 _ (st_lt hi5)).1 rfl 2 (by decide) (List.mem_of_getElem? (i := 4) rfl) (fun _ h9 => h9) rfl rfl rfl (fun _ => Nat.le_of_ble_eq_true rfl) (fun _ => rfl) dX9_be_44 (fun H locs hP hS => ?_)
      obtain ⟨S7, eS7, hE⟩ := st_bv hE
      rw [← eS7] at hP
      refine lv_iload hx hb dX9_be_47 (lv_at hl 0 rfl) ?_
      replace hE := Option.some.inj hE
      have hq := Prod.mk.inj hE
      subst hQQ
      exact g_iret hx hb hr hlocks hP hS hq.1 hq.2 dX9_be_49
    · have hE := st_t hE hc4
      refine lv_bipush (v := (-102)) hx hb dX9_be_20 (by decide) ?_
      replace hE := Option.some.inj hE
      have hq := Prod.mk.inj hE
      subst hQQ
      exact g_iret hx hb hr hlocks hP hS hq.1 hq.2 dX9_be_22
  · have hE := st_t hE hc2
    refine lv_bipush (v := (-101)) hx hb dX9_be_8 (by decide) ?_
    replace hE := Option.some.inj hE
    have hq := Prod.mk.inj hE
    subst hQQ
    exact g_iret hx hb hr hlocks hP hS hq.1 hq.2 dX9_be_10
def f_X9_blank (S0 : (Nat → Nat → Int32)) : Option (Int32 × (Nat → Nat → Int32)) :=
  bv (S0 1 3) (fun (v1 : Int32) => bv (up2 S0 1 3 0) (fun S2 => some (v1, S2)))
abbrev rmX9_blank : Room := { frames := 0, cells := 0, slots := 0, locals := 0 }
theorem hdV_X9_blank : yX9_blank.cls = "WitnessWall" ∧ yX9_blank.cls ≠ "java/lang/invoke/MethodHandle" ∧ yX9_blank.cls ≠ "java/lang/invoke/VarHandle" ∧ (parseMethodDescriptor yX9_blank.desc).map (fun d => d.parameters.length) = some 0 := by decide +kernel
set_option maxHeartbeats 4000000 in
set_option maxRecDepth 100000 in
theorem k_X9_blank {l : Launch} {D : va_G} {ad : Nat → Nat} {cI cW : ClassId} {tK tC : Nat} (hij : inj 83 ad)  {S0 : (Nat → Nat → Int32)} {r : Int32} {Sr : (Nat → Nat → Int32)} (hE : f_X9_blank S0 = some (r, Sr)) {sz : Nat} : Met l yX9_blank (wz yX9_blank cX9_blank 2 (some FieldType.int)) rmX9_blank (PG 83 ad (ec ad cI cW) D (KC D cI cW) (ZC tK tC) [.ref (ad 0)] S0 sz) (QGi 83 ad (ec ad cI cW) D r Sr sz) 0 0 (AD 83 ad sz) := by
  unfold f_X9_blank at hE
  refine g_start (cc := cX9_blank) (maxL := 2) (ret := (some FieldType.int)) (Qc := fun sz => QGi 83 ad (ec ad cI cW) D r Sr sz) (by decide) rfl (Nat.le_of_ble_eq_true rfl) ?_
  intro p e s m args below meth c H locs ls hx hb hr hts hown hlocks hml hK hZ hP hS hl
  replace hl : lv_has ls 2 [(0, .ref (ad 0))] := hl
  obtain ⟨QQ, hQQ⟩ : ∃ q, q = MQ below (QGi 83 ad (ec ad cI cW) D r Sr s.heap.size) args s 0 0 (AD 83 ad s.heap.size) := ⟨_, rfl⟩
  rw [← hQQ]
  refine lv_aload_n hx hb dX9_blank_0 rfl (lv_at hl 0 rfl) ?_
  refine c_get (v := .ref (ad 1)) hx hb hts (fun w h => wz_m (inX9 w h)) hown hK hP (q_WW (ad := ad) (cI := cI) (cW := cW)) rfl 0 (by decide) (hts _ (wz_m tw_1_209)) (fun _ h9 => h9) rfl dX9_blank_1 ?_
  refine c_getN (v := .int (S0 1 3)) hx hb hts (fun w h => wz_m (inX2 w h)) hown hK hP (q_Page_1 (ad := ad) (cI := cI) (cW := cW)).1 rfl 3 (by decide) (List.mem_of_getElem? (i := 20) rfl) (fun _ h9 => h9) rfl dX9_blank_4 ?_
  obtain ⟨v1, ev1, hE⟩ := st_bv hE
  refine nm_i ev1 ?_
  refine lv_istore_n (lv' := [(1, .int v1), (0, .ref (ad 0))]) hx hb dX9_blank_7 rfl hl (by decide) rfl (fun ls hl => ?_)
  refine lv_aload_n hx hb dX9_blank_8 rfl (lv_at hl 1 rfl) ?_
  refine c_get (v := .ref (ad 1)) hx hb hts (fun w h => wz_m (inX9 w h)) hown hK hP (q_WW (ad := ad) (cI := cI) (cW := cW)) rfl 0 (by decide) (hts _ (wz_m tw_1_209)) (fun _ h9 => h9) rfl dX9_blank_9 ?_
  refine lv_iconst (v := 0) hx hb dX9_blank_12 (by decide) ?_
  refine c_putN hij hx hb hts (fun w h => wz_m (inX2 w h)) tyX2 tyX2_ok nmX2 hown hK hP hS (q_Page_1 (ad := ad) (cI := cI) (cW := cW)).1 rfl 3 (by decide) (List.mem_of_getElem? (i := 20) rfl) (fun _ h9 => h9) rfl rfl rfl (fun _ => Nat.le_of_ble_eq_true rfl) (fun _ => rfl) dX9_blank_13 (fun H locs hP hS => ?_)
  obtain ⟨S2, eS2, hE⟩ := st_bv hE
  rw [← eS2] at hP
  refine lv_iload_n hx hb dX9_blank_16 rfl (lv_at hl 0 rfl) ?_
  replace hE := Option.some.inj hE
  have hq := Prod.mk.inj hE
  subst hQQ
  exact g_iret hx hb hr hlocks hP hS hq.1 hq.2 dX9_blank_17
def b_X9_commonMeasure_7 (c4 : Int32) (c5 : Int32) (c6 : Int32) : Option ((Int32 × Int32 × Int32) ⊕ (Int32)) :=
  if 64 ≤ c6 then (some (.inr c4)) else (if c5 = 0 then (some (.inr c4)) else (gd (nz c5) (bv (c4 - c4 / c5 * c5) (fun (v10 : Int32) => bv (c6 + 1) (fun (v11 : Int32) => some (.inl (c5, v10, v11)))))))
def f_X9_commonMeasure (a1 : Int32) (a2 : Int32) : Option (Int32) :=
  bo (lp (fun (s1 : Int32 × Int32 × Int32) => b_X9_commonMeasure_7 s1.1 s1.2.1 s1.2.2) 5000 (a1, a2, 0)) (fun (x2 : Int32) => some x2)
abbrev rmX9_commonMeasure : Room := { frames := 0, cells := 0, slots := 0, locals := 0 }
theorem hdS_X9_commonMeasure : yX9_commonMeasure.cls ≠ "java/lang/invoke/MethodHandle" ∧ yX9_commonMeasure.cls ≠ "java/lang/invoke/VarHandle" ∧ (parseMethodDescriptor yX9_commonMeasure.desc).map (fun d => d.parameters.length) = some 2 := by decide +kernel
set_option maxHeartbeats 4000000 in
set_option maxRecDepth 100000 in
theorem k_X9_commonMeasure {l : Launch} {D : va_G} {ad : Nat → Nat} {cI cW : ClassId} {tK tC : Nat} (hij : inj 83 ad)  {S0 : (Nat → Nat → Int32)} {a1 : Int32} {a2 : Int32} {r : Int32} (hE : f_X9_commonMeasure a1 a2 = some r) {sz : Nat} : Met l yX9_commonMeasure (wz yX9_commonMeasure cX9_commonMeasure 6 (some FieldType.int)) rmX9_commonMeasure (PG 83 ad (ec ad cI cW) D (KC D cI cW) (ZC tK tC) [.int a1, .int a2] S0 sz) (QGi 83 ad (ec ad cI cW) D r S0 sz) 0 0 (AD 83 ad sz) := by
  unfold f_X9_commonMeasure at hE
  refine g_start (cc := cX9_commonMeasure) (maxL := 6) (ret := (some FieldType.int)) (Qc := fun sz => QGi 83 ad (ec ad cI cW) D r S0 sz) (by decide) rfl (Nat.le_of_ble_eq_true rfl) ?_
  intro p e s m args below meth c H locs ls hx hb hr hts hown hlocks hml hK hZ hP hS hl
  replace hl : lv_has ls 6 [(0, .int a1), (1, .int a2)] := hl
  obtain ⟨QQ, hQQ⟩ : ∃ q, q = MQ below (QGi 83 ad (ec ad cI cW) D r S0 s.heap.size) args s 0 0 (AD 83 ad s.heap.size) := ⟨_, rfl⟩
  rw [← hQQ]
  refine lv_iload_n hx hb dX9_commonMeasure_0 rfl (lv_at hl 0 rfl) ?_
  refine lv_istore_n (lv' := [(2, .int a1), (0, .int a1), (1, .int a2)]) hx hb dX9_commonMeasure_1 rfl hl (by decide) rfl (fun ls hl => ?_)
  refine lv_iload_n hx hb dX9_commonMeasure_2 rfl (lv_at hl 2 rfl) ?_
  refine lv_istore_n (lv' := [(3, .int a2), (2, .int a1), (0, .int a1), (1, .int a2)]) hx hb dX9_commonMeasure_3 rfl hl (by decide) rfl (fun ls hl => ?_)
  refine lv_iconst (v := 0) hx hb dX9_commonMeasure_4 (by decide) ?_
  refine lv_istore (lv' := [(4, .int 0), (3, .int a2), (2, .int a1), (0, .int a1), (1, .int a2)]) hx hb dX9_commonMeasure_5 hl (by decide) rfl (fun ls hl => ?_)
  obtain ⟨x2, hx2, hE⟩ := st_bo hE
  refine lp_walk (body := fun (s1 : Int32 × Int32 × Int32) => b_X9_commonMeasure_7 s1.1 s1.2.1 s1.2.2) (fun s1 => ∀ (ls : Array Slot) (H : Heap) (locs : List Loc), lv_has ls 6 [(2, .int s1.1), (3, .int s1.2.1), (4, .int s1.2.2)] → cP D ad cI cW S0 H → cS ad s H locs → W p l e rmX9_commonMeasure s m args below meth c H locs 0 0 QQ (F0 m 7 ls [])) (fun x2 => ∀ (ls : Array Slot) (H : Heap) (locs : List Loc), lv_has ls 6 [(2, .int x2)] → cP D ad cI cW S0 H → cS ad s H locs → W p l e rmX9_commonMeasure s m args below meth c H locs 0 0 QQ (F0 m 34 ls [])) ?_ _ _ _ hx2 ?_ ls H locs (lv_sub hl [2, 1, 0] rfl) hP hS
  · intro s1 t3 hE hKt3 ls H locs hl hP hS
    obtain ⟨c4, c5, c6⟩ := s1
    replace hE : b_X9_commonMeasure_7 c4 c5 c6 = some t3 := hE
    replace hl : lv_has ls 6 [(2, .int c4), (3, .int c5), (4, .int c6)] := hl
    replace hP : cP D ad cI cW S0 H := hP
    unfold b_X9_commonMeasure_7 at hE
    refine lv_iload hx hb dX9_commonMeasure_7 (lv_at hl 2 rfl) ?_
    refine lv_bipush (v := 64) hx hb dX9_commonMeasure_9 (by decide) ?_
    refine lv_icmp_ge (tgt := 34) hx hb dX9_commonMeasure_11 (by decide) (fun hc7 => ?_) (fun hc7 => ?_)
    · have hE := st_t hE hc7
      have hq := Option.some.inj hE
      subst hq
      exact hKt3 ls H locs (lv_sub hl [0] rfl) hP hS
    · have hE := st_f hE hc7
      refine lv_iload_n hx hb dX9_commonMeasure_14 rfl (lv_at hl 1 rfl) ?_
      refine lv_if_eq (tgt := 34) hx hb dX9_commonMeasure_15 (by decide) (fun hc8 => ?_) (fun hc8 => ?_)
      · have hE := st_t hE hc8
        have hq := Option.some.inj hE
        subst hq
        exact hKt3 ls H locs (lv_sub hl [0] rfl) hP hS
      · have hE := st_f hE hc8
        refine lv_iload_n hx hb dX9_commonMeasure_18 rfl (lv_at hl 0 rfl) ?_
        refine lv_iload_n hx hb dX9_commonMeasure_19 rfl (lv_at hl 1 rfl) ?_
        obtain ⟨hn9, hE⟩ := st_gd hE
        refine lv_irem hx hb dX9_commonMeasure_20 (st_nz hn9) ?_
        obtain ⟨v10, ev10, hE⟩ := st_bv hE
        refine nm_i ev10 ?_
        refine lv_istore (lv' := [(5, .int v10), (2, .int c4), (3, .int c5), (4, .int c6)]) hx hb dX9_commonMeasure_21 hl (by decide) rfl (fun ls hl => ?_)
        refine lv_iload_n hx hb dX9_commonMeasure_23 rfl (lv_at hl 2 rfl) ?_
        refine lv_istore_n (lv' := [(2, .int c5), (5, .int v10), (3, .int c5), (4, .int c6)]) hx hb dX9_commonMeasure_24 rfl hl (by decide) rfl (fun ls hl => ?_)
        refine lv_iload hx hb dX9_commonMeasure_25 (lv_at hl 1 rfl) ?_
        refine lv_istore_n (lv' := [(3, .int v10), (2, .int c5), (5, .int v10), (4, .int c6)]) hx hb dX9_commonMeasure_27 rfl hl (by decide) rfl (fun ls hl => ?_)
        obtain ⟨v11, ev11, hE⟩ := st_bv hE
        refine lv_iinc (v := v11) (lv' := [(4, .int v11), (3, .int v10), (2, .int c5), (5, .int v10)]) hx hb dX9_commonMeasure_28 hl (k := 3) rfl (by rw [ev11]; rfl) (by decide) rfl (fun ls hl => ?_)
        refine lv_goto (tgt := 7) hx hb dX9_commonMeasure_31 (by decide) ?_
        have hq := Option.some.inj hE
        subst hq
        exact hKt3 ls H locs (lv_sub hl [2, 1, 0] rfl) hP hS
  · intro ls H locs hl hP hS
    refine lv_iload_n hx hb dX9_commonMeasure_34 rfl (lv_at hl 0 rfl) ?_
    replace hE := Option.some.inj hE
    subst hQQ
    exact g_iret hx hb hr hlocks hP hS hE rfl dX9_commonMeasure_35
def b_X7_hasSight_2 (k : Nat) (S0 : (Nat → Nat → Int32)) (a1 : Int32) (c4 : Int32) : Option ((Int32) ⊕ ((Unit) ⊕ (Int32))) :=
  if (S0 k 1) ≤ c4 then (some (.inr (.inl ()))) else (gd (inb c4 3) (if (S0 (k + 1) (c4.toNatClampNeg)) = a1 then (some (.inr (.inr 1))) else (bv (c4 + 1) (fun (v8 : Int32) => some (.inl v8)))))
def f_X7_hasSight (k : Nat) (S0 : (Nat → Nat → Int32)) (a1 : Int32) : Option (Int32) :=
  bo (lp (fun (s1 : Int32) => b_X7_hasSight_2 k S0 a1 s1) 5000 0) (fun (x2 : (Unit) ⊕ (Int32)) => Sum.elim (fun (x2 : Unit) => some 0) (fun (x2 : Int32) => some x2) x2)
abbrev rmX7_hasSight : Room := { frames := 0, cells := 0, slots := 0, locals := 0 }
theorem hdV_X7_hasSight : yX7_hasSight.cls = "WitnessWall$Witness" ∧ yX7_hasSight.cls ≠ "java/lang/invoke/MethodHandle" ∧ yX7_hasSight.cls ≠ "java/lang/invoke/VarHandle" ∧ (parseMethodDescriptor yX7_hasSight.desc).map (fun d => d.parameters.length) = some 1 := by decide +kernel
set_option maxHeartbeats 4000000 in
set_option maxRecDepth 100000 in
theorem k_X7_hasSight {l : Launch} {D : va_G} {ad : Nat → Nat} {cI cW : ClassId} {tK tC : Nat} (hij : inj 83 ad) {k : Nat} (h0 : iWit ad cI cW k) {S0 : (Nat → Nat → Int32)} {a1 : Int32} {r : Int32} (hE : f_X7_hasSight k S0 a1 = some r) {sz : Nat} : Met l yX7_hasSight (wz yX7_hasSight cX7_hasSight 3 (some FieldType.boolean)) rmX7_hasSight (PG 83 ad (ec ad cI cW) D (KC D cI cW) (ZC tK tC) [.ref (ad k), .int a1] S0 sz) (QGi 83 ad (ec ad cI cW) D r S0 sz) 0 0 (AD 83 ad sz) := by
  unfold f_X7_hasSight at hE
  refine g_start (cc := cX7_hasSight) (maxL := 3) (ret := (some FieldType.boolean)) (Qc := fun sz => QGi 83 ad (ec ad cI cW) D r S0 sz) (by decide) rfl (Nat.le_of_ble_eq_true rfl) ?_
  intro p e s m args below meth c H locs ls hx hb hr hts hown hlocks hml hK hZ hP hS hl
  replace hl : lv_has ls 3 [(0, .ref (ad k)), (1, .int a1)] := hl
  obtain ⟨QQ, hQQ⟩ : ∃ q, q = MQ below (QGi 83 ad (ec ad cI cW) D r S0 s.heap.size) args s 0 0 (AD 83 ad s.heap.size) := ⟨_, rfl⟩
  rw [← hQQ]
  refine lv_iconst (v := 0) hx hb dX7_hasSight_0 (by decide) ?_
  refine lv_istore_n (lv' := [(2, .int 0), (0, .ref (ad k)), (1, .int a1)]) hx hb dX7_hasSight_1 rfl hl (by decide) rfl (fun ls hl => ?_)
  obtain ⟨x2, hx2, hE⟩ := st_bo hE
  refine lp_walk (body := fun (s1 : Int32) => b_X7_hasSight_2 k S0 a1 s1) (fun s1 => ∀ (ls : Array Slot) (H : Heap) (locs : List Loc), lv_has ls 3 [(0, .ref (ad k)), (1, .int a1), (2, .int s1)] → cP D ad cI cW S0 H → cS ad s H locs → W p l e rmX7_hasSight s m args below meth c H locs 0 0 QQ (F0 m 2 ls [])) (fun x2 => Sum.elim (fun x2 => ∀ (ls : Array Slot) (H : Heap) (locs : List Loc), lv_has ls 3 [] → cP D ad cI cW S0 H → cS ad s H locs → W p l e rmX7_hasSight s m args below meth c H locs 0 0 QQ (F0 m 28 ls [])) (fun x2 => x2 = r) x2) ?_ _ _ _ hx2 ?_ ls H locs (lv_sub hl [1, 2, 0] rfl) hP hS
  · intro s1 t3 hE hKt3 ls H locs hl hP hS
    obtain ⟨c4, ec4⟩ : ∃ z, z = s1 := ⟨_, rfl⟩
    subst ec4
    replace hE : b_X7_hasSight_2 k S0 a1 c4 = some t3 := hE
    replace hl : lv_has ls 3 [(0, .ref (ad k)), (1, .int a1), (2, .int c4)] := hl
    replace hP : cP D ad cI cW S0 H := hP
    unfold b_X7_hasSight_2 at hE
    refine lv_iload_n hx hb dX7_hasSight_2 rfl (lv_at hl 2 rfl) ?_
    refine lv_aload_n hx hb dX7_hasSight_3 rfl (lv_at hl 0 rfl) ?_
    refine c_get (v := .int (S0 k 1)) hx hb hts (fun w h => wz_m (inX7 w h)) hown hK hP h0.1 rfl 1 (by decide) (hts _ (wz_m tw_1_42)) (fun _ h9 => h9) rfl dX7_hasSight_4 ?_
    refine lv_icmp_ge (tgt := 28) hx hb dX7_hasSight_7 (by decide) (fun hc5 => ?_) (fun hc5 => ?_)
    · have hE := st_t hE hc5
      have hq := Option.some.inj hE
      subst hq
      exact hKt3 ls H locs (lv_sub hl [] rfl) hP hS
    · have hE := st_f hE hc5
      refine lv_aload_n hx hb dX7_hasSight_10 rfl (lv_at hl 0 rfl) ?_
      refine c_get (v := .ref (ad (k + 1))) hx hb hts (fun w h => wz_m (inX7 w h)) hown hK hP h0.1 rfl 0 (by decide) (hts _ (wz_m tw_1_41)) (fun _ h9 => h9) rfl dX7_hasSight_11 ?_
      refine lv_iload_n hx hb dX7_hasSight_14 rfl (lv_at hl 2 rfl) ?_
      obtain ⟨hi6, hE⟩ := st_gd hE
      refine c_iald hx hb hK hP h0.2 hi6 dX7_hasSight_15 ?_
      refine lv_iload_n hx hb dX7_hasSight_16 rfl (lv_at hl 1 rfl) ?_
      refine lv_icmp_ne (tgt := 22) hx hb dX7_hasSight_17 (by decide) (fun hc7 => ?_) (fun hc7 => ?_)
      · have hE := st_f hE hc7
        obtain ⟨v8, ev8, hE⟩ := st_bv hE
        refine lv_iinc (v := v8) (lv' := [(2, .int v8), (0, .ref (ad k)), (1, .int a1)]) hx hb dX7_hasSight_22 hl (k := 2) rfl (by rw [ev8]; rfl) (by decide) rfl (fun ls hl => ?_)
        refine lv_goto (tgt := 2) hx hb dX7_hasSight_25 (by decide) ?_
        have hq := Option.some.inj hE
        subst hq
        exact hKt3 ls H locs (lv_sub hl [1, 2, 0] rfl) hP hS
      · have hE := st_t hE hc7
        refine lv_iconst (v := 1) hx hb dX7_hasSight_20 (by decide) ?_
        have hq := Option.some.inj hE
        subst hq
        replace hE : 1 = r := hKt3
        subst hQQ
        exact g_zret hx hb hr hlocks hP hS ((by decide : (1 : Int32) &&& 1 = 1).trans hE) rfl dX7_hasSight_21
  · rcases x2 with x2 | x2
    · replace hE := st_el hE
      intro ls H locs hl hP hS
      refine lv_iconst (v := 0) hx hb dX7_hasSight_28 (by decide) ?_
      replace hE := Option.some.inj hE
      subst hQQ
      exact g_zret hx hb hr hlocks hP hS ((by decide : (0 : Int32) &&& 1 = 0).trans hE) rfl dX7_hasSight_29
    · replace hE := st_er hE
      exact Option.some.inj hE
def b_X1_havingSight_4 (k : Nat) (S0 : (Nat → Nat → Int32)) (a1 : Int32) (c4 : Int32) (c5 : Int32) : Option ((Int32 × Int32) ⊕ (Int32)) :=
  if (S0 k 2) ≤ c5 then (some (.inr c4)) else (gd (inb c5 5) (bo (f_X7_hasSight (k + 3 + 2 * c5.toNatClampNeg) S0 a1) (fun (r8 : Int32) => if r8 = 0 then (bv (c5 + 1) (fun (v10 : Int32) => some (.inl (c4, v10)))) else (bv (c4 + 1) (fun (v11 : Int32) => bv (c5 + 1) (fun (v12 : Int32) => some (.inl (v11, v12))))))))
def f_X1_havingSight (k : Nat) (S0 : (Nat → Nat → Int32)) (a1 : Int32) : Option (Int32) :=
  bo (lp (fun (s1 : Int32 × Int32) => b_X1_havingSight_4 k S0 a1 s1.1 s1.2) 5000 (0, 0)) (fun (x2 : Int32) => some x2)
abbrev rmX1_havingSight : Room := { frames := 1, cells := 0, slots := 0, locals := 22 }
theorem hdV_X1_havingSight : yX1_havingSight.cls = "WitnessWall$Hall" ∧ yX1_havingSight.cls ≠ "java/lang/invoke/MethodHandle" ∧ yX1_havingSight.cls ≠ "java/lang/invoke/VarHandle" ∧ (parseMethodDescriptor yX1_havingSight.desc).map (fun d => d.parameters.length) = some 1 := by decide +kernel
set_option maxHeartbeats 4000000 in
set_option maxRecDepth 100000 in
theorem k_X1_havingSight {l : Launch} {D : va_G} {ad : Nat → Nat} {cI cW : ClassId} {tK tC : Nat} (hij : inj 83 ad) {k : Nat} (h0 : iHall ad cI cW k) {S0 : (Nat → Nat → Int32)} {a1 : Int32} {r : Int32} (hE : f_X1_havingSight k S0 a1 = some r) {sz : Nat} : Met l yX1_havingSight (wz yX1_havingSight cX1_havingSight 4 (some FieldType.int)) rmX1_havingSight (PG 83 ad (ec ad cI cW) D (KC D cI cW) (ZC tK tC) [.ref (ad k), .int a1] S0 sz) (QGi 83 ad (ec ad cI cW) D r S0 sz) 0 0 (AD 83 ad sz) := by
  unfold f_X1_havingSight at hE
  refine g_start (cc := cX1_havingSight) (maxL := 4) (ret := (some FieldType.int)) (Qc := fun sz => QGi 83 ad (ec ad cI cW) D r S0 sz) (by decide) rfl (Nat.le_of_ble_eq_true rfl) ?_
  intro p e s m args below meth c H locs ls hx hb hr hts hown hlocks hml hK hZ hP hS hl
  replace hl : lv_has ls 4 [(0, .ref (ad k)), (1, .int a1)] := hl
  obtain ⟨QQ, hQQ⟩ : ∃ q, q = MQ below (QGi 83 ad (ec ad cI cW) D r S0 s.heap.size) args s 0 0 (AD 83 ad s.heap.size) := ⟨_, rfl⟩
  rw [← hQQ]
  refine lv_iconst (v := 0) hx hb dX1_havingSight_0 (by decide) ?_
  refine lv_istore_n (lv' := [(2, .int 0), (0, .ref (ad k)), (1, .int a1)]) hx hb dX1_havingSight_1 rfl hl (by decide) rfl (fun ls hl => ?_)
  refine lv_iconst (v := 0) hx hb dX1_havingSight_2 (by decide) ?_
  refine lv_istore_n (lv' := [(3, .int 0), (2, .int 0), (0, .ref (ad k)), (1, .int a1)]) hx hb dX1_havingSight_3 rfl hl (by decide) rfl (fun ls hl => ?_)
  obtain ⟨x2, hx2, hE⟩ := st_bo hE
  refine lp_walk (body := fun (s1 : Int32 × Int32) => b_X1_havingSight_4 k S0 a1 s1.1 s1.2) (fun s1 => ∀ (ls : Array Slot) (H : Heap) (locs : List Loc), lv_has ls 4 [(0, .ref (ad k)), (1, .int a1), (2, .int s1.1), (3, .int s1.2)] → cP D ad cI cW S0 H → cS ad s H locs → W p l e rmX1_havingSight s m args below meth c H locs 0 0 QQ (F0 m 4 ls [])) (fun x2 => ∀ (ls : Array Slot) (H : Heap) (locs : List Loc), lv_has ls 4 [(2, .int x2)] → cP D ad cI cW S0 H → cS ad s H locs → W p l e rmX1_havingSight s m args below meth c H locs 0 0 QQ (F0 m 34 ls [])) ?_ _ _ _ hx2 ?_ ls H locs (lv_sub hl [2, 3, 1, 0] rfl) hP hS
  · intro s1 t3 hE hKt3 ls H locs hl hP hS
    obtain ⟨c4, c5⟩ := s1
    replace hE : b_X1_havingSight_4 k S0 a1 c4 c5 = some t3 := hE
    replace hl : lv_has ls 4 [(0, .ref (ad k)), (1, .int a1), (2, .int c4), (3, .int c5)] := hl
    replace hP : cP D ad cI cW S0 H := hP
    unfold b_X1_havingSight_4 at hE
    refine lv_iload_n hx hb dX1_havingSight_4 rfl (lv_at hl 3 rfl) ?_
    refine lv_aload_n hx hb dX1_havingSight_5 rfl (lv_at hl 0 rfl) ?_
    refine c_get (v := .int (S0 k 2)) hx hb hts (fun w h => wz_m (inX1 w h)) hown hK hP h0.1 rfl 2 (by decide) (hts _ (wz_m tw_1_60)) (fun _ h9 => h9) rfl dX1_havingSight_6 ?_
    refine lv_icmp_ge (tgt := 34) hx hb dX1_havingSight_9 (by decide) (fun hc6 => ?_) (fun hc6 => ?_)
    · have hE := st_t hE hc6
      have hq := Option.some.inj hE
      subst hq
      exact hKt3 ls H locs (lv_sub hl [2] rfl) hP hS
    · have hE := st_f hE hc6
      refine lv_aload_n hx hb dX1_havingSight_12 rfl (lv_at hl 0 rfl) ?_
      refine c_get (v := .ref (ad (k + 1))) hx hb hts (fun w h => wz_m (inX1 w h)) hown hK hP h0.1 rfl 0 (by decide) (hts _ (wz_m tw_1_55)) (fun _ h9 => h9) rfl dX1_havingSight_13 ?_
      refine lv_iload_n hx hb dX1_havingSight_16 rfl (lv_at hl 3 rfl) ?_
      obtain ⟨hi7, hE⟩ := st_gd hE
      refine c_aald hx hb hK hP h0.2.1 hi7 dX1_havingSight_17 ?_
      refine lv_iload_n hx hb dX1_havingSight_18 rfl (lv_at hl 1 rfl) ?_
      obtain ⟨r8, hCr8, hE⟩ := st_bo hE
      refine g_calli (va_runV (As := [.int a1]) (rest := []) ⟨hx, hb, hml, hown, hts⟩ (k_X7_hasSight hij (h0.2.2.2 _ (st_lt hi7)) hCr8) (cwV 1 hts (wz_V tw_2_197 tw_2_64 tw_2_65 tw_1_4 tw_2_66) rfl rfl rfl hdV_X7_hasSight ⟨Nat.le_of_ble_eq_true rfl, Nat.le_of_ble_eq_true rfl⟩) (g_preV KC_st ZC_st hK hZ hP hS hK.1 ((h0.2.2.2 _ (st_lt hi7)).1).1 (ec_o (h0.2.2.2 _ (st_lt hi7)).1) rfl) rfl rfl hl.1 rfl (lv_room (Nat.le_of_ble_eq_true rfl)) dX1_havingSight_19 ⟨Nat.zero_le _, Nat.zero_le _⟩) hS (fun H locs hP hS => ?_)
      refine lv_if_eq (tgt := 28) hx hb dX1_havingSight_22 (by decide) (fun hc9 => ?_) (fun hc9 => ?_)
      · have hE := st_t hE hc9
        obtain ⟨v10, ev10, hE⟩ := st_bv hE
        refine lv_iinc (v := v10) (lv' := [(3, .int v10), (0, .ref (ad k)), (1, .int a1), (2, .int c4)]) hx hb dX1_havingSight_28 hl (k := 3) rfl (by rw [ev10]; rfl) (by decide) rfl (fun ls hl => ?_)
        refine lv_goto (tgt := 4) hx hb dX1_havingSight_31 (by decide) ?_
        have hq := Option.some.inj hE
        subst hq
        exact hKt3 ls H locs (lv_sub hl [1, 2, 3, 0] rfl) hP hS
      · have hE := st_f hE hc9
        obtain ⟨v11, ev11, hE⟩ := st_bv hE
        refine lv_iinc (v := v11) (lv' := [(2, .int v11), (0, .ref (ad k)), (1, .int a1), (3, .int c5)]) hx hb dX1_havingSight_25 hl (k := 2) rfl (by rw [ev11]; rfl) (by decide) rfl (fun ls hl => ?_)
        obtain ⟨v12, ev12, hE⟩ := st_bv hE
        refine lv_iinc (v := v12) (lv' := [(3, .int v12), (2, .int v11), (0, .ref (ad k)), (1, .int a1)]) hx hb dX1_havingSight_28 hl (k := 3) rfl (by rw [ev12]; rfl) (by decide) rfl (fun ls hl => ?_)
        refine lv_goto (tgt := 4) hx hb dX1_havingSight_31 (by decide) ?_
        have hq := Option.some.inj hE
        subst hq
        exact hKt3 ls H locs (lv_sub hl [2, 3, 1, 0] rfl) hP hS
  · intro ls H locs hl hP hS
    refine lv_iload_n hx hb dX1_havingSight_34 rfl (lv_at hl 0 rfl) ?_
    replace hE := Option.some.inj hE
    subst hQQ
    exact g_iret hx hb hr hlocks hP hS hE rfl dX1_havingSight_35
def b_X1_unlikeSights_4 (k : Nat) (S0 : (Nat → Nat → Int32)) (c4 : Int32) (c5 : Int32) : Option ((Int32 × Int32) ⊕ (Int32)) :=
  if 24 ≤ c5 then (some (.inr c4)) else (bo (f_X1_havingSight k S0 c5) (fun (r7 : Int32) => if r7 ≤ 0 then (bv (c5 + 1) (fun (v9 : Int32) => some (.inl (c4, v9)))) else (bv (c4 + 1) (fun (v10 : Int32) => bv (c5 + 1) (fun (v11 : Int32) => some (.inl (v10, v11)))))))
def f_X1_unlikeSights (k : Nat) (S0 : (Nat → Nat → Int32)) : Option (Int32) :=
  bo (lp (fun (s1 : Int32 × Int32) => b_X1_unlikeSights_4 k S0 s1.1 s1.2) 5000 (0, 0)) (fun (x2 : Int32) => some x2)
abbrev rmX1_unlikeSights : Room := { frames := 2, cells := 0, slots := 0, locals := 45 }
theorem hdV_X1_unlikeSights : yX1_unlikeSights.cls = "WitnessWall$Hall" ∧ yX1_unlikeSights.cls ≠ "java/lang/invoke/MethodHandle" ∧ yX1_unlikeSights.cls ≠ "java/lang/invoke/VarHandle" ∧ (parseMethodDescriptor yX1_unlikeSights.desc).map (fun d => d.parameters.length) = some 0 := by decide +kernel
set_option maxHeartbeats 4000000 in
set_option maxRecDepth 100000 in
theorem k_X1_unlikeSights {l : Launch} {D : va_G} {ad : Nat → Nat} {cI cW : ClassId} {tK tC : Nat} (hij : inj 83 ad) {k : Nat} (h0 : iHall ad cI cW k) {S0 : (Nat → Nat → Int32)} {r : Int32} (hE : f_X1_unlikeSights k S0 = some r) {sz : Nat} : Met l yX1_unlikeSights (wz yX1_unlikeSights cX1_unlikeSights 3 (some FieldType.int)) rmX1_unlikeSights (PG 83 ad (ec ad cI cW) D (KC D cI cW) (ZC tK tC) [.ref (ad k)] S0 sz) (QGi 83 ad (ec ad cI cW) D r S0 sz) 0 0 (AD 83 ad sz) := by
  unfold f_X1_unlikeSights at hE
  refine g_start (cc := cX1_unlikeSights) (maxL := 3) (ret := (some FieldType.int)) (Qc := fun sz => QGi 83 ad (ec ad cI cW) D r S0 sz) (by decide) rfl (Nat.le_of_ble_eq_true rfl) ?_
  intro p e s m args below meth c H locs ls hx hb hr hts hown hlocks hml hK hZ hP hS hl
  replace hl : lv_has ls 3 [(0, .ref (ad k))] := hl
  obtain ⟨QQ, hQQ⟩ : ∃ q, q = MQ below (QGi 83 ad (ec ad cI cW) D r S0 s.heap.size) args s 0 0 (AD 83 ad s.heap.size) := ⟨_, rfl⟩
  rw [← hQQ]
  refine lv_iconst (v := 0) hx hb dX1_unlikeSights_0 (by decide) ?_
  refine lv_istore_n (lv' := [(1, .int 0), (0, .ref (ad k))]) hx hb dX1_unlikeSights_1 rfl hl (by decide) rfl (fun ls hl => ?_)
  refine lv_iconst (v := 0) hx hb dX1_unlikeSights_2 (by decide) ?_
  refine lv_istore_n (lv' := [(2, .int 0), (1, .int 0), (0, .ref (ad k))]) hx hb dX1_unlikeSights_3 rfl hl (by decide) rfl (fun ls hl => ?_)
  obtain ⟨x2, hx2, hE⟩ := st_bo hE
  refine lp_walk (body := fun (s1 : Int32 × Int32) => b_X1_unlikeSights_4 k S0 s1.1 s1.2) (fun s1 => ∀ (ls : Array Slot) (H : Heap) (locs : List Loc), lv_has ls 3 [(0, .ref (ad k)), (1, .int s1.1), (2, .int s1.2)] → cP D ad cI cW S0 H → cS ad s H locs → W p l e rmX1_unlikeSights s m args below meth c H locs 0 0 QQ (F0 m 4 ls [])) (fun x2 => ∀ (ls : Array Slot) (H : Heap) (locs : List Loc), lv_has ls 3 [(1, .int x2)] → cP D ad cI cW S0 H → cS ad s H locs → W p l e rmX1_unlikeSights s m args below meth c H locs 0 0 QQ (F0 m 27 ls [])) ?_ _ _ _ hx2 ?_ ls H locs (lv_sub hl [2, 1, 0] rfl) hP hS
  · intro s1 t3 hE hKt3 ls H locs hl hP hS
    obtain ⟨c4, c5⟩ := s1
    replace hE : b_X1_unlikeSights_4 k S0 c4 c5 = some t3 := hE
    replace hl : lv_has ls 3 [(0, .ref (ad k)), (1, .int c4), (2, .int c5)] := hl
    replace hP : cP D ad cI cW S0 H := hP
    unfold b_X1_unlikeSights_4 at hE
    refine lv_iload_n hx hb dX1_unlikeSights_4 rfl (lv_at hl 2 rfl) ?_
    refine lv_bipush (v := 24) hx hb dX1_unlikeSights_5 (by decide) ?_
    refine lv_icmp_ge (tgt := 27) hx hb dX1_unlikeSights_7 (by decide) (fun hc6 => ?_) (fun hc6 => ?_)
    · have hE := st_t hE hc6
      have hq := Option.some.inj hE
      subst hq
      exact hKt3 ls H locs (lv_sub hl [1] rfl) hP hS
    · have hE := st_f hE hc6
      refine lv_aload_n hx hb dX1_unlikeSights_10 rfl (lv_at hl 0 rfl) ?_
      refine lv_iload_n hx hb dX1_unlikeSights_11 rfl (lv_at hl 2 rfl) ?_
      obtain ⟨r7, hCr7, hE⟩ := st_bo hE
      refine g_calli (va_runV (As := [.int c5]) (rest := []) ⟨hx, hb, hml, hown, hts⟩ (k_X1_havingSight hij h0 hCr7) (cwV 1 hts (wz_V tw_3_136 tw_2_194 tw_2_195 tw_1_3 tw_2_196) rfl rfl rfl hdV_X1_havingSight ⟨Nat.le_of_ble_eq_true rfl, Nat.le_of_ble_eq_true rfl⟩) (g_preV KC_st ZC_st hK hZ hP hS hK.1 (h0.1).1 (ec_o h0.1) rfl) rfl rfl hl.1 rfl (lv_room (Nat.le_of_ble_eq_true rfl)) dX1_unlikeSights_12 ⟨Nat.zero_le _, Nat.zero_le _⟩) hS (fun H locs hP hS => ?_)
      refine lv_if_le (tgt := 21) hx hb dX1_unlikeSights_15 (by decide) (fun hc8 => ?_) (fun hc8 => ?_)
      · have hE := st_t hE hc8
        obtain ⟨v9, ev9, hE⟩ := st_bv hE
        refine lv_iinc (v := v9) (lv' := [(2, .int v9), (0, .ref (ad k)), (1, .int c4)]) hx hb dX1_unlikeSights_21 hl (k := 2) rfl (by rw [ev9]; rfl) (by decide) rfl (fun ls hl => ?_)
        refine lv_goto (tgt := 4) hx hb dX1_unlikeSights_24 (by decide) ?_
        have hq := Option.some.inj hE
        subst hq
        exact hKt3 ls H locs (lv_sub hl [1, 2, 0] rfl) hP hS
      · have hE := st_f hE hc8
        obtain ⟨v10, ev10, hE⟩ := st_bv hE
        refine lv_iinc (v := v10) (lv' := [(1, .int v10), (0, .ref (ad k)), (2, .int c5)]) hx hb dX1_unlikeSights_18 hl (k := 1) rfl (by rw [ev10]; rfl) (by decide) rfl (fun ls hl => ?_)
        obtain ⟨v11, ev11, hE⟩ := st_bv hE
        refine lv_iinc (v := v11) (lv' := [(2, .int v11), (1, .int v10), (0, .ref (ad k))]) hx hb dX1_unlikeSights_21 hl (k := 2) rfl (by rw [ev11]; rfl) (by decide) rfl (fun ls hl => ?_)
        refine lv_goto (tgt := 4) hx hb dX1_unlikeSights_24 (by decide) ?_
        have hq := Option.some.inj hE
        subst hq
        exact hKt3 ls H locs (lv_sub hl [2, 1, 0] rfl) hP hS
  · intro ls H locs hl hP hS
    refine lv_iload_n hx hb dX1_unlikeSights_27 rfl (lv_at hl 0 rfl) ?_
    replace hE := Option.some.inj hE
    subst hQQ
    exact g_iret hx hb hr hlocks hP hS hE rfl dX1_unlikeSights_28
def f_X1_everyone (k : Nat) (S0 : (Nat → Nat → Int32)) : Option (Int32) :=
  some (((1 : Int32) <<< ((S0 k 2) &&& 31)) - 1)
abbrev rmX1_everyone : Room := { frames := 0, cells := 0, slots := 0, locals := 0 }
theorem hdV_X1_everyone : yX1_everyone.cls = "WitnessWall$Hall" ∧ yX1_everyone.cls ≠ "java/lang/invoke/MethodHandle" ∧ yX1_everyone.cls ≠ "java/lang/invoke/VarHandle" ∧ (parseMethodDescriptor yX1_everyone.desc).map (fun d => d.parameters.length) = some 0 := by decide +kernel
set_option maxHeartbeats 4000000 in
set_option maxRecDepth 100000 in
theorem k_X1_everyone {l : Launch} {D : va_G} {ad : Nat → Nat} {cI cW : ClassId} {tK tC : Nat} (hij : inj 83 ad) {k : Nat} (h0 : iHall ad cI cW k) {S0 : (Nat → Nat → Int32)} {r : Int32} (hE : f_X1_everyone k S0 = some r) {sz : Nat} : Met l yX1_everyone (wz yX1_everyone cX1_everyone 1 (some FieldType.int)) rmX1_everyone (PG 83 ad (ec ad cI cW) D (KC D cI cW) (ZC tK tC) [.ref (ad k)] S0 sz) (QGi 83 ad (ec ad cI cW) D r S0 sz) 0 0 (AD 83 ad sz) := by
  unfold f_X1_everyone at hE
  refine g_start (cc := cX1_everyone) (maxL := 1) (ret := (some FieldType.int)) (Qc := fun sz => QGi 83 ad (ec ad cI cW) D r S0 sz) (by decide) rfl (Nat.le_of_ble_eq_true rfl) ?_
  intro p e s m args below meth c H locs ls hx hb hr hts hown hlocks hml hK hZ hP hS hl
  replace hl : lv_has ls 1 [(0, .ref (ad k))] := hl
  obtain ⟨QQ, hQQ⟩ : ∃ q, q = MQ below (QGi 83 ad (ec ad cI cW) D r S0 s.heap.size) args s 0 0 (AD 83 ad s.heap.size) := ⟨_, rfl⟩
  rw [← hQQ]
  refine lv_iconst (v := 1) hx hb dX1_everyone_0 (by decide) ?_
  refine lv_aload_n hx hb dX1_everyone_1 rfl (lv_at hl 0 rfl) ?_
  refine c_get (v := .int (S0 k 2)) hx hb hts (fun w h => wz_m (inX1 w h)) hown hK hP h0.1 rfl 2 (by decide) (hts _ (wz_m tw_1_60)) (fun _ h9 => h9) rfl dX1_everyone_2 ?_
  refine lv_ishl hx hb dX1_everyone_5 ?_
  refine lv_iconst (v := 1) hx hb dX1_everyone_6 (by decide) ?_
  refine lv_isub hx hb dX1_everyone_7 ?_
  replace hE := Option.some.inj hE
  subst hQQ
  exact g_iret hx hb hr hlocks hP hS hE rfl dX1_everyone_8
def b_X7_colourOf_7 (k : Nat) (S0 : (Nat → Nat → Int32)) (a1 : Int32) (c5 : Int32) : Option ((Int32) ⊕ ((Unit) ⊕ (Int32))) :=
  if c5 < 0 then (some (.inr (.inl ()))) else (gd (inb c5 3) (if ((S0 (k + 1) (c5.toNatClampNeg)) / 4) = a1 then (gd (inb c5 3) (some (.inr (.inr ((S0 (k + 1) (c5.toNatClampNeg)) - (S0 (k + 1) (c5.toNatClampNeg)) / 4 * 4))))) else (bv (c5 + (-1)) (fun (v9 : Int32) => some (.inl v9)))))
def f_X7_colourOf (k : Nat) (S0 : (Nat → Nat → Int32)) (a1 : Int32) : Option (Int32) :=
  bv ((S0 k 1) - 1) (fun (v1 : Int32) => bo (lp (fun (s2 : Int32) => b_X7_colourOf_7 k S0 a1 s2) 5000 v1) (fun (x3 : (Unit) ⊕ (Int32)) => Sum.elim (fun (x3 : Unit) => some (-1)) (fun (x3 : Int32) => some x3) x3))
abbrev rmX7_colourOf : Room := { frames := 0, cells := 0, slots := 0, locals := 0 }
theorem hdV_X7_colourOf : yX7_colourOf.cls = "WitnessWall$Witness" ∧ yX7_colourOf.cls ≠ "java/lang/invoke/MethodHandle" ∧ yX7_colourOf.cls ≠ "java/lang/invoke/VarHandle" ∧ (parseMethodDescriptor yX7_colourOf.desc).map (fun d => d.parameters.length) = some 1 := by decide +kernel
set_option maxHeartbeats 4000000 in
set_option maxRecDepth 100000 in
theorem k_X7_colourOf {l : Launch} {D : va_G} {ad : Nat → Nat} {cI cW : ClassId} {tK tC : Nat} (hij : inj 83 ad) {k : Nat} (h0 : iWit ad cI cW k) {S0 : (Nat → Nat → Int32)} {a1 : Int32} {r : Int32} (hE : f_X7_colourOf k S0 a1 = some r) {sz : Nat} : Met l yX7_colourOf (wz yX7_colourOf cX7_colourOf 3 (some FieldType.int)) rmX7_colourOf (PG 83 ad (ec ad cI cW) D (KC D cI cW) (ZC tK tC) [.ref (ad k), .int a1] S0 sz) (QGi 83 ad (ec ad cI cW) D r S0 sz) 0 0 (AD 83 ad sz) := by
  unfold f_X7_colourOf at hE
  refine g_start (cc := cX7_colourOf) (maxL := 3) (ret := (some FieldType.int)) (Qc := fun sz => QGi 83 ad (ec ad cI cW) D r S0 sz) (by decide) rfl (Nat.le_of_ble_eq_true rfl) ?_
  intro p e s m args below meth c H locs ls hx hb hr hts hown hlocks hml hK hZ hP hS hl
  replace hl : lv_has ls 3 [(0, .ref (ad k)), (1, .int a1)] := hl
  obtain ⟨QQ, hQQ⟩ : ∃ q, q = MQ below (QGi 83 ad (ec ad cI cW) D r S0 s.heap.size) args s 0 0 (AD 83 ad s.heap.size) := ⟨_, rfl⟩
  rw [← hQQ]
  refine lv_aload_n hx hb dX7_colourOf_0 rfl (lv_at hl 0 rfl) ?_
  refine c_get (v := .int (S0 k 1)) hx hb hts (fun w h => wz_m (inX7 w h)) hown hK hP h0.1 rfl 1 (by decide) (hts _ (wz_m tw_1_42)) (fun _ h9 => h9) rfl dX7_colourOf_1 ?_
  refine lv_iconst (v := 1) hx hb dX7_colourOf_4 (by decide) ?_
  refine lv_isub hx hb dX7_colourOf_5 ?_
  obtain ⟨v1, ev1, hE⟩ := st_bv hE
  refine nm_i ev1 ?_
  refine lv_istore_n (lv' := [(2, .int v1), (0, .ref (ad k)), (1, .int a1)]) hx hb dX7_colourOf_6 rfl hl (by decide) rfl (fun ls hl => ?_)
  obtain ⟨x3, hx3, hE⟩ := st_bo hE
  refine lp_walk (body := fun (s2 : Int32) => b_X7_colourOf_7 k S0 a1 s2) (fun s2 => ∀ (ls : Array Slot) (H : Heap) (locs : List Loc), lv_has ls 3 [(0, .ref (ad k)), (1, .int a1), (2, .int s2)] → cP D ad cI cW S0 H → cS ad s H locs → W p l e rmX7_colourOf s m args below meth c H locs 0 0 QQ (F0 m 7 ls [])) (fun x3 => Sum.elim (fun x3 => ∀ (ls : Array Slot) (H : Heap) (locs : List Loc), lv_has ls 3 [] → cP D ad cI cW S0 H → cS ad s H locs → W p l e rmX7_colourOf s m args below meth c H locs 0 0 QQ (F0 m 38 ls [])) (fun x3 => x3 = r) x3) ?_ _ _ _ hx3 ?_ ls H locs (lv_sub hl [1, 2, 0] rfl) hP hS
  · intro s2 t4 hE hKt4 ls H locs hl hP hS
    obtain ⟨c5, ec5⟩ : ∃ z, z = s2 := ⟨_, rfl⟩
    subst ec5
    replace hE : b_X7_colourOf_7 k S0 a1 c5 = some t4 := hE
    replace hl : lv_has ls 3 [(0, .ref (ad k)), (1, .int a1), (2, .int c5)] := hl
    replace hP : cP D ad cI cW S0 H := hP
    unfold b_X7_colourOf_7 at hE
    refine lv_iload_n hx hb dX7_colourOf_7 rfl (lv_at hl 2 rfl) ?_
    refine lv_if_lt (tgt := 38) hx hb dX7_colourOf_8 (by decide) (fun hc6 => ?_) (fun hc6 => ?_)
    · have hE := st_t hE hc6
      have hq := Option.some.inj hE
      subst hq
      exact hKt4 ls H locs (lv_sub hl [] rfl) hP hS
    · have hE := st_f hE hc6
      refine lv_aload_n hx hb dX7_colourOf_11 rfl (lv_at hl 0 rfl) ?_
      refine c_get (v := .ref (ad (k + 1))) hx hb hts (fun w h => wz_m (inX7 w h)) hown hK hP h0.1 rfl 0 (by decide) (hts _ (wz_m tw_1_41)) (fun _ h9 => h9) rfl dX7_colourOf_12 ?_
      refine lv_iload_n hx hb dX7_colourOf_15 rfl (lv_at hl 2 rfl) ?_
      obtain ⟨hi7, hE⟩ := st_gd hE
      refine c_iald hx hb hK hP h0.2 hi7 dX7_colourOf_16 ?_
      refine lv_iconst (v := 4) hx hb dX7_colourOf_17 (by decide) ?_
      refine lv_idiv hx hb dX7_colourOf_18 (by decide) ?_
      refine lv_iload_n hx hb dX7_colourOf_19 rfl (lv_at hl 1 rfl) ?_
      refine lv_icmp_ne (tgt := 32) hx hb dX7_colourOf_20 (by decide) (fun hc8 => ?_) (fun hc8 => ?_)
      · have hE := st_f hE hc8
        obtain ⟨v9, ev9, hE⟩ := st_bv hE
        refine lv_iinc (v := v9) (lv' := [(2, .int v9), (0, .ref (ad k)), (1, .int a1)]) hx hb dX7_colourOf_32 hl (k := 2) rfl (by rw [ev9]; rfl) (by decide) rfl (fun ls hl => ?_)
        refine lv_goto (tgt := 7) hx hb dX7_colourOf_35 (by decide) ?_
        have hq := Option.some.inj hE
        subst hq
        exact hKt4 ls H locs (lv_sub hl [1, 2, 0] rfl) hP hS
      · have hE := st_t hE hc8
        refine lv_aload_n hx hb dX7_colourOf_23 rfl (lv_at hl 0 rfl) ?_
        refine c_get (v := .ref (ad (k + 1))) hx hb hts (fun w h => wz_m (inX7 w h)) hown hK hP h0.1 rfl 0 (by decide) (hts _ (wz_m tw_1_41)) (fun _ h9 => h9) rfl dX7_colourOf_24 ?_
        refine lv_iload_n hx hb dX7_colourOf_27 rfl (lv_at hl 2 rfl) ?_
        obtain ⟨hi10, hE⟩ := st_gd hE
        refine c_iald hx hb hK hP h0.2 hi10 dX7_colourOf_28 ?_
        refine lv_iconst (v := 4) hx hb dX7_colourOf_29 (by decide) ?_
        refine lv_irem hx hb dX7_colourOf_30 (by decide) ?_
        have hq := Option.some.inj hE
        subst hq
        replace hE : ((S0 (k + 1) (c5.toNatClampNeg)) - (S0 (k + 1) (c5.toNatClampNeg)) / 4 * 4) = r := hKt4
        subst hQQ
        exact g_iret hx hb hr hlocks hP hS hE rfl dX7_colourOf_31
  · rcases x3 with x3 | x3
    · replace hE := st_el hE
      intro ls H locs hl hP hS
      refine lv_iconst (v := (-1)) hx hb dX7_colourOf_38 (by decide) ?_
      replace hE := Option.some.inj hE
      subst hQQ
      exact g_iret hx hb hr hlocks hP hS hE rfl dX7_colourOf_39
    · replace hE := st_er hE
      exact Option.some.inj hE

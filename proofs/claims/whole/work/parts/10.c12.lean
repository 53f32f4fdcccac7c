def f_X9_slip (S0 : (Nat → Nat → Int32)) (a1 : Int32) (a2 : Int32) (a3 : Int32) (a4 : Int32) : Option (Int32 × (Nat → Nat → Int32)) :=
  bo (f_X9_isWithin a1 1 6) (fun (r1 : Int32) => if r1 = 0 then (some ((-102), S0)) else (bo (f_X9_isWitness S0 a2) (fun (r3 : Int32) => if r3 = 0 then (some ((-101), S0)) else (bo (f_X9_isThing a3) (fun (r5 : Int32) => if r5 = 0 then (some ((-102), S0)) else (bo (f_X9_isColour a4) (fun (r7 : Int32) => if r7 = 0 then (some ((-102), S0)) else (if (S0 36 3) < 6 then (bo (f_X5_add 36 S0 a1 a2 ((a3 * 4) + a4)) (fun (r10 : (Nat → Nat → Int32)) => some (r10 36 3, r10))) else (some ((-104), S0))))))))))
abbrev rmX9_slip : Room := { frames := 2, cells := 0, slots := 0, locals := 43 }
theorem hdV_X9_slip : yX9_slip.cls = "WitnessWall" ∧ yX9_slip.cls ≠ "java/lang/invoke/MethodHandle" ∧ yX9_slip.cls ≠ "java/lang/invoke/VarHandle" ∧ (parseMethodDescriptor yX9_slip.desc).map (fun d => d.parameters.length) = some 4 := by decide +kernel
set_option maxHeartbeats 4000000 in
set_option maxRecDepth 100000 in
theorem k_X9_slip {l : Launch} {D : va_G} {ad : Nat → Nat} {cI cW : ClassId} {tK tC : Nat} (hij : inj 83 ad)  {S0 : (Nat → Nat → Int32)} {a1 : Int32} {a2 : Int32} {a3 : Int32} {a4 : Int32} {r : Int32} {Sr : (Nat → Nat → Int32)} (hE : f_X9_slip S0 a1 a2 a3 a4 = some (r, Sr)) {sz : Nat} : Met l yX9_slip (wz yX9_slip cX9_slip 5 (some FieldType.int)) rmX9_slip (PG 83 ad (ec ad cI cW) D (KC D cI cW) (ZC tK tC) [.ref (ad 0), .int a1, .int a2, .int a3, .int a4] S0 sz) (QGi 83 ad (ec ad cI cW) D r Sr sz) 0 0 (AD 83 ad sz) := by
  unfold f_X9_slip at hE
  refine g_start (cc := cX9_slip) (maxL := 5) (ret := (some FieldType.int)) (Qc := fun sz => QGi 83 ad (ec ad cI cW) D r Sr sz) (by decide) rfl (Nat.le_of_ble_eq_true rfl) ?_
  intro p e s m args below meth c H locs ls hx hb hr hts hown hlocks hml hK hZ hP hS hl
  replace hl : lv_has ls 5 [(0, .ref (ad 0)), (1, .int a1), (2, .int a2), (3, .int a3), (4, .int a4)] := hl
  obtain ⟨QQ, hQQ⟩ : ∃ q, q = MQ below (QGi 83 ad (ec ad cI cW) D r Sr s.heap.size) args s 0 0 (AD 83 ad s.heap.size) := ⟨_, rfl⟩
  rw [← hQQ]
  refine lv_iload_n hx hb dX9_slip_0 rfl (lv_at hl 1 rfl) ?_
  refine lv_iconst (v := 1) hx hb dX9_slip_1 (by decide) ?_
  refine lv_bipush (v := 6) hx hb dX9_slip_2 (by decide) ?_
  obtain ⟨r1, hCr1, hE⟩ := st_bo hE
  refine g_calli (va_runS (As := [.int a1, .int 1, .int 6]) (rest := []) ⟨hx, hb, hml, hown, hts⟩ (k_X9_isWithin hij (S0 := S0) hCr1) (va_cwS 3 hts (wz_S tw_2_1 tw_2_2 tw_1_1 tw_2_3) rfl rfl rfl hdS_X9_isWithin ⟨Nat.le_of_ble_eq_true rfl, Nat.le_of_ble_eq_true rfl⟩) (g_preS KC_st ZC_st hK hZ hP hS) rfl rfl hl.1 rfl (lv_room (Nat.le_of_ble_eq_true rfl)) dX9_slip_4 ⟨Nat.zero_le _, Nat.zero_le _⟩) hS (fun H locs hP hS => ?_)
  refine lv_if_ne (tgt := 13) hx hb dX9_slip_7 (by decide) (fun hc2 => ?_) (fun hc2 => ?_)
  · have hE := st_f hE hc2
    refine lv_aload_n hx hb dX9_slip_13 rfl (lv_at hl 0 rfl) ?_
    refine lv_iload_n hx hb dX9_slip_14 rfl (lv_at hl 2 rfl) ?_
    obtain ⟨r3, hCr3, hE⟩ := st_bo hE
    refine g_calli (va_runV (As := [.int a2]) (rest := []) ⟨hx, hb, hml, hown, hts⟩ (k_X9_isWitness hij hCr3) (cwV 1 hts (wz_V tw_2_116 tw_2_118 tp_0 tw_1_1 tw_2_119) rfl rfl rfl hdV_X9_isWitness ⟨Nat.le_of_ble_eq_true rfl, Nat.le_of_ble_eq_true rfl⟩) (g_preV KC_st ZC_st hK hZ hP hS hK.1 ((q_WW (ad := ad) (cI := cI) (cW := cW))).1 (ec_o (q_WW (ad := ad) (cI := cI) (cW := cW))) rfl) rfl rfl hl.1 rfl (lv_room (Nat.le_of_ble_eq_true rfl)) dX9_slip_15 ⟨Nat.zero_le _, Nat.zero_le _⟩) hS (fun H locs hP hS => ?_)
    refine lv_if_ne (tgt := 24) hx hb dX9_slip_18 (by decide) (fun hc4 => ?_) (fun hc4 => ?_)
    · have hE := st_f hE hc4
      refine lv_iload_n hx hb dX9_slip_24 rfl (lv_at hl 3 rfl) ?_
      obtain ⟨r5, hCr5, hE⟩ := st_bo hE
      refine g_calli (va_runS (As := [.int a3]) (rest := []) ⟨hx, hb, hml, hown, hts⟩ (k_X9_isThing hij (S0 := S0) hCr5) (va_cwS 1 hts (wz_S tw_2_166 tw_2_54 tw_1_1 tw_2_55) rfl rfl rfl hdS_X9_isThing ⟨Nat.le_of_ble_eq_true rfl, Nat.le_of_ble_eq_true rfl⟩) (g_preS KC_st ZC_st hK hZ hP hS) rfl rfl hl.1 rfl (lv_room (Nat.le_of_ble_eq_true rfl)) dX9_slip_25 ⟨Nat.zero_le _, Nat.zero_le _⟩) hS (fun H locs hP hS => ?_)
      refine lv_if_eq (tgt := 39) hx hb dX9_slip_28 (by decide) (fun hc6 => ?_) (fun hc6 => ?_)
      · have hE := st_t hE hc6
        refine lv_bipush (v := (-102)) hx hb dX9_slip_39 (by decide) ?_
        replace hE := Option.some.inj hE
        have hq := Prod.mk.inj hE
        subst hQQ
        exact g_iret hx hb hr hlocks hP hS hq.1 hq.2 dX9_slip_41
      · have hE := st_f hE hc6
        refine lv_iload hx hb dX9_slip_31 (lv_at hl 4 rfl) ?_
        obtain ⟨r7, hCr7, hE⟩ := st_bo hE
        refine g_calli (va_runS (As := [.int a4]) (rest := []) ⟨hx, hb, hml, hown, hts⟩ (k_X9_isColour hij (S0 := S0) hCr7) (va_cwS 1 hts (wz_S tw_2_192 tw_2_61 tw_1_1 tw_2_62) rfl rfl rfl hdS_X9_isColour ⟨Nat.le_of_ble_eq_true rfl, Nat.le_of_ble_eq_true rfl⟩) (g_preS KC_st ZC_st hK hZ hP hS) rfl rfl hl.1 rfl (lv_room (Nat.le_of_ble_eq_true rfl)) dX9_slip_33 ⟨Nat.zero_le _, Nat.zero_le _⟩) hS (fun H locs hP hS => ?_)
        refine lv_if_ne (tgt := 42) hx hb dX9_slip_36 (by decide) (fun hc8 => ?_) (fun hc8 => ?_)
        · have hE := st_f hE hc8
          refine lv_aload_n hx hb dX9_slip_42 rfl (lv_at hl 0 rfl) ?_
          refine c_get (v := .ref (ad 22)) hx hb hts (fun w h => wz_m (inX9 w h)) hown hK hP (q_WW (ad := ad) (cI := cI) (cW := cW)) rfl 2 (by decide) (hts _ (wz_m tw_1_211)) (fun _ h9 => h9) rfl dX9_slip_43 ?_
          refine c_getN (v := .ref (ad 36)) hx hb hts (fun w h => wz_m (inX3 w h)) hown hK hP (q_Scene_22 (ad := ad) (cI := cI) (cW := cW)).1 rfl 1 (by decide) (List.mem_of_getElem? (i := 30) rfl) (fun _ h9 => h9) rfl dX9_slip_46 ?_
          refine c_getN (v := .int (S0 36 3)) hx hb hts (fun w h => wz_m (inX5 w h)) hown hK hP (q_Slips_36 (ad := ad) (cI := cI) (cW := cW)).1 rfl 3 (by decide) (List.mem_of_getElem? (i := 25) rfl) (fun _ h9 => h9) rfl dX9_slip_49 ?_
          refine lv_bipush (v := 6) hx hb dX9_slip_52 (by decide) ?_
          refine lv_icmp_lt (tgt := 60) hx hb dX9_slip_54 (by decide) (fun hc9 => ?_) (fun hc9 => ?_)
          · have hE := st_t hE hc9
            refine lv_aload_n hx hb dX9_slip_60 rfl (lv_at hl 0 rfl) ?_
            refine c_get (v := .ref (ad 22)) hx hb hts (fun w h => wz_m (inX9 w h)) hown hK hP (q_WW (ad := ad) (cI := cI) (cW := cW)) rfl 2 (by decide) (hts _ (wz_m tw_1_211)) (fun _ h9 => h9) rfl dX9_slip_61 ?_
            refine c_getN (v := .ref (ad 36)) hx hb hts (fun w h => wz_m (inX3 w h)) hown hK hP (q_Scene_22 (ad := ad) (cI := cI) (cW := cW)).1 rfl 1 (by decide) (List.mem_of_getElem? (i := 30) rfl) (fun _ h9 => h9) rfl dX9_slip_64 ?_
            refine lv_iload_n hx hb dX9_slip_67 rfl (lv_at hl 1 rfl) ?_
            refine lv_iload_n hx hb dX9_slip_68 rfl (lv_at hl 2 rfl) ?_
            refine lv_iload_n hx hb dX9_slip_69 rfl (lv_at hl 3 rfl) ?_
            refine lv_iconst (v := 4) hx hb dX9_slip_70 (by decide) ?_
            refine lv_imul hx hb dX9_slip_71 ?_
            refine lv_iload hx hb dX9_slip_72 (lv_at hl 4 rfl) ?_
            refine lv_iadd hx hb dX9_slip_74 ?_
            obtain ⟨r10, hCr10, hE⟩ := st_bo hE
            refine g_callv (va_runV (As := [.int a1, .int a2, .int ((a3 * 4) + a4)]) (rest := []) ⟨hx, hb, hml, hown, hts⟩ (k_X5_add hij (q_Slips_36 (ad := ad) (cI := cI) (cW := cW)) hCr10) (cwV 3 hts (wz_V tw_2_216 tw_2_217 tw_2_218 tw_1_7 tw_2_219) rfl rfl rfl hdV_X5_add ⟨Nat.le_of_ble_eq_true rfl, Nat.le_of_ble_eq_true rfl⟩) (g_preV KC_st ZC_st hK hZ hP hS hK.1 ((q_Slips_36 (ad := ad) (cI := cI) (cW := cW)).1).1 (ec_o (q_Slips_36 (ad := ad) (cI := cI) (cW := cW)).1) rfl) rfl rfl hl.1 rfl (lv_room (Nat.le_of_ble_eq_true rfl)) dX9_slip_75 ⟨Nat.zero_le _, Nat.zero_le _⟩) hS (fun H locs hP hS => ?_)
            refine lv_aload_n hx hb dX9_slip_78 rfl (lv_at hl 0 rfl) ?_
            refine c_get (v := .ref (ad 22)) hx hb hts (fun w h => wz_m (inX9 w h)) hown hK hP (q_WW (ad := ad) (cI := cI) (cW := cW)) rfl 2 (by decide) (hts _ (wz_m tw_1_211)) (fun _ h9 => h9) rfl dX9_slip_79 ?_
            refine c_getN (v := .ref (ad 36)) hx hb hts (fun w h => wz_m (inX3 w h)) hown hK hP (q_Scene_22 (ad := ad) (cI := cI) (cW := cW)).1 rfl 1 (by decide) (List.mem_of_getElem? (i := 30) rfl) (fun _ h9 => h9) rfl dX9_slip_82 ?_
            refine c_getN (v := .int (r10 36 3)) hx hb hts (fun w h => wz_m (inX5 w h)) hown hK hP (q_Slips_36 (ad := ad) (cI := cI) (cW := cW)).1 rfl 3 (by decide) (List.mem_of_getElem? (i := 25) rfl) (fun _ h9 => h9) rfl dX9_slip_85 ?_
            replace hE := Option.some.inj hE
            have hq := Prod.mk.inj hE
            subst hQQ
            exact g_iret hx hb hr hlocks hP hS hq.1 hq.2 dX9_slip_88
          · have hE := st_f hE hc9
            refine lv_bipush (v := (-104)) hx hb dX9_slip_57 (by decide) ?_
            replace hE := Option.some.inj hE
            have hq := Prod.mk.inj hE
            subst hQQ
            exact g_iret hx hb hr hlocks hP hS hq.1 hq.2 dX9_slip_59
        · have hE := st_t hE hc8
          refine lv_bipush (v := (-102)) hx hb dX9_slip_39 (by decide) ?_
          replace hE := Option.some.inj hE
          have hq := Prod.mk.inj hE
          subst hQQ
          exact g_iret hx hb hr hlocks hP hS hq.1 hq.2 dX9_slip_41
    · have hE := st_t hE hc4
      refine lv_bipush (v := (-101)) hx hb dX9_slip_21 (by decide) ?_
      replace hE := Option.some.inj hE
      have hq := Prod.mk.inj hE
      subst hQQ
      exact g_iret hx hb hr hlocks hP hS hq.1 hq.2 dX9_slip_23
  · have hE := st_t hE hc2
    refine lv_bipush (v := (-102)) hx hb dX9_slip_10 (by decide) ?_
    replace hE := Option.some.inj hE
    have hq := Prod.mk.inj hE
    subst hQQ
    exact g_iret hx hb hr hlocks hP hS hq.1 hq.2 dX9_slip_12
def f_X9_tear (S0 : (Nat → Nat → Int32)) : Option (Int32 × (Nat → Nat → Int32)) :=
  bv (S0 36 3) (fun (v1 : Int32) => bv (up2 S0 36 3 0) (fun S2 => some (v1, S2)))
abbrev rmX9_tear : Room := { frames := 0, cells := 0, slots := 0, locals := 0 }
theorem hdV_X9_tear : yX9_tear.cls = "WitnessWall" ∧ yX9_tear.cls ≠ "java/lang/invoke/MethodHandle" ∧ yX9_tear.cls ≠ "java/lang/invoke/VarHandle" ∧ (parseMethodDescriptor yX9_tear.desc).map (fun d => d.parameters.length) = some 0 := by decide +kernel
set_option maxHeartbeats 4000000 in
set_option maxRecDepth 100000 in
theorem k_X9_tear {l : Launch} {D : va_G} {ad : Nat → Nat} {cI cW : ClassId} {tK tC : Nat} (hij : inj 83 ad)  {S0 : (Nat → Nat → Int32)} {r : Int32} {Sr : (Nat → Nat → Int32)} (hE : f_X9_tear S0 = some (r, Sr)) {sz : Nat} : Met l yX9_tear (wz yX9_tear cX9_tear 2 (some FieldType.int)) rmX9_tear (PG 83 ad (ec ad cI cW) D (KC D cI cW) (ZC tK tC) [.ref (ad 0)] S0 sz) (QGi 83 ad (ec ad cI cW) D r Sr sz) 0 0 (AD 83 ad sz) := by
  unfold f_X9_tear at hE
  refine g_start (cc := cX9_tear) (maxL := 2) (ret := (some FieldType.int)) (Qc := fun sz => QGi 83 ad (ec ad cI cW) D r Sr sz) (by decide) rfl (Nat.le_of_ble_eq_true rfl) ?_
  intro p e s m args below meth c H locs ls hx hb hr hts hown hlocks hml hK hZ hP hS hl
  replace hl : lv_has ls 2 [(0, .ref (ad 0))] := hl
  obtain ⟨QQ, hQQ⟩ : ∃ q, q = MQ below (QGi 83 ad (ec ad cI cW) D r Sr s.heap.size) args s 0 0 (AD 83 ad s.heap.size) := ⟨_, rfl⟩
  rw [← hQQ]
  refine lv_aload_n hx hb dX9_tear_0 rfl (lv_at hl 0 rfl) ?_
  refine c_get (v := .ref (ad 22)) hx hb hts (fun w h => wz_m (inX9 w h)) hown hK hP (q_WW (ad := ad) (cI := cI) (cW := cW)) rfl 2 (by decide) (hts _ (wz_m tw_1_211)) (fun _ h9 => h9) rfl dX9_tear_1 ?_
  refine c_getN (v := .ref (ad 36)) hx hb hts (fun w h => wz_m (inX3 w h)) hown hK hP (q_Scene_22 (ad := ad) (cI := cI) (cW := cW)).1 rfl 1 (by decide) (List.mem_of_getElem? (i := 30) rfl) (fun _ h9 => h9) rfl dX9_tear_4 ?_
  refine c_getN (v := .int (S0 36 3)) hx hb hts (fun w h => wz_m (inX5 w h)) hown hK hP (q_Slips_36 (ad := ad) (cI := cI) (cW := cW)).1 rfl 3 (by decide) (List.mem_of_getElem? (i := 25) rfl) (fun _ h9 => h9) rfl dX9_tear_7 ?_
  obtain ⟨v1, ev1, hE⟩ := st_bv hE
  refine nm_i ev1 ?_
  refine lv_istore_n (lv' := [(1, .int v1), (0, .ref (ad 0))]) hx hb dX9_tear_10 rfl hl (by decide) rfl (fun ls hl => ?_)
  refine lv_aload_n hx hb dX9_tear_11 rfl (lv_at hl 1 rfl) ?_
  refine c_get (v := .ref (ad 22)) hx hb hts (fun w h => wz_m (inX9 w h)) hown hK hP (q_WW (ad := ad) (cI := cI) (cW := cW)) rfl 2 (by decide) (hts _ (wz_m tw_1_211)) (fun _ h9 => h9) rfl dX9_tear_12 ?_
  refine c_getN (v := .ref (ad 36)) hx hb hts (fun w h => wz_m (inX3 w h)) hown hK hP (q_Scene_22 (ad := ad) (cI := cI) (cW := cW)).1 rfl 1 (by decide) (List.mem_of_getElem? (i := 30) rfl) (fun _ h9 => h9) rfl dX9_tear_15 ?_
  refine lv_iconst (v := 0) hx hb dX9_tear_18 (by decide) ?_
  refine c_putN hij hx hb hts (fun w h => wz_m (inX5 w h)) tyX5 tyX5_ok nmX5 hown hK hP hS (q_Slips_36 (ad := ad) (cI := cI) (cW := cW)).1 rfl 3 (by decide) (List.mem_of_getElem? (i := 25) rfl) (fun _ h9 => h9) rfl rfl rfl (fun _ => Nat.le_of_ble_eq_true rfl) (fun _ => rfl) dX9_tear_19 (fun H locs hP hS => ?_)
  obtain ⟨S2, eS2, hE⟩ := st_bv hE
  rw [← eS2] at hP
  refine lv_iload_n hx hb dX9_tear_22 rfl (lv_at hl 0 rfl) ?_
  replace hE := Option.some.inj hE
  have hq := Prod.mk.inj hE
  subst hQQ
  exact g_iret hx hb hr hlocks hP hS hq.1 hq.2 dX9_tear_23
def f_X9_tells (S0 : (Nat → Nat → Int32)) (a1 : Int32) (a2 : Int32) : Option (Int32) :=
  bo (f_X9_isWitness S0 a1) (fun (r1 : Int32) => if r1 = 0 then (some (-101)) else (bo (f_X9_isThing a2) (fun (r3 : Int32) => if r3 = 0 then (some (-102)) else (gd (inb a1 5) (bo (f_X7_colourOf (26 + 2 * a1.toNatClampNeg) S0 a2) (fun (r6 : Int32) => some r6))))))
abbrev rmX9_tells : Room := { frames := 2, cells := 0, slots := 0, locals := 43 }
theorem hdV_X9_tells : yX9_tells.cls = "WitnessWall" ∧ yX9_tells.cls ≠ "java/lang/invoke/MethodHandle" ∧ yX9_tells.cls ≠ "java/lang/invoke/VarHandle" ∧ (parseMethodDescriptor yX9_tells.desc).map (fun d => d.parameters.length) = some 2 := by decide +kernel
set_option maxHeartbeats 4000000 in
set_option maxRecDepth 100000 in
theorem k_X9_tells {l : Launch} {D : va_G} {ad : Nat → Nat} {cI cW : ClassId} {tK tC : Nat} (hij : inj 83 ad)  {S0 : (Nat → Nat → Int32)} {a1 : Int32} {a2 : Int32} {r : Int32} (hE : f_X9_tells S0 a1 a2 = some r) {sz : Nat} : Met l yX9_tells (wz yX9_tells cX9_tells 3 (some FieldType.int)) rmX9_tells (PG 83 ad (ec ad cI cW) D (KC D cI cW) (ZC tK tC) [.ref (ad 0), .int a1, .int a2] S0 sz) (QGi 83 ad (ec ad cI cW) D r S0 sz) 0 0 (AD 83 ad sz) := by
  unfold f_X9_tells at hE
  refine g_start (cc := cX9_tells) (maxL := 3) (ret := (some FieldType.int)) (Qc := fun sz => QGi 83 ad (ec ad cI cW) D r S0 sz) (by decide) rfl (Nat.le_of_ble_eq_true rfl) ?_
  intro p e s m args below meth c H locs ls hx hb hr hts hown hlocks hml hK hZ hP hS hl
  replace hl : lv_has ls 3 [(0, .ref (ad 0)), (1, .int a1), (2, .int a2)] := hl
  obtain ⟨QQ, hQQ⟩ : ∃ q, q = MQ below (QGi 83 ad (ec ad cI cW) D r S0 s.heap.size) args s 0 0 (AD 83 ad s.heap.size) := ⟨_, rfl⟩
  rw [← hQQ]
  refine lv_aload_n hx hb dX9_tells_0 rfl (lv_at hl 0 rfl) ?_
  refine lv_iload_n hx hb dX9_tells_1 rfl (lv_at hl 1 rfl) ?_
  obtain ⟨r1, hCr1, hE⟩ := st_bo hE
  refine g_calli (va_runV (As := [.int a1]) (rest := []) ⟨hx, hb, hml, hown, hts⟩ (k_X9_isWitness hij hCr1) (cwV 1 hts (wz_V tw_2_116 tw_2_118 tp_0 tw_1_1 tw_2_119) rfl rfl rfl hdV_X9_isWitness ⟨Nat.le_of_ble_eq_true rfl, Nat.le_of_ble_eq_true rfl⟩) (g_preV KC_st ZC_st hK hZ hP hS hK.1 ((q_WW (ad := ad) (cI := cI) (cW := cW))).1 (ec_o (q_WW (ad := ad) (cI := cI) (cW := cW))) rfl) rfl rfl hl.1 rfl (lv_room (Nat.le_of_ble_eq_true rfl)) dX9_tells_2 ⟨Nat.zero_le _, Nat.zero_le _⟩) hS (fun H locs hP hS => ?_)
  refine lv_if_ne (tgt := 11) hx hb dX9_tells_5 (by decide) (fun hc2 => ?_) (fun hc2 => ?_)
  · have hE := st_f hE hc2
    refine lv_iload_n hx hb dX9_tells_11 rfl (lv_at hl 2 rfl) ?_
    obtain ⟨r3, hCr3, hE⟩ := st_bo hE
    refine g_calli (va_runS (As := [.int a2]) (rest := []) ⟨hx, hb, hml, hown, hts⟩ (k_X9_isThing hij (S0 := S0) hCr3) (va_cwS 1 hts (wz_S tw_2_166 tw_2_54 tw_1_1 tw_2_55) rfl rfl rfl hdS_X9_isThing ⟨Nat.le_of_ble_eq_true rfl, Nat.le_of_ble_eq_true rfl⟩) (g_preS KC_st ZC_st hK hZ hP hS) rfl rfl hl.1 rfl (lv_room (Nat.le_of_ble_eq_true rfl)) dX9_tells_12 ⟨Nat.zero_le _, Nat.zero_le _⟩) hS (fun H locs hP hS => ?_)
    refine lv_if_ne (tgt := 21) hx hb dX9_tells_15 (by decide) (fun hc4 => ?_) (fun hc4 => ?_)
    · have hE := st_f hE hc4
      refine lv_aload_n hx hb dX9_tells_21 rfl (lv_at hl 0 rfl) ?_
      refine c_get (v := .ref (ad 22)) hx hb hts (fun w h => wz_m (inX9 w h)) hown hK hP (q_WW (ad := ad) (cI := cI) (cW := cW)) rfl 2 (by decide) (hts _ (wz_m tw_1_211)) (fun _ h9 => h9) rfl dX9_tells_22 ?_
      refine c_getN (v := .ref (ad 23)) hx hb hts (fun w h => wz_m (inX3 w h)) hown hK hP (q_Scene_22 (ad := ad) (cI := cI) (cW := cW)).1 rfl 0 (by decide) (List.mem_of_getElem? (i := 29) rfl) (fun _ h9 => h9) rfl dX9_tells_25 ?_
      refine c_getN (v := .ref (ad 24)) hx hb hts (fun w h => wz_m (inX1 w h)) hown hK hP (q_Hall_23 (ad := ad) (cI := cI) (cW := cW)).1 rfl 0 (by decide) (List.mem_of_getElem? (i := 6) rfl) (fun _ h9 => h9) rfl dX9_tells_28 ?_
      refine lv_iload_n hx hb dX9_tells_31 rfl (lv_at hl 1 rfl) ?_
      obtain ⟨hi5, hE⟩ := st_gd hE
      refine c_aald hx hb hK hP (q_Hall_23 (ad := ad) (cI := cI) (cW := cW)).2.1 hi5 dX9_tells_32 ?_
      refine lv_iload_n hx hb dX9_tells_33 rfl (lv_at hl 2 rfl) ?_
      obtain ⟨r6, hCr6, hE⟩ := st_bo hE
      refine g_calli (va_runV (As := [.int a2]) (rest := []) ⟨hx, hb, hml, hown, hts⟩ (k_X7_colourOf hij ((q_Hall_23 (ad := ad) (cI := cI) (cW := cW)).2.2.2 _ (st_lt hi5)) hCr6) (cwV 1 hts (wz_V tw_2_167 tw_2_151 tw_2_152 tw_1_4 tw_2_153) rfl rfl rfl hdV_X7_colourOf ⟨Nat.le_of_ble_eq_true rfl, Nat.le_of_ble_eq_true rfl⟩) (g_preV KC_st ZC_st hK hZ hP hS hK.1 (((q_Hall_23 (ad := ad) (cI := cI) (cW := cW)).2.2.2 _ (st_lt hi5)).1).1 (ec_o ((q_Hall_23 (ad := ad) (cI := cI) (cW := cW)).2.2.2 _ (st_lt hi5)).1) rfl) rfl rfl hl.1 rfl (lv_room (Nat.le_of_ble_eq_true rfl)) dX9_tells_34 ⟨Nat.zero_le _, Nat.zero_le _⟩) hS (fun H locs hP hS => ?_)
      replace hE := Option.some.inj hE
      subst hQQ
      exact g_iret hx hb hr hlocks hP hS hE rfl dX9_tells_37
    · have hE := st_t hE hc4
      refine lv_bipush (v := (-102)) hx hb dX9_tells_18 (by decide) ?_
      replace hE := Option.some.inj hE
      subst hQQ
      exact g_iret hx hb hr hlocks hP hS hE rfl dX9_tells_20
  · have hE := st_t hE hc2
    refine lv_bipush (v := (-101)) hx hb dX9_tells_8 (by decide) ?_
    replace hE := Option.some.inj hE
    subst hQQ
    exact g_iret hx hb hr hlocks hP hS hE rfl dX9_tells_10
def f_X2_isWhole (S0 : (Nat → Nat → Int32)) : Option (Int32) :=
  if (S0 1 4) = 3 then (some 1) else (if (S0 1 4) = 6 then (some 1) else (some 0))
abbrev rmX2_isWhole : Room := { frames := 0, cells := 0, slots := 0, locals := 0 }
theorem hdV_X2_isWhole : yX2_isWhole.cls = "WitnessWall$Page" ∧ yX2_isWhole.cls ≠ "java/lang/invoke/MethodHandle" ∧ yX2_isWhole.cls ≠ "java/lang/invoke/VarHandle" ∧ (parseMethodDescriptor yX2_isWhole.desc).map (fun d => d.parameters.length) = some 0 := by decide +kernel
set_option maxHeartbeats 4000000 in
set_option maxRecDepth 100000 in
theorem k_X2_isWhole {l : Launch} {D : va_G} {ad : Nat → Nat} {cI cW : ClassId} {tK tC : Nat} (hij : inj 83 ad)  {S0 : (Nat → Nat → Int32)} {r : Int32} (hE : f_X2_isWhole S0 = some r) {sz : Nat} : Met l yX2_isWhole (wz yX2_isWhole cX2_isWhole 1 (some FieldType.boolean)) rmX2_isWhole (PG 83 ad (ec ad cI cW) D (KC D cI cW) (ZC tK tC) [.ref (ad 1)] S0 sz) (QGi 83 ad (ec ad cI cW) D r S0 sz) 0 0 (AD 83 ad sz) := by
  unfold f_X2_isWhole at hE
  refine g_start (cc := cX2_isWhole) (maxL := 1) (ret := (some FieldType.boolean)) (Qc := fun sz => QGi 83 ad (ec ad cI cW) D r S0 sz) (by decide) rfl (Nat.le_of_ble_eq_true rfl) ?_
  intro p e s m args below meth c H locs ls hx hb hr hts hown hlocks hml hK hZ hP hS hl
  replace hl : lv_has ls 1 [(0, .ref (ad 1))] := hl
  obtain ⟨QQ, hQQ⟩ : ∃ q, q = MQ below (QGi 83 ad (ec ad cI cW) D r S0 s.heap.size) args s 0 0 (AD 83 ad s.heap.size) := ⟨_, rfl⟩
  rw [← hQQ]
  refine lv_aload_n hx hb dX2_isWhole_0 rfl (lv_at hl 0 rfl) ?_
  refine c_get (v := .int (S0 1 4)) hx hb hts (fun w h => wz_m (inX2 w h)) hown hK hP (q_Page_1 (ad := ad) (cI := cI) (cW := cW)).1 rfl 4 (by decide) (hts _ (wz_m tw_1_100)) (fun _ h9 => h9) rfl dX2_isWhole_1 ?_
  refine lv_iconst (v := 3) hx hb dX2_isWhole_4 (by decide) ?_
  refine lv_icmp_eq (tgt := 17) hx hb dX2_isWhole_5 (by decide) (fun hc1 => ?_) (fun hc1 => ?_)
  · have hE := st_t hE hc1
    refine lv_iconst (v := 1) hx hb dX2_isWhole_17 (by decide) ?_
    refine lv_goto (tgt := 22) hx hb dX2_isWhole_18 (by decide) ?_
    replace hE := Option.some.inj hE
    subst hQQ
    exact g_zret hx hb hr hlocks hP hS ((by decide : (1 : Int32) &&& 1 = 1).trans hE) rfl dX2_isWhole_22
  · have hE := st_f hE hc1
    refine lv_aload_n hx hb dX2_isWhole_8 rfl (lv_at hl 0 rfl) ?_
    refine c_get (v := .int (S0 1 4)) hx hb hts (fun w h => wz_m (inX2 w h)) hown hK hP (q_Page_1 (ad := ad) (cI := cI) (cW := cW)).1 rfl 4 (by decide) (hts _ (wz_m tw_1_100)) (fun _ h9 => h9) rfl dX2_isWhole_9 ?_
    refine lv_bipush (v := 6) hx hb dX2_isWhole_12 (by decide) ?_
    refine lv_icmp_ne (tgt := 21) hx hb dX2_isWhole_14 (by decide) (fun hc2 => ?_) (fun hc2 => ?_)
    · have hE := st_f hE hc2
      refine lv_iconst (v := 0) hx hb dX2_isWhole_21 (by decide) ?_
      replace hE := Option.some.inj hE
      subst hQQ
      exact g_zret hx hb hr hlocks hP hS ((by decide : (0 : Int32) &&& 1 = 0).trans hE) rfl dX2_isWhole_22
    · have hE := st_t hE hc2
      refine lv_iconst (v := 1) hx hb dX2_isWhole_17 (by decide) ?_
      refine lv_goto (tgt := 22) hx hb dX2_isWhole_18 (by decide) ?_
      replace hE := Option.some.inj hE
      subst hQQ
      exact g_zret hx hb hr hlocks hP hS ((by decide : (1 : Int32) &&& 1 = 1).trans hE) rfl dX2_isWhole_22
def f_X3_beginWith (k : Nat) (S0 : (Nat → Nat → Int32)) (a1 : Nat) : Option ((Nat → Nat → Int32)) :=
  bo (f_X1_copyFrom (k + 1) S0 a1) (fun (r1 : (Nat → Nat → Int32)) => bv (up2 r1 (k + 14) 3 0) (fun S2 => bv (up2 S2 (k + 18) 2 0) (fun S3 => bv (up2 S3 k 3 0) (fun S4 => some S4))))
abbrev rmX3_beginWith : Room := { frames := 2, cells := 0, slots := 0, locals := 44 }
theorem hdV_X3_beginWith : yX3_beginWith.cls = "WitnessWall$Scene" ∧ yX3_beginWith.cls ≠ "java/lang/invoke/MethodHandle" ∧ yX3_beginWith.cls ≠ "java/lang/invoke/VarHandle" ∧ (parseMethodDescriptor yX3_beginWith.desc).map (fun d => d.parameters.length) = some 1 := by decide +kernel
set_option maxHeartbeats 4000000 in
set_option maxRecDepth 100000 in
theorem k_X3_beginWith {l : Launch} {D : va_G} {ad : Nat → Nat} {cI cW : ClassId} {tK tC : Nat} (hij : inj 83 ad) {k : Nat} (h0 : iScene ad cI cW k) {S0 : (Nat → Nat → Int32)} {a1 : Nat} (h1 : iHall ad cI cW a1) {Sr : (Nat → Nat → Int32)} (hE : f_X3_beginWith k S0 a1 = some Sr) {sz : Nat} : Met l yX3_beginWith (wz yX3_beginWith cX3_beginWith 2 none) rmX3_beginWith (PG 83 ad (ec ad cI cW) D (KC D cI cW) (ZC tK tC) [.ref (ad k), .ref (ad a1)] S0 sz) (QGv 83 ad (ec ad cI cW) D Sr sz) 0 0 (AD 83 ad sz) := by
  unfold f_X3_beginWith at hE
  refine g_start (cc := cX3_beginWith) (maxL := 2) (ret := none) (Qc := fun sz => QGv 83 ad (ec ad cI cW) D Sr sz) (by decide) rfl (Nat.le_of_ble_eq_true rfl) ?_
  intro p e s m args below meth c H locs ls hx hb hr hts hown hlocks hml hK hZ hP hS hl
  replace hl : lv_has ls 2 [(0, .ref (ad k)), (1, .ref (ad a1))] := hl
  obtain ⟨QQ, hQQ⟩ : ∃ q, q = MQ below (QGv 83 ad (ec ad cI cW) D Sr s.heap.size) args s 0 0 (AD 83 ad s.heap.size) := ⟨_, rfl⟩
  rw [← hQQ]
  refine lv_aload_n hx hb dX3_beginWith_0 rfl (lv_at hl 0 rfl) ?_
  refine c_get (v := .ref (ad (k + 1))) hx hb hts (fun w h => wz_m (inX3 w h)) hown hK hP h0.1 rfl 0 (by decide) (hts _ (wz_m tw_1_164)) (fun _ h9 => h9) rfl dX3_beginWith_1 ?_
  refine lv_aload_n hx hb dX3_beginWith_4 rfl (lv_at hl 1 rfl) ?_
  obtain ⟨r1, hCr1, hE⟩ := st_bo hE
  refine g_callv (va_runV (As := [.ref (ad a1)]) (rest := []) ⟨hx, hb, hml, hown, hts⟩ (k_X1_copyFrom hij h0.2.1 h1 hCr1) (cwV 1 hts (wz_V tw_2_100 tw_2_101 tw_2_102 tw_1_3 tw_2_103) rfl rfl rfl hdV_X1_copyFrom ⟨Nat.le_of_ble_eq_true rfl, Nat.le_of_ble_eq_true rfl⟩) (g_preV KC_st ZC_st hK hZ hP hS hK.1 (h0.2.1.1).1 (ec_o h0.2.1.1) rfl) rfl rfl hl.1 rfl (lv_room (Nat.le_of_ble_eq_true rfl)) dX3_beginWith_5 ⟨Nat.zero_le _, Nat.zero_le _⟩) hS (fun H locs hP hS => ?_)
  refine lv_aload_n hx hb dX3_beginWith_8 rfl (lv_at hl 0 rfl) ?_
  refine c_get (v := .ref (ad (k + 14))) hx hb hts (fun w h => wz_m (inX3 w h)) hown hK hP h0.1 rfl 1 (by decide) (hts _ (wz_m tw_1_166)) (fun _ h9 => h9) rfl dX3_beginWith_9 ?_
  refine lv_iconst (v := 0) hx hb dX3_beginWith_12 (by decide) ?_
  refine c_putN hij hx hb hts (fun w h => wz_m (inX5 w h)) tyX5 tyX5_ok nmX5 hown hK hP hS h0.2.2.1.1 rfl 3 (by decide) (List.mem_of_getElem? (i := 24) rfl) (fun _ h9 => h9) rfl rfl rfl (fun _ => Nat.le_of_ble_eq_true rfl) (fun _ => rfl) dX3_beginWith_13 (fun H locs hP hS => ?_)
  obtain ⟨S2, eS2, hE⟩ := st_bv hE
  rw [← eS2] at hP
  refine lv_aload_n hx hb dX3_beginWith_16 rfl (lv_at hl 0 rfl) ?_
  refine c_get (v := .ref (ad (k + 18))) hx hb hts (fun w h => wz_m (inX3 w h)) hown hK hP h0.1 rfl 2 (by decide) (hts _ (wz_m tw_1_168)) (fun _ h9 => h9) rfl dX3_beginWith_17 ?_
  refine lv_iconst (v := 0) hx hb dX3_beginWith_20 (by decide) ?_
  refine c_putN hij hx hb hts (fun w h => wz_m (inX4 w h)) tyX4 tyX4_ok nmX4 hown hK hP hS h0.2.2.2.1 rfl 2 (by decide) (List.mem_of_getElem? (i := 27) rfl) (fun _ h9 => h9) rfl rfl rfl (fun _ => Nat.le_of_ble_eq_true rfl) (fun _ => rfl) dX3_beginWith_21 (fun H locs hP hS => ?_)
  obtain ⟨S3, eS3, hE⟩ := st_bv hE
  rw [← eS3] at hP
  refine lv_aload_n hx hb dX3_beginWith_24 rfl (lv_at hl 0 rfl) ?_
  refine lv_iconst (v := 0) hx hb dX3_beginWith_25 (by decide) ?_
  refine c_put hij hx hb hts (fun w h => wz_m (inX3 w h)) tyX3 tyX3_ok nmX3 hown hK hP hS h0.1 rfl 3 (by decide) (hts _ (wz_m tw_1_170)) (fun _ h9 => h9) rfl rfl rfl (fun _ => Nat.le_of_ble_eq_true rfl) (fun _ => rfl) dX3_beginWith_26 (fun H locs hP hS => ?_)
  obtain ⟨S4, eS4, hE⟩ := st_bv hE
  rw [← eS4] at hP
  replace hE := Option.some.inj hE
  subst hQQ
  exact g_vret hx hb hr hlocks hP hS hE dX3_beginWith_29
def b_X0_copyFrom_10 (k : Nat) (a1 : Nat) (c5 : Int32) (c6 : (Nat → Nat → Int32)) : Option ((Int32 × (Nat → Nat → Int32)) ⊕ ((Nat → Nat → Int32))) :=
  if 4 ≤ c5 then (some (.inr c6)) else (gd (inb c5 4) (gd (inb c5 4) (bv (up2 c6 (k + 1) (c5.toNatClampNeg) (c6 (a1 + 1) (c5.toNatClampNeg))) (fun S10 => gd (inb c5 4) (gd (inb c5 4) (bv (up2 S10 (k + 2) (c5.toNatClampNeg) (S10 (a1 + 2) (c5.toNatClampNeg))) (fun S13 => bv (c5 + 1) (fun (v14 : Int32) => some (.inl (v14, S13))))))))))
def f_X0_copyFrom (k : Nat) (S0 : (Nat → Nat → Int32)) (a1 : Nat) : Option ((Nat → Nat → Int32)) :=
  bv (up2 S0 k 2 (S0 a1 2)) (fun S1 => bo (lp (fun (s2 : Int32 × (Nat → Nat → Int32)) => b_X0_copyFrom_10 k a1 s2.1 s2.2) 5000 (0, S1)) (fun (x3 : (Nat → Nat → Int32)) => some x3))
abbrev rmX0_copyFrom : Room := { frames := 0, cells := 0, slots := 0, locals := 0 }
theorem hdV_X0_copyFrom : yX0_copyFrom.cls = "WitnessWall$Cases" ∧ yX0_copyFrom.cls ≠ "java/lang/invoke/MethodHandle" ∧ yX0_copyFrom.cls ≠ "java/lang/invoke/VarHandle" ∧ (parseMethodDescriptor yX0_copyFrom.desc).map (fun d => d.parameters.length) = some 1 := by decide +kernel
set_option maxHeartbeats 4000000 in
set_option maxRecDepth 100000 in
theorem k_X0_copyFrom {l : Launch} {D : va_G} {ad : Nat → Nat} {cI cW : ClassId} {tK tC : Nat} (hij : inj 83 ad) {k : Nat} (h0 : iCases ad cI cW k) {S0 : (Nat → Nat → Int32)} {a1 : Nat} (h1 : iCases ad cI cW a1) {Sr : (Nat → Nat → Int32)} (hE : f_X0_copyFrom k S0 a1 = some Sr) {sz : Nat} : Met l yX0_copyFrom (wz yX0_copyFrom cX0_copyFrom 3 none) rmX0_copyFrom (PG 83 ad (ec ad cI cW) D (KC D cI cW) (ZC tK tC) [.ref (ad k), .ref (ad a1)] S0 sz) (QGv 83 ad (ec ad cI cW) D Sr sz) 0 0 (AD 83 ad sz) := by
  unfold f_X0_copyFrom at hE
  refine g_start (cc := cX0_copyFrom) (maxL := 3) (ret := none) (Qc := fun sz => QGv 83 ad (ec ad cI cW) D Sr sz) (by decide) rfl (Nat.le_of_ble_eq_true rfl) ?_
  intro p e s m args below meth c H locs ls hx hb hr hts hown hlocks hml hK hZ hP hS hl
  replace hl : lv_has ls 3 [(0, .ref (ad k)), (1, .ref (ad a1))] := hl
  obtain ⟨QQ, hQQ⟩ : ∃ q, q = MQ below (QGv 83 ad (ec ad cI cW) D Sr s.heap.size) args s 0 0 (AD 83 ad s.heap.size) := ⟨_, rfl⟩
  rw [← hQQ]
  refine lv_aload_n hx hb dX0_copyFrom_0 rfl (lv_at hl 0 rfl) ?_
  refine lv_aload_n hx hb dX0_copyFrom_1 rfl (lv_at hl 1 rfl) ?_
  refine c_get (v := .int (S0 a1 2)) hx hb hts (fun w h => wz_m (inX0 w h)) hown hK hP h1.1 rfl 2 (by decide) (hts _ (wz_m tw_1_81)) (fun _ h9 => h9) rfl dX0_copyFrom_2 ?_
  refine c_put hij hx hb hts (fun w h => wz_m (inX0 w h)) tyX0 tyX0_ok nmX0 hown hK hP hS h0.1 rfl 2 (by decide) (hts _ (wz_m tw_1_81)) (fun _ h9 => h9) rfl rfl rfl (fun _ => Nat.le_of_ble_eq_true rfl) (fun _ => rfl) dX0_copyFrom_5 (fun H locs hP hS => ?_)
  obtain ⟨S1, eS1, hE⟩ := st_bv hE
  rw [← eS1] at hP
  refine lv_iconst (v := 0) hx hb dX0_copyFrom_8 (by decide) ?_
  refine lv_istore_n (lv' := [(2, .int 0), (0, .ref (ad k)), (1, .ref (ad a1))]) hx hb dX0_copyFrom_9 rfl hl (by decide) rfl (fun ls hl => ?_)
  obtain ⟨x3, hx3, hE⟩ := st_bo hE
  refine lp_walk (body := fun (s2 : Int32 × (Nat → Nat → Int32)) => b_X0_copyFrom_10 k a1 s2.1 s2.2) (fun s2 => ∀ (ls : Array Slot) (H : Heap) (locs : List Loc), lv_has ls 3 [(0, .ref (ad k)), (1, .ref (ad a1)), (2, .int s2.1)] → cP D ad cI cW s2.2 H → cS ad s H locs → W p l e rmX0_copyFrom s m args below meth c H locs 0 0 QQ (F0 m 10 ls [])) (fun x3 => ∀ (ls : Array Slot) (H : Heap) (locs : List Loc), lv_has ls 3 [] → cP D ad cI cW x3 H → cS ad s H locs → W p l e rmX0_copyFrom s m args below meth c H locs 0 0 QQ (F0 m 45 ls [])) ?_ _ _ _ hx3 ?_ ls H locs (lv_sub hl [1, 2, 0] rfl) hP hS
  · intro s2 t4 hE hKt4 ls H locs hl hP hS
    obtain ⟨c5, c6⟩ := s2
    replace hE : b_X0_copyFrom_10 k a1 c5 c6 = some t4 := hE
    replace hl : lv_has ls 3 [(0, .ref (ad k)), (1, .ref (ad a1)), (2, .int c5)] := hl
    replace hP : cP D ad cI cW c6 H := hP
    unfold b_X0_copyFrom_10 at hE
    refine lv_iload_n hx hb dX0_copyFrom_10 rfl (lv_at hl 2 rfl) ?_
    refine lv_iconst (v := 4) hx hb dX0_copyFrom_11 (by decide) ?_
    refine lv_icmp_ge (tgt := 45) hx hb dX0_copyFrom_12 (by decide) (fun hc7 => ?_) (fun hc7 => ?_)
    · have hE := st_t hE hc7
      have hq := Option.some.inj hE
      subst hq
      exact hKt4 ls H locs (lv_sub hl [] rfl) hP hS
    · have hE := st_f hE hc7
      refine lv_aload_n hx hb dX0_copyFrom_15 rfl (lv_at hl 0 rfl) ?_
      refine c_get (v := .ref (ad (k + 1))) hx hb hts (fun w h => wz_m (inX0 w h)) hown hK hP h0.1 rfl 0 (by decide) (hts _ (wz_m tw_1_77)) (fun _ h9 => h9) rfl dX0_copyFrom_16 ?_
      refine lv_iload_n hx hb dX0_copyFrom_19 rfl (lv_at hl 2 rfl) ?_
      refine lv_aload_n hx hb dX0_copyFrom_20 rfl (lv_at hl 1 rfl) ?_
      refine c_get (v := .ref (ad (a1 + 1))) hx hb hts (fun w h => wz_m (inX0 w h)) hown hK hP h1.1 rfl 0 (by decide) (hts _ (wz_m tw_1_77)) (fun _ h9 => h9) rfl dX0_copyFrom_21 ?_
      refine lv_iload_n hx hb dX0_copyFrom_24 rfl (lv_at hl 2 rfl) ?_
      obtain ⟨hi8, hE⟩ := st_gd hE
      refine c_iald hx hb hK hP h1.2.1 hi8 dX0_copyFrom_25 ?_
      obtain ⟨hi9, hE⟩ := st_gd hE
      refine c_iast hij hx hb hK hP hS h0.2.1 hi9 dX0_copyFrom_26 (fun H locs hP hS => ?_)
      obtain ⟨S10, eS10, hE⟩ := st_bv hE
      rw [← eS10] at hP
      refine lv_aload_n hx hb dX0_copyFrom_27 rfl (lv_at hl 0 rfl) ?_
      refine c_get (v := .ref (ad (k + 2))) hx hb hts (fun w h => wz_m (inX0 w h)) hown hK hP h0.1 rfl 1 (by decide) (hts _ (wz_m tw_1_79)) (fun _ h9 => h9) rfl dX0_copyFrom_28 ?_
      refine lv_iload_n hx hb dX0_copyFrom_31 rfl (lv_at hl 2 rfl) ?_
      refine lv_aload_n hx hb dX0_copyFrom_32 rfl (lv_at hl 1 rfl) ?_
      refine c_get (v := .ref (ad (a1 + 2))) hx hb hts (fun w h => wz_m (inX0 w h)) hown hK hP h1.1 rfl 1 (by decide) (hts _ (wz_m tw_1_79)) (fun _ h9 => h9) rfl dX0_copyFrom_33 ?_
      refine lv_iload_n hx hb dX0_copyFrom_36 rfl (lv_at hl 2 rfl) ?_
      obtain ⟨hi11, hE⟩ := st_gd hE
      refine c_iald hx hb hK hP h1.2.2 hi11 dX0_copyFrom_37 ?_
      obtain ⟨hi12, hE⟩ := st_gd hE
      refine c_iast hij hx hb hK hP hS h0.2.2 hi12 dX0_copyFrom_38 (fun H locs hP hS => ?_)
      obtain ⟨S13, eS13, hE⟩ := st_bv hE
      rw [← eS13] at hP
      obtain ⟨v14, ev14, hE⟩ := st_bv hE
      refine lv_iinc (v := v14) (lv' := [(2, .int v14), (0, .ref (ad k)), (1, .ref (ad a1))]) hx hb dX0_copyFrom_39 hl (k := 2) rfl (by rw [ev14]; rfl) (by decide) rfl (fun ls hl => ?_)
      refine lv_goto (tgt := 10) hx hb dX0_copyFrom_42 (by decide) ?_
      have hq := Option.some.inj hE
      subst hq
      exact hKt4 ls H locs (lv_sub hl [1, 2, 0] rfl) hP hS
  · intro ls H locs hl hP hS
    replace hE := Option.some.inj hE
    subst hQQ
    exact g_vret hx hb hr hlocks hP hS hE dX0_copyFrom_45
def f_X9_wall (S0 : (Nat → Nat → Int32)) : Option (Int32 × (Nat → Nat → Int32)) :=
  bo (f_X2_read S0) (fun (r1 : Int32 × (Nat → Nat → Int32)) => if r1.1 < (r1.2 1 3) then (some ((-103), r1.2)) else (bo (f_X2_isWhole r1.2) (fun (r3 : Int32) => if r3 = 0 then (some ((-103), r1.2)) else (bo (f_X3_beginWith 22 r1.2 3) (fun (r5 : (Nat → Nat → Int32)) => bo (f_X0_copyFrom 19 r5 16) (fun (r6 : (Nat → Nat → Int32)) => bv (up2 r6 0 7 0) (fun S7 => bv (up2 S7 0 8 ((S7 0 8) + 1)) (fun S8 => bv (up2 S8 1 3 0) (fun S9 => some (S9 23 2, S9))))))))))
abbrev rmX9_wall : Room := { frames := 6, cells := 0, slots := 0, locals := 127 }
theorem hdV_X9_wall : yX9_wall.cls = "WitnessWall" ∧ yX9_wall.cls ≠ "java/lang/invoke/MethodHandle" ∧ yX9_wall.cls ≠ "java/lang/invoke/VarHandle" ∧ (parseMethodDescriptor yX9_wall.desc).map (fun d => d.parameters.length) = some 0 := by decide +kernel
set_option maxHeartbeats 4000000 in
set_option maxRecDepth 100000 in
theorem k_X9_wall {l : Launch} {D : va_G} {ad : Nat → Nat} {cI cW : ClassId} {tK tC : Nat} (hij : inj 83 ad)  {S0 : (Nat → Nat → Int32)} {r : Int32} {Sr : (Nat → Nat → Int32)} (hE : f_X9_wall S0 = some (r, Sr)) {sz : Nat} : Met l yX9_wall (wz yX9_wall cX9_wall 1 (some FieldType.int)) rmX9_wall (PG 83 ad (ec ad cI cW) D (KC D cI cW) (ZC tK tC) [.ref (ad 0)] S0 sz) (QGi 83 ad (ec ad cI cW) D r Sr sz) 0 0 (AD 83 ad sz) := by
  unfold f_X9_wall at hE
  refine g_start (cc := cX9_wall) (maxL := 1) (ret := (some FieldType.int)) (Qc := fun sz => QGi 83 ad (ec ad cI cW) D r Sr sz) (by decide) rfl (Nat.le_of_ble_eq_true rfl) ?_
  intro p e s m args below meth c H locs ls hx hb hr hts hown hlocks hml hK hZ hP hS hl
  replace hl : lv_has ls 1 [(0, .ref (ad 0))] := hl
  obtain ⟨QQ, hQQ⟩ : ∃ q, q = MQ below (QGi 83 ad (ec ad cI cW) D r Sr s.heap.size) args s 0 0 (AD 83 ad s.heap.size) := ⟨_, rfl⟩
  rw [← hQQ]
  refine lv_aload_n hx hb dX9_wall_0 rfl (lv_at hl 0 rfl) ?_
  refine c_get (v := .ref (ad 1)) hx hb hts (fun w h => wz_m (inX9 w h)) hown hK hP (q_WW (ad := ad) (cI := cI) (cW := cW)) rfl 0 (by decide) (hts _ (wz_m tw_1_209)) (fun _ h9 => h9) rfl dX9_wall_1 ?_
  obtain ⟨r1, hCr1, hE⟩ := st_bo hE
  refine g_calli (va_runV (As := []) (rest := []) ⟨hx, hb, hml, hown, hts⟩ (k_X2_read hij hCr1) (cwV 0 hts (wz_V tw_2_16 tw_2_17 tw_2_18 tw_1_2 tw_2_19) rfl rfl rfl hdV_X2_read ⟨Nat.le_of_ble_eq_true rfl, Nat.le_of_ble_eq_true rfl⟩) (g_preV KC_st ZC_st hK hZ hP hS hK.1 ((q_Page_1 (ad := ad) (cI := cI) (cW := cW)).1).1 (ec_o (q_Page_1 (ad := ad) (cI := cI) (cW := cW)).1) rfl) rfl rfl hl.1 rfl (lv_room (Nat.le_of_ble_eq_true rfl)) dX9_wall_4 ⟨Nat.zero_le _, Nat.zero_le _⟩) hS (fun H locs hP hS => ?_)
  refine lv_aload_n hx hb dX9_wall_7 rfl (lv_at hl 0 rfl) ?_
  refine c_get (v := .ref (ad 1)) hx hb hts (fun w h => wz_m (inX9 w h)) hown hK hP (q_WW (ad := ad) (cI := cI) (cW := cW)) rfl 0 (by decide) (hts _ (wz_m tw_1_209)) (fun _ h9 => h9) rfl dX9_wall_8 ?_
  refine c_getN (v := .int (r1.2 1 3)) hx hb hts (fun w h => wz_m (inX2 w h)) hown hK hP (q_Page_1 (ad := ad) (cI := cI) (cW := cW)).1 rfl 3 (by decide) (List.mem_of_getElem? (i := 20) rfl) (fun _ h9 => h9) rfl dX9_wall_11 ?_
  refine lv_icmp_lt (tgt := 27) hx hb dX9_wall_14 (by decide) (fun hc2 => ?_) (fun hc2 => ?_)
  · have hE := st_t hE hc2
    refine lv_bipush (v := (-103)) hx hb dX9_wall_27 (by decide) ?_
    replace hE := Option.some.inj hE
    have hq := Prod.mk.inj hE
    subst hQQ
    exact g_iret hx hb hr hlocks hP hS hq.1 hq.2 dX9_wall_29
  · have hE := st_f hE hc2
    refine lv_aload_n hx hb dX9_wall_17 rfl (lv_at hl 0 rfl) ?_
    refine c_get (v := .ref (ad 1)) hx hb hts (fun w h => wz_m (inX9 w h)) hown hK hP (q_WW (ad := ad) (cI := cI) (cW := cW)) rfl 0 (by decide) (hts _ (wz_m tw_1_209)) (fun _ h9 => h9) rfl dX9_wall_18 ?_
    obtain ⟨r3, hCr3, hE⟩ := st_bo hE
    refine g_calli (va_runV (As := []) (rest := []) ⟨hx, hb, hml, hown, hts⟩ (k_X2_isWhole hij hCr3) (cwV 0 hts (wz_V tw_2_92 tw_2_93 tw_2_94 tw_1_2 tw_2_95) rfl rfl rfl hdV_X2_isWhole ⟨Nat.le_of_ble_eq_true rfl, Nat.le_of_ble_eq_true rfl⟩) (g_preV KC_st ZC_st hK hZ hP hS hK.1 ((q_Page_1 (ad := ad) (cI := cI) (cW := cW)).1).1 (ec_o (q_Page_1 (ad := ad) (cI := cI) (cW := cW)).1) rfl) rfl rfl hl.1 rfl (lv_room (Nat.le_of_ble_eq_true rfl)) dX9_wall_21 ⟨Nat.zero_le _, Nat.zero_le _⟩) hS (fun H locs hP hS => ?_)
    refine lv_if_ne (tgt := 30) hx hb dX9_wall_24 (by decide) (fun hc4 => ?_) (fun hc4 => ?_)
    · have hE := st_f hE hc4
      refine lv_aload_n hx hb dX9_wall_30 rfl (lv_at hl 0 rfl) ?_
      refine c_get (v := .ref (ad 22)) hx hb hts (fun w h => wz_m (inX9 w h)) hown hK hP (q_WW (ad := ad) (cI := cI) (cW := cW)) rfl 2 (by decide) (hts _ (wz_m tw_1_211)) (fun _ h9 => h9) rfl dX9_wall_31 ?_
      refine lv_aload_n hx hb dX9_wall_34 rfl (lv_at hl 0 rfl) ?_
      refine c_get (v := .ref (ad 1)) hx hb hts (fun w h => wz_m (inX9 w h)) hown hK hP (q_WW (ad := ad) (cI := cI) (cW := cW)) rfl 0 (by decide) (hts _ (wz_m tw_1_209)) (fun _ h9 => h9) rfl dX9_wall_35 ?_
      refine c_getN (v := .ref (ad 3)) hx hb hts (fun w h => wz_m (inX2 w h)) hown hK hP (q_Page_1 (ad := ad) (cI := cI) (cW := cW)).1 rfl 1 (by decide) (List.mem_of_getElem? (i := 18) rfl) (fun _ h9 => h9) rfl dX9_wall_38 ?_
      obtain ⟨r5, hCr5, hE⟩ := st_bo hE
      refine g_callv (va_runV (As := [.ref (ad 3)]) (rest := []) ⟨hx, hb, hml, hown, hts⟩ (k_X3_beginWith hij (q_Scene_22 (ad := ad) (cI := cI) (cW := cW)) (q_Hall_3 (ad := ad) (cI := cI) (cW := cW)) hCr5) (cwV 1 hts (wz_V tw_2_96 tw_2_97 tw_2_98 tw_1_6 tw_2_99) rfl rfl rfl hdV_X3_beginWith ⟨Nat.le_of_ble_eq_true rfl, Nat.le_of_ble_eq_true rfl⟩) (g_preV KC_st ZC_st hK hZ hP hS hK.1 ((q_Scene_22 (ad := ad) (cI := cI) (cW := cW)).1).1 (ec_o (q_Scene_22 (ad := ad) (cI := cI) (cW := cW)).1) rfl) rfl rfl hl.1 rfl (lv_room (Nat.le_of_ble_eq_true rfl)) dX9_wall_41 ⟨Nat.zero_le _, Nat.zero_le _⟩) hS (fun H locs hP hS => ?_)
      refine lv_aload_n hx hb dX9_wall_44 rfl (lv_at hl 0 rfl) ?_
      refine c_get (v := .ref (ad 19)) hx hb hts (fun w h => wz_m (inX9 w h)) hown hK hP (q_WW (ad := ad) (cI := cI) (cW := cW)) rfl 1 (by decide) (hts _ (wz_m tw_1_210)) (fun _ h9 => h9) rfl dX9_wall_45 ?_
      refine lv_aload_n hx hb dX9_wall_48 rfl (lv_at hl 0 rfl) ?_
      refine c_get (v := .ref (ad 1)) hx hb hts (fun w h => wz_m (inX9 w h)) hown hK hP (q_WW (ad := ad) (cI := cI) (cW := cW)) rfl 0 (by decide) (hts _ (wz_m tw_1_209)) (fun _ h9 => h9) rfl dX9_wall_49 ?_
      refine c_getN (v := .ref (ad 16)) hx hb hts (fun w h => wz_m (inX2 w h)) hown hK hP (q_Page_1 (ad := ad) (cI := cI) (cW := cW)).1 rfl 2 (by decide) (List.mem_of_getElem? (i := 19) rfl) (fun _ h9 => h9) rfl dX9_wall_52 ?_
      obtain ⟨r6, hCr6, hE⟩ := st_bo hE
      refine g_callv (va_runV (As := [.ref (ad 16)]) (rest := []) ⟨hx, hb, hml, hown, hts⟩ (k_X0_copyFrom hij (q_Cases_19 (ad := ad) (cI := cI) (cW := cW)) (q_Cases_16 (ad := ad) (cI := cI) (cW := cW)) hCr6) (cwV 1 hts (wz_V tw_2_108 tw_2_109 tw_2_110 tw_1_5 tw_2_111) rfl rfl rfl hdV_X0_copyFrom ⟨Nat.le_of_ble_eq_true rfl, Nat.le_of_ble_eq_true rfl⟩) (g_preV KC_st ZC_st hK hZ hP hS hK.1 ((q_Cases_19 (ad := ad) (cI := cI) (cW := cW)).1).1 (ec_o (q_Cases_19 (ad := ad) (cI := cI) (cW := cW)).1) rfl) rfl rfl hl.1 rfl (lv_room (Nat.le_of_ble_eq_true rfl)) dX9_wall_55 ⟨Nat.zero_le _, Nat.zero_le _⟩) hS (fun H locs hP hS => ?_)
      refine lv_aload_n hx hb dX9_wall_58 rfl (lv_at hl 0 rfl) ?_
      refine lv_iconst (v := 0) hx hb dX9_wall_59 (by decide) ?_
      refine c_put hij hx hb hts (fun w h => wz_m (inX9 w h)) tyX9 tyX9_ok nmX9 hown hK hP hS (q_WW (ad := ad) (cI := cI) (cW := cW)) rfl 7 (by decide) (hts _ (wz_m tw_1_216)) (fun _ h9 => h9) rfl (by first | rfl | (split <;> rfl)) rfl (fun _ => Nat.le_of_ble_eq_true rfl) (fun _ => rfl) dX9_wall_60 (fun H locs hP hS => ?_)
      obtain ⟨S7, eS7, hE⟩ := st_bv hE
      rw [← eS7] at hP
      refine lv_aload_n hx hb dX9_wall_63 rfl (lv_at hl 0 rfl) ?_
      refine lv_dup hx hb dX9_wall_64 rfl ?_
      refine c_get (v := .int (S7 0 8)) hx hb hts (fun w h => wz_m (inX9 w h)) hown hK hP (q_WW (ad := ad) (cI := cI) (cW := cW)) rfl 8 (by decide) (hts _ (wz_m tw_1_217)) (fun _ h9 => h9) rfl dX9_wall_65 ?_
      refine lv_iconst (v := 1) hx hb dX9_wall_68 (by decide) ?_
      refine lv_iadd hx hb dX9_wall_69 ?_
      refine c_put hij hx hb hts (fun w h => wz_m (inX9 w h)) tyX9 tyX9_ok nmX9 hown hK hP hS (q_WW (ad := ad) (cI := cI) (cW := cW)) rfl 8 (by decide) (hts _ (wz_m tw_1_217)) (fun _ h9 => h9) rfl rfl rfl (fun _ => Nat.le_of_ble_eq_true rfl) (fun _ => rfl) dX9_wall_70 (fun H locs hP hS => ?_)
      obtain ⟨S8, eS8, hE⟩ := st_bv hE
      rw [← eS8] at hP
      refine lv_aload_n hx hb dX9_wall_73 rfl (lv_at hl 0 rfl) ?_
      refine c_get (v := .ref (ad 1)) hx hb hts (fun w h => wz_m (inX9 w h)) hown hK hP (q_WW (ad := ad) (cI := cI) (cW := cW)) rfl 0 (by decide) (hts _ (wz_m tw_1_209)) (fun _ h9 => h9) rfl dX9_wall_74 ?_
      refine lv_iconst (v := 0) hx hb dX9_wall_77 (by decide) ?_
      refine c_putN hij hx hb hts (fun w h => wz_m (inX2 w h)) tyX2 tyX2_ok nmX2 hown hK hP hS (q_Page_1 (ad := ad) (cI := cI) (cW := cW)).1 rfl 3 (by decide) (List.mem_of_getElem? (i := 20) rfl) (fun _ h9 => h9) rfl rfl rfl (fun _ => Nat.le_of_ble_eq_true rfl) (fun _ => rfl) dX9_wall_78 (fun H locs hP hS => ?_)
      obtain ⟨S9, eS9, hE⟩ := st_bv hE
      rw [← eS9] at hP
      refine lv_aload_n hx hb dX9_wall_81 rfl (lv_at hl 0 rfl) ?_
      refine c_get (v := .ref (ad 22)) hx hb hts (fun w h => wz_m (inX9 w h)) hown hK hP (q_WW (ad := ad) (cI := cI) (cW := cW)) rfl 2 (by decide) (hts _ (wz_m tw_1_211)) (fun _ h9 => h9) rfl dX9_wall_82 ?_
      refine c_getN (v := .ref (ad 23)) hx hb hts (fun w h => wz_m (inX3 w h)) hown hK hP (q_Scene_22 (ad := ad) (cI := cI) (cW := cW)).1 rfl 0 (by decide) (List.mem_of_getElem? (i := 29) rfl) (fun _ h9 => h9) rfl dX9_wall_85 ?_
      refine c_getN (v := .int (S9 23 2)) hx hb hts (fun w h => wz_m (inX1 w h)) hown hK hP (q_Hall_23 (ad := ad) (cI := cI) (cW := cW)).1 rfl 2 (by decide) (List.mem_of_getElem? (i := 10) rfl) (fun _ h9 => h9) rfl dX9_wall_88 ?_
      replace hE := Option.some.inj hE
      have hq := Prod.mk.inj hE
      subst hQQ
      exact g_iret hx hb hr hlocks hP hS hq.1 hq.2 dX9_wall_91
    · have hE := st_t hE hc4
      refine lv_bipush (v := (-103)) hx hb dX9_wall_27 (by decide) ?_
      replace hE := Option.some.inj hE
      have hq := Prod.mk.inj hE
      subst hQQ
      exact g_iret hx hb hr hlocks hP hS hq.1 hq.2 dX9_wall_29

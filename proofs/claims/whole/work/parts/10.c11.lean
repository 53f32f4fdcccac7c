def f_X9_letter (S0 : (Nat → Nat → Int32)) (a1 : Int32) : Option (Int32 × (Nat → Nat → Int32)) :=
  bo (f_X9_isWithin a1 32 126) (fun (r1 : Int32) => if r1 = 0 then (some ((-102), S0)) else (if (S0 1 3) < 54 then (bo (f_X2_write S0 a1) (fun (r4 : (Nat → Nat → Int32)) => some (r4 1 3, r4))) else (some ((-104), S0))))
abbrev rmX9_letter : Room := { frames := 1, cells := 0, slots := 0, locals := 22 }
theorem hdV_X9_letter : yX9_letter.cls = "WitnessWall" ∧ yX9_letter.cls ≠ "java/lang/invoke/MethodHandle" ∧ yX9_letter.cls ≠ "java/lang/invoke/VarHandle" ∧ (parseMethodDescriptor yX9_letter.desc).map (fun d => d.parameters.length) = some 1 := by decide +kernel
set_option maxHeartbeats 4000000 in
set_option maxRecDepth 100000 in
theorem k_X9_letter {l : Launch} {D : va_G} {ad : Nat → Nat} {cI cW : ClassId} {tK tC : Nat} (hij : inj 83 ad)  {S0 : (Nat → Nat → Int32)} {a1 : Int32} {r : Int32} {Sr : (Nat → Nat → Int32)} (hE : f_X9_letter S0 a1 = some (r, Sr)) {sz : Nat} : Met l yX9_letter (wz yX9_letter cX9_letter 2 (some FieldType.int)) rmX9_letter (PG 83 ad (ec ad cI cW) D (KC D cI cW) (ZC tK tC) [.ref (ad 0), .int a1] S0 sz) (QGi 83 ad (ec ad cI cW) D r Sr sz) 0 0 (AD 83 ad sz) := by
  unfold f_X9_letter at hE
  refine g_start (cc := cX9_letter) (maxL := 2) (ret := (some FieldType.int)) (Qc := fun sz => QGi 83 ad (ec ad cI cW) D r Sr sz) (by decide) rfl (Nat.le_of_ble_eq_true rfl) ?_
  intro p e s m args below meth c H locs ls hx hb hr hts hown hlocks hml hK hZ hP hS hl
  replace hl : lv_has ls 2 [(0, .ref (ad 0)), (1, .int a1)] := hl
  obtain ⟨QQ, hQQ⟩ : ∃ q, q = MQ below (QGi 83 ad (ec ad cI cW) D r Sr s.heap.size) args s 0 0 (AD 83 ad s.heap.size) := ⟨_, rfl⟩
  rw [← hQQ]
  refine lv_iload_n hx hb dX9_letter_0 rfl (lv_at hl 1 rfl) ?_
  refine lv_bipush (v := 32) hx hb dX9_letter_1 (by decide) ?_
  refine lv_bipush (v := 126) hx hb dX9_letter_3 (by decide) ?_
  obtain ⟨r1, hCr1, hE⟩ := st_bo hE
  refine g_calli (va_runS (As := [.int a1, .int 32, .int 126]) (rest := []) ⟨hx, hb, hml, hown, hts⟩ (k_X9_isWithin hij (S0 := S0) hCr1) (va_cwS 3 hts (wz_S tw_2_1 tw_2_2 tw_1_1 tw_2_3) rfl rfl rfl hdS_X9_isWithin ⟨Nat.le_of_ble_eq_true rfl, Nat.le_of_ble_eq_true rfl⟩) (g_preS KC_st ZC_st hK hZ hP hS) rfl rfl hl.1 rfl (lv_room (Nat.le_of_ble_eq_true rfl)) dX9_letter_5 ⟨Nat.zero_le _, Nat.zero_le _⟩) hS (fun H locs hP hS => ?_)
  refine lv_if_ne (tgt := 14) hx hb dX9_letter_8 (by decide) (fun hc2 => ?_) (fun hc2 => ?_)
  · have hE := st_f hE hc2
    refine lv_aload_n hx hb dX9_letter_14 rfl (lv_at hl 0 rfl) ?_
    refine c_get (v := .ref (ad 1)) hx hb hts (fun w h => wz_m (inX9 w h)) hown hK hP (q_WW (ad := ad) (cI := cI) (cW := cW)) rfl 0 (by decide) (hts _ (wz_m tw_1_209)) (fun _ h9 => h9) rfl dX9_letter_15 ?_
    refine c_getN (v := .int (S0 1 3)) hx hb hts (fun w h => wz_m (inX2 w h)) hown hK hP (q_Page_1 (ad := ad) (cI := cI) (cW := cW)).1 rfl 3 (by decide) (List.mem_of_getElem? (i := 20) rfl) (fun _ h9 => h9) rfl dX9_letter_18 ?_
    refine lv_bipush (v := 54) hx hb dX9_letter_21 (by decide) ?_
    refine lv_icmp_lt (tgt := 29) hx hb dX9_letter_23 (by decide) (fun hc3 => ?_) (fun hc3 => ?_)
    · have hE := st_t hE hc3
      refine lv_aload_n hx hb dX9_letter_29 rfl (lv_at hl 0 rfl) ?_
      refine c_get (v := .ref (ad 1)) hx hb hts (fun w h => wz_m (inX9 w h)) hown hK hP (q_WW (ad := ad) (cI := cI) (cW := cW)) rfl 0 (by decide) (hts _ (wz_m tw_1_209)) (fun _ h9 => h9) rfl dX9_letter_30 ?_
      refine lv_iload_n hx hb dX9_letter_33 rfl (lv_at hl 1 rfl) ?_
      obtain ⟨r4, hCr4, hE⟩ := st_bo hE
      refine g_callv (va_runV (As := [.int a1]) (rest := []) ⟨hx, hb, hml, hown, hts⟩ (k_X2_write hij hCr4) (cwV 1 hts (wz_V tw_2_4 tw_2_5 tw_2_6 tw_1_2 tw_2_7) rfl rfl rfl hdV_X2_write ⟨Nat.le_of_ble_eq_true rfl, Nat.le_of_ble_eq_true rfl⟩) (g_preV KC_st ZC_st hK hZ hP hS hK.1 ((q_Page_1 (ad := ad) (cI := cI) (cW := cW)).1).1 (ec_o (q_Page_1 (ad := ad) (cI := cI) (cW := cW)).1) rfl) rfl rfl hl.1 rfl (lv_room (Nat.le_of_ble_eq_true rfl)) dX9_letter_34 ⟨Nat.zero_le _, Nat.zero_le _⟩) hS (fun H locs hP hS => ?_)
      refine lv_aload_n hx hb dX9_letter_37 rfl (lv_at hl 0 rfl) ?_
      refine c_get (v := .ref (ad 1)) hx hb hts (fun w h => wz_m (inX9 w h)) hown hK hP (q_WW (ad := ad) (cI := cI) (cW := cW)) rfl 0 (by decide) (hts _ (wz_m tw_1_209)) (fun _ h9 => h9) rfl dX9_letter_38 ?_
      refine c_getN (v := .int (r4 1 3)) hx hb hts (fun w h => wz_m (inX2 w h)) hown hK hP (q_Page_1 (ad := ad) (cI := cI) (cW := cW)).1 rfl 3 (by decide) (List.mem_of_getElem? (i := 20) rfl) (fun _ h9 => h9) rfl dX9_letter_41 ?_
      replace hE := Option.some.inj hE
      have hq := Prod.mk.inj hE
      subst hQQ
      exact g_iret hx hb hr hlocks hP hS hq.1 hq.2 dX9_letter_44
    · have hE := st_f hE hc3
      refine lv_bipush (v := (-104)) hx hb dX9_letter_26 (by decide) ?_
      replace hE := Option.some.inj hE
      have hq := Prod.mk.inj hE
      subst hQQ
      exact g_iret hx hb hr hlocks hP hS hq.1 hq.2 dX9_letter_28
  · have hE := st_t hE hc2
    refine lv_bipush (v := (-102)) hx hb dX9_letter_11 (by decide) ?_
    replace hE := Option.some.inj hE
    have hq := Prod.mk.inj hE
    subst hQQ
    exact g_iret hx hb hr hlocks hP hS hq.1 hq.2 dX9_letter_13
def f_X9_odds (S0 : (Nat → Nat → Int32)) (a1 : Int32) (a2 : Int32) (a3 : Int32) (a4 : Int32) : Option (Int32 × (Nat → Nat → Int32)) :=
  bo (f_X9_isThing a1) (fun (r1 : Int32) => if r1 = 0 then (some ((-102), S0)) else (bo (f_X9_isColour a2) (fun (r3 : Int32) => if r3 = 0 then (some ((-102), S0)) else (bo (f_X9_isWithin a3 0 5) (fun (r5 : Int32) => if r5 = 0 then (some ((-102), S0)) else (bo (f_X9_isWithin a4 0 1) (fun (r7 : Int32) => if r7 = 0 then (some ((-102), S0)) else (bo (f_X9_hasWall S0) (fun (r9 : Int32) => if r9 = 0 then (some ((-103), S0)) else (bo (f_X8_howMany S0 23 a3 a1 a2) (fun (r11 : Int32 × (Nat → Nat → Int32)) => bo (f_X8_howMany r11.2 23 a3 (-1) (-1)) (fun (r12 : Int32 × (Nat → Nat → Int32)) => bo (f_X9_commonMeasure r11.1 r12.1) (fun (r13 : Int32) => if 1 ≤ r13 then (if a4 = 0 then (gd (nz r13) (some (r11.1 / r13, r12.2))) else (gd (nz r13) (some (r12.1 / r13, r12.2)))) else (if a4 = 0 then (some (0, r12.2)) else (some (1, r12.2))))))))))))))))
abbrev rmX9_odds : Room := { frames := 4, cells := 0, slots := 0, locals := 99 }
theorem hdV_X9_odds : yX9_odds.cls = "WitnessWall" ∧ yX9_odds.cls ≠ "java/lang/invoke/MethodHandle" ∧ yX9_odds.cls ≠ "java/lang/invoke/VarHandle" ∧ (parseMethodDescriptor yX9_odds.desc).map (fun d => d.parameters.length) = some 4 := by decide +kernel
set_option maxHeartbeats 4000000 in
set_option maxRecDepth 100000 in
theorem k_X9_odds {l : Launch} {D : va_G} {ad : Nat → Nat} {cI cW : ClassId} {tK tC : Nat} (hij : inj 83 ad)  {S0 : (Nat → Nat → Int32)} {a1 : Int32} {a2 : Int32} {a3 : Int32} {a4 : Int32} {r : Int32} {Sr : (Nat → Nat → Int32)} (hE : f_X9_odds S0 a1 a2 a3 a4 = some (r, Sr)) {sz : Nat} : Met l yX9_odds (wz yX9_odds cX9_odds 8 (some FieldType.int)) rmX9_odds (PG 83 ad (ec ad cI cW) D (KC D cI cW) (ZC tK tC) [.ref (ad 0), .int a1, .int a2, .int a3, .int a4] S0 sz) (QGi 83 ad (ec ad cI cW) D r Sr sz) 0 0 (AD 83 ad sz) := by
  unfold f_X9_odds at hE
  refine g_start (cc := cX9_odds) (maxL := 8) (ret := (some FieldType.int)) (Qc := fun sz => QGi 83 ad (ec ad cI cW) D r Sr sz) (by decide) rfl (Nat.le_of_ble_eq_true rfl) ?_
  intro p e s m args below meth c H locs ls hx hb hr hts hown hlocks hml hK hZ hP hS hl
  replace hl : lv_has ls 8 [(0, .ref (ad 0)), (1, .int a1), (2, .int a2), (3, .int a3), (4, .int a4)] := hl
  obtain ⟨QQ, hQQ⟩ : ∃ q, q = MQ below (QGi 83 ad (ec ad cI cW) D r Sr s.heap.size) args s 0 0 (AD 83 ad s.heap.size) := ⟨_, rfl⟩
  rw [← hQQ]
  refine lv_iload_n hx hb dX9_odds_0 rfl (lv_at hl 1 rfl) ?_
  obtain ⟨r1, hCr1, hE⟩ := st_bo hE
  refine g_calli (va_runS (As := [.int a1]) (rest := []) ⟨hx, hb, hml, hown, hts⟩ (k_X9_isThing hij (S0 := S0) hCr1) (va_cwS 1 hts (wz_S tw_2_166 tw_2_54 tw_1_1 tw_2_55) rfl rfl rfl hdS_X9_isThing ⟨Nat.le_of_ble_eq_true rfl, Nat.le_of_ble_eq_true rfl⟩) (g_preS KC_st ZC_st hK hZ hP hS) rfl rfl hl.1 rfl (lv_room (Nat.le_of_ble_eq_true rfl)) dX9_odds_1 ⟨Nat.zero_le _, Nat.zero_le _⟩) hS (fun H locs hP hS => ?_)
  refine lv_if_eq (tgt := 14) hx hb dX9_odds_4 (by decide) (fun hc2 => ?_) (fun hc2 => ?_)
  · have hE := st_t hE hc2
    refine lv_bipush (v := (-102)) hx hb dX9_odds_14 (by decide) ?_
    replace hE := Option.some.inj hE
    have hq := Prod.mk.inj hE
    subst hQQ
    exact g_iret hx hb hr hlocks hP hS hq.1 hq.2 dX9_odds_16
  · have hE := st_f hE hc2
    refine lv_iload_n hx hb dX9_odds_7 rfl (lv_at hl 2 rfl) ?_
    obtain ⟨r3, hCr3, hE⟩ := st_bo hE
    refine g_calli (va_runS (As := [.int a2]) (rest := []) ⟨hx, hb, hml, hown, hts⟩ (k_X9_isColour hij (S0 := S0) hCr3) (va_cwS 1 hts (wz_S tw_2_192 tw_2_61 tw_1_1 tw_2_62) rfl rfl rfl hdS_X9_isColour ⟨Nat.le_of_ble_eq_true rfl, Nat.le_of_ble_eq_true rfl⟩) (g_preS KC_st ZC_st hK hZ hP hS) rfl rfl hl.1 rfl (lv_room (Nat.le_of_ble_eq_true rfl)) dX9_odds_8 ⟨Nat.zero_le _, Nat.zero_le _⟩) hS (fun H locs hP hS => ?_)
    refine lv_if_ne (tgt := 17) hx hb dX9_odds_11 (by decide) (fun hc4 => ?_) (fun hc4 => ?_)
    · have hE := st_f hE hc4
      refine lv_iload_n hx hb dX9_odds_17 rfl (lv_at hl 3 rfl) ?_
      refine lv_iconst (v := 0) hx hb dX9_odds_18 (by decide) ?_
      refine lv_iconst (v := 5) hx hb dX9_odds_19 (by decide) ?_
      obtain ⟨r5, hCr5, hE⟩ := st_bo hE
      refine g_calli (va_runS (As := [.int a3, .int 0, .int 5]) (rest := []) ⟨hx, hb, hml, hown, hts⟩ (k_X9_isWithin hij (S0 := S0) hCr5) (va_cwS 3 hts (wz_S tw_2_1 tw_2_2 tw_1_1 tw_2_3) rfl rfl rfl hdS_X9_isWithin ⟨Nat.le_of_ble_eq_true rfl, Nat.le_of_ble_eq_true rfl⟩) (g_preS KC_st ZC_st hK hZ hP hS) rfl rfl hl.1 rfl (lv_room (Nat.le_of_ble_eq_true rfl)) dX9_odds_20 ⟨Nat.zero_le _, Nat.zero_le _⟩) hS (fun H locs hP hS => ?_)
      refine lv_if_eq (tgt := 36) hx hb dX9_odds_23 (by decide) (fun hc6 => ?_) (fun hc6 => ?_)
      · have hE := st_t hE hc6
        refine lv_bipush (v := (-102)) hx hb dX9_odds_36 (by decide) ?_
        replace hE := Option.some.inj hE
        have hq := Prod.mk.inj hE
        subst hQQ
        exact g_iret hx hb hr hlocks hP hS hq.1 hq.2 dX9_odds_38
      · have hE := st_f hE hc6
        refine lv_iload hx hb dX9_odds_26 (lv_at hl 4 rfl) ?_
        refine lv_iconst (v := 0) hx hb dX9_odds_28 (by decide) ?_
        refine lv_iconst (v := 1) hx hb dX9_odds_29 (by decide) ?_
        obtain ⟨r7, hCr7, hE⟩ := st_bo hE
        refine g_calli (va_runS (As := [.int a4, .int 0, .int 1]) (rest := []) ⟨hx, hb, hml, hown, hts⟩ (k_X9_isWithin hij (S0 := S0) hCr7) (va_cwS 3 hts (wz_S tw_2_1 tw_2_2 tw_1_1 tw_2_3) rfl rfl rfl hdS_X9_isWithin ⟨Nat.le_of_ble_eq_true rfl, Nat.le_of_ble_eq_true rfl⟩) (g_preS KC_st ZC_st hK hZ hP hS) rfl rfl hl.1 rfl (lv_room (Nat.le_of_ble_eq_true rfl)) dX9_odds_30 ⟨Nat.zero_le _, Nat.zero_le _⟩) hS (fun H locs hP hS => ?_)
        refine lv_if_ne (tgt := 39) hx hb dX9_odds_33 (by decide) (fun hc8 => ?_) (fun hc8 => ?_)
        · have hE := st_f hE hc8
          refine lv_aload_n hx hb dX9_odds_39 rfl (lv_at hl 0 rfl) ?_
          obtain ⟨r9, hCr9, hE⟩ := st_bo hE
          refine g_calli (va_runV (As := []) (rest := []) ⟨hx, hb, hml, hown, hts⟩ (k_X9_hasWall hij hCr9) (cwV 0 hts (wz_V tw_2_172 tw_2_174 tp_1 tw_1_1 tw_2_175) rfl rfl rfl hdV_X9_hasWall ⟨Nat.le_of_ble_eq_true rfl, Nat.le_of_ble_eq_true rfl⟩) (g_preV KC_st ZC_st hK hZ hP hS hK.1 ((q_WW (ad := ad) (cI := cI) (cW := cW))).1 (ec_o (q_WW (ad := ad) (cI := cI) (cW := cW))) rfl) rfl rfl hl.1 rfl (lv_room (Nat.le_of_ble_eq_true rfl)) dX9_odds_40 ⟨Nat.zero_le _, Nat.zero_le _⟩) hS (fun H locs hP hS => ?_)
          refine lv_if_ne (tgt := 49) hx hb dX9_odds_43 (by decide) (fun hc10 => ?_) (fun hc10 => ?_)
          · have hE := st_f hE hc10
            refine lv_aload_n hx hb dX9_odds_49 rfl (lv_at hl 0 rfl) ?_
            refine c_get (v := .ref (ad 80)) hx hb hts (fun w h => wz_m (inX9 w h)) hown hK hP (q_WW (ad := ad) (cI := cI) (cW := cW)) rfl 6 (by decide) (hts _ (wz_m tw_1_215)) (fun _ h9 => h9) rfl dX9_odds_50 ?_
            refine lv_aload_n hx hb dX9_odds_53 rfl (lv_at hl 0 rfl) ?_
            refine c_get (v := .ref (ad 22)) hx hb hts (fun w h => wz_m (inX9 w h)) hown hK hP (q_WW (ad := ad) (cI := cI) (cW := cW)) rfl 2 (by decide) (hts _ (wz_m tw_1_211)) (fun _ h9 => h9) rfl dX9_odds_54 ?_
            refine c_getN (v := .ref (ad 23)) hx hb hts (fun w h => wz_m (inX3 w h)) hown hK hP (q_Scene_22 (ad := ad) (cI := cI) (cW := cW)).1 rfl 0 (by decide) (List.mem_of_getElem? (i := 29) rfl) (fun _ h9 => h9) rfl dX9_odds_57 ?_
            refine lv_iload_n hx hb dX9_odds_60 rfl (lv_at hl 3 rfl) ?_
            refine lv_iload_n hx hb dX9_odds_61 rfl (lv_at hl 1 rfl) ?_
            refine lv_iload_n hx hb dX9_odds_62 rfl (lv_at hl 2 rfl) ?_
            obtain ⟨r11, hCr11, hE⟩ := st_bo hE
            refine g_calli (va_runV (As := [.ref (ad 23), .int a3, .int a1, .int a2]) (rest := []) ⟨hx, hb, hml, hown, hts⟩ (k_X8_howMany hij (q_Hall_23 (ad := ad) (cI := cI) (cW := cW)) hCr11) (cwV 4 hts (wz_V tw_3_58 tw_3_59 tw_3_60 tw_1_10 tw_3_61) rfl rfl rfl hdV_X8_howMany ⟨Nat.le_of_ble_eq_true rfl, Nat.le_of_ble_eq_true rfl⟩) (g_preV KC_st ZC_st hK hZ hP hS hK.1 ((q_Worlds_80 (ad := ad) (cI := cI) (cW := cW)).1).1 (ec_o (q_Worlds_80 (ad := ad) (cI := cI) (cW := cW)).1) rfl) rfl rfl hl.1 rfl (lv_room (Nat.le_of_ble_eq_true rfl)) dX9_odds_63 ⟨Nat.zero_le _, Nat.zero_le _⟩) hS (fun H locs hP hS => ?_)
            refine lv_istore (lv' := [(5, .int r11.1), (0, .ref (ad 0)), (1, .int a1), (2, .int a2), (3, .int a3), (4, .int a4)]) hx hb dX9_odds_66 hl (by decide) rfl (fun ls hl => ?_)
            refine lv_aload_n hx hb dX9_odds_68 rfl (lv_at hl 1 rfl) ?_
            refine c_get (v := .ref (ad 80)) hx hb hts (fun w h => wz_m (inX9 w h)) hown hK hP (q_WW (ad := ad) (cI := cI) (cW := cW)) rfl 6 (by decide) (hts _ (wz_m tw_1_215)) (fun _ h9 => h9) rfl dX9_odds_69 ?_
            refine lv_aload_n hx hb dX9_odds_72 rfl (lv_at hl 1 rfl) ?_
            refine c_get (v := .ref (ad 22)) hx hb hts (fun w h => wz_m (inX9 w h)) hown hK hP (q_WW (ad := ad) (cI := cI) (cW := cW)) rfl 2 (by decide) (hts _ (wz_m tw_1_211)) (fun _ h9 => h9) rfl dX9_odds_73 ?_
            refine c_getN (v := .ref (ad 23)) hx hb hts (fun w h => wz_m (inX3 w h)) hown hK hP (q_Scene_22 (ad := ad) (cI := cI) (cW := cW)).1 rfl 0 (by decide) (List.mem_of_getElem? (i := 29) rfl) (fun _ h9 => h9) rfl dX9_odds_76 ?_
            refine lv_iload_n hx hb dX9_odds_79 rfl (lv_at hl 4 rfl) ?_
            refine lv_iconst (v := (-1)) hx hb dX9_odds_80 (by decide) ?_
            refine lv_iconst (v := (-1)) hx hb dX9_odds_81 (by decide) ?_
            obtain ⟨r12, hCr12, hE⟩ := st_bo hE
            refine g_calli (va_runV (As := [.ref (ad 23), .int a3, .int (-1), .int (-1)]) (rest := []) ⟨hx, hb, hml, hown, hts⟩ (k_X8_howMany hij (q_Hall_23 (ad := ad) (cI := cI) (cW := cW)) hCr12) (cwV 4 hts (wz_V tw_3_58 tw_3_59 tw_3_60 tw_1_10 tw_3_61) rfl rfl rfl hdV_X8_howMany ⟨Nat.le_of_ble_eq_true rfl, Nat.le_of_ble_eq_true rfl⟩) (g_preV KC_st ZC_st hK hZ hP hS hK.1 ((q_Worlds_80 (ad := ad) (cI := cI) (cW := cW)).1).1 (ec_o (q_Worlds_80 (ad := ad) (cI := cI) (cW := cW)).1) rfl) rfl rfl hl.1 rfl (lv_room (Nat.le_of_ble_eq_true rfl)) dX9_odds_82 ⟨Nat.zero_le _, Nat.zero_le _⟩) hS (fun H locs hP hS => ?_)
            refine lv_istore (lv' := [(6, .int r12.1), (5, .int r11.1), (0, .ref (ad 0)), (1, .int a1), (2, .int a2), (3, .int a3), (4, .int a4)]) hx hb dX9_odds_85 hl (by decide) rfl (fun ls hl => ?_)
            refine lv_iload hx hb dX9_odds_87 (lv_at hl 1 rfl) ?_
            refine lv_iload hx hb dX9_odds_89 (lv_at hl 0 rfl) ?_
            obtain ⟨r13, hCr13, hE⟩ := st_bo hE
            refine g_calli (va_runS (As := [.int r11.1, .int r12.1]) (rest := []) ⟨hx, hb, hml, hown, hts⟩ (k_X9_commonMeasure hij (S0 := r12.2) hCr13) (va_cwS 2 hts (wz_S tw_3_79 tw_3_80 tw_1_1 tw_3_81) rfl rfl rfl hdS_X9_commonMeasure ⟨Nat.le_of_ble_eq_true rfl, Nat.le_of_ble_eq_true rfl⟩) (g_preS KC_st ZC_st hK hZ hP hS) rfl rfl hl.1 rfl (lv_room (Nat.le_of_ble_eq_true rfl)) dX9_odds_91 ⟨Nat.zero_le _, Nat.zero_le _⟩) hS (fun H locs hP hS => ?_)
            refine lv_istore (lv' := [(7, .int r13), (6, .int r12.1), (5, .int r11.1), (0, .ref (ad 0)), (1, .int a1), (2, .int a2), (3, .int a3), (4, .int a4)]) hx hb dX9_odds_94 hl (by decide) rfl (fun ls hl => ?_)
            refine lv_iload hx hb dX9_odds_96 (lv_at hl 0 rfl) ?_
            refine lv_iconst (v := 1) hx hb dX9_odds_98 (by decide) ?_
            refine lv_icmp_ge (tgt := 113) hx hb dX9_odds_99 (by decide) (fun hc14 => ?_) (fun hc14 => ?_)
            · have hE := st_t hE hc14
              refine lv_iload hx hb dX9_odds_113 (lv_at hl 7 rfl) ?_
              refine lv_if_ne (tgt := 126) hx hb dX9_odds_115 (by decide) (fun hc15 => ?_) (fun hc15 => ?_)
              · have hE := st_f hE hc15
                refine lv_iload hx hb dX9_odds_126 (lv_at hl 1 rfl) ?_
                refine lv_iload hx hb dX9_odds_128 (lv_at hl 0 rfl) ?_
                obtain ⟨hn16, hE⟩ := st_gd hE
                refine lv_idiv hx hb dX9_odds_130 (st_nz hn16) ?_
                replace hE := Option.some.inj hE
                have hq := Prod.mk.inj hE
                subst hQQ
                exact g_iret hx hb hr hlocks hP hS hq.1 hq.2 dX9_odds_131
              · have hE := st_t hE hc15
                refine lv_iload hx hb dX9_odds_118 (lv_at hl 2 rfl) ?_
                refine lv_iload hx hb dX9_odds_120 (lv_at hl 0 rfl) ?_
                obtain ⟨hn17, hE⟩ := st_gd hE
                refine lv_idiv hx hb dX9_odds_122 (st_nz hn17) ?_
                refine lv_goto (tgt := 131) hx hb dX9_odds_123 (by decide) ?_
                replace hE := Option.some.inj hE
                have hq := Prod.mk.inj hE
                subst hQQ
                exact g_iret hx hb hr hlocks hP hS hq.1 hq.2 dX9_odds_131
            · have hE := st_f hE hc14
              refine lv_iload hx hb dX9_odds_102 (lv_at hl 7 rfl) ?_
              refine lv_if_ne (tgt := 111) hx hb dX9_odds_104 (by decide) (fun hc18 => ?_) (fun hc18 => ?_)
              · have hE := st_f hE hc18
                refine lv_iconst (v := 1) hx hb dX9_odds_111 (by decide) ?_
                replace hE := Option.some.inj hE
                have hq := Prod.mk.inj hE
                subst hQQ
                exact g_iret hx hb hr hlocks hP hS hq.1 hq.2 dX9_odds_112
              · have hE := st_t hE hc18
                refine lv_iconst (v := 0) hx hb dX9_odds_107 (by decide) ?_
                refine lv_goto (tgt := 112) hx hb dX9_odds_108 (by decide) ?_
                replace hE := Option.some.inj hE
                have hq := Prod.mk.inj hE
                subst hQQ
                exact g_iret hx hb hr hlocks hP hS hq.1 hq.2 dX9_odds_112
          · have hE := st_t hE hc10
            refine lv_bipush (v := (-103)) hx hb dX9_odds_46 (by decide) ?_
            replace hE := Option.some.inj hE
            have hq := Prod.mk.inj hE
            subst hQQ
            exact g_iret hx hb hr hlocks hP hS hq.1 hq.2 dX9_odds_48
        · have hE := st_t hE hc8
          refine lv_bipush (v := (-102)) hx hb dX9_odds_36 (by decide) ?_
          replace hE := Option.some.inj hE
          have hq := Prod.mk.inj hE
          subst hQQ
          exact g_iret hx hb hr hlocks hP hS hq.1 hq.2 dX9_odds_38
    · have hE := st_t hE hc4
      refine lv_bipush (v := (-102)) hx hb dX9_odds_14 (by decide) ?_
      replace hE := Option.some.inj hE
      have hq := Prod.mk.inj hE
      subst hQQ
      exact g_iret hx hb hr hlocks hP hS hq.1 hq.2 dX9_odds_16
def f_X9_restore (S0 : (Nat → Nat → Int32)) : Option (Int32 × (Nat → Nat → Int32)) :=
  if (S0 0 7) = 0 then (some ((-103), S0)) else (bo (f_X3_copyFrom 22 S0 43) (fun (r2 : (Nat → Nat → Int32)) => some (r2 22 3, r2)))
abbrev rmX9_restore : Room := { frames := 3, cells := 0, slots := 0, locals := 65 }
theorem hdV_X9_restore : yX9_restore.cls = "WitnessWall" ∧ yX9_restore.cls ≠ "java/lang/invoke/MethodHandle" ∧ yX9_restore.cls ≠ "java/lang/invoke/VarHandle" ∧ (parseMethodDescriptor yX9_restore.desc).map (fun d => d.parameters.length) = some 0 := by decide +kernel
set_option maxHeartbeats 4000000 in
set_option maxRecDepth 100000 in
theorem k_X9_restore {l : Launch} {D : va_G} {ad : Nat → Nat} {cI cW : ClassId} {tK tC : Nat} (hij : inj 83 ad)  {S0 : (Nat → Nat → Int32)} {r : Int32} {Sr : (Nat → Nat → Int32)} (hE : f_X9_restore S0 = some (r, Sr)) {sz : Nat} : Met l yX9_restore (wz yX9_restore cX9_restore 1 (some FieldType.int)) rmX9_restore (PG 83 ad (ec ad cI cW) D (KC D cI cW) (ZC tK tC) [.ref (ad 0)] S0 sz) (QGi 83 ad (ec ad cI cW) D r Sr sz) 0 0 (AD 83 ad sz) := by
  unfold f_X9_restore at hE
  refine g_start (cc := cX9_restore) (maxL := 1) (ret := (some FieldType.int)) (Qc := fun sz => QGi 83 ad (ec ad cI cW) D r Sr sz) (by decide) rfl (Nat.le_of_ble_eq_true rfl) ?_
  intro p e s m args below meth c H locs ls hx hb hr hts hown hlocks hml hK hZ hP hS hl
  replace hl : lv_has ls 1 [(0, .ref (ad 0))] := hl
  obtain ⟨QQ, hQQ⟩ : ∃ q, q = MQ below (QGi 83 ad (ec ad cI cW) D r Sr s.heap.size) args s 0 0 (AD 83 ad s.heap.size) := ⟨_, rfl⟩
  rw [← hQQ]
  refine lv_aload_n hx hb dX9_restore_0 rfl (lv_at hl 0 rfl) ?_
  refine c_get (v := .int (S0 0 7)) hx hb hts (fun w h => wz_m (inX9 w h)) hown hK hP (q_WW (ad := ad) (cI := cI) (cW := cW)) rfl 7 (by decide) (hts _ (wz_m tw_1_216)) (fun _ h9 => h9) rfl dX9_restore_1 ?_
  refine lv_if_ne (tgt := 10) hx hb dX9_restore_4 (by decide) (fun hc1 => ?_) (fun hc1 => ?_)
  · have hE := st_f hE hc1
    refine lv_aload_n hx hb dX9_restore_10 rfl (lv_at hl 0 rfl) ?_
    refine c_get (v := .ref (ad 22)) hx hb hts (fun w h => wz_m (inX9 w h)) hown hK hP (q_WW (ad := ad) (cI := cI) (cW := cW)) rfl 2 (by decide) (hts _ (wz_m tw_1_211)) (fun _ h9 => h9) rfl dX9_restore_11 ?_
    refine lv_aload_n hx hb dX9_restore_14 rfl (lv_at hl 0 rfl) ?_
    refine c_get (v := .ref (ad 43)) hx hb hts (fun w h => wz_m (inX9 w h)) hown hK hP (q_WW (ad := ad) (cI := cI) (cW := cW)) rfl 3 (by decide) (hts _ (wz_m tw_1_212)) (fun _ h9 => h9) rfl dX9_restore_15 ?_
    obtain ⟨r2, hCr2, hE⟩ := st_bo hE
    refine g_callv (va_runV (As := [.ref (ad 43)]) (rest := []) ⟨hx, hb, hml, hown, hts⟩ (k_X3_copyFrom hij (q_Scene_22 (ad := ad) (cI := cI) (cW := cW)) (q_Scene_43 (ad := ad) (cI := cI) (cW := cW)) hCr2) (cwV 1 hts (wz_V tw_3_112 tw_3_113 tw_3_114 tw_1_6 tw_3_115) rfl rfl rfl hdV_X3_copyFrom ⟨Nat.le_of_ble_eq_true rfl, Nat.le_of_ble_eq_true rfl⟩) (g_preV KC_st ZC_st hK hZ hP hS hK.1 ((q_Scene_22 (ad := ad) (cI := cI) (cW := cW)).1).1 (ec_o (q_Scene_22 (ad := ad) (cI := cI) (cW := cW)).1) rfl) rfl rfl hl.1 rfl (lv_room (Nat.le_of_ble_eq_true rfl)) dX9_restore_18 ⟨Nat.zero_le _, Nat.zero_le _⟩) hS (fun H locs hP hS => ?_)
    refine lv_aload_n hx hb dX9_restore_21 rfl (lv_at hl 0 rfl) ?_
    refine c_get (v := .ref (ad 22)) hx hb hts (fun w h => wz_m (inX9 w h)) hown hK hP (q_WW (ad := ad) (cI := cI) (cW := cW)) rfl 2 (by decide) (hts _ (wz_m tw_1_211)) (fun _ h9 => h9) rfl dX9_restore_22 ?_
    refine c_getN (v := .int (r2 22 3)) hx hb hts (fun w h => wz_m (inX3 w h)) hown hK hP (q_Scene_22 (ad := ad) (cI := cI) (cW := cW)).1 rfl 3 (by decide) (List.mem_of_getElem? (i := 32) rfl) (fun _ h9 => h9) rfl dX9_restore_25 ?_
    replace hE := Option.some.inj hE
    have hq := Prod.mk.inj hE
    subst hQQ
    exact g_iret hx hb hr hlocks hP hS hq.1 hq.2 dX9_restore_28
  · have hE := st_t hE hc1
    refine lv_bipush (v := (-103)) hx hb dX9_restore_7 (by decide) ?_
    replace hE := Option.some.inj hE
    have hq := Prod.mk.inj hE
    subst hQQ
    exact g_iret hx hb hr hlocks hP hS hq.1 hq.2 dX9_restore_9
def f_X4_add (k : Nat) (S0 : (Nat → Nat → Int32)) (a1 : Int32) (a2 : Int32) (a3 : Int32) : Option ((Nat → Nat → Int32)) :=
  if 6 ≤ (S0 k 2) then (some S0) else (gd (inb (S0 k 2) 6) (bv (up2 S0 (k + 1) ((S0 k 2).toNatClampNeg) a1) (fun S3 => bo (if a3 = 0 then (gd (inb a2 4) (some (31 &&& ((co a2) ^^^ (-1))))) else (gd (inb a2 4) (some (co a2)))) (fun (q4 : Int32) => gd (inb (S3 k 2) 6) (bv (up2 S3 (k + 2) ((S3 k 2).toNatClampNeg) q4) (fun S10 => bv (up2 S10 k 2 ((S10 k 2) + 1)) (fun S11 => some S11)))))))
abbrev rmX4_add : Room := { frames := 0, cells := 0, slots := 0, locals := 0 }
theorem hdV_X4_add : yX4_add.cls = "WitnessWall$Seen" ∧ yX4_add.cls ≠ "java/lang/invoke/MethodHandle" ∧ yX4_add.cls ≠ "java/lang/invoke/VarHandle" ∧ (parseMethodDescriptor yX4_add.desc).map (fun d => d.parameters.length) = some 3 := by decide +kernel
set_option maxHeartbeats 4000000 in
set_option maxRecDepth 100000 in
theorem k_X4_add {l : Launch} {D : va_G} {ad : Nat → Nat} {cI cW : ClassId} {tK tC : Nat} (hij : inj 83 ad) {k : Nat} (h0 : iSeen ad cI cW k) {S0 : (Nat → Nat → Int32)} {a1 : Int32} {a2 : Int32} {a3 : Int32} {Sr : (Nat → Nat → Int32)} (hE : f_X4_add k S0 a1 a2 a3 = some Sr) {sz : Nat} : Met l yX4_add (wz yX4_add cX4_add 4 none) rmX4_add (PG 83 ad (ec ad cI cW) D (KC D cI cW) (ZC tK tC) [.ref (ad k), .int a1, .int a2, .int a3] S0 sz) (QGv 83 ad (ec ad cI cW) D Sr sz) 0 0 (AD 83 ad sz) := by
  unfold f_X4_add at hE
  refine g_start (cc := cX4_add) (maxL := 4) (ret := none) (Qc := fun sz => QGv 83 ad (ec ad cI cW) D Sr sz) (by decide) rfl (Nat.le_of_ble_eq_true rfl) ?_
  intro p e s m args below meth c H locs ls hx hb hr hts hown hlocks hml hK hZ hP hS hl
  replace hl : lv_has ls 4 [(0, .ref (ad k)), (1, .int a1), (2, .int a2), (3, .int a3)] := hl
  obtain ⟨QQ, hQQ⟩ : ∃ q, q = MQ below (QGv 83 ad (ec ad cI cW) D Sr s.heap.size) args s 0 0 (AD 83 ad s.heap.size) := ⟨_, rfl⟩
  rw [← hQQ]
  refine lv_aload_n hx hb dX4_add_0 rfl (lv_at hl 0 rfl) ?_
  refine c_get (v := .int (S0 k 2)) hx hb hts (fun w h => wz_m (inX4 w h)) hown hK hP h0.1 rfl 2 (by decide) (hts _ (wz_m tw_1_154)) (fun _ h9 => h9) rfl dX4_add_1 ?_
  refine lv_bipush (v := 6) hx hb dX4_add_4 (by decide) ?_
  refine lv_icmp_ge (tgt := 60) hx hb dX4_add_6 (by decide) (fun hc1 => ?_) (fun hc1 => ?_)
  · have hE := st_t hE hc1
    replace hE := Option.some.inj hE
    subst hQQ
    exact g_vret hx hb hr hlocks hP hS hE dX4_add_60
  · have hE := st_f hE hc1
    refine lv_aload_n hx hb dX4_add_9 rfl (lv_at hl 0 rfl) ?_
    refine c_get (v := .ref (ad (k + 1))) hx hb hts (fun w h => wz_m (inX4 w h)) hown hK hP h0.1 rfl 0 (by decide) (hts _ (wz_m tw_1_152)) (fun _ h9 => h9) rfl dX4_add_10 ?_
    refine lv_aload_n hx hb dX4_add_13 rfl (lv_at hl 0 rfl) ?_
    refine c_get (v := .int (S0 k 2)) hx hb hts (fun w h => wz_m (inX4 w h)) hown hK hP h0.1 rfl 2 (by decide) (hts _ (wz_m tw_1_154)) (fun _ h9 => h9) rfl dX4_add_14 ?_
    refine lv_iload_n hx hb dX4_add_17 rfl (lv_at hl 1 rfl) ?_
    obtain ⟨hi2, hE⟩ := st_gd hE
    refine c_iast hij hx hb hK hP hS h0.2.1 hi2 dX4_add_18 (fun H locs hP hS => ?_)
    obtain ⟨S3, eS3, hE⟩ := st_bv hE
    rw [← eS3] at hP
    refine lv_aload_n hx hb dX4_add_19 rfl (lv_at hl 0 rfl) ?_
    refine c_get (v := .ref (ad (k + 2))) hx hb hts (fun w h => wz_m (inX4 w h)) hown hK hP h0.1 rfl 1 (by decide) (hts _ (wz_m tw_1_153)) (fun _ h9 => h9) rfl dX4_add_20 ?_
    refine lv_aload_n hx hb dX4_add_23 rfl (lv_at hl 0 rfl) ?_
    refine c_get (v := .int (S3 k 2)) hx hb hts (fun w h => wz_m (inX4 w h)) hown hK hP h0.1 rfl 2 (by decide) (hts _ (wz_m tw_1_154)) (fun _ h9 => h9) rfl dX4_add_24 ?_
    refine lv_iload_n hx hb dX4_add_27 rfl (lv_at hl 3 rfl) ?_
    obtain ⟨q4, hq4, hE⟩ := st_bo hE
    have J5 : ∀ (ls : Array Slot) (H : Heap) (locs : List Loc), lv_has ls 4 [(0, .ref (ad k))] → cP D ad cI cW S3 H → cS ad s H locs → W p l e rmX4_add s m args below meth c H locs 0 0 QQ (F0 m 49 ls [.int q4, .int (S3 k 2), .ref (ad (k + 2))]) := by
      intro ls H locs hl hP hS
      obtain ⟨hi9, hE⟩ := st_gd hE
      refine c_iast hij hx hb hK hP hS h0.2.2 hi9 dX4_add_49 (fun H locs hP hS => ?_)
      obtain ⟨S10, eS10, hE⟩ := st_bv hE
      rw [← eS10] at hP
      refine lv_aload_n hx hb dX4_add_50 rfl (lv_at hl 0 rfl) ?_
      refine lv_dup hx hb dX4_add_51 rfl ?_
      refine c_get (v := .int (S10 k 2)) hx hb hts (fun w h => wz_m (inX4 w h)) hown hK hP h0.1 rfl 2 (by decide) (hts _ (wz_m tw_1_154)) (fun _ h9 => h9) rfl dX4_add_52 ?_
      refine lv_iconst (v := 1) hx hb dX4_add_55 (by decide) ?_
      refine lv_iadd hx hb dX4_add_56 ?_
      refine c_put hij hx hb hts (fun w h => wz_m (inX4 w h)) tyX4 tyX4_ok nmX4 hown hK hP hS h0.1 rfl 2 (by decide) (hts _ (wz_m tw_1_154)) (fun _ h9 => h9) rfl rfl rfl (fun _ => Nat.le_of_ble_eq_true rfl) (fun _ => rfl) dX4_add_57 (fun H locs hP hS => ?_)
      obtain ⟨S11, eS11, hE⟩ := st_bv hE
      rw [← eS11] at hP
      replace hE := Option.some.inj hE
      subst hQQ
      exact g_vret hx hb hr hlocks hP hS hE dX4_add_60
    replace hE := hq4
    refine lv_if_eq (tgt := 39) hx hb dX4_add_28 (by decide) (fun hc6 => ?_) (fun hc6 => ?_)
    · have hE := st_t hE hc6
      refine lv_bipush (v := 31) hx hb dX4_add_39 (by decide) ?_
      refine va_getsN hx hb hZ.2.2.1 hS hown (va_Nw.use rfl (hK.2 _ (List.mem_of_getElem? (i := 39) rfl))) (fun _ h9 => h9) dX4_add_41 ?_
      refine lv_iload_n hx hb dX4_add_44 rfl (lv_at hl 2 rfl) ?_
      obtain ⟨hi7, hE⟩ := st_gd hE
      refine c_co hx hb hZ hS hi7 dX4_add_45 ?_
      refine lv_iconst (v := (-1)) hx hb dX4_add_46 (by decide) ?_
      refine lv_ixor hx hb dX4_add_47 ?_
      refine lv_iand hx hb dX4_add_48 ?_
      have hq := Option.some.inj hE
      subst hq
      exact J5 ls H locs (lv_sub hl [0] rfl) hP hS
    · have hE := st_f hE hc6
      refine va_getsN hx hb hZ.2.2.1 hS hown (va_Nw.use rfl (hK.2 _ (List.mem_of_getElem? (i := 39) rfl))) (fun _ h9 => h9) dX4_add_31 ?_
      refine lv_iload_n hx hb dX4_add_34 rfl (lv_at hl 2 rfl) ?_
      obtain ⟨hi8, hE⟩ := st_gd hE
      refine c_co hx hb hZ hS hi8 dX4_add_35 ?_
      refine lv_goto (tgt := 49) hx hb dX4_add_36 (by decide) ?_
      have hq := Option.some.inj hE
      subst hq
      exact J5 ls H locs (lv_sub hl [0] rfl) hP hS
def f_X9_see (S0 : (Nat → Nat → Int32)) (a1 : Int32) (a2 : Int32) (a3 : Int32) : Option (Int32 × (Nat → Nat → Int32)) :=
  bo (f_X9_isWitness S0 a1) (fun (r1 : Int32) => if r1 = 0 then (some ((-101), S0)) else (bo (f_X9_isWithin a2 0 3) (fun (r3 : Int32) => if r3 = 0 then (some ((-102), S0)) else (if (S0 40 2) < 6 then (bo (f_X4_add 40 S0 a1 a2 a3) (fun (r6 : (Nat → Nat → Int32)) => some (r6 40 2, r6))) else (some ((-104), S0))))))
abbrev rmX9_see : Room := { frames := 2, cells := 0, slots := 0, locals := 43 }
theorem hdV_X9_see : yX9_see.cls = "WitnessWall" ∧ yX9_see.cls ≠ "java/lang/invoke/MethodHandle" ∧ yX9_see.cls ≠ "java/lang/invoke/VarHandle" ∧ (parseMethodDescriptor yX9_see.desc).map (fun d => d.parameters.length) = some 3 := by decide +kernel
set_option maxHeartbeats 4000000 in
set_option maxRecDepth 100000 in
theorem k_X9_see {l : Launch} {D : va_G} {ad : Nat → Nat} {cI cW : ClassId} {tK tC : Nat} (hij : inj 83 ad)  {S0 : (Nat → Nat → Int32)} {a1 : Int32} {a2 : Int32} {a3 : Int32} {r : Int32} {Sr : (Nat → Nat → Int32)} (hE : f_X9_see S0 a1 a2 a3 = some (r, Sr)) {sz : Nat} : Met l yX9_see (wz yX9_see cX9_see 4 (some FieldType.int)) rmX9_see (PG 83 ad (ec ad cI cW) D (KC D cI cW) (ZC tK tC) [.ref (ad 0), .int a1, .int a2, .int a3] S0 sz) (QGi 83 ad (ec ad cI cW) D r Sr sz) 0 0 (AD 83 ad sz) := by
  unfold f_X9_see at hE
  refine g_start (cc := cX9_see) (maxL := 4) (ret := (some FieldType.int)) (Qc := fun sz => QGi 83 ad (ec ad cI cW) D r Sr sz) (by decide) rfl (Nat.le_of_ble_eq_true rfl) ?_
  intro p e s m args below meth c H locs ls hx hb hr hts hown hlocks hml hK hZ hP hS hl
  replace hl : lv_has ls 4 [(0, .ref (ad 0)), (1, .int a1), (2, .int a2), (3, .int a3)] := hl
  obtain ⟨QQ, hQQ⟩ : ∃ q, q = MQ below (QGi 83 ad (ec ad cI cW) D r Sr s.heap.size) args s 0 0 (AD 83 ad s.heap.size) := ⟨_, rfl⟩
  rw [← hQQ]
  refine lv_aload_n hx hb dX9_see_0 rfl (lv_at hl 0 rfl) ?_
  refine lv_iload_n hx hb dX9_see_1 rfl (lv_at hl 1 rfl) ?_
  obtain ⟨r1, hCr1, hE⟩ := st_bo hE
  refine g_calli (va_runV (As := [.int a1]) (rest := []) ⟨hx, hb, hml, hown, hts⟩ (k_X9_isWitness hij hCr1) (cwV 1 hts (wz_V tw_2_116 tw_2_118 tp_0 tw_1_1 tw_2_119) rfl rfl rfl hdV_X9_isWitness ⟨Nat.le_of_ble_eq_true rfl, Nat.le_of_ble_eq_true rfl⟩) (g_preV KC_st ZC_st hK hZ hP hS hK.1 ((q_WW (ad := ad) (cI := cI) (cW := cW))).1 (ec_o (q_WW (ad := ad) (cI := cI) (cW := cW))) rfl) rfl rfl hl.1 rfl (lv_room (Nat.le_of_ble_eq_true rfl)) dX9_see_2 ⟨Nat.zero_le _, Nat.zero_le _⟩) hS (fun H locs hP hS => ?_)
  refine lv_if_ne (tgt := 11) hx hb dX9_see_5 (by decide) (fun hc2 => ?_) (fun hc2 => ?_)
  · have hE := st_f hE hc2
    refine lv_iload_n hx hb dX9_see_11 rfl (lv_at hl 2 rfl) ?_
    refine lv_iconst (v := 0) hx hb dX9_see_12 (by decide) ?_
    refine lv_iconst (v := 3) hx hb dX9_see_13 (by decide) ?_
    obtain ⟨r3, hCr3, hE⟩ := st_bo hE
    refine g_calli (va_runS (As := [.int a2, .int 0, .int 3]) (rest := []) ⟨hx, hb, hml, hown, hts⟩ (k_X9_isWithin hij (S0 := S0) hCr3) (va_cwS 3 hts (wz_S tw_2_1 tw_2_2 tw_1_1 tw_2_3) rfl rfl rfl hdS_X9_isWithin ⟨Nat.le_of_ble_eq_true rfl, Nat.le_of_ble_eq_true rfl⟩) (g_preS KC_st ZC_st hK hZ hP hS) rfl rfl hl.1 rfl (lv_room (Nat.le_of_ble_eq_true rfl)) dX9_see_14 ⟨Nat.zero_le _, Nat.zero_le _⟩) hS (fun H locs hP hS => ?_)
    refine lv_if_ne (tgt := 23) hx hb dX9_see_17 (by decide) (fun hc4 => ?_) (fun hc4 => ?_)
    · have hE := st_f hE hc4
      refine lv_aload_n hx hb dX9_see_23 rfl (lv_at hl 0 rfl) ?_
      refine c_get (v := .ref (ad 22)) hx hb hts (fun w h => wz_m (inX9 w h)) hown hK hP (q_WW (ad := ad) (cI := cI) (cW := cW)) rfl 2 (by decide) (hts _ (wz_m tw_1_211)) (fun _ h9 => h9) rfl dX9_see_24 ?_
      refine c_getN (v := .ref (ad 40)) hx hb hts (fun w h => wz_m (inX3 w h)) hown hK hP (q_Scene_22 (ad := ad) (cI := cI) (cW := cW)).1 rfl 2 (by decide) (List.mem_of_getElem? (i := 31) rfl) (fun _ h9 => h9) rfl dX9_see_27 ?_
      refine c_getN (v := .int (S0 40 2)) hx hb hts (fun w h => wz_m (inX4 w h)) hown hK hP (q_Seen_40 (ad := ad) (cI := cI) (cW := cW)).1 rfl 2 (by decide) (List.mem_of_getElem? (i := 28) rfl) (fun _ h9 => h9) rfl dX9_see_30 ?_
      refine lv_bipush (v := 6) hx hb dX9_see_33 (by decide) ?_
      refine lv_icmp_lt (tgt := 41) hx hb dX9_see_35 (by decide) (fun hc5 => ?_) (fun hc5 => ?_)
      · have hE := st_t hE hc5
        refine lv_aload_n hx hb dX9_see_41 rfl (lv_at hl 0 rfl) ?_
        refine c_get (v := .ref (ad 22)) hx hb hts (fun w h => wz_m (inX9 w h)) hown hK hP (q_WW (ad := ad) (cI := cI) (cW := cW)) rfl 2 (by decide) (hts _ (wz_m tw_1_211)) (fun _ h9 => h9) rfl dX9_see_42 ?_
        refine c_getN (v := .ref (ad 40)) hx hb hts (fun w h => wz_m (inX3 w h)) hown hK hP (q_Scene_22 (ad := ad) (cI := cI) (cW := cW)).1 rfl 2 (by decide) (List.mem_of_getElem? (i := 31) rfl) (fun _ h9 => h9) rfl dX9_see_45 ?_
        refine lv_iload_n hx hb dX9_see_48 rfl (lv_at hl 1 rfl) ?_
        refine lv_iload_n hx hb dX9_see_49 rfl (lv_at hl 2 rfl) ?_
        refine lv_iload_n hx hb dX9_see_50 rfl (lv_at hl 3 rfl) ?_
        obtain ⟨r6, hCr6, hE⟩ := st_bo hE
        refine g_callv (va_runV (As := [.int a1, .int a2, .int a3]) (rest := []) ⟨hx, hb, hml, hown, hts⟩ (k_X4_add hij (q_Seen_40 (ad := ad) (cI := cI) (cW := cW)) hCr6) (cwV 3 hts (wz_V tw_3_86 tw_3_87 tw_3_88 tw_1_8 tw_3_89) rfl rfl rfl hdV_X4_add ⟨Nat.le_of_ble_eq_true rfl, Nat.le_of_ble_eq_true rfl⟩) (g_preV KC_st ZC_st hK hZ hP hS hK.1 ((q_Seen_40 (ad := ad) (cI := cI) (cW := cW)).1).1 (ec_o (q_Seen_40 (ad := ad) (cI := cI) (cW := cW)).1) rfl) rfl rfl hl.1 rfl (lv_room (Nat.le_of_ble_eq_true rfl)) dX9_see_51 ⟨Nat.zero_le _, Nat.zero_le _⟩) hS (fun H locs hP hS => ?_)
        refine lv_aload_n hx hb dX9_see_54 rfl (lv_at hl 0 rfl) ?_
        refine c_get (v := .ref (ad 22)) hx hb hts (fun w h => wz_m (inX9 w h)) hown hK hP (q_WW (ad := ad) (cI := cI) (cW := cW)) rfl 2 (by decide) (hts _ (wz_m tw_1_211)) (fun _ h9 => h9) rfl dX9_see_55 ?_
        refine c_getN (v := .ref (ad 40)) hx hb hts (fun w h => wz_m (inX3 w h)) hown hK hP (q_Scene_22 (ad := ad) (cI := cI) (cW := cW)).1 rfl 2 (by decide) (List.mem_of_getElem? (i := 31) rfl) (fun _ h9 => h9) rfl dX9_see_58 ?_
        refine c_getN (v := .int (r6 40 2)) hx hb hts (fun w h => wz_m (inX4 w h)) hown hK hP (q_Seen_40 (ad := ad) (cI := cI) (cW := cW)).1 rfl 2 (by decide) (List.mem_of_getElem? (i := 28) rfl) (fun _ h9 => h9) rfl dX9_see_61 ?_
        replace hE := Option.some.inj hE
        have hq := Prod.mk.inj hE
        subst hQQ
        exact g_iret hx hb hr hlocks hP hS hq.1 hq.2 dX9_see_64
      · have hE := st_f hE hc5
        refine lv_bipush (v := (-104)) hx hb dX9_see_38 (by decide) ?_
        replace hE := Option.some.inj hE
        have hq := Prod.mk.inj hE
        subst hQQ
        exact g_iret hx hb hr hlocks hP hS hq.1 hq.2 dX9_see_40
    · have hE := st_t hE hc4
      refine lv_bipush (v := (-102)) hx hb dX9_see_20 (by decide) ?_
      replace hE := Option.some.inj hE
      have hq := Prod.mk.inj hE
      subst hQQ
      exact g_iret hx hb hr hlocks hP hS hq.1 hq.2 dX9_see_22
  · have hE := st_t hE hc2
    refine lv_bipush (v := (-101)) hx hb dX9_see_8 (by decide) ?_
    replace hE := Option.some.inj hE
    have hq := Prod.mk.inj hE
    subst hQQ
    exact g_iret hx hb hr hlocks hP hS hq.1 hq.2 dX9_see_10
def f_X9_show (S0 : (Nat → Nat → Int32)) (a1 : Int32) (a2 : Int32) (a3 : Int32) : Option (Int32 × (Nat → Nat → Int32)) :=
  bo (f_X9_isWitness S0 a1) (fun (r1 : Int32) => if r1 = 0 then (some ((-101), S0)) else (bo (f_X9_isThing a2) (fun (r3 : Int32) => if r3 = 0 then (some ((-102), S0)) else (bo (f_X9_isColour a3) (fun (r5 : Int32) => if r5 = 0 then (some ((-102), S0)) else (if (S0 22 3) < 9999 then (bv (up2 S0 22 3 ((S0 22 3) + 1)) (fun S8 => gd (inb a1 5) (bo (f_X7_meets (26 + 2 * a1.toNatClampNeg) S8 ((a2 * 4) + a3)) (fun (r10 : Int32 × (Nat → Nat → Int32)) => if r10.1 = 0 then (some (0, r10.2)) else (some (1, r10.2)))))) else (some ((-104), S0))))))))
abbrev rmX9_show : Room := { frames := 3, cells := 0, slots := 0, locals := 67 }
theorem hdV_X9_show : yX9_show.cls = "WitnessWall" ∧ yX9_show.cls ≠ "java/lang/invoke/MethodHandle" ∧ yX9_show.cls ≠ "java/lang/invoke/VarHandle" ∧ (parseMethodDescriptor yX9_show.desc).map (fun d => d.parameters.length) = some 3 := by decide +kernel
set_option maxHeartbeats 4000000 in
set_option maxRecDepth 100000 in
theorem k_X9_show {l : Launch} {D : va_G} {ad : Nat → Nat} {cI cW : ClassId} {tK tC : Nat} (hij : inj 83 ad)  {S0 : (Nat → Nat → Int32)} {a1 : Int32} {a2 : Int32} {a3 : Int32} {r : Int32} {Sr : (Nat → Nat → Int32)} (hE : f_X9_show S0 a1 a2 a3 = some (r, Sr)) {sz : Nat} : Met l yX9_show (wz yX9_show cX9_show 4 (some FieldType.int)) rmX9_show (PG 83 ad (ec ad cI cW) D (KC D cI cW) (ZC tK tC) [.ref (ad 0), .int a1, .int a2, .int a3] S0 sz) (QGi 83 ad (ec ad cI cW) D r Sr sz) 0 0 (AD 83 ad sz) := by
  unfold f_X9_show at hE
  refine g_start (cc := cX9_show) (maxL := 4) (ret := (some FieldType.int)) (Qc := fun sz => QGi 83 ad (ec ad cI cW) D r Sr sz) (by decide) rfl (Nat.le_of_ble_eq_true rfl) ?_
  intro p e s m args below meth c H locs ls hx hb hr hts hown hlocks hml hK hZ hP hS hl
  replace hl : lv_has ls 4 [(0, .ref (ad 0)), (1, .int a1), (2, .int a2), (3, .int a3)] := hl
  obtain ⟨QQ, hQQ⟩ : ∃ q, q = MQ below (QGi 83 ad (ec ad cI cW) D r Sr s.heap.size) args s 0 0 (AD 83 ad s.heap.size) := ⟨_, rfl⟩
  rw [← hQQ]
  refine lv_aload_n hx hb dX9_show_0 rfl (lv_at hl 0 rfl) ?_
  refine lv_iload_n hx hb dX9_show_1 rfl (lv_at hl 1 rfl) ?_
  obtain ⟨r1, hCr1, hE⟩ := st_bo hE
  refine g_calli (va_runV (As := [.int a1]) (rest := []) ⟨hx, hb, hml, hown, hts⟩ (k_X9_isWitness hij hCr1) (cwV 1 hts (wz_V tw_2_116 tw_2_118 tp_0 tw_1_1 tw_2_119) rfl rfl rfl hdV_X9_isWitness ⟨Nat.le_of_ble_eq_true rfl, Nat.le_of_ble_eq_true rfl⟩) (g_preV KC_st ZC_st hK hZ hP hS hK.1 ((q_WW (ad := ad) (cI := cI) (cW := cW))).1 (ec_o (q_WW (ad := ad) (cI := cI) (cW := cW))) rfl) rfl rfl hl.1 rfl (lv_room (Nat.le_of_ble_eq_true rfl)) dX9_show_2 ⟨Nat.zero_le _, Nat.zero_le _⟩) hS (fun H locs hP hS => ?_)
  refine lv_if_ne (tgt := 11) hx hb dX9_show_5 (by decide) (fun hc2 => ?_) (fun hc2 => ?_)
  · have hE := st_f hE hc2
    refine lv_iload_n hx hb dX9_show_11 rfl (lv_at hl 2 rfl) ?_
    obtain ⟨r3, hCr3, hE⟩ := st_bo hE
    refine g_calli (va_runS (As := [.int a2]) (rest := []) ⟨hx, hb, hml, hown, hts⟩ (k_X9_isThing hij (S0 := S0) hCr3) (va_cwS 1 hts (wz_S tw_2_166 tw_2_54 tw_1_1 tw_2_55) rfl rfl rfl hdS_X9_isThing ⟨Nat.le_of_ble_eq_true rfl, Nat.le_of_ble_eq_true rfl⟩) (g_preS KC_st ZC_st hK hZ hP hS) rfl rfl hl.1 rfl (lv_room (Nat.le_of_ble_eq_true rfl)) dX9_show_12 ⟨Nat.zero_le _, Nat.zero_le _⟩) hS (fun H locs hP hS => ?_)
    refine lv_if_eq (tgt := 25) hx hb dX9_show_15 (by decide) (fun hc4 => ?_) (fun hc4 => ?_)
    · have hE := st_t hE hc4
      refine lv_bipush (v := (-102)) hx hb dX9_show_25 (by decide) ?_
      replace hE := Option.some.inj hE
      have hq := Prod.mk.inj hE
      subst hQQ
      exact g_iret hx hb hr hlocks hP hS hq.1 hq.2 dX9_show_27
    · have hE := st_f hE hc4
      refine lv_iload_n hx hb dX9_show_18 rfl (lv_at hl 3 rfl) ?_
      obtain ⟨r5, hCr5, hE⟩ := st_bo hE
      refine g_calli (va_runS (As := [.int a3]) (rest := []) ⟨hx, hb, hml, hown, hts⟩ (k_X9_isColour hij (S0 := S0) hCr5) (va_cwS 1 hts (wz_S tw_2_192 tw_2_61 tw_1_1 tw_2_62) rfl rfl rfl hdS_X9_isColour ⟨Nat.le_of_ble_eq_true rfl, Nat.le_of_ble_eq_true rfl⟩) (g_preS KC_st ZC_st hK hZ hP hS) rfl rfl hl.1 rfl (lv_room (Nat.le_of_ble_eq_true rfl)) dX9_show_19 ⟨Nat.zero_le _, Nat.zero_le _⟩) hS (fun H locs hP hS => ?_)
      refine lv_if_ne (tgt := 28) hx hb dX9_show_22 (by decide) (fun hc6 => ?_) (fun hc6 => ?_)
      · have hE := st_f hE hc6
        refine lv_aload_n hx hb dX9_show_28 rfl (lv_at hl 0 rfl) ?_
        refine c_get (v := .ref (ad 22)) hx hb hts (fun w h => wz_m (inX9 w h)) hown hK hP (q_WW (ad := ad) (cI := cI) (cW := cW)) rfl 2 (by decide) (hts _ (wz_m tw_1_211)) (fun _ h9 => h9) rfl dX9_show_29 ?_
        refine c_getN (v := .int (S0 22 3)) hx hb hts (fun w h => wz_m (inX3 w h)) hown hK hP (q_Scene_22 (ad := ad) (cI := cI) (cW := cW)).1 rfl 3 (by decide) (List.mem_of_getElem? (i := 32) rfl) (fun _ h9 => h9) rfl dX9_show_32 ?_
        refine lv_sipush (v := 9999) hx hb dX9_show_35 (by decide) ?_
        refine lv_icmp_lt (tgt := 44) hx hb dX9_show_38 (by decide) (fun hc7 => ?_) (fun hc7 => ?_)
        · have hE := st_t hE hc7
          refine lv_aload_n hx hb dX9_show_44 rfl (lv_at hl 0 rfl) ?_
          refine c_get (v := .ref (ad 22)) hx hb hts (fun w h => wz_m (inX9 w h)) hown hK hP (q_WW (ad := ad) (cI := cI) (cW := cW)) rfl 2 (by decide) (hts _ (wz_m tw_1_211)) (fun _ h9 => h9) rfl dX9_show_45 ?_
          refine lv_dup hx hb dX9_show_48 rfl ?_
          refine c_getN (v := .int (S0 22 3)) hx hb hts (fun w h => wz_m (inX3 w h)) hown hK hP (q_Scene_22 (ad := ad) (cI := cI) (cW := cW)).1 rfl 3 (by decide) (List.mem_of_getElem? (i := 32) rfl) (fun _ h9 => h9) rfl dX9_show_49 ?_
          refine lv_iconst (v := 1) hx hb dX9_show_52 (by decide) ?_
          refine lv_iadd hx hb dX9_show_53 ?_
          refine c_putN hij hx hb hts (fun w h => wz_m (inX3 w h)) tyX3 tyX3_ok nmX3 hown hK hP hS (q_Scene_22 (ad := ad) (cI := cI) (cW := cW)).1 rfl 3 (by decide) (List.mem_of_getElem? (i := 32) rfl) (fun _ h9 => h9) rfl rfl rfl (fun _ => Nat.le_of_ble_eq_true rfl) (fun _ => rfl) dX9_show_54 (fun H locs hP hS => ?_)
          obtain ⟨S8, eS8, hE⟩ := st_bv hE
          rw [← eS8] at hP
          refine lv_aload_n hx hb dX9_show_57 rfl (lv_at hl 0 rfl) ?_
          refine c_get (v := .ref (ad 22)) hx hb hts (fun w h => wz_m (inX9 w h)) hown hK hP (q_WW (ad := ad) (cI := cI) (cW := cW)) rfl 2 (by decide) (hts _ (wz_m tw_1_211)) (fun _ h9 => h9) rfl dX9_show_58 ?_
          refine c_getN (v := .ref (ad 23)) hx hb hts (fun w h => wz_m (inX3 w h)) hown hK hP (q_Scene_22 (ad := ad) (cI := cI) (cW := cW)).1 rfl 0 (by decide) (List.mem_of_getElem? (i := 29) rfl) (fun _ h9 => h9) rfl dX9_show_61 ?_
          refine c_getN (v := .ref (ad 24)) hx hb hts (fun w h => wz_m (inX1 w h)) hown hK hP (q_Hall_23 (ad := ad) (cI := cI) (cW := cW)).1 rfl 0 (by decide) (List.mem_of_getElem? (i := 6) rfl) (fun _ h9 => h9) rfl dX9_show_64 ?_
          refine lv_iload_n hx hb dX9_show_67 rfl (lv_at hl 1 rfl) ?_
          obtain ⟨hi9, hE⟩ := st_gd hE
          refine c_aald hx hb hK hP (q_Hall_23 (ad := ad) (cI := cI) (cW := cW)).2.1 hi9 dX9_show_68 ?_
          refine lv_iload_n hx hb dX9_show_69 rfl (lv_at hl 2 rfl) ?_
          refine lv_iconst (v := 4) hx hb dX9_show_70 (by decide) ?_
          refine lv_imul hx hb dX9_show_71 ?_
          refine lv_iload_n hx hb dX9_show_72 rfl (lv_at hl 3 rfl) ?_
          refine lv_iadd hx hb dX9_show_73 ?_
          obtain ⟨r10, hCr10, hE⟩ := st_bo hE
          refine g_calli (va_runV (As := [.int ((a2 * 4) + a3)]) (rest := []) ⟨hx, hb, hml, hown, hts⟩ (k_X7_meets hij ((q_Hall_23 (ad := ad) (cI := cI) (cW := cW)).2.2.2 _ (st_lt hi9)) hCr10) (cwV 1 hts (wz_V tw_2_202 tw_2_203 tw_2_204 tw_1_4 tw_2_205) rfl rfl rfl hdV_X7_meets ⟨Nat.le_of_ble_eq_true rfl, Nat.le_of_ble_eq_true rfl⟩) (g_preV KC_st ZC_st hK hZ hP hS hK.1 (((q_Hall_23 (ad := ad) (cI := cI) (cW := cW)).2.2.2 _ (st_lt hi9)).1).1 (ec_o ((q_Hall_23 (ad := ad) (cI := cI) (cW := cW)).2.2.2 _ (st_lt hi9)).1) rfl) rfl rfl hl.1 rfl (lv_room (Nat.le_of_ble_eq_true rfl)) dX9_show_74 ⟨Nat.zero_le _, Nat.zero_le _⟩) hS (fun H locs hP hS => ?_)
          refine lv_if_eq (tgt := 84) hx hb dX9_show_77 (by decide) (fun hc11 => ?_) (fun hc11 => ?_)
          · have hE := st_t hE hc11
            refine lv_iconst (v := 0) hx hb dX9_show_84 (by decide) ?_
            replace hE := Option.some.inj hE
            have hq := Prod.mk.inj hE
            subst hQQ
            exact g_iret hx hb hr hlocks hP hS hq.1 hq.2 dX9_show_85
          · have hE := st_f hE hc11
            refine lv_iconst (v := 1) hx hb dX9_show_80 (by decide) ?_
            refine lv_goto (tgt := 85) hx hb dX9_show_81 (by decide) ?_
            replace hE := Option.some.inj hE
            have hq := Prod.mk.inj hE
            subst hQQ
            exact g_iret hx hb hr hlocks hP hS hq.1 hq.2 dX9_show_85
        · have hE := st_f hE hc7
          refine lv_bipush (v := (-104)) hx hb dX9_show_41 (by decide) ?_
          replace hE := Option.some.inj hE
          have hq := Prod.mk.inj hE
          subst hQQ
          exact g_iret hx hb hr hlocks hP hS hq.1 hq.2 dX9_show_43
      · have hE := st_t hE hc6
        refine lv_bipush (v := (-102)) hx hb dX9_show_25 (by decide) ?_
        replace hE := Option.some.inj hE
        have hq := Prod.mk.inj hE
        subst hQQ
        exact g_iret hx hb hr hlocks hP hS hq.1 hq.2 dX9_show_27
  · have hE := st_t hE hc2
    refine lv_bipush (v := (-101)) hx hb dX9_show_8 (by decide) ?_
    replace hE := Option.some.inj hE
    have hq := Prod.mk.inj hE
    subst hQQ
    exact g_iret hx hb hr hlocks hP hS hq.1 hq.2 dX9_show_10
def f_X5_add (k : Nat) (S0 : (Nat → Nat → Int32)) (a1 : Int32) (a2 : Int32) (a3 : Int32) : Option ((Nat → Nat → Int32)) :=
  if 6 ≤ (S0 k 3) then (some S0) else (gd (inb (S0 k 3) 6) (bv (up2 S0 (k + 1) ((S0 k 3).toNatClampNeg) a1) (fun S3 => gd (inb (S3 k 3) 6) (bv (up2 S3 (k + 2) ((S3 k 3).toNatClampNeg) a2) (fun S5 => gd (inb (S5 k 3) 6) (bv (up2 S5 (k + 3) ((S5 k 3).toNatClampNeg) a3) (fun S7 => bv (up2 S7 k 3 ((S7 k 3) + 1)) (fun S8 => some S8))))))))
abbrev rmX5_add : Room := { frames := 0, cells := 0, slots := 0, locals := 0 }
theorem hdV_X5_add : yX5_add.cls = "WitnessWall$Slips" ∧ yX5_add.cls ≠ "java/lang/invoke/MethodHandle" ∧ yX5_add.cls ≠ "java/lang/invoke/VarHandle" ∧ (parseMethodDescriptor yX5_add.desc).map (fun d => d.parameters.length) = some 3 := by decide +kernel
set_option maxHeartbeats 4000000 in
set_option maxRecDepth 100000 in
theorem k_X5_add {l : Launch} {D : va_G} {ad : Nat → Nat} {cI cW : ClassId} {tK tC : Nat} (hij : inj 83 ad) {k : Nat} (h0 : iSlips ad cI cW k) {S0 : (Nat → Nat → Int32)} {a1 : Int32} {a2 : Int32} {a3 : Int32} {Sr : (Nat → Nat → Int32)} (hE : f_X5_add k S0 a1 a2 a3 = some Sr) {sz : Nat} : Met l yX5_add (wz yX5_add cX5_add 4 none) rmX5_add (PG 83 ad (ec ad cI cW) D (KC D cI cW) (ZC tK tC) [.ref (ad k), .int a1, .int a2, .int a3] S0 sz) (QGv 83 ad (ec ad cI cW) D Sr sz) 0 0 (AD 83 ad sz) := by
  unfold f_X5_add at hE
  refine g_start (cc := cX5_add) (maxL := 4) (ret := none) (Qc := fun sz => QGv 83 ad (ec ad cI cW) D Sr sz) (by decide) rfl (Nat.le_of_ble_eq_true rfl) ?_
  intro p e s m args below meth c H locs ls hx hb hr hts hown hlocks hml hK hZ hP hS hl
  replace hl : lv_has ls 4 [(0, .ref (ad k)), (1, .int a1), (2, .int a2), (3, .int a3)] := hl
  obtain ⟨QQ, hQQ⟩ : ∃ q, q = MQ below (QGv 83 ad (ec ad cI cW) D Sr s.heap.size) args s 0 0 (AD 83 ad s.heap.size) := ⟨_, rfl⟩
  rw [← hQQ]
  refine lv_aload_n hx hb dX5_add_0 rfl (lv_at hl 0 rfl) ?_
  refine c_get (v := .int (S0 k 3)) hx hb hts (fun w h => wz_m (inX5 w h)) hown hK hP h0.1 rfl 3 (by decide) (hts _ (wz_m tw_1_134)) (fun _ h9 => h9) rfl dX5_add_1 ?_
  refine lv_bipush (v := 6) hx hb dX5_add_4 (by decide) ?_
  refine lv_icmp_ge (tgt := 49) hx hb dX5_add_6 (by decide) (fun hc1 => ?_) (fun hc1 => ?_)
  · have hE := st_t hE hc1
    replace hE := Option.some.inj hE
    subst hQQ
    exact g_vret hx hb hr hlocks hP hS hE dX5_add_49
  · have hE := st_f hE hc1
    refine lv_aload_n hx hb dX5_add_9 rfl (lv_at hl 0 rfl) ?_
    refine c_get (v := .ref (ad (k + 1))) hx hb hts (fun w h => wz_m (inX5 w h)) hown hK hP h0.1 rfl 0 (by decide) (hts _ (wz_m tw_1_131)) (fun _ h9 => h9) rfl dX5_add_10 ?_
    refine lv_aload_n hx hb dX5_add_13 rfl (lv_at hl 0 rfl) ?_
    refine c_get (v := .int (S0 k 3)) hx hb hts (fun w h => wz_m (inX5 w h)) hown hK hP h0.1 rfl 3 (by decide) (hts _ (wz_m tw_1_134)) (fun _ h9 => h9) rfl dX5_add_14 ?_
    refine lv_iload_n hx hb dX5_add_17 rfl (lv_at hl 1 rfl) ?_
    obtain ⟨hi2, hE⟩ := st_gd hE
    refine c_iast hij hx hb hK hP hS h0.2.1 hi2 dX5_add_18 (fun H locs hP hS => ?_)
    obtain ⟨S3, eS3, hE⟩ := st_bv hE
    rw [← eS3] at hP
    refine lv_aload_n hx hb dX5_add_19 rfl (lv_at hl 0 rfl) ?_
    refine c_get (v := .ref (ad (k + 2))) hx hb hts (fun w h => wz_m (inX5 w h)) hown hK hP h0.1 rfl 1 (by decide) (hts _ (wz_m tw_1_132)) (fun _ h9 => h9) rfl dX5_add_20 ?_
    refine lv_aload_n hx hb dX5_add_23 rfl (lv_at hl 0 rfl) ?_
    refine c_get (v := .int (S3 k 3)) hx hb hts (fun w h => wz_m (inX5 w h)) hown hK hP h0.1 rfl 3 (by decide) (hts _ (wz_m tw_1_134)) (fun _ h9 => h9) rfl dX5_add_24 ?_
    refine lv_iload_n hx hb dX5_add_27 rfl (lv_at hl 2 rfl) ?_
    obtain ⟨hi4, hE⟩ := st_gd hE
    refine c_iast hij hx hb hK hP hS h0.2.2.1 hi4 dX5_add_28 (fun H locs hP hS => ?_)
    obtain ⟨S5, eS5, hE⟩ := st_bv hE
    rw [← eS5] at hP
    refine lv_aload_n hx hb dX5_add_29 rfl (lv_at hl 0 rfl) ?_
    refine c_get (v := .ref (ad (k + 3))) hx hb hts (fun w h => wz_m (inX5 w h)) hown hK hP h0.1 rfl 2 (by decide) (hts _ (wz_m tw_1_133)) (fun _ h9 => h9) rfl dX5_add_30 ?_
    refine lv_aload_n hx hb dX5_add_33 rfl (lv_at hl 0 rfl) ?_
    refine c_get (v := .int (S5 k 3)) hx hb hts (fun w h => wz_m (inX5 w h)) hown hK hP h0.1 rfl 3 (by decide) (hts _ (wz_m tw_1_134)) (fun _ h9 => h9) rfl dX5_add_34 ?_
    refine lv_iload_n hx hb dX5_add_37 rfl (lv_at hl 3 rfl) ?_
    obtain ⟨hi6, hE⟩ := st_gd hE
    refine c_iast hij hx hb hK hP hS h0.2.2.2 hi6 dX5_add_38 (fun H locs hP hS => ?_)
    obtain ⟨S7, eS7, hE⟩ := st_bv hE
    rw [← eS7] at hP
    refine lv_aload_n hx hb dX5_add_39 rfl (lv_at hl 0 rfl) ?_
    refine lv_dup hx hb dX5_add_40 rfl ?_
    refine c_get (v := .int (S7 k 3)) hx hb hts (fun w h => wz_m (inX5 w h)) hown hK hP h0.1 rfl 3 (by decide) (hts _ (wz_m tw_1_134)) (fun _ h9 => h9) rfl dX5_add_41 ?_
    refine lv_iconst (v := 1) hx hb dX5_add_44 (by decide) ?_
    refine lv_iadd hx hb dX5_add_45 ?_
    refine c_put hij hx hb hts (fun w h => wz_m (inX5 w h)) tyX5 tyX5_ok nmX5 hown hK hP hS h0.1 rfl 3 (by decide) (hts _ (wz_m tw_1_134)) (fun _ h9 => h9) rfl rfl rfl (fun _ => Nat.le_of_ble_eq_true rfl) (fun _ => rfl) dX5_add_46 (fun H locs hP hS => ?_)
    obtain ⟨S8, eS8, hE⟩ := st_bv hE
    rw [← eS8] at hP
    replace hE := Option.some.inj hE
    subst hQQ
    exact g_vret hx hb hr hlocks hP hS hE dX5_add_49

def f_X10_slip (S0 : SR) (a1 : Int32) (a2 : Int32) (a3 : Int32) (a4 : Int32) : Option (Int32 × SR) :=
  bo (f_X10_within a1 1 6) (fun (r1 : Int32) => if r1 = 0 then (some ((-102), S0)) else (bo (f_X10_isWitness S0 a2) (fun (r3 : Int32) => if r3 = 0 then (some ((-101), S0)) else (bo (f_X10_isSight a3 a4) (fun (r5 : Int32) => if r5 = 0 then (some ((-102), S0)) else (if (ri S0 0 8) = 6 then (some ((-104), S0)) else (gd (inb (ri S0 0 8) 6) (bv (ui S0 6 ((ri S0 0 8).toNatClampNeg) a1) (fun S9 => gd (inb (ri S9 0 8) 6) (bv (ui S9 7 ((ri S9 0 8).toNatClampNeg) a2) (fun S11 => gd (inb (ri S11 0 8) 6) (bv (ui S11 8 ((ri S11 0 8).toNatClampNeg) ((4 * a3) + a4)) (fun S13 => bv (ui S13 0 8 ((ri S13 0 8) + 1)) (fun S14 => some (ri S14 0 8, S14)))))))))))))))
abbrev rmX10_slip : Room := { frames := 2, cells := 0, slots := 0, locals := 43 }
theorem hdV_X10_slip : yX10_slip.cls = "WitnessWallModel" ∧ yX10_slip.cls ≠ "java/lang/invoke/MethodHandle" ∧ yX10_slip.cls ≠ "java/lang/invoke/VarHandle" ∧ (parseMethodDescriptor yX10_slip.desc).map (fun d => d.parameters.length) = some 4 := by decide +kernel
set_option maxHeartbeats 4000000 in
set_option maxRecDepth 100000 in
theorem k_X10_slip {l : Launch} {D : va_G} {ad : Nat → Nat} {cI cB : ClassId} (hij : inj 31 ad)  {S0 : SR} {a1 : Int32} {a2 : Int32} {a3 : Int32} {a4 : Int32} {r : Int32} {Sr : SR} (hE : f_X10_slip S0 a1 a2 a3 a4 = some (r, Sr)) {sz : Nat} : Met l yX10_slip (wz yX10_slip cX10_slip 5 (some FieldType.int)) rmX10_slip (PG 31 ad (er ad cI cB) D (KR D cI cB) ZR [.ref (ad 0), .int a1, .int a2, .int a3, .int a4] S0 sz) (QGi 31 ad (er ad cI cB) D r Sr sz) 0 0 (AD 31 ad sz) := by
  unfold f_X10_slip at hE
  refine g_start (cc := cX10_slip) (maxL := 5) (ret := (some FieldType.int)) (Qc := fun sz => QGi 31 ad (er ad cI cB) D r Sr sz) (by decide) rfl (Nat.le_of_ble_eq_true rfl) ?_
  intro p e s m args below meth c H locs ls hx hb hr hts hown hlocks hml hK hZ hP hS hl
  replace hl : lv_has ls 5 [(0, .ref (ad 0)), (1, .int a1), (2, .int a2), (3, .int a3), (4, .int a4)] := hl
  obtain ⟨QQ, hQQ⟩ : ∃ q, q = MQ below (QGi 31 ad (er ad cI cB) D r Sr s.heap.size) args s 0 0 (AD 31 ad s.heap.size) := ⟨_, rfl⟩
  rw [← hQQ]
  refine lv_iload_n hx hb dX10_slip_0 rfl (lv_at hl 1 rfl) ?_
  refine lv_iconst (v := 1) hx hb dX10_slip_1 (by decide) ?_
  refine lv_bipush (v := 6) hx hb dX10_slip_2 (by decide) ?_
  obtain ⟨r1, hCr1, hE⟩ := st_bo hE
  refine g_calli (va_runS (As := [.int a1, .int 1, .int 6]) (rest := []) ⟨hx, hb, hml, hown, hts⟩ (k_X10_within hij (S0 := S0) hCr1) (va_cwS 3 hts (wz_S tw_4_66 tw_4_67 tw_1_11 tw_4_68) rfl rfl rfl hdS_X10_within ⟨Nat.le_of_ble_eq_true rfl, Nat.le_of_ble_eq_true rfl⟩) (g_preS KR_st ZR_st hK hZ hP hS) rfl rfl hl.1 rfl (lv_room (Nat.le_of_ble_eq_true rfl)) dX10_slip_4 ⟨Nat.zero_le _, Nat.zero_le _⟩) hS (fun H locs hP hS => ?_)
  refine lv_if_ne (tgt := 13) hx hb dX10_slip_7 (by decide) (fun hc2 => ?_) (fun hc2 => ?_)
  · have hE := st_f hE hc2
    refine lv_aload_n hx hb dX10_slip_13 rfl (lv_at hl 0 rfl) ?_
    refine lv_iload_n hx hb dX10_slip_14 rfl (lv_at hl 2 rfl) ?_
    obtain ⟨r3, hCr3, hE⟩ := st_bo hE
    refine g_calli (va_runV (As := [.int a2]) (rest := []) ⟨hx, hb, hml, hown, hts⟩ (k_X10_isWitness hij hCr3) (cwV 1 hts (wz_V tw_4_124 tw_4_126 tp_11 tw_1_11 tw_4_127) rfl rfl rfl hdV_X10_isWitness ⟨Nat.le_of_ble_eq_true rfl, Nat.le_of_ble_eq_true rfl⟩) (g_preV KR_st ZR_st hK hZ hP hS hK.1 ((q_Ref (ad := ad) (cI := cI) (cB := cB))).1 (er_o (q_Ref (ad := ad) (cI := cI) (cB := cB))) rfl) rfl rfl hl.1 rfl (lv_room (Nat.le_of_ble_eq_true rfl)) dX10_slip_15 ⟨Nat.zero_le _, Nat.zero_le _⟩) hS (fun H locs hP hS => ?_)
    refine lv_if_ne (tgt := 24) hx hb dX10_slip_18 (by decide) (fun hc4 => ?_) (fun hc4 => ?_)
    · have hE := st_f hE hc4
      refine lv_iload_n hx hb dX10_slip_24 rfl (lv_at hl 3 rfl) ?_
      refine lv_iload hx hb dX10_slip_25 (lv_at hl 4 rfl) ?_
      obtain ⟨r5, hCr5, hE⟩ := st_bo hE
      refine g_calli (va_runS (As := [.int a3, .int a4]) (rest := []) ⟨hx, hb, hml, hown, hts⟩ (k_X10_isSight hij (S0 := S0) hCr5) (va_cwS 2 hts (wz_S tw_4_190 tw_4_191 tw_1_11 tw_4_192) rfl rfl rfl hdS_X10_isSight ⟨Nat.le_of_ble_eq_true rfl, Nat.le_of_ble_eq_true rfl⟩) (g_preS KR_st ZR_st hK hZ hP hS) rfl rfl hl.1 rfl (lv_room (Nat.le_of_ble_eq_true rfl)) dX10_slip_27 ⟨Nat.zero_le _, Nat.zero_le _⟩) hS (fun H locs hP hS => ?_)
      refine lv_if_ne (tgt := 36) hx hb dX10_slip_30 (by decide) (fun hc6 => ?_) (fun hc6 => ?_)
      · have hE := st_f hE hc6
        refine lv_aload_n hx hb dX10_slip_36 rfl (lv_at hl 0 rfl) ?_
        refine r_get (v := .int (ri S0 0 8)) hx hb hts (fun w h => wz_m (inX10 w h)) hown hK hP (q_Ref (ad := ad) (cI := cI) (cB := cB)) rfl 8 (by decide) (hts _ (wz_m tw_3_164)) (fun _ h9 => h9) rfl dX10_slip_37 ?_
        refine lv_bipush (v := 6) hx hb dX10_slip_40 (by decide) ?_
        refine lv_icmp_ne (tgt := 48) hx hb dX10_slip_42 (by decide) (fun hc7 => ?_) (fun hc7 => ?_)
        · have hE := st_f hE hc7
          refine lv_aload_n hx hb dX10_slip_48 rfl (lv_at hl 0 rfl) ?_
          refine r_get (v := .ref (ad 6)) hx hb hts (fun w h => wz_m (inX10 w h)) hown hK hP (q_Ref (ad := ad) (cI := cI) (cB := cB)) rfl 9 (by decide) (hts _ (wz_m tw_3_165)) (fun _ h9 => h9) rfl dX10_slip_49 ?_
          refine lv_aload_n hx hb dX10_slip_52 rfl (lv_at hl 0 rfl) ?_
          refine r_get (v := .int (ri S0 0 8)) hx hb hts (fun w h => wz_m (inX10 w h)) hown hK hP (q_Ref (ad := ad) (cI := cI) (cB := cB)) rfl 8 (by decide) (hts _ (wz_m tw_3_164)) (fun _ h9 => h9) rfl dX10_slip_53 ?_
          refine lv_iload_n hx hb dX10_slip_56 rfl (lv_at hl 1 rfl) ?_
          obtain ⟨hi8, hE⟩ := st_gd hE
          refine r_iast hij hx hb hK hP hS qr_6 hi8 dX10_slip_57 (fun H locs hP hS => ?_)
          obtain ⟨S9, eS9, hE⟩ := st_bv hE
          rw [← eS9] at hP
          refine lv_aload_n hx hb dX10_slip_58 rfl (lv_at hl 0 rfl) ?_
          refine r_get (v := .ref (ad 7)) hx hb hts (fun w h => wz_m (inX10 w h)) hown hK hP (q_Ref (ad := ad) (cI := cI) (cB := cB)) rfl 10 (by decide) (hts _ (wz_m tw_3_166)) (fun _ h9 => h9) rfl dX10_slip_59 ?_
          refine lv_aload_n hx hb dX10_slip_62 rfl (lv_at hl 0 rfl) ?_
          refine r_get (v := .int (ri S9 0 8)) hx hb hts (fun w h => wz_m (inX10 w h)) hown hK hP (q_Ref (ad := ad) (cI := cI) (cB := cB)) rfl 8 (by decide) (hts _ (wz_m tw_3_164)) (fun _ h9 => h9) rfl dX10_slip_63 ?_
          refine lv_iload_n hx hb dX10_slip_66 rfl (lv_at hl 2 rfl) ?_
          obtain ⟨hi10, hE⟩ := st_gd hE
          refine r_iast hij hx hb hK hP hS qr_7 hi10 dX10_slip_67 (fun H locs hP hS => ?_)
          obtain ⟨S11, eS11, hE⟩ := st_bv hE
          rw [← eS11] at hP
          refine lv_aload_n hx hb dX10_slip_68 rfl (lv_at hl 0 rfl) ?_
          refine r_get (v := .ref (ad 8)) hx hb hts (fun w h => wz_m (inX10 w h)) hown hK hP (q_Ref (ad := ad) (cI := cI) (cB := cB)) rfl 11 (by decide) (hts _ (wz_m tw_3_167)) (fun _ h9 => h9) rfl dX10_slip_69 ?_
          refine lv_aload_n hx hb dX10_slip_72 rfl (lv_at hl 0 rfl) ?_
          refine r_get (v := .int (ri S11 0 8)) hx hb hts (fun w h => wz_m (inX10 w h)) hown hK hP (q_Ref (ad := ad) (cI := cI) (cB := cB)) rfl 8 (by decide) (hts _ (wz_m tw_3_164)) (fun _ h9 => h9) rfl dX10_slip_73 ?_
          refine lv_iconst (v := 4) hx hb dX10_slip_76 (by decide) ?_
          refine lv_iload_n hx hb dX10_slip_77 rfl (lv_at hl 3 rfl) ?_
          refine lv_imul hx hb dX10_slip_78 ?_
          refine lv_iload hx hb dX10_slip_79 (lv_at hl 4 rfl) ?_
          refine lv_iadd hx hb dX10_slip_81 ?_
          obtain ⟨hi12, hE⟩ := st_gd hE
          refine r_iast hij hx hb hK hP hS qr_8 hi12 dX10_slip_82 (fun H locs hP hS => ?_)
          obtain ⟨S13, eS13, hE⟩ := st_bv hE
          rw [← eS13] at hP
          refine lv_aload_n hx hb dX10_slip_83 rfl (lv_at hl 0 rfl) ?_
          refine lv_dup hx hb dX10_slip_84 rfl ?_
          refine r_get (v := .int (ri S13 0 8)) hx hb hts (fun w h => wz_m (inX10 w h)) hown hK hP (q_Ref (ad := ad) (cI := cI) (cB := cB)) rfl 8 (by decide) (hts _ (wz_m tw_3_164)) (fun _ h9 => h9) rfl dX10_slip_85 ?_
          refine lv_iconst (v := 1) hx hb dX10_slip_88 (by decide) ?_
          refine lv_iadd hx hb dX10_slip_89 ?_
          refine r_put hij hx hb hts (fun w h => wz_m (inX10 w h)) tyX10 tyX10_ok nmX10 hown hK hP hS (q_Ref (ad := ad) (cI := cI) (cB := cB)) rfl 8 (by decide) (hts _ (wz_m tw_3_164)) (fun _ h9 => h9) rfl rfl rfl (fun _ _ => Nat.le_of_ble_eq_true rfl) (fun _ _ => rfl) dX10_slip_90 (fun H locs hP hS => ?_)
          obtain ⟨S14, eS14, hE⟩ := st_bv hE
          rw [← eS14] at hP
          refine lv_aload_n hx hb dX10_slip_93 rfl (lv_at hl 0 rfl) ?_
          refine r_get (v := .int (ri S14 0 8)) hx hb hts (fun w h => wz_m (inX10 w h)) hown hK hP (q_Ref (ad := ad) (cI := cI) (cB := cB)) rfl 8 (by decide) (hts _ (wz_m tw_3_164)) (fun _ h9 => h9) rfl dX10_slip_94 ?_
          replace hE := Option.some.inj hE
          have hq := Prod.mk.inj hE
          subst hQQ
          exact g_iret hx hb hr hlocks hP hS hq.1 hq.2 dX10_slip_97
        · have hE := st_t hE hc7
          refine lv_bipush (v := (-104)) hx hb dX10_slip_45 (by decide) ?_
          replace hE := Option.some.inj hE
          have hq := Prod.mk.inj hE
          subst hQQ
          exact g_iret hx hb hr hlocks hP hS hq.1 hq.2 dX10_slip_47
      · have hE := st_t hE hc6
        refine lv_bipush (v := (-102)) hx hb dX10_slip_33 (by decide) ?_
        replace hE := Option.some.inj hE
        have hq := Prod.mk.inj hE
        subst hQQ
        exact g_iret hx hb hr hlocks hP hS hq.1 hq.2 dX10_slip_35
    · have hE := st_t hE hc4
      refine lv_bipush (v := (-101)) hx hb dX10_slip_21 (by decide) ?_
      replace hE := Option.some.inj hE
      have hq := Prod.mk.inj hE
      subst hQQ
      exact g_iret hx hb hr hlocks hP hS hq.1 hq.2 dX10_slip_23
  · have hE := st_t hE hc2
    refine lv_bipush (v := (-102)) hx hb dX10_slip_10 (by decide) ?_
    replace hE := Option.some.inj hE
    have hq := Prod.mk.inj hE
    subst hQQ
    exact g_iret hx hb hr hlocks hP hS hq.1 hq.2 dX10_slip_12
def f_X10_tear (S0 : SR) : Option (Int32 × SR) :=
  bv (ri S0 0 8) (fun (v1 : Int32) => bv (ui S0 0 8 0) (fun S2 => some (v1, S2)))
abbrev rmX10_tear : Room := { frames := 0, cells := 0, slots := 0, locals := 0 }
theorem hdV_X10_tear : yX10_tear.cls = "WitnessWallModel" ∧ yX10_tear.cls ≠ "java/lang/invoke/MethodHandle" ∧ yX10_tear.cls ≠ "java/lang/invoke/VarHandle" ∧ (parseMethodDescriptor yX10_tear.desc).map (fun d => d.parameters.length) = some 0 := by decide +kernel
set_option maxHeartbeats 4000000 in
set_option maxRecDepth 100000 in
theorem k_X10_tear {l : Launch} {D : va_G} {ad : Nat → Nat} {cI cB : ClassId} (hij : inj 31 ad)  {S0 : SR} {r : Int32} {Sr : SR} (hE : f_X10_tear S0 = some (r, Sr)) {sz : Nat} : Met l yX10_tear (wz yX10_tear cX10_tear 2 (some FieldType.int)) rmX10_tear (PG 31 ad (er ad cI cB) D (KR D cI cB) ZR [.ref (ad 0)] S0 sz) (QGi 31 ad (er ad cI cB) D r Sr sz) 0 0 (AD 31 ad sz) := by
  unfold f_X10_tear at hE
  refine g_start (cc := cX10_tear) (maxL := 2) (ret := (some FieldType.int)) (Qc := fun sz => QGi 31 ad (er ad cI cB) D r Sr sz) (by decide) rfl (Nat.le_of_ble_eq_true rfl) ?_
  intro p e s m args below meth c H locs ls hx hb hr hts hown hlocks hml hK hZ hP hS hl
  replace hl : lv_has ls 2 [(0, .ref (ad 0))] := hl
  obtain ⟨QQ, hQQ⟩ : ∃ q, q = MQ below (QGi 31 ad (er ad cI cB) D r Sr s.heap.size) args s 0 0 (AD 31 ad s.heap.size) := ⟨_, rfl⟩
  rw [← hQQ]
  refine lv_aload_n hx hb dX10_tear_0 rfl (lv_at hl 0 rfl) ?_
  refine r_get (v := .int (ri S0 0 8)) hx hb hts (fun w h => wz_m (inX10 w h)) hown hK hP (q_Ref (ad := ad) (cI := cI) (cB := cB)) rfl 8 (by decide) (hts _ (wz_m tw_3_164)) (fun _ h9 => h9) rfl dX10_tear_1 ?_
  obtain ⟨v1, ev1, hE⟩ := st_bv hE
  refine nm_i ev1 ?_
  refine lv_istore_n (lv' := [(1, .int v1), (0, .ref (ad 0))]) hx hb dX10_tear_4 rfl hl (by decide) rfl (fun ls hl => ?_)
  refine lv_aload_n hx hb dX10_tear_5 rfl (lv_at hl 1 rfl) ?_
  refine lv_iconst (v := 0) hx hb dX10_tear_6 (by decide) ?_
  refine r_put hij hx hb hts (fun w h => wz_m (inX10 w h)) tyX10 tyX10_ok nmX10 hown hK hP hS (q_Ref (ad := ad) (cI := cI) (cB := cB)) rfl 8 (by decide) (hts _ (wz_m tw_3_164)) (fun _ h9 => h9) rfl rfl rfl (fun _ _ => Nat.le_of_ble_eq_true rfl) (fun _ _ => rfl) dX10_tear_7 (fun H locs hP hS => ?_)
  obtain ⟨S2, eS2, hE⟩ := st_bv hE
  rw [← eS2] at hP
  refine lv_iload_n hx hb dX10_tear_10 rfl (lv_at hl 0 rfl) ?_
  replace hE := Option.some.inj hE
  have hq := Prod.mk.inj hE
  subst hQQ
  exact g_iret hx hb hr hlocks hP hS hq.1 hq.2 dX10_tear_11
def f_X10_tells (S0 : SR) (a1 : Int32) (a2 : Int32) : Option (Int32) :=
  bo (f_X10_isWitness S0 a1) (fun (r1 : Int32) => if r1 = 0 then (some (-101)) else (bo (f_X10_within a2 0 5) (fun (r3 : Int32) => if r3 = 0 then (some (-102)) else (bo (f_X10_tellsNow S0 a1 a2) (fun (r5 : Int32) => some r5)))))
abbrev rmX10_tells : Room := { frames := 2, cells := 0, slots := 0, locals := 43 }
theorem hdV_X10_tells : yX10_tells.cls = "WitnessWallModel" ∧ yX10_tells.cls ≠ "java/lang/invoke/MethodHandle" ∧ yX10_tells.cls ≠ "java/lang/invoke/VarHandle" ∧ (parseMethodDescriptor yX10_tells.desc).map (fun d => d.parameters.length) = some 2 := by decide +kernel
set_option maxHeartbeats 4000000 in
set_option maxRecDepth 100000 in
theorem k_X10_tells {l : Launch} {D : va_G} {ad : Nat → Nat} {cI cB : ClassId} (hij : inj 31 ad)  {S0 : SR} {a1 : Int32} {a2 : Int32} {r : Int32} (hE : f_X10_tells S0 a1 a2 = some r) {sz : Nat} : Met l yX10_tells (wz yX10_tells cX10_tells 3 (some FieldType.int)) rmX10_tells (PG 31 ad (er ad cI cB) D (KR D cI cB) ZR [.ref (ad 0), .int a1, .int a2] S0 sz) (QGi 31 ad (er ad cI cB) D r S0 sz) 0 0 (AD 31 ad sz) := by
  unfold f_X10_tells at hE
  refine g_start (cc := cX10_tells) (maxL := 3) (ret := (some FieldType.int)) (Qc := fun sz => QGi 31 ad (er ad cI cB) D r S0 sz) (by decide) rfl (Nat.le_of_ble_eq_true rfl) ?_
  intro p e s m args below meth c H locs ls hx hb hr hts hown hlocks hml hK hZ hP hS hl
  replace hl : lv_has ls 3 [(0, .ref (ad 0)), (1, .int a1), (2, .int a2)] := hl
  obtain ⟨QQ, hQQ⟩ : ∃ q, q = MQ below (QGi 31 ad (er ad cI cB) D r S0 s.heap.size) args s 0 0 (AD 31 ad s.heap.size) := ⟨_, rfl⟩
  rw [← hQQ]
  refine lv_aload_n hx hb dX10_tells_0 rfl (lv_at hl 0 rfl) ?_
  refine lv_iload_n hx hb dX10_tells_1 rfl (lv_at hl 1 rfl) ?_
  obtain ⟨r1, hCr1, hE⟩ := st_bo hE
  refine g_calli (va_runV (As := [.int a1]) (rest := []) ⟨hx, hb, hml, hown, hts⟩ (k_X10_isWitness hij hCr1) (cwV 1 hts (wz_V tw_4_124 tw_4_126 tp_11 tw_1_11 tw_4_127) rfl rfl rfl hdV_X10_isWitness ⟨Nat.le_of_ble_eq_true rfl, Nat.le_of_ble_eq_true rfl⟩) (g_preV KR_st ZR_st hK hZ hP hS hK.1 ((q_Ref (ad := ad) (cI := cI) (cB := cB))).1 (er_o (q_Ref (ad := ad) (cI := cI) (cB := cB))) rfl) rfl rfl hl.1 rfl (lv_room (Nat.le_of_ble_eq_true rfl)) dX10_tells_2 ⟨Nat.zero_le _, Nat.zero_le _⟩) hS (fun H locs hP hS => ?_)
  refine lv_if_ne (tgt := 11) hx hb dX10_tells_5 (by decide) (fun hc2 => ?_) (fun hc2 => ?_)
  · have hE := st_f hE hc2
    refine lv_iload_n hx hb dX10_tells_11 rfl (lv_at hl 2 rfl) ?_
    refine lv_iconst (v := 0) hx hb dX10_tells_12 (by decide) ?_
    refine lv_iconst (v := 5) hx hb dX10_tells_13 (by decide) ?_
    obtain ⟨r3, hCr3, hE⟩ := st_bo hE
    refine g_calli (va_runS (As := [.int a2, .int 0, .int 5]) (rest := []) ⟨hx, hb, hml, hown, hts⟩ (k_X10_within hij (S0 := S0) hCr3) (va_cwS 3 hts (wz_S tw_4_66 tw_4_67 tw_1_11 tw_4_68) rfl rfl rfl hdS_X10_within ⟨Nat.le_of_ble_eq_true rfl, Nat.le_of_ble_eq_true rfl⟩) (g_preS KR_st ZR_st hK hZ hP hS) rfl rfl hl.1 rfl (lv_room (Nat.le_of_ble_eq_true rfl)) dX10_tells_14 ⟨Nat.zero_le _, Nat.zero_le _⟩) hS (fun H locs hP hS => ?_)
    refine lv_if_eq (tgt := 29) hx hb dX10_tells_17 (by decide) (fun hc4 => ?_) (fun hc4 => ?_)
    · have hE := st_t hE hc4
      refine lv_bipush (v := (-102)) hx hb dX10_tells_29 (by decide) ?_
      replace hE := Option.some.inj hE
      subst hQQ
      exact g_iret hx hb hr hlocks hP hS hE rfl dX10_tells_31
    · have hE := st_f hE hc4
      refine lv_aload_n hx hb dX10_tells_20 rfl (lv_at hl 0 rfl) ?_
      refine lv_iload_n hx hb dX10_tells_21 rfl (lv_at hl 1 rfl) ?_
      refine lv_iload_n hx hb dX10_tells_22 rfl (lv_at hl 2 rfl) ?_
      obtain ⟨r5, hCr5, hE⟩ := st_bo hE
      refine g_calli (va_runV (As := [.int a1, .int a2]) (rest := []) ⟨hx, hb, hml, hown, hts⟩ (k_X10_tellsNow hij hCr5) (cwV 2 hts (wz_V tw_4_162 tw_4_164 tp_18 tw_1_11 tw_4_165) rfl rfl rfl hdV_X10_tellsNow ⟨Nat.le_of_ble_eq_true rfl, Nat.le_of_ble_eq_true rfl⟩) (g_preV KR_st ZR_st hK hZ hP hS hK.1 ((q_Ref (ad := ad) (cI := cI) (cB := cB))).1 (er_o (q_Ref (ad := ad) (cI := cI) (cB := cB))) rfl) rfl rfl hl.1 rfl (lv_room (Nat.le_of_ble_eq_true rfl)) dX10_tells_23 ⟨Nat.zero_le _, Nat.zero_le _⟩) hS (fun H locs hP hS => ?_)
      refine lv_goto (tgt := 31) hx hb dX10_tells_26 (by decide) ?_
      replace hE := Option.some.inj hE
      subst hQQ
      exact g_iret hx hb hr hlocks hP hS hE rfl dX10_tells_31
  · have hE := st_t hE hc2
    refine lv_bipush (v := (-101)) hx hb dX10_tells_8 (by decide) ?_
    replace hE := Option.some.inj hE
    subst hQQ
    exact g_iret hx hb hr hlocks hP hS hE rfl dX10_tells_10
def f_X10_term (S0 : SR) (a1 : Int32) : Option (Int32 × SR) :=
  bo (f_X10_within a1 0 1) (fun (r1 : Int32) => if r1 = 0 then (some ((-102), S0)) else (if (ri S0 0 0) = 0 then (some ((-103), S0)) else (bo (f_X10_termNow S0 a1) (fun (r4 : Int32 × SR) => some (r4.1, r4.2)))))
abbrev rmX10_term : Room := { frames := 5, cells := 0, slots := 0, locals := 114 }
theorem hdV_X10_term : yX10_term.cls = "WitnessWallModel" ∧ yX10_term.cls ≠ "java/lang/invoke/MethodHandle" ∧ yX10_term.cls ≠ "java/lang/invoke/VarHandle" ∧ (parseMethodDescriptor yX10_term.desc).map (fun d => d.parameters.length) = some 1 := by decide +kernel
set_option maxHeartbeats 4000000 in
set_option maxRecDepth 100000 in
theorem k_X10_term {l : Launch} {D : va_G} {ad : Nat → Nat} {cI cB : ClassId} (hij : inj 31 ad)  {S0 : SR} {a1 : Int32} {r : Int32} {Sr : SR} (hE : f_X10_term S0 a1 = some (r, Sr)) {sz : Nat} : Met l yX10_term (wz yX10_term cX10_term 2 (some FieldType.int)) rmX10_term (PG 31 ad (er ad cI cB) D (KR D cI cB) ZR [.ref (ad 0), .int a1] S0 sz) (QGi 31 ad (er ad cI cB) D r Sr sz) 0 0 (AD 31 ad sz) := by
  unfold f_X10_term at hE
  refine g_start (cc := cX10_term) (maxL := 2) (ret := (some FieldType.int)) (Qc := fun sz => QGi 31 ad (er ad cI cB) D r Sr sz) (by decide) rfl (Nat.le_of_ble_eq_true rfl) ?_
  intro p e s m args below meth c H locs ls hx hb hr hts hown hlocks hml hK hZ hP hS hl
  replace hl : lv_has ls 2 [(0, .ref (ad 0)), (1, .int a1)] := hl
  obtain ⟨QQ, hQQ⟩ : ∃ q, q = MQ below (QGi 31 ad (er ad cI cB) D r Sr s.heap.size) args s 0 0 (AD 31 ad s.heap.size) := ⟨_, rfl⟩
  rw [← hQQ]
  refine lv_iload_n hx hb dX10_term_0 rfl (lv_at hl 1 rfl) ?_
  refine lv_iconst (v := 0) hx hb dX10_term_1 (by decide) ?_
  refine lv_iconst (v := 1) hx hb dX10_term_2 (by decide) ?_
  obtain ⟨r1, hCr1, hE⟩ := st_bo hE
  refine g_calli (va_runS (As := [.int a1, .int 0, .int 1]) (rest := []) ⟨hx, hb, hml, hown, hts⟩ (k_X10_within hij (S0 := S0) hCr1) (va_cwS 3 hts (wz_S tw_4_66 tw_4_67 tw_1_11 tw_4_68) rfl rfl rfl hdS_X10_within ⟨Nat.le_of_ble_eq_true rfl, Nat.le_of_ble_eq_true rfl⟩) (g_preS KR_st ZR_st hK hZ hP hS) rfl rfl hl.1 rfl (lv_room (Nat.le_of_ble_eq_true rfl)) dX10_term_3 ⟨Nat.zero_le _, Nat.zero_le _⟩) hS (fun H locs hP hS => ?_)
  refine lv_if_ne (tgt := 12) hx hb dX10_term_6 (by decide) (fun hc2 => ?_) (fun hc2 => ?_)
  · have hE := st_f hE hc2
    refine lv_aload_n hx hb dX10_term_12 rfl (lv_at hl 0 rfl) ?_
    refine r_get (v := .int (ri S0 0 0)) hx hb hts (fun w h => wz_m (inX10 w h)) hown hK hP (q_Ref (ad := ad) (cI := cI) (cB := cB)) rfl 0 (by decide) (hts _ (wz_m tw_3_156)) (fun _ h9 => h9) rfl dX10_term_13 ?_
    refine lv_if_ne (tgt := 24) hx hb dX10_term_16 (by decide) (fun hc3 => ?_) (fun hc3 => ?_)
    · have hE := st_f hE hc3
      refine lv_aload_n hx hb dX10_term_24 rfl (lv_at hl 0 rfl) ?_
      refine lv_iload_n hx hb dX10_term_25 rfl (lv_at hl 1 rfl) ?_
      obtain ⟨r4, hCr4, hE⟩ := st_bo hE
      refine g_calli (va_runV (As := [.int a1]) (rest := []) ⟨hx, hb, hml, hown, hts⟩ (k_X10_termNow hij hCr4) (cwV 1 hts (wz_V tw_4_227 tw_4_229 tp_23 tw_1_11 tw_4_230) rfl rfl rfl hdV_X10_termNow ⟨Nat.le_of_ble_eq_true rfl, Nat.le_of_ble_eq_true rfl⟩) (g_preV KR_st ZR_st hK hZ hP hS hK.1 ((q_Ref (ad := ad) (cI := cI) (cB := cB))).1 (er_o (q_Ref (ad := ad) (cI := cI) (cB := cB))) rfl) rfl rfl hl.1 rfl (lv_room (Nat.le_of_ble_eq_true rfl)) dX10_term_26 ⟨Nat.zero_le _, Nat.zero_le _⟩) hS (fun H locs hP hS => ?_)
      replace hE := Option.some.inj hE
      have hq := Prod.mk.inj hE
      subst hQQ
      exact g_iret hx hb hr hlocks hP hS hq.1 hq.2 dX10_term_29
    · have hE := st_t hE hc3
      refine lv_bipush (v := (-103)) hx hb dX10_term_19 (by decide) ?_
      refine lv_goto (tgt := 29) hx hb dX10_term_21 (by decide) ?_
      replace hE := Option.some.inj hE
      have hq := Prod.mk.inj hE
      subst hQQ
      exact g_iret hx hb hr hlocks hP hS hq.1 hq.2 dX10_term_29
  · have hE := st_t hE hc2
    refine lv_bipush (v := (-102)) hx hb dX10_term_9 (by decide) ?_
    replace hE := Option.some.inj hE
    have hq := Prod.mk.inj hE
    subst hQQ
    exact g_iret hx hb hr hlocks hP hS hq.1 hq.2 dX10_term_11
def b_X10_wall_59 (c7 : Int32) (c19 : Int32) (c20 : SR) : Option ((Int32 × SR) ⊕ (SR)) :=
  if 3 ≤ c19 then (some (.inr c20)) else (gd (inb ((3 * c7) + c19) 15) (gd (inb ((4 * c7) + c19) 20) (bv (ui c20 2 (((4 * c7) + c19).toNatClampNeg) (ri c20 14 (((3 * c7) + c19).toNatClampNeg))) (fun S24 => bv (c19 + 1) (fun (v25 : Int32) => some (.inl (v25, S24)))))))
def b_X10_wall_25 (c7 : Int32) (c8 : SR) : Option ((Int32 × SR) ⊕ (SR)) :=
  if (ri c8 0 1) ≤ c7 then (some (.inr c8)) else (gd (inb c7 5) (gd (inb c7 5) (bv (ui c8 1 (c7.toNatClampNeg) (ri c8 13 (c7.toNatClampNeg))) (fun S12 => gd (inb c7 5) (gd (inb c7 5) (bv (ui S12 3 (c7.toNatClampNeg) (ri S12 15 (c7.toNatClampNeg))) (fun S15 => bo (lp (fun (s16 : Int32 × SR) => b_X10_wall_59 c7 s16.1 s16.2) 5000 (0, S15)) (fun (x17 : SR) => bv (c7 + 1) (fun (v26 : Int32) => some (.inl (v26, x17)))))))))))
def b_X10_wall_106 (c31 : Int32) (c32 : SR) : Option ((Int32 × SR) ⊕ (SR)) :=
  if (ri c32 0 5) ≤ c31 then (some (.inr c32)) else (gd (inb c31 4) (gd (inb c31 4) (bv (ui c32 4 (c31.toNatClampNeg) (ri c32 16 (c31.toNatClampNeg))) (fun S36 => gd (inb c31 4) (gd (inb c31 4) (bv (ui S36 5 (c31.toNatClampNeg) (ri S36 17 (c31.toNatClampNeg))) (fun S39 => bv (c31 + 1) (fun (v40 : Int32) => some (.inl (v40, S39))))))))))
def f_X10_wall (S0 : SR) : Option (Int32 × SR) :=
  bo (f_X10_read S0) (fun (r1 : Int32 × SR) => if (ri r1.2 0 19) = 0 then (some ((-103), r1.2)) else (bv (ui r1.2 0 1 (ri r1.2 0 20)) (fun S3 => bo (lp (fun (s4 : Int32 × SR) => b_X10_wall_25 s4.1 s4.2) 5000 (0, S3)) (fun (x5 : SR) => bv (ui x5 0 5 (ri x5 0 21)) (fun S27 => bo (lp (fun (s28 : Int32 × SR) => b_X10_wall_106 s28.1 s28.2) 5000 (0, S27)) (fun (x29 : SR) => bv (ui x29 0 8 0) (fun S41 => bv (ui S41 0 12 0) (fun S42 => bv (ui S42 0 0 ((ri S42 0 0) + 1)) (fun S43 => bv (ui S43 0 13 0) (fun S44 => bv (ui S44 0 17 0) (fun S45 => some (ri S45 0 1, S45))))))))))))
abbrev rmX10_wall : Room := { frames := 5, cells := 0, slots := 0, locals := 110 }
theorem hdV_X10_wall : yX10_wall.cls = "WitnessWallModel" ∧ yX10_wall.cls ≠ "java/lang/invoke/MethodHandle" ∧ yX10_wall.cls ≠ "java/lang/invoke/VarHandle" ∧ (parseMethodDescriptor yX10_wall.desc).map (fun d => d.parameters.length) = some 0 := by decide +kernel
set_option maxHeartbeats 4000000 in
set_option maxRecDepth 100000 in
theorem k_X10_wall {l : Launch} {D : va_G} {ad : Nat → Nat} {cI cB : ClassId} (hij : inj 31 ad)  {S0 : SR} {r : Int32} {Sr : SR} (hE : f_X10_wall S0 = some (r, Sr)) {sz : Nat} : Met l yX10_wall (wz yX10_wall cX10_wall 3 (some FieldType.int)) rmX10_wall (PG 31 ad (er ad cI cB) D (KR D cI cB) ZR [.ref (ad 0)] S0 sz) (QGi 31 ad (er ad cI cB) D r Sr sz) 0 0 (AD 31 ad sz) := by
  unfold f_X10_wall at hE
  refine g_start (cc := cX10_wall) (maxL := 3) (ret := (some FieldType.int)) (Qc := fun sz => QGi 31 ad (er ad cI cB) D r Sr sz) (by decide) rfl (Nat.le_of_ble_eq_true rfl) ?_
  intro p e s m args below meth c H locs ls hx hb hr hts hown hlocks hml hK hZ hP hS hl
  replace hl : lv_has ls 3 [(0, .ref (ad 0))] := hl
  obtain ⟨QQ, hQQ⟩ : ∃ q, q = MQ below (QGi 31 ad (er ad cI cB) D r Sr s.heap.size) args s 0 0 (AD 31 ad s.heap.size) := ⟨_, rfl⟩
  rw [← hQQ]
  refine lv_aload_n hx hb dX10_wall_0 rfl (lv_at hl 0 rfl) ?_
  obtain ⟨r1, hCr1, hE⟩ := st_bo hE
  refine g_calli (va_runV (As := []) (rest := []) ⟨hx, hb, hml, hown, hts⟩ (k_X10_read hij hCr1) (cwV 0 hts (wz_V tw_4_77 tw_4_79 tp_2 tw_1_11 tw_4_80) rfl rfl rfl hdV_X10_read ⟨Nat.le_of_ble_eq_true rfl, Nat.le_of_ble_eq_true rfl⟩) (g_preV KR_st ZR_st hK hZ hP hS hK.1 ((q_Ref (ad := ad) (cI := cI) (cB := cB))).1 (er_o (q_Ref (ad := ad) (cI := cI) (cB := cB))) rfl) rfl rfl hl.1 rfl (lv_room (Nat.le_of_ble_eq_true rfl)) dX10_wall_1 ⟨Nat.zero_le _, Nat.zero_le _⟩) hS (fun H locs hP hS => ?_)
  refine lv_pop hx hb dX10_wall_4 rfl ?_
  refine lv_aload_n hx hb dX10_wall_5 rfl (lv_at hl 0 rfl) ?_
  refine r_get (v := .int (ri r1.2 0 19)) hx hb hts (fun w h => wz_m (inX10 w h)) hown hK hP (q_Ref (ad := ad) (cI := cI) (cB := cB)) rfl 19 (by decide) (hts _ (wz_m tw_3_175)) (fun _ h9 => h9) rfl dX10_wall_6 ?_
  refine lv_if_ne (tgt := 15) hx hb dX10_wall_9 (by decide) (fun hc2 => ?_) (fun hc2 => ?_)
  · have hE := st_f hE hc2
    refine lv_aload_n hx hb dX10_wall_15 rfl (lv_at hl 0 rfl) ?_
    refine lv_aload_n hx hb dX10_wall_16 rfl (lv_at hl 0 rfl) ?_
    refine r_get (v := .int (ri r1.2 0 20)) hx hb hts (fun w h => wz_m (inX10 w h)) hown hK hP (q_Ref (ad := ad) (cI := cI) (cB := cB)) rfl 20 (by decide) (hts _ (wz_m tw_3_176)) (fun _ h9 => h9) rfl dX10_wall_17 ?_
    refine r_put hij hx hb hts (fun w h => wz_m (inX10 w h)) tyX10 tyX10_ok nmX10 hown hK hP hS (q_Ref (ad := ad) (cI := cI) (cB := cB)) rfl 1 (by decide) (hts _ (wz_m tw_3_157)) (fun _ h9 => h9) rfl rfl rfl (fun _ _ => Nat.le_of_ble_eq_true rfl) (fun _ _ => rfl) dX10_wall_20 (fun H locs hP hS => ?_)
    obtain ⟨S3, eS3, hE⟩ := st_bv hE
    rw [← eS3] at hP
    refine lv_iconst (v := 0) hx hb dX10_wall_23 (by decide) ?_
    refine lv_istore_n (lv' := [(1, .int 0), (0, .ref (ad 0))]) hx hb dX10_wall_24 rfl hl (by decide) rfl (fun ls hl => ?_)
    obtain ⟨x5, hx5, hE⟩ := st_bo hE
    refine lp_walk (body := fun (s4 : Int32 × SR) => b_X10_wall_25 s4.1 s4.2) (fun s4 => ∀ (ls : Array Slot) (H : Heap) (locs : List Loc), lv_has ls 3 [(0, .ref (ad 0)), (1, .int s4.1)] → rP D ad cI cB s4.2 H → rS ad s H locs → W p l e rmX10_wall s m args below meth c H locs 0 0 QQ (F0 m 25 ls [])) (fun x5 => ∀ (ls : Array Slot) (H : Heap) (locs : List Loc), lv_has ls 3 [(0, .ref (ad 0))] → rP D ad cI cB x5 H → rS ad s H locs → W p l e rmX10_wall s m args below meth c H locs 0 0 QQ (F0 m 96 ls [])) ?_ _ _ _ hx5 ?_ ls H locs (lv_sub hl [1, 0] rfl) hP hS
    · intro s4 t6 hE hKt6 ls H locs hl hP hS
      obtain ⟨c7, c8⟩ := s4
      replace hE : b_X10_wall_25 c7 c8 = some t6 := hE
      replace hl : lv_has ls 3 [(0, .ref (ad 0)), (1, .int c7)] := hl
      replace hP : rP D ad cI cB c8 H := hP
      unfold b_X10_wall_25 at hE
      refine lv_iload_n hx hb dX10_wall_25 rfl (lv_at hl 1 rfl) ?_
      refine lv_aload_n hx hb dX10_wall_26 rfl (lv_at hl 0 rfl) ?_
      refine r_get (v := .int (ri c8 0 1)) hx hb hts (fun w h => wz_m (inX10 w h)) hown hK hP (q_Ref (ad := ad) (cI := cI) (cB := cB)) rfl 1 (by decide) (hts _ (wz_m tw_3_157)) (fun _ h9 => h9) rfl dX10_wall_27 ?_
      refine lv_icmp_ge (tgt := 96) hx hb dX10_wall_30 (by decide) (fun hc9 => ?_) (fun hc9 => ?_)
      · have hE := st_t hE hc9
        have hq := Option.some.inj hE
        subst hq
        exact hKt6 ls H locs (lv_sub hl [0] rfl) hP hS
      · have hE := st_f hE hc9
        refine lv_aload_n hx hb dX10_wall_33 rfl (lv_at hl 0 rfl) ?_
        refine r_get (v := .ref (ad 1)) hx hb hts (fun w h => wz_m (inX10 w h)) hown hK hP (q_Ref (ad := ad) (cI := cI) (cB := cB)) rfl 2 (by decide) (hts _ (wz_m tw_3_158)) (fun _ h9 => h9) rfl dX10_wall_34 ?_
        refine lv_iload_n hx hb dX10_wall_37 rfl (lv_at hl 1 rfl) ?_
        refine lv_aload_n hx hb dX10_wall_38 rfl (lv_at hl 0 rfl) ?_
        refine r_get (v := .ref (ad 13)) hx hb hts (fun w h => wz_m (inX10 w h)) hown hK hP (q_Ref (ad := ad) (cI := cI) (cB := cB)) rfl 22 (by decide) (hts _ (wz_m tw_3_178)) (fun _ h9 => h9) rfl dX10_wall_39 ?_
        refine lv_iload_n hx hb dX10_wall_42 rfl (lv_at hl 1 rfl) ?_
        obtain ⟨hi10, hE⟩ := st_gd hE
        refine r_iald hx hb hK hP qr_13 hi10 dX10_wall_43 ?_
        obtain ⟨hi11, hE⟩ := st_gd hE
        refine r_iast hij hx hb hK hP hS qr_1 hi11 dX10_wall_44 (fun H locs hP hS => ?_)
        obtain ⟨S12, eS12, hE⟩ := st_bv hE
        rw [← eS12] at hP
        refine lv_aload_n hx hb dX10_wall_45 rfl (lv_at hl 0 rfl) ?_
        refine r_get (v := .ref (ad 3)) hx hb hts (fun w h => wz_m (inX10 w h)) hown hK hP (q_Ref (ad := ad) (cI := cI) (cB := cB)) rfl 4 (by decide) (hts _ (wz_m tw_3_160)) (fun _ h9 => h9) rfl dX10_wall_46 ?_
        refine lv_iload_n hx hb dX10_wall_49 rfl (lv_at hl 1 rfl) ?_
        refine lv_aload_n hx hb dX10_wall_50 rfl (lv_at hl 0 rfl) ?_
        refine r_get (v := .ref (ad 15)) hx hb hts (fun w h => wz_m (inX10 w h)) hown hK hP (q_Ref (ad := ad) (cI := cI) (cB := cB)) rfl 24 (by decide) (hts _ (wz_m tw_3_180)) (fun _ h9 => h9) rfl dX10_wall_51 ?_
        refine lv_iload_n hx hb dX10_wall_54 rfl (lv_at hl 1 rfl) ?_
        obtain ⟨hi13, hE⟩ := st_gd hE
        refine r_iald hx hb hK hP qr_15 hi13 dX10_wall_55 ?_
        obtain ⟨hi14, hE⟩ := st_gd hE
        refine r_iast hij hx hb hK hP hS qr_3 hi14 dX10_wall_56 (fun H locs hP hS => ?_)
        obtain ⟨S15, eS15, hE⟩ := st_bv hE
        rw [← eS15] at hP
        refine lv_iconst (v := 0) hx hb dX10_wall_57 (by decide) ?_
        refine lv_istore_n (lv' := [(2, .int 0), (0, .ref (ad 0)), (1, .int c7)]) hx hb dX10_wall_58 rfl hl (by decide) rfl (fun ls hl => ?_)
        obtain ⟨x17, hx17, hE⟩ := st_bo hE
        refine lp_walk (body := fun (s16 : Int32 × SR) => b_X10_wall_59 c7 s16.1 s16.2) (fun s16 => ∀ (ls : Array Slot) (H : Heap) (locs : List Loc), lv_has ls 3 [(0, .ref (ad 0)), (1, .int c7), (2, .int s16.1)] → rP D ad cI cB s16.2 H → rS ad s H locs → W p l e rmX10_wall s m args below meth c H locs 0 0 QQ (F0 m 59 ls [])) (fun x17 => ∀ (ls : Array Slot) (H : Heap) (locs : List Loc), lv_has ls 3 [(0, .ref (ad 0)), (1, .int c7)] → rP D ad cI cB x17 H → rS ad s H locs → W p l e rmX10_wall s m args below meth c H locs 0 0 QQ (F0 m 90 ls [])) ?_ _ _ _ hx17 ?_ ls H locs (lv_sub hl [1, 2, 0] rfl) hP hS
        · intro s16 t18 hE hKt18 ls H locs hl hP hS
          obtain ⟨c19, c20⟩ := s16
          replace hE : b_X10_wall_59 c7 c19 c20 = some t18 := hE
          replace hl : lv_has ls 3 [(0, .ref (ad 0)), (1, .int c7), (2, .int c19)] := hl
          replace hP : rP D ad cI cB c20 H := hP
          unfold b_X10_wall_59 at hE
          refine lv_iload_n hx hb dX10_wall_59 rfl (lv_at hl 2 rfl) ?_
          refine lv_iconst (v := 3) hx hb dX10_wall_60 (by decide) ?_
          refine lv_icmp_ge (tgt := 90) hx hb dX10_wall_61 (by decide) (fun hc21 => ?_) (fun hc21 => ?_)
          · have hE := st_t hE hc21
            have hq := Option.some.inj hE
            subst hq
            exact hKt18 ls H locs (lv_sub hl [0, 1] rfl) hP hS
          · have hE := st_f hE hc21
            refine lv_aload_n hx hb dX10_wall_64 rfl (lv_at hl 0 rfl) ?_
            refine r_get (v := .ref (ad 2)) hx hb hts (fun w h => wz_m (inX10 w h)) hown hK hP (q_Ref (ad := ad) (cI := cI) (cB := cB)) rfl 3 (by decide) (hts _ (wz_m tw_3_159)) (fun _ h9 => h9) rfl dX10_wall_65 ?_
            refine lv_iconst (v := 4) hx hb dX10_wall_68 (by decide) ?_
            refine lv_iload_n hx hb dX10_wall_69 rfl (lv_at hl 1 rfl) ?_
            refine lv_imul hx hb dX10_wall_70 ?_
            refine lv_iload_n hx hb dX10_wall_71 rfl (lv_at hl 2 rfl) ?_
            refine lv_iadd hx hb dX10_wall_72 ?_
            refine lv_aload_n hx hb dX10_wall_73 rfl (lv_at hl 0 rfl) ?_
            refine r_get (v := .ref (ad 14)) hx hb hts (fun w h => wz_m (inX10 w h)) hown hK hP (q_Ref (ad := ad) (cI := cI) (cB := cB)) rfl 23 (by decide) (hts _ (wz_m tw_3_179)) (fun _ h9 => h9) rfl dX10_wall_74 ?_
            refine lv_iconst (v := 3) hx hb dX10_wall_77 (by decide) ?_
            refine lv_iload_n hx hb dX10_wall_78 rfl (lv_at hl 1 rfl) ?_
            refine lv_imul hx hb dX10_wall_79 ?_
            refine lv_iload_n hx hb dX10_wall_80 rfl (lv_at hl 2 rfl) ?_
            refine lv_iadd hx hb dX10_wall_81 ?_
            obtain ⟨hi22, hE⟩ := st_gd hE
            refine r_iald hx hb hK hP qr_14 hi22 dX10_wall_82 ?_
            obtain ⟨hi23, hE⟩ := st_gd hE
            refine r_iast hij hx hb hK hP hS qr_2 hi23 dX10_wall_83 (fun H locs hP hS => ?_)
            obtain ⟨S24, eS24, hE⟩ := st_bv hE
            rw [← eS24] at hP
            obtain ⟨v25, ev25, hE⟩ := st_bv hE
            refine lv_iinc (v := v25) (lv' := [(2, .int v25), (0, .ref (ad 0)), (1, .int c7)]) hx hb dX10_wall_84 hl (k := 2) rfl (by rw [ev25]; rfl) (by decide) rfl (fun ls hl => ?_)
            refine lv_goto (tgt := 59) hx hb dX10_wall_87 (by decide) ?_
            have hq := Option.some.inj hE
            subst hq
            exact hKt18 ls H locs (lv_sub hl [1, 2, 0] rfl) hP hS
        · intro ls H locs hl hP hS
          obtain ⟨v26, ev26, hE⟩ := st_bv hE
          refine lv_iinc (v := v26) (lv' := [(1, .int v26), (0, .ref (ad 0))]) hx hb dX10_wall_90 hl (k := 1) rfl (by rw [ev26]; rfl) (by decide) rfl (fun ls hl => ?_)
          refine lv_goto (tgt := 25) hx hb dX10_wall_93 (by decide) ?_
          have hq := Option.some.inj hE
          subst hq
          exact hKt6 ls H locs (lv_sub hl [1, 0] rfl) hP hS
    · intro ls H locs hl hP hS
      refine lv_aload_n hx hb dX10_wall_96 rfl (lv_at hl 0 rfl) ?_
      refine lv_aload_n hx hb dX10_wall_97 rfl (lv_at hl 0 rfl) ?_
      refine r_get (v := .int (ri x5 0 21)) hx hb hts (fun w h => wz_m (inX10 w h)) hown hK hP (q_Ref (ad := ad) (cI := cI) (cB := cB)) rfl 21 (by decide) (hts _ (wz_m tw_3_177)) (fun _ h9 => h9) rfl dX10_wall_98 ?_
      refine r_put hij hx hb hts (fun w h => wz_m (inX10 w h)) tyX10 tyX10_ok nmX10 hown hK hP hS (q_Ref (ad := ad) (cI := cI) (cB := cB)) rfl 5 (by decide) (hts _ (wz_m tw_3_161)) (fun _ h9 => h9) rfl rfl rfl (fun _ _ => Nat.le_of_ble_eq_true rfl) (fun _ _ => rfl) dX10_wall_101 (fun H locs hP hS => ?_)
      obtain ⟨S27, eS27, hE⟩ := st_bv hE
      rw [← eS27] at hP
      refine lv_iconst (v := 0) hx hb dX10_wall_104 (by decide) ?_
      refine lv_istore_n (lv' := [(1, .int 0), (0, .ref (ad 0))]) hx hb dX10_wall_105 rfl hl (by decide) rfl (fun ls hl => ?_)
      obtain ⟨x29, hx29, hE⟩ := st_bo hE
      refine lp_walk (body := fun (s28 : Int32 × SR) => b_X10_wall_106 s28.1 s28.2) (fun s28 => ∀ (ls : Array Slot) (H : Heap) (locs : List Loc), lv_has ls 3 [(0, .ref (ad 0)), (1, .int s28.1)] → rP D ad cI cB s28.2 H → rS ad s H locs → W p l e rmX10_wall s m args below meth c H locs 0 0 QQ (F0 m 106 ls [])) (fun x29 => ∀ (ls : Array Slot) (H : Heap) (locs : List Loc), lv_has ls 3 [(0, .ref (ad 0))] → rP D ad cI cB x29 H → rS ad s H locs → W p l e rmX10_wall s m args below meth c H locs 0 0 QQ (F0 m 144 ls [])) ?_ _ _ _ hx29 ?_ ls H locs (lv_sub hl [1, 0] rfl) hP hS
      · intro s28 t30 hE hKt30 ls H locs hl hP hS
        obtain ⟨c31, c32⟩ := s28
        replace hE : b_X10_wall_106 c31 c32 = some t30 := hE
        replace hl : lv_has ls 3 [(0, .ref (ad 0)), (1, .int c31)] := hl
        replace hP : rP D ad cI cB c32 H := hP
        unfold b_X10_wall_106 at hE
        refine lv_iload_n hx hb dX10_wall_106 rfl (lv_at hl 1 rfl) ?_
        refine lv_aload_n hx hb dX10_wall_107 rfl (lv_at hl 0 rfl) ?_
        refine r_get (v := .int (ri c32 0 5)) hx hb hts (fun w h => wz_m (inX10 w h)) hown hK hP (q_Ref (ad := ad) (cI := cI) (cB := cB)) rfl 5 (by decide) (hts _ (wz_m tw_3_161)) (fun _ h9 => h9) rfl dX10_wall_108 ?_
        refine lv_icmp_ge (tgt := 144) hx hb dX10_wall_111 (by decide) (fun hc33 => ?_) (fun hc33 => ?_)
        · have hE := st_t hE hc33
          have hq := Option.some.inj hE
          subst hq
          exact hKt30 ls H locs (lv_sub hl [0] rfl) hP hS
        · have hE := st_f hE hc33
          refine lv_aload_n hx hb dX10_wall_114 rfl (lv_at hl 0 rfl) ?_
          refine r_get (v := .ref (ad 4)) hx hb hts (fun w h => wz_m (inX10 w h)) hown hK hP (q_Ref (ad := ad) (cI := cI) (cB := cB)) rfl 6 (by decide) (hts _ (wz_m tw_3_162)) (fun _ h9 => h9) rfl dX10_wall_115 ?_
          refine lv_iload_n hx hb dX10_wall_118 rfl (lv_at hl 1 rfl) ?_
          refine lv_aload_n hx hb dX10_wall_119 rfl (lv_at hl 0 rfl) ?_
          refine r_get (v := .ref (ad 16)) hx hb hts (fun w h => wz_m (inX10 w h)) hown hK hP (q_Ref (ad := ad) (cI := cI) (cB := cB)) rfl 25 (by decide) (hts _ (wz_m tw_3_181)) (fun _ h9 => h9) rfl dX10_wall_120 ?_
          refine lv_iload_n hx hb dX10_wall_123 rfl (lv_at hl 1 rfl) ?_
          obtain ⟨hi34, hE⟩ := st_gd hE
          refine r_iald hx hb hK hP qr_16 hi34 dX10_wall_124 ?_
          obtain ⟨hi35, hE⟩ := st_gd hE
          refine r_iast hij hx hb hK hP hS qr_4 hi35 dX10_wall_125 (fun H locs hP hS => ?_)
          obtain ⟨S36, eS36, hE⟩ := st_bv hE
          rw [← eS36] at hP
          refine lv_aload_n hx hb dX10_wall_126 rfl (lv_at hl 0 rfl) ?_
          refine r_get (v := .ref (ad 5)) hx hb hts (fun w h => wz_m (inX10 w h)) hown hK hP (q_Ref (ad := ad) (cI := cI) (cB := cB)) rfl 7 (by decide) (hts _ (wz_m tw_3_163)) (fun _ h9 => h9) rfl dX10_wall_127 ?_
          refine lv_iload_n hx hb dX10_wall_130 rfl (lv_at hl 1 rfl) ?_
          refine lv_aload_n hx hb dX10_wall_131 rfl (lv_at hl 0 rfl) ?_
          refine r_get (v := .ref (ad 17)) hx hb hts (fun w h => wz_m (inX10 w h)) hown hK hP (q_Ref (ad := ad) (cI := cI) (cB := cB)) rfl 26 (by decide) (hts _ (wz_m tw_3_182)) (fun _ h9 => h9) rfl dX10_wall_132 ?_
          refine lv_iload_n hx hb dX10_wall_135 rfl (lv_at hl 1 rfl) ?_
          obtain ⟨hi37, hE⟩ := st_gd hE
          refine r_iald hx hb hK hP qr_17 hi37 dX10_wall_136 ?_
          obtain ⟨hi38, hE⟩ := st_gd hE
          refine r_iast hij hx hb hK hP hS qr_5 hi38 dX10_wall_137 (fun H locs hP hS => ?_)
          obtain ⟨S39, eS39, hE⟩ := st_bv hE
          rw [← eS39] at hP
          obtain ⟨v40, ev40, hE⟩ := st_bv hE
          refine lv_iinc (v := v40) (lv' := [(1, .int v40), (0, .ref (ad 0))]) hx hb dX10_wall_138 hl (k := 1) rfl (by rw [ev40]; rfl) (by decide) rfl (fun ls hl => ?_)
          refine lv_goto (tgt := 106) hx hb dX10_wall_141 (by decide) ?_
          have hq := Option.some.inj hE
          subst hq
          exact hKt30 ls H locs (lv_sub hl [1, 0] rfl) hP hS
      · intro ls H locs hl hP hS
        refine lv_aload_n hx hb dX10_wall_144 rfl (lv_at hl 0 rfl) ?_
        refine lv_iconst (v := 0) hx hb dX10_wall_145 (by decide) ?_
        refine r_put hij hx hb hts (fun w h => wz_m (inX10 w h)) tyX10 tyX10_ok nmX10 hown hK hP hS (q_Ref (ad := ad) (cI := cI) (cB := cB)) rfl 8 (by decide) (hts _ (wz_m tw_3_164)) (fun _ h9 => h9) rfl rfl rfl (fun _ _ => Nat.le_of_ble_eq_true rfl) (fun _ _ => rfl) dX10_wall_146 (fun H locs hP hS => ?_)
        obtain ⟨S41, eS41, hE⟩ := st_bv hE
        rw [← eS41] at hP
        refine lv_aload_n hx hb dX10_wall_149 rfl (lv_at hl 0 rfl) ?_
        refine lv_iconst (v := 0) hx hb dX10_wall_150 (by decide) ?_
        refine r_put hij hx hb hts (fun w h => wz_m (inX10 w h)) tyX10 tyX10_ok nmX10 hown hK hP hS (q_Ref (ad := ad) (cI := cI) (cB := cB)) rfl 12 (by decide) (hts _ (wz_m tw_3_168)) (fun _ h9 => h9) rfl rfl rfl (fun _ _ => Nat.le_of_ble_eq_true rfl) (fun _ _ => rfl) dX10_wall_151 (fun H locs hP hS => ?_)
        obtain ⟨S42, eS42, hE⟩ := st_bv hE
        rw [← eS42] at hP
        refine lv_aload_n hx hb dX10_wall_154 rfl (lv_at hl 0 rfl) ?_
        refine lv_dup hx hb dX10_wall_155 rfl ?_
        refine r_get (v := .int (ri S42 0 0)) hx hb hts (fun w h => wz_m (inX10 w h)) hown hK hP (q_Ref (ad := ad) (cI := cI) (cB := cB)) rfl 0 (by decide) (hts _ (wz_m tw_3_156)) (fun _ h9 => h9) rfl dX10_wall_156 ?_
        refine lv_iconst (v := 1) hx hb dX10_wall_159 (by decide) ?_
        refine lv_iadd hx hb dX10_wall_160 ?_
        refine r_put hij hx hb hts (fun w h => wz_m (inX10 w h)) tyX10 tyX10_ok nmX10 hown hK hP hS (q_Ref (ad := ad) (cI := cI) (cB := cB)) rfl 0 (by decide) (hts _ (wz_m tw_3_156)) (fun _ h9 => h9) rfl rfl rfl (fun _ _ => Nat.le_of_ble_eq_true rfl) (fun _ _ => rfl) dX10_wall_161 (fun H locs hP hS => ?_)
        obtain ⟨S43, eS43, hE⟩ := st_bv hE
        rw [← eS43] at hP
        refine lv_aload_n hx hb dX10_wall_164 rfl (lv_at hl 0 rfl) ?_
        refine lv_iconst (v := 0) hx hb dX10_wall_165 (by decide) ?_
        refine r_put hij hx hb hts (fun w h => wz_m (inX10 w h)) tyX10 tyX10_ok nmX10 hown hK hP hS (q_Ref (ad := ad) (cI := cI) (cB := cB)) rfl 13 (by decide) (hts _ (wz_m tw_3_169)) (fun _ h9 => h9) rfl rfl rfl (fun _ _ => Nat.le_of_ble_eq_true rfl) (fun _ _ => rfl) dX10_wall_166 (fun H locs hP hS => ?_)
        obtain ⟨S44, eS44, hE⟩ := st_bv hE
        rw [← eS44] at hP
        refine lv_aload_n hx hb dX10_wall_169 rfl (lv_at hl 0 rfl) ?_
        refine lv_iconst (v := 0) hx hb dX10_wall_170 (by decide) ?_
        refine r_put hij hx hb hts (fun w h => wz_m (inX10 w h)) tyX10 tyX10_ok nmX10 hown hK hP hS (q_Ref (ad := ad) (cI := cI) (cB := cB)) rfl 17 (by decide) (hts _ (wz_m tw_3_173)) (fun _ h9 => h9) rfl rfl rfl (fun _ _ => Nat.le_of_ble_eq_true rfl) (fun _ _ => rfl) dX10_wall_171 (fun H locs hP hS => ?_)
        obtain ⟨S45, eS45, hE⟩ := st_bv hE
        rw [← eS45] at hP
        refine lv_aload_n hx hb dX10_wall_174 rfl (lv_at hl 0 rfl) ?_
        refine r_get (v := .int (ri S45 0 1)) hx hb hts (fun w h => wz_m (inX10 w h)) hown hK hP (q_Ref (ad := ad) (cI := cI) (cB := cB)) rfl 1 (by decide) (hts _ (wz_m tw_3_157)) (fun _ h9 => h9) rfl dX10_wall_175 ?_
        replace hE := Option.some.inj hE
        have hq := Prod.mk.inj hE
        subst hQQ
        exact g_iret hx hb hr hlocks hP hS hq.1 hq.2 dX10_wall_178
  · have hE := st_t hE hc2
    refine lv_bipush (v := (-103)) hx hb dX10_wall_12 (by decide) ?_
    replace hE := Option.some.inj hE
    have hq := Prod.mk.inj hE
    subst hQQ
    exact g_iret hx hb hr hlocks hP hS hq.1 hq.2 dX10_wall_14
def f_X10_witness (S0 : SR) (a1 : Int32) (a2 : Int32) : Option (Int32) :=
  bo (f_X10_isWitness S0 a1) (fun (r1 : Int32) => if r1 = 0 then (some (-101)) else (bo (f_X10_within a2 0 7) (fun (r3 : Int32) => if r3 = 0 then (some (-102)) else (bo (f_X10_witnessNow S0 a1 a2) (fun (r5 : Int32) => some r5)))))
abbrev rmX10_witness : Room := { frames := 5, cells := 0, slots := 0, locals := 116 }
theorem hdV_X10_witness : yX10_witness.cls = "WitnessWallModel" ∧ yX10_witness.cls ≠ "java/lang/invoke/MethodHandle" ∧ yX10_witness.cls ≠ "java/lang/invoke/VarHandle" ∧ (parseMethodDescriptor yX10_witness.desc).map (fun d => d.parameters.length) = some 2 := by decide +kernel
set_option maxHeartbeats 4000000 in
set_option maxRecDepth 100000 in
theorem k_X10_witness {l : Launch} {D : va_G} {ad : Nat → Nat} {cI cB : ClassId} (hij : inj 31 ad)  {S0 : SR} {a1 : Int32} {a2 : Int32} {r : Int32} (hE : f_X10_witness S0 a1 a2 = some r) {sz : Nat} : Met l yX10_witness (wz yX10_witness cX10_witness 3 (some FieldType.int)) rmX10_witness (PG 31 ad (er ad cI cB) D (KR D cI cB) ZR [.ref (ad 0), .int a1, .int a2] S0 sz) (QGi 31 ad (er ad cI cB) D r S0 sz) 0 0 (AD 31 ad sz) := by
  unfold f_X10_witness at hE
  refine g_start (cc := cX10_witness) (maxL := 3) (ret := (some FieldType.int)) (Qc := fun sz => QGi 31 ad (er ad cI cB) D r S0 sz) (by decide) rfl (Nat.le_of_ble_eq_true rfl) ?_
  intro p e s m args below meth c H locs ls hx hb hr hts hown hlocks hml hK hZ hP hS hl
  replace hl : lv_has ls 3 [(0, .ref (ad 0)), (1, .int a1), (2, .int a2)] := hl
  obtain ⟨QQ, hQQ⟩ : ∃ q, q = MQ below (QGi 31 ad (er ad cI cB) D r S0 s.heap.size) args s 0 0 (AD 31 ad s.heap.size) := ⟨_, rfl⟩
  rw [← hQQ]
  refine lv_aload_n hx hb dX10_witness_0 rfl (lv_at hl 0 rfl) ?_
  refine lv_iload_n hx hb dX10_witness_1 rfl (lv_at hl 1 rfl) ?_
  obtain ⟨r1, hCr1, hE⟩ := st_bo hE
  refine g_calli (va_runV (As := [.int a1]) (rest := []) ⟨hx, hb, hml, hown, hts⟩ (k_X10_isWitness hij hCr1) (cwV 1 hts (wz_V tw_4_124 tw_4_126 tp_11 tw_1_11 tw_4_127) rfl rfl rfl hdV_X10_isWitness ⟨Nat.le_of_ble_eq_true rfl, Nat.le_of_ble_eq_true rfl⟩) (g_preV KR_st ZR_st hK hZ hP hS hK.1 ((q_Ref (ad := ad) (cI := cI) (cB := cB))).1 (er_o (q_Ref (ad := ad) (cI := cI) (cB := cB))) rfl) rfl rfl hl.1 rfl (lv_room (Nat.le_of_ble_eq_true rfl)) dX10_witness_2 ⟨Nat.zero_le _, Nat.zero_le _⟩) hS (fun H locs hP hS => ?_)
  refine lv_if_ne (tgt := 13) hx hb dX10_witness_5 (by decide) (fun hc2 => ?_) (fun hc2 => ?_)
  · have hE := st_f hE hc2
    refine lv_iload_n hx hb dX10_witness_13 rfl (lv_at hl 2 rfl) ?_
    refine lv_iconst (v := 0) hx hb dX10_witness_14 (by decide) ?_
    refine lv_bipush (v := 7) hx hb dX10_witness_15 (by decide) ?_
    obtain ⟨r3, hCr3, hE⟩ := st_bo hE
    refine g_calli (va_runS (As := [.int a2, .int 0, .int 7]) (rest := []) ⟨hx, hb, hml, hown, hts⟩ (k_X10_within hij (S0 := S0) hCr3) (va_cwS 3 hts (wz_S tw_4_66 tw_4_67 tw_1_11 tw_4_68) rfl rfl rfl hdS_X10_within ⟨Nat.le_of_ble_eq_true rfl, Nat.le_of_ble_eq_true rfl⟩) (g_preS KR_st ZR_st hK hZ hP hS) rfl rfl hl.1 rfl (lv_room (Nat.le_of_ble_eq_true rfl)) dX10_witness_17 ⟨Nat.zero_le _, Nat.zero_le _⟩) hS (fun H locs hP hS => ?_)
    refine lv_if_eq (tgt := 32) hx hb dX10_witness_20 (by decide) (fun hc4 => ?_) (fun hc4 => ?_)
    · have hE := st_t hE hc4
      refine lv_bipush (v := (-102)) hx hb dX10_witness_32 (by decide) ?_
      replace hE := Option.some.inj hE
      subst hQQ
      exact g_iret hx hb hr hlocks hP hS hE rfl dX10_witness_34
    · have hE := st_f hE hc4
      refine lv_aload_n hx hb dX10_witness_23 rfl (lv_at hl 0 rfl) ?_
      refine lv_iload_n hx hb dX10_witness_24 rfl (lv_at hl 1 rfl) ?_
      refine lv_iload_n hx hb dX10_witness_25 rfl (lv_at hl 2 rfl) ?_
      obtain ⟨r5, hCr5, hE⟩ := st_bo hE
      refine g_calli (va_runV (As := [.int a1, .int a2]) (rest := []) ⟨hx, hb, hml, hown, hts⟩ (k_X10_witnessNow hij hCr5) (cwV 2 hts (wz_V tw_4_128 tw_4_130 tp_12 tw_1_11 tw_4_131) rfl rfl rfl hdV_X10_witnessNow ⟨Nat.le_of_ble_eq_true rfl, Nat.le_of_ble_eq_true rfl⟩) (g_preV KR_st ZR_st hK hZ hP hS hK.1 ((q_Ref (ad := ad) (cI := cI) (cB := cB))).1 (er_o (q_Ref (ad := ad) (cI := cI) (cB := cB))) rfl) rfl rfl hl.1 rfl (lv_room (Nat.le_of_ble_eq_true rfl)) dX10_witness_26 ⟨Nat.zero_le _, Nat.zero_le _⟩) hS (fun H locs hP hS => ?_)
      refine lv_goto (tgt := 34) hx hb dX10_witness_29 (by decide) ?_
      replace hE := Option.some.inj hE
      subst hQQ
      exact g_iret hx hb hr hlocks hP hS hE rfl dX10_witness_34
  · have hE := st_t hE hc2
    refine lv_bipush (v := (-101)) hx hb dX10_witness_8 (by decide) ?_
    refine lv_goto (tgt := 34) hx hb dX10_witness_10 (by decide) ?_
    replace hE := Option.some.inj hE
    subst hQQ
    exact g_iret hx hb hr hlocks hP hS hE rfl dX10_witness_34
def f_X10_worlds (S0 : SR) (a1 : Int32) : Option (Int32) :=
  bo (f_X10_within a1 0 5) (fun (r1 : Int32) => if r1 = 0 then (some (-102)) else (if (ri S0 0 0) = 0 then (some (-103)) else (bo (f_X10_worldsNow S0 a1) (fun (r4 : Int32) => some r4))))
abbrev rmX10_worlds : Room := { frames := 3, cells := 0, slots := 0, locals := 71 }
theorem hdV_X10_worlds : yX10_worlds.cls = "WitnessWallModel" ∧ yX10_worlds.cls ≠ "java/lang/invoke/MethodHandle" ∧ yX10_worlds.cls ≠ "java/lang/invoke/VarHandle" ∧ (parseMethodDescriptor yX10_worlds.desc).map (fun d => d.parameters.length) = some 1 := by decide +kernel
set_option maxHeartbeats 4000000 in
set_option maxRecDepth 100000 in
theorem k_X10_worlds {l : Launch} {D : va_G} {ad : Nat → Nat} {cI cB : ClassId} (hij : inj 31 ad)  {S0 : SR} {a1 : Int32} {r : Int32} (hE : f_X10_worlds S0 a1 = some r) {sz : Nat} : Met l yX10_worlds (wz yX10_worlds cX10_worlds 2 (some FieldType.int)) rmX10_worlds (PG 31 ad (er ad cI cB) D (KR D cI cB) ZR [.ref (ad 0), .int a1] S0 sz) (QGi 31 ad (er ad cI cB) D r S0 sz) 0 0 (AD 31 ad sz) := by
  unfold f_X10_worlds at hE
  refine g_start (cc := cX10_worlds) (maxL := 2) (ret := (some FieldType.int)) (Qc := fun sz => QGi 31 ad (er ad cI cB) D r S0 sz) (by decide) rfl (Nat.le_of_ble_eq_true rfl) ?_
  intro p e s m args below meth c H locs ls hx hb hr hts hown hlocks hml hK hZ hP hS hl
  replace hl : lv_has ls 2 [(0, .ref (ad 0)), (1, .int a1)] := hl
  obtain ⟨QQ, hQQ⟩ : ∃ q, q = MQ below (QGi 31 ad (er ad cI cB) D r S0 s.heap.size) args s 0 0 (AD 31 ad s.heap.size) := ⟨_, rfl⟩
  rw [← hQQ]
  refine lv_iload_n hx hb dX10_worlds_0 rfl (lv_at hl 1 rfl) ?_
  refine lv_iconst (v := 0) hx hb dX10_worlds_1 (by decide) ?_
  refine lv_iconst (v := 5) hx hb dX10_worlds_2 (by decide) ?_
  obtain ⟨r1, hCr1, hE⟩ := st_bo hE
  refine g_calli (va_runS (As := [.int a1, .int 0, .int 5]) (rest := []) ⟨hx, hb, hml, hown, hts⟩ (k_X10_within hij (S0 := S0) hCr1) (va_cwS 3 hts (wz_S tw_4_66 tw_4_67 tw_1_11 tw_4_68) rfl rfl rfl hdS_X10_within ⟨Nat.le_of_ble_eq_true rfl, Nat.le_of_ble_eq_true rfl⟩) (g_preS KR_st ZR_st hK hZ hP hS) rfl rfl hl.1 rfl (lv_room (Nat.le_of_ble_eq_true rfl)) dX10_worlds_3 ⟨Nat.zero_le _, Nat.zero_le _⟩) hS (fun H locs hP hS => ?_)
  refine lv_if_ne (tgt := 12) hx hb dX10_worlds_6 (by decide) (fun hc2 => ?_) (fun hc2 => ?_)
  · have hE := st_f hE hc2
    refine lv_aload_n hx hb dX10_worlds_12 rfl (lv_at hl 0 rfl) ?_
    refine r_get (v := .int (ri S0 0 0)) hx hb hts (fun w h => wz_m (inX10 w h)) hown hK hP (q_Ref (ad := ad) (cI := cI) (cB := cB)) rfl 0 (by decide) (hts _ (wz_m tw_3_156)) (fun _ h9 => h9) rfl dX10_worlds_13 ?_
    refine lv_if_ne (tgt := 24) hx hb dX10_worlds_16 (by decide) (fun hc3 => ?_) (fun hc3 => ?_)
    · have hE := st_f hE hc3
      refine lv_aload_n hx hb dX10_worlds_24 rfl (lv_at hl 0 rfl) ?_
      refine lv_iload_n hx hb dX10_worlds_25 rfl (lv_at hl 1 rfl) ?_
      obtain ⟨r4, hCr4, hE⟩ := st_bo hE
      refine g_calli (va_runV (As := [.int a1]) (rest := []) ⟨hx, hb, hml, hown, hts⟩ (k_X10_worldsNow hij hCr4) (cwV 1 hts (wz_V tw_5_39 tw_5_41 tp_33 tw_1_11 tw_5_42) rfl rfl rfl hdV_X10_worldsNow ⟨Nat.le_of_ble_eq_true rfl, Nat.le_of_ble_eq_true rfl⟩) (g_preV KR_st ZR_st hK hZ hP hS hK.1 ((q_Ref (ad := ad) (cI := cI) (cB := cB))).1 (er_o (q_Ref (ad := ad) (cI := cI) (cB := cB))) rfl) rfl rfl hl.1 rfl (lv_room (Nat.le_of_ble_eq_true rfl)) dX10_worlds_26 ⟨Nat.zero_le _, Nat.zero_le _⟩) hS (fun H locs hP hS => ?_)
      replace hE := Option.some.inj hE
      subst hQQ
      exact g_iret hx hb hr hlocks hP hS hE rfl dX10_worlds_29
    · have hE := st_t hE hc3
      refine lv_bipush (v := (-103)) hx hb dX10_worlds_19 (by decide) ?_
      refine lv_goto (tgt := 29) hx hb dX10_worlds_21 (by decide) ?_
      replace hE := Option.some.inj hE
      subst hQQ
      exact g_iret hx hb hr hlocks hP hS hE rfl dX10_worlds_29
  · have hE := st_t hE hc2
    refine lv_bipush (v := (-102)) hx hb dX10_worlds_9 (by decide) ?_
    replace hE := Option.some.inj hE
    subst hQQ
    exact g_iret hx hb hr hlocks hP hS hE rfl dX10_worlds_11
